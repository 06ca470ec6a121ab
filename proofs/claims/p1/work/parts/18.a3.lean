theorem i_X8_keepsRow_0 : fetch 159 0 = some (.iconst 0, 1, 0, 0, 0, 0) := fr fe_X8_keepsRow_1 0 rfl
theorem i_X8_keepsRow_1 : fetch 159 1 = some (.istore_n 1, 2, 0, 0, 0, 0) := fr fe_X8_keepsRow_1 1 rfl
theorem i_X8_keepsRow_2 : fetch 159 2 = some (.iload_n 1, 3, 0, 0, 0, 0) := fr fe_X8_keepsRow_1 2 rfl
theorem i_X8_keepsRow_3 : fetch 159 3 = some (.bipush 12, 5, 0, 0, 0, 0) := fr fe_X8_keepsRow_1 3 rfl
theorem i_X8_keepsRow_5 : fetch 159 5 = some (.if_icmp .ge 45, 8, 0, 0, 0, 0) := fr fe_X8_keepsRow_1 4 rfl
theorem i_X8_keepsRow_8 : fetch 159 8 = some (.aload_n 0, 9, 0, 0, 0, 0) := fr fe_X8_keepsRow_1 5 rfl
theorem i_X8_keepsRow_9 : fetch 159 9 = some (.getfield 90, 12, 8, 49, 0, 1126) := fr fe_X8_keepsRow_1 6 rfl
theorem i_X8_keepsRow_12 : fetch 159 12 = some (.iload_n 1, 13, 0, 0, 0, 0) := fr fe_X8_keepsRow_1 7 rfl
theorem i_X8_keepsRow_13 : fetch 159 13 = some (.aload_n 0, 14, 0, 0, 0, 0) := fr fe_X8_keepsRow_1 8 rfl
theorem i_X8_keepsRow_14 : fetch 159 14 = some (.getfield 75, 17, 8, 37, 0, 1114) := fr fe_X8_keepsRow_1 9 rfl
theorem i_X8_keepsRow_17 : fetch 159 17 = some (.iload_n 1, 18, 0, 0, 0, 0) := fr fe_X8_keepsRow_1 10 rfl
theorem i_X8_keepsRow_18 : fetch 159 18 = some (.iaload, 19, 0, 0, 0, 0) := fr fe_X8_keepsRow_1 11 rfl
theorem i_X8_keepsRow_19 : fetch 159 19 = some (.iastore, 20, 0, 0, 0, 0) := fr fe_X8_keepsRow_1 12 rfl
theorem i_X8_keepsRow_20 : fetch 159 20 = some (.aload_n 0, 21, 0, 0, 0, 0) := fr fe_X8_keepsRow_1 13 rfl
theorem i_X8_keepsRow_21 : fetch 159 21 = some (.getfield 93, 24, 8, 50, 0, 1127) := fr fe_X8_keepsRow_1 14 rfl
theorem i_X8_keepsRow_24 : fetch 159 24 = some (.iload_n 1, 25, 0, 0, 0, 0) := fr fe_X8_keepsRow_1 15 rfl
theorem i_X8_keepsRow_25 : fetch 159 25 = some (.aload_n 0, 26, 0, 0, 0, 0) := fr fe_X8_keepsRow_1 16 rfl
theorem i_X8_keepsRow_26 : fetch 159 26 = some (.getfield 78, 29, 8, 38, 0, 1115) := fr fe_X8_keepsRow_1 17 rfl
theorem i_X8_keepsRow_29 : fetch 159 29 = some (.iload_n 1, 30, 0, 0, 0, 0) := fr fe_X8_keepsRow_1 18 rfl
theorem i_X8_keepsRow_30 : fetch 159 30 = some (.iaload, 31, 0, 0, 0, 0) := fr fe_X8_keepsRow_1 19 rfl
theorem i_X8_keepsRow_31 : fetch 159 31 = some (.iastore, 32, 0, 0, 0, 0) := fr fe_X8_keepsRow_1 20 rfl
theorem i_X8_keepsRow_32 : fetch 159 32 = some (.aload_n 0, 33, 0, 0, 0, 0) := fr fe_X8_keepsRow_1 21 rfl
theorem i_X8_keepsRow_33 : fetch 159 33 = some (.getfield 96, 36, 8, 51, 0, 1128) := fr fe_X8_keepsRow_1 22 rfl
theorem i_X8_keepsRow_36 : fetch 159 36 = some (.iload_n 1, 37, 0, 0, 0, 0) := fr fe_X8_keepsRow_1 23 rfl
theorem i_X8_keepsRow_37 : fetch 159 37 = some (.aload_n 0, 38, 0, 0, 0, 0) := fr fe_X8_keepsRow_1 24 rfl
theorem i_X8_keepsRow_38 : fetch 159 38 = some (.getfield 81, 41, 8, 39, 0, 1116) := fr fe_X8_keepsRow_2 0 rfl
theorem i_X8_keepsRow_41 : fetch 159 41 = some (.iload_n 1, 42, 0, 0, 0, 0) := fr fe_X8_keepsRow_2 1 rfl
theorem i_X8_keepsRow_42 : fetch 159 42 = some (.iaload, 43, 0, 0, 0, 0) := fr fe_X8_keepsRow_2 2 rfl
theorem i_X8_keepsRow_43 : fetch 159 43 = some (.iastore, 44, 0, 0, 0, 0) := fr fe_X8_keepsRow_2 3 rfl
theorem i_X8_keepsRow_44 : fetch 159 44 = some (.iinc 1 1, 47, 0, 0, 0, 0) := fr fe_X8_keepsRow_2 4 rfl
theorem i_X8_keepsRow_47 : fetch 159 47 = some (.goto (-45), 50, 0, 0, 0, 0) := fr fe_X8_keepsRow_2 5 rfl
theorem i_X8_keepsRow_50 : fetch 159 50 = some (.return_, 51, 0, 0, 0, 0) := fr fe_X8_keepsRow_2 6 rfl
theorem i_X8_bounces_0 : fetch 160 0 = some (.aload_n 0, 1, 0, 0, 0, 0) := fr fe_X8_bounces_1 0 rfl
theorem i_X8_bounces_1 : fetch 160 1 = some (.invokevirtual 245, 4, 159, 0, 0, 1368) := fr fe_X8_bounces_1 1 rfl
theorem i_X8_bounces_4 : fetch 160 4 = some (.iconst 0, 5, 0, 0, 0, 0) := fr fe_X8_bounces_1 2 rfl
theorem i_X8_bounces_5 : fetch 160 5 = some (.istore_n 1, 6, 0, 0, 0, 0) := fr fe_X8_bounces_1 3 rfl
theorem i_X8_bounces_6 : fetch 160 6 = some (.iload_n 1, 7, 0, 0, 0, 0) := fr fe_X8_bounces_1 4 rfl
theorem i_X8_bounces_7 : fetch 160 7 = some (.bipush 12, 9, 0, 0, 0, 0) := fr fe_X8_bounces_1 5 rfl
theorem i_X8_bounces_9 : fetch 160 9 = some (.if_icmp .ge 66, 12, 0, 0, 0, 0) := fr fe_X8_bounces_1 6 rfl
theorem i_X8_bounces_12 : fetch 160 12 = some (.aload_n 0, 13, 0, 0, 0, 0) := fr fe_X8_bounces_1 7 rfl
theorem i_X8_bounces_13 : fetch 160 13 = some (.getfield 93, 16, 8, 50, 0, 1127) := fr fe_X8_bounces_1 8 rfl
theorem i_X8_bounces_16 : fetch 160 16 = some (.iload_n 1, 17, 0, 0, 0, 0) := fr fe_X8_bounces_1 9 rfl
theorem i_X8_bounces_17 : fetch 160 17 = some (.ifCond .ne 7, 20, 0, 0, 0, 0) := fr fe_X8_bounces_1 10 rfl
theorem i_X8_bounces_20 : fetch 160 20 = some (.iconst 0, 21, 0, 0, 0, 0) := fr fe_X8_bounces_1 11 rfl
theorem i_X8_bounces_21 : fetch 160 21 = some (.goto 6, 24, 0, 0, 0, 0) := fr fe_X8_bounces_1 12 rfl
theorem i_X8_bounces_24 : fetch 160 24 = some (.iload_n 1, 25, 0, 0, 0, 0) := fr fe_X8_bounces_1 13 rfl
theorem i_X8_bounces_25 : fetch 160 25 = some (.iconst 1, 26, 0, 0, 0, 0) := fr fe_X8_bounces_1 14 rfl
theorem i_X8_bounces_26 : fetch 160 26 = some (.isub, 27, 0, 0, 0, 0) := fr fe_X8_bounces_1 15 rfl
theorem i_X8_bounces_27 : fetch 160 27 = some (.iaload, 28, 0, 0, 0, 0) := fr fe_X8_bounces_1 16 rfl
theorem i_X8_bounces_28 : fetch 160 28 = some (.istore_n 2, 29, 0, 0, 0, 0) := fr fe_X8_bounces_1 17 rfl
theorem i_X8_bounces_29 : fetch 160 29 = some (.aload_n 0, 30, 0, 0, 0, 0) := fr fe_X8_bounces_1 18 rfl
theorem i_X8_bounces_30 : fetch 160 30 = some (.getfield 93, 33, 8, 50, 0, 1127) := fr fe_X8_bounces_1 19 rfl
theorem i_X8_bounces_33 : fetch 160 33 = some (.iload_n 1, 34, 0, 0, 0, 0) := fr fe_X8_bounces_1 20 rfl
theorem i_X8_bounces_34 : fetch 160 34 = some (.bipush 11, 36, 0, 0, 0, 0) := fr fe_X8_bounces_1 21 rfl
theorem i_X8_bounces_36 : fetch 160 36 = some (.if_icmp .ne 8, 39, 0, 0, 0, 0) := fr fe_X8_bounces_1 22 rfl
theorem i_X8_bounces_39 : fetch 160 39 = some (.bipush 11, 41, 0, 0, 0, 0) := fr fe_X8_bounces_1 23 rfl
theorem i_X8_bounces_41 : fetch 160 41 = some (.goto 6, 44, 0, 0, 0, 0) := fr fe_X8_bounces_1 24 rfl
theorem i_X8_bounces_44 : fetch 160 44 = some (.iload_n 1, 45, 0, 0, 0, 0) := fr fe_X8_bounces_2 0 rfl
theorem i_X8_bounces_45 : fetch 160 45 = some (.iconst 1, 46, 0, 0, 0, 0) := fr fe_X8_bounces_2 1 rfl
theorem i_X8_bounces_46 : fetch 160 46 = some (.iadd, 47, 0, 0, 0, 0) := fr fe_X8_bounces_2 2 rfl
theorem i_X8_bounces_47 : fetch 160 47 = some (.iaload, 48, 0, 0, 0, 0) := fr fe_X8_bounces_2 3 rfl
theorem i_X8_bounces_48 : fetch 160 48 = some (.istore_n 3, 49, 0, 0, 0, 0) := fr fe_X8_bounces_2 4 rfl
theorem i_X8_bounces_49 : fetch 160 49 = some (.aload_n 0, 50, 0, 0, 0, 0) := fr fe_X8_bounces_2 5 rfl
theorem i_X8_bounces_50 : fetch 160 50 = some (.getfield 78, 53, 8, 38, 0, 1115) := fr fe_X8_bounces_2 6 rfl
theorem i_X8_bounces_53 : fetch 160 53 = some (.iload_n 1, 54, 0, 0, 0, 0) := fr fe_X8_bounces_2 7 rfl
theorem i_X8_bounces_54 : fetch 160 54 = some (.iconst 2, 55, 0, 0, 0, 0) := fr fe_X8_bounces_2 8 rfl
theorem i_X8_bounces_55 : fetch 160 55 = some (.aload_n 0, 56, 0, 0, 0, 0) := fr fe_X8_bounces_2 9 rfl
theorem i_X8_bounces_56 : fetch 160 56 = some (.getfield 93, 59, 8, 50, 0, 1127) := fr fe_X8_bounces_2 10 rfl
theorem i_X8_bounces_59 : fetch 160 59 = some (.iload_n 1, 60, 0, 0, 0, 0) := fr fe_X8_bounces_2 11 rfl
theorem i_X8_bounces_60 : fetch 160 60 = some (.iaload, 61, 0, 0, 0, 0) := fr fe_X8_bounces_2 12 rfl
theorem i_X8_bounces_61 : fetch 160 61 = some (.imul, 62, 0, 0, 0, 0) := fr fe_X8_bounces_2 13 rfl
theorem i_X8_bounces_62 : fetch 160 62 = some (.iload_n 2, 63, 0, 0, 0, 0) := fr fe_X8_bounces_2 14 rfl
theorem i_X8_bounces_63 : fetch 160 63 = some (.iadd, 64, 0, 0, 0, 0) := fr fe_X8_bounces_2 15 rfl
theorem i_X8_bounces_64 : fetch 160 64 = some (.iload_n 3, 65, 0, 0, 0, 0) := fr fe_X8_bounces_2 16 rfl
theorem i_X8_bounces_65 : fetch 160 65 = some (.iadd, 66, 0, 0, 0, 0) := fr fe_X8_bounces_2 17 rfl
theorem i_X8_bounces_66 : fetch 160 66 = some (.iconst 4, 67, 0, 0, 0, 0) := fr fe_X8_bounces_2 18 rfl
theorem i_X8_bounces_67 : fetch 160 67 = some (.idiv, 68, 0, 0, 0, 0) := fr fe_X8_bounces_2 19 rfl
theorem i_X8_bounces_68 : fetch 160 68 = some (.iastore, 69, 0, 0, 0, 0) := fr fe_X8_bounces_2 20 rfl
theorem i_X8_bounces_69 : fetch 160 69 = some (.iinc 1 1, 72, 0, 0, 0, 0) := fr fe_X8_bounces_2 21 rfl
theorem i_X8_bounces_72 : fetch 160 72 = some (.goto (-66), 75, 0, 0, 0, 0) := fr fe_X8_bounces_2 22 rfl
theorem i_X8_bounces_75 : fetch 160 75 = some (.return_, 76, 0, 0, 0, 0) := fr fe_X8_bounces_2 23 rfl
theorem i_X8_doubles_0 : fetch 161 0 = some (.aload_n 0, 1, 0, 0, 0, 0) := fr fe_X8_doubles_1 0 rfl
theorem i_X8_doubles_1 : fetch 161 1 = some (.invokevirtual 245, 4, 159, 0, 0, 1368) := fr fe_X8_doubles_1 1 rfl
theorem i_X8_doubles_4 : fetch 161 4 = some (.iconst 0, 5, 0, 0, 0, 0) := fr fe_X8_doubles_1 2 rfl
theorem i_X8_doubles_5 : fetch 161 5 = some (.istore_n 1, 6, 0, 0, 0, 0) := fr fe_X8_doubles_1 3 rfl
theorem i_X8_doubles_6 : fetch 161 6 = some (.iload_n 1, 7, 0, 0, 0, 0) := fr fe_X8_doubles_1 4 rfl
theorem i_X8_doubles_7 : fetch 161 7 = some (.bipush 12, 9, 0, 0, 0, 0) := fr fe_X8_doubles_1 5 rfl
theorem i_X8_doubles_9 : fetch 161 9 = some (.if_icmp .ge 95, 12, 0, 0, 0, 0) := fr fe_X8_doubles_1 6 rfl
theorem i_X8_doubles_12 : fetch 161 12 = some (.iload_n 1, 13, 0, 0, 0, 0) := fr fe_X8_doubles_1 7 rfl
theorem i_X8_doubles_13 : fetch 161 13 = some (.iconst 2, 14, 0, 0, 0, 0) := fr fe_X8_doubles_1 8 rfl
theorem i_X8_doubles_14 : fetch 161 14 = some (.idiv, 15, 0, 0, 0, 0) := fr fe_X8_doubles_1 9 rfl
theorem i_X8_doubles_15 : fetch 161 15 = some (.istore_n 2, 16, 0, 0, 0, 0) := fr fe_X8_doubles_1 10 rfl
theorem i_X8_doubles_16 : fetch 161 16 = some (.bipush 11, 18, 0, 0, 0, 0) := fr fe_X8_doubles_1 11 rfl
theorem i_X8_doubles_18 : fetch 161 18 = some (.iload_n 2, 19, 0, 0, 0, 0) := fr fe_X8_doubles_1 12 rfl
theorem i_X8_doubles_19 : fetch 161 19 = some (.isub, 20, 0, 0, 0, 0) := fr fe_X8_doubles_1 13 rfl
theorem i_X8_doubles_20 : fetch 161 20 = some (.istore_n 3, 21, 0, 0, 0, 0) := fr fe_X8_doubles_1 14 rfl
theorem i_X8_doubles_21 : fetch 161 21 = some (.aload_n 0, 22, 0, 0, 0, 0) := fr fe_X8_doubles_1 15 rfl
theorem i_X8_doubles_22 : fetch 161 22 = some (.getfield 75, 25, 8, 37, 0, 1114) := fr fe_X8_doubles_1 16 rfl
theorem i_X8_doubles_25 : fetch 161 25 = some (.iload_n 1, 26, 0, 0, 0, 0) := fr fe_X8_doubles_1 17 rfl
theorem i_X8_doubles_26 : fetch 161 26 = some (.aload_n 0, 27, 0, 0, 0, 0) := fr fe_X8_doubles_1 18 rfl
theorem i_X8_doubles_27 : fetch 161 27 = some (.getfield 90, 30, 8, 49, 0, 1126) := fr fe_X8_doubles_1 19 rfl
theorem i_X8_doubles_30 : fetch 161 30 = some (.iload_n 2, 31, 0, 0, 0, 0) := fr fe_X8_doubles_1 20 rfl
theorem i_X8_doubles_31 : fetch 161 31 = some (.iaload, 32, 0, 0, 0, 0) := fr fe_X8_doubles_1 21 rfl
theorem i_X8_doubles_32 : fetch 161 32 = some (.aload_n 0, 33, 0, 0, 0, 0) := fr fe_X8_doubles_1 22 rfl
theorem i_X8_doubles_33 : fetch 161 33 = some (.getfield 90, 36, 8, 49, 0, 1126) := fr fe_X8_doubles_1 23 rfl
theorem i_X8_doubles_36 : fetch 161 36 = some (.iload_n 3, 37, 0, 0, 0, 0) := fr fe_X8_doubles_1 24 rfl
theorem i_X8_doubles_37 : fetch 161 37 = some (.iaload, 38, 0, 0, 0, 0) := fr fe_X8_doubles_2 0 rfl
theorem i_X8_doubles_38 : fetch 161 38 = some (.iadd, 39, 0, 0, 0, 0) := fr fe_X8_doubles_2 1 rfl
theorem i_X8_doubles_39 : fetch 161 39 = some (.iconst 4, 40, 0, 0, 0, 0) := fr fe_X8_doubles_2 2 rfl
theorem i_X8_doubles_40 : fetch 161 40 = some (.idiv, 41, 0, 0, 0, 0) := fr fe_X8_doubles_2 3 rfl
theorem i_X8_doubles_41 : fetch 161 41 = some (.iastore, 42, 0, 0, 0, 0) := fr fe_X8_doubles_2 4 rfl
theorem i_X8_doubles_42 : fetch 161 42 = some (.aload_n 0, 43, 0, 0, 0, 0) := fr fe_X8_doubles_2 5 rfl
theorem i_X8_doubles_43 : fetch 161 43 = some (.getfield 93, 46, 8, 50, 0, 1127) := fr fe_X8_doubles_2 6 rfl
theorem i_X8_doubles_46 : fetch 161 46 = some (.iload_n 2, 47, 0, 0, 0, 0) := fr fe_X8_doubles_2 7 rfl
theorem i_X8_doubles_47 : fetch 161 47 = some (.iaload, 48, 0, 0, 0, 0) := fr fe_X8_doubles_2 8 rfl
theorem i_X8_doubles_48 : fetch 161 48 = some (.aload_n 0, 49, 0, 0, 0, 0) := fr fe_X8_doubles_2 9 rfl
theorem i_X8_doubles_49 : fetch 161 49 = some (.getfield 93, 52, 8, 50, 0, 1127) := fr fe_X8_doubles_2 10 rfl
theorem i_X8_doubles_52 : fetch 161 52 = some (.iload_n 3, 53, 0, 0, 0, 0) := fr fe_X8_doubles_2 11 rfl
theorem i_X8_doubles_53 : fetch 161 53 = some (.iaload, 54, 0, 0, 0, 0) := fr fe_X8_doubles_2 12 rfl
theorem i_X8_doubles_54 : fetch 161 54 = some (.iadd, 55, 0, 0, 0, 0) := fr fe_X8_doubles_2 13 rfl
theorem i_X8_doubles_55 : fetch 161 55 = some (.iconst 4, 56, 0, 0, 0, 0) := fr fe_X8_doubles_2 14 rfl
theorem i_X8_doubles_56 : fetch 161 56 = some (.idiv, 57, 0, 0, 0, 0) := fr fe_X8_doubles_2 15 rfl
theorem i_X8_doubles_57 : fetch 161 57 = some (.istore 4, 59, 0, 0, 0, 0) := fr fe_X8_doubles_2 16 rfl
theorem i_X8_doubles_59 : fetch 161 59 = some (.aload_n 0, 60, 0, 0, 0, 0) := fr fe_X8_doubles_2 17 rfl
theorem i_X8_doubles_60 : fetch 161 60 = some (.getfield 78, 63, 8, 38, 0, 1115) := fr fe_X8_doubles_2 18 rfl
theorem i_X8_doubles_63 : fetch 161 63 = some (.iload_n 1, 64, 0, 0, 0, 0) := fr fe_X8_doubles_2 19 rfl
theorem i_X8_doubles_64 : fetch 161 64 = some (.iload 4, 66, 0, 0, 0, 0) := fr fe_X8_doubles_2 20 rfl
theorem i_X8_doubles_66 : fetch 161 66 = some (.iconst 1, 67, 0, 0, 0, 0) := fr fe_X8_doubles_2 21 rfl
theorem i_X8_doubles_67 : fetch 161 67 = some (.if_icmp .ge 7, 70, 0, 0, 0, 0) := fr fe_X8_doubles_2 22 rfl
theorem i_X8_doubles_70 : fetch 161 70 = some (.iconst 1, 71, 0, 0, 0, 0) := fr fe_X8_doubles_2 23 rfl
theorem i_X8_doubles_71 : fetch 161 71 = some (.goto 5, 74, 0, 0, 0, 0) := fr fe_X8_doubles_2 24 rfl
theorem i_X8_doubles_74 : fetch 161 74 = some (.iload 4, 76, 0, 0, 0, 0) := fr fe_X8_doubles_3 0 rfl
theorem i_X8_doubles_76 : fetch 161 76 = some (.iastore, 77, 0, 0, 0, 0) := fr fe_X8_doubles_3 1 rfl
theorem i_X8_doubles_77 : fetch 161 77 = some (.aload_n 0, 78, 0, 0, 0, 0) := fr fe_X8_doubles_3 2 rfl
theorem i_X8_doubles_78 : fetch 161 78 = some (.getfield 81, 81, 8, 39, 0, 1116) := fr fe_X8_doubles_3 3 rfl
theorem i_X8_doubles_81 : fetch 161 81 = some (.iload_n 1, 82, 0, 0, 0, 0) := fr fe_X8_doubles_3 4 rfl
theorem i_X8_doubles_82 : fetch 161 82 = some (.aload_n 0, 83, 0, 0, 0, 0) := fr fe_X8_doubles_3 5 rfl
theorem i_X8_doubles_83 : fetch 161 83 = some (.getfield 96, 86, 8, 51, 0, 1128) := fr fe_X8_doubles_3 6 rfl
theorem i_X8_doubles_86 : fetch 161 86 = some (.iload_n 2, 87, 0, 0, 0, 0) := fr fe_X8_doubles_3 7 rfl
theorem i_X8_doubles_87 : fetch 161 87 = some (.iaload, 88, 0, 0, 0, 0) := fr fe_X8_doubles_3 8 rfl
theorem i_X8_doubles_88 : fetch 161 88 = some (.aload_n 0, 89, 0, 0, 0, 0) := fr fe_X8_doubles_3 9 rfl
theorem i_X8_doubles_89 : fetch 161 89 = some (.getfield 96, 92, 8, 51, 0, 1128) := fr fe_X8_doubles_3 10 rfl
theorem i_X8_doubles_92 : fetch 161 92 = some (.iload_n 3, 93, 0, 0, 0, 0) := fr fe_X8_doubles_3 11 rfl
theorem i_X8_doubles_93 : fetch 161 93 = some (.iaload, 94, 0, 0, 0, 0) := fr fe_X8_doubles_3 12 rfl
theorem i_X8_doubles_94 : fetch 161 94 = some (.iadd, 95, 0, 0, 0, 0) := fr fe_X8_doubles_3 13 rfl
theorem i_X8_doubles_95 : fetch 161 95 = some (.iconst 2, 96, 0, 0, 0, 0) := fr fe_X8_doubles_3 14 rfl
theorem i_X8_doubles_96 : fetch 161 96 = some (.idiv, 97, 0, 0, 0, 0) := fr fe_X8_doubles_3 15 rfl
theorem i_X8_doubles_97 : fetch 161 97 = some (.iastore, 98, 0, 0, 0, 0) := fr fe_X8_doubles_3 16 rfl
theorem i_X8_doubles_98 : fetch 161 98 = some (.iinc 1 1, 101, 0, 0, 0, 0) := fr fe_X8_doubles_3 17 rfl
theorem i_X8_doubles_101 : fetch 161 101 = some (.goto (-95), 104, 0, 0, 0, 0) := fr fe_X8_doubles_3 18 rfl
theorem i_X8_doubles_104 : fetch 161 104 = some (.aload_n 0, 105, 0, 0, 0, 0) := fr fe_X8_doubles_3 19 rfl
theorem i_X8_doubles_105 : fetch 161 105 = some (.dup, 106, 0, 0, 0, 0) := fr fe_X8_doubles_3 20 rfl
theorem i_X8_doubles_106 : fetch 161 106 = some (.getfield 205, 109, 8, 40, 0, 1117) := fr fe_X8_doubles_3 21 rfl
theorem i_X8_doubles_109 : fetch 161 109 = some (.iconst 1, 110, 0, 0, 0, 0) := fr fe_X8_doubles_3 22 rfl
theorem i_X8_doubles_110 : fetch 161 110 = some (.iadd, 111, 0, 0, 0, 0) := fr fe_X8_doubles_3 23 rfl
theorem i_X8_doubles_111 : fetch 161 111 = some (.putfield 205, 114, 8, 40, 0, 1117) := fr fe_X8_doubles_3 24 rfl
theorem i_X8_doubles_114 : fetch 161 114 = some (.aload_n 0, 115, 0, 0, 0, 0) := fr fe_X8_doubles_4 0 rfl
theorem i_X8_doubles_115 : fetch 161 115 = some (.aload_n 0, 116, 0, 0, 0, 0) := fr fe_X8_doubles_4 1 rfl
theorem i_X8_doubles_116 : fetch 161 116 = some (.getfield 248, 119, 8, 44, 0, 1121) := fr fe_X8_doubles_4 2 rfl
theorem i_X8_doubles_119 : fetch 161 119 = some (.bipush 100, 121, 0, 0, 0, 0) := fr fe_X8_doubles_4 3 rfl
theorem i_X8_doubles_121 : fetch 161 121 = some (.aload_n 0, 122, 0, 0, 0, 0) := fr fe_X8_doubles_4 4 rfl
theorem i_X8_doubles_122 : fetch 161 122 = some (.iconst 2, 123, 0, 0, 0, 0) := fr fe_X8_doubles_4 5 rfl
theorem i_X8_doubles_123 : fetch 161 123 = some (.iconst 0, 124, 0, 0, 0, 0) := fr fe_X8_doubles_4 6 rfl
theorem i_X8_doubles_124 : fetch 161 124 = some (.iconst 0, 125, 0, 0, 0, 0) := fr fe_X8_doubles_4 7 rfl
theorem i_X8_doubles_125 : fetch 161 125 = some (.invokevirtual 228, 128, 155, 0, 0, 1320) := fr fe_X8_doubles_4 8 rfl
theorem i_X8_doubles_128 : fetch 161 128 = some (.iconst 0, 129, 0, 0, 0, 0) := fr fe_X8_doubles_4 9 rfl
theorem i_X8_doubles_129 : fetch 161 129 = some (.bipush 100, 131, 0, 0, 0, 0) := fr fe_X8_doubles_4 10 rfl
theorem i_X8_doubles_131 : fetch 161 131 = some (.invokestatic 234, 134, 130, 0, 0, 1358) := fr fe_X8_doubles_4 11 rfl
theorem i_X8_doubles_134 : fetch 161 134 = some (.isub, 135, 0, 0, 0, 0) := fr fe_X8_doubles_4 12 rfl
theorem i_X8_doubles_135 : fetch 161 135 = some (.i2l, 136, 0, 0, 0, 0) := fr fe_X8_doubles_4 13 rfl
theorem i_X8_doubles_136 : fetch 161 136 = some (.lmul, 137, 0, 0, 0, 0) := fr fe_X8_doubles_4 14 rfl
theorem i_X8_doubles_137 : fetch 161 137 = some (.ldc2_w 243, 140, 0, 0, 100, 1363) := fr fe_X8_doubles_4 15 rfl
theorem i_X8_doubles_140 : fetch 161 140 = some (.ldiv, 141, 0, 0, 0, 0) := fr fe_X8_doubles_4 16 rfl
theorem i_X8_doubles_141 : fetch 161 141 = some (.putfield 248, 144, 8, 44, 0, 1121) := fr fe_X8_doubles_4 17 rfl
theorem i_X8_doubles_144 : fetch 161 144 = some (.return_, 145, 0, 0, 0, 0) := fr fe_X8_doubles_4 18 rfl
theorem i_X8_cuts_0 : fetch 162 0 = some (.aload_n 0, 1, 0, 0, 0, 0) := fr fe_X8_cuts_1 0 rfl
theorem i_X8_cuts_1 : fetch 162 1 = some (.getfield 75, 4, 8, 37, 0, 1114) := fr fe_X8_cuts_1 1 rfl
theorem i_X8_cuts_4 : fetch 162 4 = some (.iload_n 1, 5, 0, 0, 0, 0) := fr fe_X8_cuts_1 2 rfl
theorem i_X8_cuts_5 : fetch 162 5 = some (.iaload, 6, 0, 0, 0, 0) := fr fe_X8_cuts_1 3 rfl
theorem i_X8_cuts_6 : fetch 162 6 = some (.iload_n 2, 7, 0, 0, 0, 0) := fr fe_X8_cuts_1 4 rfl
theorem i_X8_cuts_7 : fetch 162 7 = some (.imul, 8, 0, 0, 0, 0) := fr fe_X8_cuts_1 5 rfl
theorem i_X8_cuts_8 : fetch 162 8 = some (.bipush 10, 10, 0, 0, 0, 0) := fr fe_X8_cuts_1 6 rfl
theorem i_X8_cuts_10 : fetch 162 10 = some (.idiv, 11, 0, 0, 0, 0) := fr fe_X8_cuts_1 7 rfl
theorem i_X8_cuts_11 : fetch 162 11 = some (.istore_n 3, 12, 0, 0, 0, 0) := fr fe_X8_cuts_1 8 rfl
theorem i_X8_cuts_12 : fetch 162 12 = some (.aload_n 0, 13, 0, 0, 0, 0) := fr fe_X8_cuts_1 9 rfl
theorem i_X8_cuts_13 : fetch 162 13 = some (.dup, 14, 0, 0, 0, 0) := fr fe_X8_cuts_1 10 rfl
theorem i_X8_cuts_14 : fetch 162 14 = some (.getfield 251, 17, 8, 42, 0, 1119) := fr fe_X8_cuts_1 11 rfl
theorem i_X8_cuts_17 : fetch 162 17 = some (.iload_n 3, 18, 0, 0, 0, 0) := fr fe_X8_cuts_1 12 rfl
theorem i_X8_cuts_18 : fetch 162 18 = some (.iadd, 19, 0, 0, 0, 0) := fr fe_X8_cuts_1 13 rfl
theorem i_X8_cuts_19 : fetch 162 19 = some (.putfield 251, 22, 8, 42, 0, 1119) := fr fe_X8_cuts_1 14 rfl
theorem i_X8_cuts_22 : fetch 162 22 = some (.aload_n 0, 23, 0, 0, 0, 0) := fr fe_X8_cuts_1 15 rfl
theorem i_X8_cuts_23 : fetch 162 23 = some (.getfield 75, 26, 8, 37, 0, 1114) := fr fe_X8_cuts_1 16 rfl
theorem i_X8_cuts_26 : fetch 162 26 = some (.iload_n 1, 27, 0, 0, 0, 0) := fr fe_X8_cuts_1 17 rfl
theorem i_X8_cuts_27 : fetch 162 27 = some (.aload_n 0, 28, 0, 0, 0, 0) := fr fe_X8_cuts_1 18 rfl
theorem i_X8_cuts_28 : fetch 162 28 = some (.getfield 75, 31, 8, 37, 0, 1114) := fr fe_X8_cuts_1 19 rfl
theorem i_X8_cuts_31 : fetch 162 31 = some (.iload_n 1, 32, 0, 0, 0, 0) := fr fe_X8_cuts_1 20 rfl
theorem i_X8_cuts_32 : fetch 162 32 = some (.iaload, 33, 0, 0, 0, 0) := fr fe_X8_cuts_1 21 rfl
theorem i_X8_cuts_33 : fetch 162 33 = some (.iload_n 3, 34, 0, 0, 0, 0) := fr fe_X8_cuts_1 22 rfl
theorem i_X8_cuts_34 : fetch 162 34 = some (.isub, 35, 0, 0, 0, 0) := fr fe_X8_cuts_1 23 rfl
theorem i_X8_cuts_35 : fetch 162 35 = some (.iconst 1, 36, 0, 0, 0, 0) := fr fe_X8_cuts_1 24 rfl
theorem i_X8_cuts_36 : fetch 162 36 = some (.if_icmp .ge 7, 39, 0, 0, 0, 0) := fr fe_X8_cuts_2 0 rfl
theorem i_X8_cuts_39 : fetch 162 39 = some (.iconst 1, 40, 0, 0, 0, 0) := fr fe_X8_cuts_2 1 rfl
theorem i_X8_cuts_40 : fetch 162 40 = some (.goto 11, 43, 0, 0, 0, 0) := fr fe_X8_cuts_2 2 rfl
theorem i_X8_cuts_43 : fetch 162 43 = some (.aload_n 0, 44, 0, 0, 0, 0) := fr fe_X8_cuts_2 3 rfl
theorem i_X8_cuts_44 : fetch 162 44 = some (.getfield 75, 47, 8, 37, 0, 1114) := fr fe_X8_cuts_2 4 rfl
theorem i_X8_cuts_47 : fetch 162 47 = some (.iload_n 1, 48, 0, 0, 0, 0) := fr fe_X8_cuts_2 5 rfl
theorem i_X8_cuts_48 : fetch 162 48 = some (.iaload, 49, 0, 0, 0, 0) := fr fe_X8_cuts_2 6 rfl
theorem i_X8_cuts_49 : fetch 162 49 = some (.iload_n 3, 50, 0, 0, 0, 0) := fr fe_X8_cuts_2 7 rfl
theorem i_X8_cuts_50 : fetch 162 50 = some (.isub, 51, 0, 0, 0, 0) := fr fe_X8_cuts_2 8 rfl
theorem i_X8_cuts_51 : fetch 162 51 = some (.iastore, 52, 0, 0, 0, 0) := fr fe_X8_cuts_2 9 rfl
theorem i_X8_cuts_52 : fetch 162 52 = some (.aload_n 0, 53, 0, 0, 0, 0) := fr fe_X8_cuts_2 10 rfl
theorem i_X8_cuts_53 : fetch 162 53 = some (.getfield 78, 56, 8, 38, 0, 1115) := fr fe_X8_cuts_2 11 rfl
theorem i_X8_cuts_56 : fetch 162 56 = some (.iload_n 1, 57, 0, 0, 0, 0) := fr fe_X8_cuts_2 12 rfl
theorem i_X8_cuts_57 : fetch 162 57 = some (.iaload, 58, 0, 0, 0, 0) := fr fe_X8_cuts_2 13 rfl
theorem i_X8_cuts_58 : fetch 162 58 = some (.aload_n 0, 59, 0, 0, 0, 0) := fr fe_X8_cuts_2 14 rfl
theorem i_X8_cuts_59 : fetch 162 59 = some (.getfield 78, 62, 8, 38, 0, 1115) := fr fe_X8_cuts_2 15 rfl
theorem i_X8_cuts_62 : fetch 162 62 = some (.iload_n 1, 63, 0, 0, 0, 0) := fr fe_X8_cuts_2 16 rfl
theorem i_X8_cuts_63 : fetch 162 63 = some (.iaload, 64, 0, 0, 0, 0) := fr fe_X8_cuts_2 17 rfl
theorem i_X8_cuts_64 : fetch 162 64 = some (.iload_n 2, 65, 0, 0, 0, 0) := fr fe_X8_cuts_2 18 rfl
theorem i_X8_cuts_65 : fetch 162 65 = some (.imul, 66, 0, 0, 0, 0) := fr fe_X8_cuts_2 19 rfl
theorem i_X8_cuts_66 : fetch 162 66 = some (.bipush 10, 68, 0, 0, 0, 0) := fr fe_X8_cuts_2 20 rfl
theorem i_X8_cuts_68 : fetch 162 68 = some (.idiv, 69, 0, 0, 0, 0) := fr fe_X8_cuts_2 21 rfl
theorem i_X8_cuts_69 : fetch 162 69 = some (.isub, 70, 0, 0, 0, 0) := fr fe_X8_cuts_2 22 rfl
theorem i_X8_cuts_70 : fetch 162 70 = some (.istore 4, 72, 0, 0, 0, 0) := fr fe_X8_cuts_2 23 rfl
theorem i_X8_cuts_72 : fetch 162 72 = some (.aload_n 0, 73, 0, 0, 0, 0) := fr fe_X8_cuts_2 24 rfl
theorem i_X8_cuts_73 : fetch 162 73 = some (.getfield 78, 76, 8, 38, 0, 1115) := fr fe_X8_cuts_3 0 rfl
theorem i_X8_cuts_76 : fetch 162 76 = some (.iload_n 1, 77, 0, 0, 0, 0) := fr fe_X8_cuts_3 1 rfl
theorem i_X8_cuts_77 : fetch 162 77 = some (.iload 4, 79, 0, 0, 0, 0) := fr fe_X8_cuts_3 2 rfl
theorem i_X8_cuts_79 : fetch 162 79 = some (.iconst 1, 80, 0, 0, 0, 0) := fr fe_X8_cuts_3 3 rfl
theorem i_X8_cuts_80 : fetch 162 80 = some (.if_icmp .ge 7, 83, 0, 0, 0, 0) := fr fe_X8_cuts_3 4 rfl
theorem i_X8_cuts_83 : fetch 162 83 = some (.iconst 1, 84, 0, 0, 0, 0) := fr fe_X8_cuts_3 5 rfl
theorem i_X8_cuts_84 : fetch 162 84 = some (.goto 5, 87, 0, 0, 0, 0) := fr fe_X8_cuts_3 6 rfl
theorem i_X8_cuts_87 : fetch 162 87 = some (.iload 4, 89, 0, 0, 0, 0) := fr fe_X8_cuts_3 7 rfl
theorem i_X8_cuts_89 : fetch 162 89 = some (.iastore, 90, 0, 0, 0, 0) := fr fe_X8_cuts_3 8 rfl
theorem i_X8_cuts_90 : fetch 162 90 = some (.return_, 91, 0, 0, 0, 0) := fr fe_X8_cuts_3 9 rfl
theorem i_X8_rests_0 : fetch 163 0 = some (.iconst 0, 1, 0, 0, 0, 0) := fr fe_X8_rests 0 rfl
theorem i_X8_rests_1 : fetch 163 1 = some (.istore_n 2, 2, 0, 0, 0, 0) := fr fe_X8_rests 1 rfl
theorem i_X8_rests_2 : fetch 163 2 = some (.iload_n 2, 3, 0, 0, 0, 0) := fr fe_X8_rests 2 rfl
theorem i_X8_rests_3 : fetch 163 3 = some (.bipush 12, 5, 0, 0, 0, 0) := fr fe_X8_rests 3 rfl
theorem i_X8_rests_5 : fetch 163 5 = some (.if_icmp .ge 40, 8, 0, 0, 0, 0) := fr fe_X8_rests 4 rfl
theorem i_X8_rests_8 : fetch 163 8 = some (.aload_n 0, 9, 0, 0, 0, 0) := fr fe_X8_rests 5 rfl
theorem i_X8_rests_9 : fetch 163 9 = some (.getfield 81, 12, 8, 39, 0, 1116) := fr fe_X8_rests 6 rfl
theorem i_X8_rests_12 : fetch 163 12 = some (.iload_n 2, 13, 0, 0, 0, 0) := fr fe_X8_rests 7 rfl
theorem i_X8_rests_13 : fetch 163 13 = some (.iaload, 14, 0, 0, 0, 0) := fr fe_X8_rests 8 rfl
theorem i_X8_rests_14 : fetch 163 14 = some (.iload_n 1, 15, 0, 0, 0, 0) := fr fe_X8_rests 9 rfl
theorem i_X8_rests_15 : fetch 163 15 = some (.aload_n 0, 16, 0, 0, 0, 0) := fr fe_X8_rests 10 rfl
theorem i_X8_rests_16 : fetch 163 16 = some (.getfield 24, 19, 8, 4, 0, 1065) := fr fe_X8_rests 11 rfl
theorem i_X8_rests_19 : fetch 163 19 = some (.iconst 1, 20, 0, 0, 0, 0) := fr fe_X8_rests 12 rfl
theorem i_X8_rests_20 : fetch 163 20 = some (.iadd, 21, 0, 0, 0, 0) := fr fe_X8_rests 13 rfl
theorem i_X8_rests_21 : fetch 163 21 = some (.imul, 22, 0, 0, 0, 0) := fr fe_X8_rests 14 rfl
theorem i_X8_rests_22 : fetch 163 22 = some (.isub, 23, 0, 0, 0, 0) := fr fe_X8_rests 15 rfl
theorem i_X8_rests_23 : fetch 163 23 = some (.istore_n 3, 24, 0, 0, 0, 0) := fr fe_X8_rests 16 rfl
theorem i_X8_rests_24 : fetch 163 24 = some (.aload_n 0, 25, 0, 0, 0, 0) := fr fe_X8_rests 17 rfl
theorem i_X8_rests_25 : fetch 163 25 = some (.getfield 81, 28, 8, 39, 0, 1116) := fr fe_X8_rests 18 rfl
theorem i_X8_rests_28 : fetch 163 28 = some (.iload_n 2, 29, 0, 0, 0, 0) := fr fe_X8_rests 19 rfl
theorem i_X8_rests_29 : fetch 163 29 = some (.iload_n 3, 30, 0, 0, 0, 0) := fr fe_X8_rests 20 rfl
theorem i_X8_rests_30 : fetch 163 30 = some (.ifCond .ge 7, 33, 0, 0, 0, 0) := fr fe_X8_rests 21 rfl
theorem i_X8_rests_33 : fetch 163 33 = some (.iconst 0, 34, 0, 0, 0, 0) := fr fe_X8_rests 22 rfl
theorem i_X8_rests_34 : fetch 163 34 = some (.goto 4, 37, 0, 0, 0, 0) := fr fe_X8_rests 23 rfl
theorem i_X8_rests_37 : fetch 163 37 = some (.iload_n 3, 38, 0, 0, 0, 0) := fr fe_X8_rests 24 rfl
theorem i_X8_rests_38 : fetch 163 38 = some (.iastore, 39, 0, 0, 0, 0) := fr fe_X8_rests 25 rfl
theorem i_X8_rests_39 : fetch 163 39 = some (.iinc 2 1, 42, 0, 0, 0, 0) := fr fe_X8_rests 26 rfl
theorem i_X8_rests_42 : fetch 163 42 = some (.goto (-40), 45, 0, 0, 0, 0) := fr fe_X8_rests 27 rfl
theorem i_X8_rests_45 : fetch 163 45 = some (.return_, 46, 0, 0, 0, 0) := fr fe_X8_rests 28 rfl
theorem i_X8_dusts_0 : fetch 164 0 = some (.aload_n 0, 1, 0, 0, 0, 0) := fr fe_X8_dusts 0 rfl
theorem i_X8_dusts_1 : fetch 164 1 = some (.aload_n 0, 2, 0, 0, 0, 0) := fr fe_X8_dusts 1 rfl
theorem i_X8_dusts_2 : fetch 164 2 = some (.getfield 208, 5, 8, 41, 0, 1118) := fr fe_X8_dusts 2 rfl
theorem i_X8_dusts_5 : fetch 164 5 = some (.iload_n 1, 6, 0, 0, 0, 0) := fr fe_X8_dusts 3 rfl
theorem i_X8_dusts_6 : fetch 164 6 = some (.iadd, 7, 0, 0, 0, 0) := fr fe_X8_dusts 4 rfl
theorem i_X8_dusts_7 : fetch 164 7 = some (.bipush 99, 9, 0, 0, 0, 0) := fr fe_X8_dusts 5 rfl
theorem i_X8_dusts_9 : fetch 164 9 = some (.if_icmp .le 8, 12, 0, 0, 0, 0) := fr fe_X8_dusts 6 rfl
theorem i_X8_dusts_12 : fetch 164 12 = some (.bipush 99, 14, 0, 0, 0, 0) := fr fe_X8_dusts 7 rfl
theorem i_X8_dusts_14 : fetch 164 14 = some (.goto 9, 17, 0, 0, 0, 0) := fr fe_X8_dusts 8 rfl
theorem i_X8_dusts_17 : fetch 164 17 = some (.aload_n 0, 18, 0, 0, 0, 0) := fr fe_X8_dusts 9 rfl
theorem i_X8_dusts_18 : fetch 164 18 = some (.getfield 208, 21, 8, 41, 0, 1118) := fr fe_X8_dusts 10 rfl
theorem i_X8_dusts_21 : fetch 164 21 = some (.iload_n 1, 22, 0, 0, 0, 0) := fr fe_X8_dusts 11 rfl
theorem i_X8_dusts_22 : fetch 164 22 = some (.iadd, 23, 0, 0, 0, 0) := fr fe_X8_dusts 12 rfl
theorem i_X8_dusts_23 : fetch 164 23 = some (.putfield 208, 26, 8, 41, 0, 1118) := fr fe_X8_dusts 13 rfl
theorem i_X8_dusts_26 : fetch 164 26 = some (.return_, 27, 0, 0, 0, 0) := fr fe_X8_dusts 14 rfl
theorem i_X8_makes_0 : fetch 165 0 = some (.aload_n 0, 1, 0, 0, 0, 0) := fr fe_X8_makes_1 0 rfl
theorem i_X8_makes_1 : fetch 165 1 = some (.getfield 27, 4, 8, 6, 0, 1067) := fr fe_X8_makes_1 1 rfl
theorem i_X8_makes_4 : fetch 165 4 = some (.iload_n 1, 5, 0, 0, 0, 0) := fr fe_X8_makes_1 2 rfl
theorem i_X8_makes_5 : fetch 165 5 = some (.iaload, 6, 0, 0, 0, 0) := fr fe_X8_makes_1 3 rfl
theorem i_X8_makes_6 : fetch 165 6 = some (.tableswitch 142 1 5 #[34, 61, 92, 99, 112], 40, 0, 0, 0, 0) := fr fe_X8_makes_1 4 rfl
theorem i_X8_makes_40 : fetch 165 40 = some (.aload_n 0, 41, 0, 0, 0, 0) := fr fe_X8_makes_1 5 rfl
theorem i_X8_makes_41 : fetch 165 41 = some (.aload_n 0, 42, 0, 0, 0, 0) := fr fe_X8_makes_1 6 rfl
theorem i_X8_makes_42 : fetch 165 42 = some (.invokevirtual 254, 45, 156, 0, 0, 1312) := fr fe_X8_makes_1 7 rfl
theorem i_X8_makes_45 : fetch 165 45 = some (.aload_n 0, 46, 0, 0, 0, 0) := fr fe_X8_makes_1 8 rfl
theorem i_X8_makes_46 : fetch 165 46 = some (.getfield 30, 49, 8, 7, 0, 1068) := fr fe_X8_makes_1 9 rfl
theorem i_X8_makes_49 : fetch 165 49 = some (.iload_n 1, 50, 0, 0, 0, 0) := fr fe_X8_makes_1 10 rfl
theorem i_X8_makes_50 : fetch 165 50 = some (.iaload, 51, 0, 0, 0, 0) := fr fe_X8_makes_1 11 rfl
theorem i_X8_makes_51 : fetch 165 51 = some (.imul, 52, 0, 0, 0, 0) := fr fe_X8_makes_1 12 rfl
theorem i_X8_makes_52 : fetch 165 52 = some (.bipush 10, 54, 0, 0, 0, 0) := fr fe_X8_makes_1 13 rfl
theorem i_X8_makes_54 : fetch 165 54 = some (.idiv, 55, 0, 0, 0, 0) := fr fe_X8_makes_1 14 rfl
theorem i_X8_makes_55 : fetch 165 55 = some (.aload_n 0, 56, 0, 0, 0, 0) := fr fe_X8_makes_1 15 rfl
theorem i_X8_makes_56 : fetch 165 56 = some (.getfield 33, 59, 8, 8, 0, 1069) := fr fe_X8_makes_1 16 rfl
theorem i_X8_makes_59 : fetch 165 59 = some (.iload_n 1, 60, 0, 0, 0, 0) := fr fe_X8_makes_1 17 rfl
theorem i_X8_makes_60 : fetch 165 60 = some (.iaload, 61, 0, 0, 0, 0) := fr fe_X8_makes_1 18 rfl
theorem i_X8_makes_61 : fetch 165 61 = some (.invokevirtual 257, 64, 158, 0, 0, 1316) := fr fe_X8_makes_1 19 rfl
theorem i_X8_makes_64 : fetch 165 64 = some (.goto 94, 67, 0, 0, 0, 0) := fr fe_X8_makes_1 20 rfl
theorem i_X8_makes_67 : fetch 165 67 = some (.aload_n 0, 68, 0, 0, 0, 0) := fr fe_X8_makes_1 21 rfl
theorem i_X8_makes_68 : fetch 165 68 = some (.aload_n 0, 69, 0, 0, 0, 0) := fr fe_X8_makes_1 22 rfl
theorem i_X8_makes_69 : fetch 165 69 = some (.invokevirtual 254, 72, 156, 0, 0, 1312) := fr fe_X8_makes_1 23 rfl
theorem i_X8_makes_72 : fetch 165 72 = some (.aload_n 0, 73, 0, 0, 0, 0) := fr fe_X8_makes_1 24 rfl
theorem i_X8_makes_73 : fetch 165 73 = some (.getfield 30, 76, 8, 7, 0, 1068) := fr fe_X8_makes_2 0 rfl
theorem i_X8_makes_76 : fetch 165 76 = some (.iload_n 1, 77, 0, 0, 0, 0) := fr fe_X8_makes_2 1 rfl
theorem i_X8_makes_77 : fetch 165 77 = some (.iaload, 78, 0, 0, 0, 0) := fr fe_X8_makes_2 2 rfl
theorem i_X8_makes_78 : fetch 165 78 = some (.imul, 79, 0, 0, 0, 0) := fr fe_X8_makes_2 3 rfl
theorem i_X8_makes_79 : fetch 165 79 = some (.bipush 10, 81, 0, 0, 0, 0) := fr fe_X8_makes_2 4 rfl
theorem i_X8_makes_81 : fetch 165 81 = some (.idiv, 82, 0, 0, 0, 0) := fr fe_X8_makes_2 5 rfl
theorem i_X8_makes_82 : fetch 165 82 = some (.aload_n 0, 83, 0, 0, 0, 0) := fr fe_X8_makes_2 6 rfl
theorem i_X8_makes_83 : fetch 165 83 = some (.getfield 33, 86, 8, 8, 0, 1069) := fr fe_X8_makes_2 7 rfl
theorem i_X8_makes_86 : fetch 165 86 = some (.iload_n 1, 87, 0, 0, 0, 0) := fr fe_X8_makes_2 8 rfl
theorem i_X8_makes_87 : fetch 165 87 = some (.iaload, 88, 0, 0, 0, 0) := fr fe_X8_makes_2 9 rfl
theorem i_X8_makes_88 : fetch 165 88 = some (.invokevirtual 257, 91, 158, 0, 0, 1316) := fr fe_X8_makes_2 10 rfl
theorem i_X8_makes_91 : fetch 165 91 = some (.aload_n 0, 92, 0, 0, 0, 0) := fr fe_X8_makes_2 11 rfl
theorem i_X8_makes_92 : fetch 165 92 = some (.invokevirtual 260, 95, 160, 0, 0, 1364) := fr fe_X8_makes_2 12 rfl
theorem i_X8_makes_95 : fetch 165 95 = some (.goto 63, 98, 0, 0, 0, 0) := fr fe_X8_makes_2 13 rfl
theorem i_X8_makes_98 : fetch 165 98 = some (.aload_n 0, 99, 0, 0, 0, 0) := fr fe_X8_makes_2 14 rfl
theorem i_X8_makes_99 : fetch 165 99 = some (.invokevirtual 263, 102, 161, 0, 0, 1372) := fr fe_X8_makes_2 15 rfl
theorem i_X8_makes_102 : fetch 165 102 = some (.goto 56, 105, 0, 0, 0, 0) := fr fe_X8_makes_2 16 rfl
theorem i_X8_makes_105 : fetch 165 105 = some (.aload_n 0, 106, 0, 0, 0, 0) := fr fe_X8_makes_2 17 rfl
theorem i_X8_makes_106 : fetch 165 106 = some (.aload_n 0, 107, 0, 0, 0, 0) := fr fe_X8_makes_2 18 rfl
theorem i_X8_makes_107 : fetch 165 107 = some (.getfield 30, 110, 8, 7, 0, 1068) := fr fe_X8_makes_2 19 rfl
theorem i_X8_makes_110 : fetch 165 110 = some (.iload_n 1, 111, 0, 0, 0, 0) := fr fe_X8_makes_2 20 rfl
theorem i_X8_makes_111 : fetch 165 111 = some (.iaload, 112, 0, 0, 0, 0) := fr fe_X8_makes_2 21 rfl
theorem i_X8_makes_112 : fetch 165 112 = some (.invokevirtual 266, 115, 164, 0, 0, 1376) := fr fe_X8_makes_2 22 rfl
theorem i_X8_makes_115 : fetch 165 115 = some (.goto 43, 118, 0, 0, 0, 0) := fr fe_X8_makes_2 23 rfl
theorem i_X8_makes_118 : fetch 165 118 = some (.aload_n 0, 119, 0, 0, 0, 0) := fr fe_X8_makes_2 24 rfl
theorem i_X8_makes_119 : fetch 165 119 = some (.invokevirtual 263, 122, 161, 0, 0, 1372) := fr fe_X8_makes_3 0 rfl
theorem i_X8_makes_122 : fetch 165 122 = some (.aload_n 0, 123, 0, 0, 0, 0) := fr fe_X8_makes_3 1 rfl
theorem i_X8_makes_123 : fetch 165 123 = some (.iconst 0, 124, 0, 0, 0, 0) := fr fe_X8_makes_3 2 rfl
theorem i_X8_makes_124 : fetch 165 124 = some (.aload_n 0, 125, 0, 0, 0, 0) := fr fe_X8_makes_3 3 rfl
theorem i_X8_makes_125 : fetch 165 125 = some (.getfield 30, 128, 8, 7, 0, 1068) := fr fe_X8_makes_3 4 rfl
theorem i_X8_makes_128 : fetch 165 128 = some (.iload_n 1, 129, 0, 0, 0, 0) := fr fe_X8_makes_3 5 rfl
theorem i_X8_makes_129 : fetch 165 129 = some (.iaload, 130, 0, 0, 0, 0) := fr fe_X8_makes_3 6 rfl
theorem i_X8_makes_130 : fetch 165 130 = some (.invokevirtual 269, 133, 162, 0, 0, 1380) := fr fe_X8_makes_3 7 rfl
theorem i_X8_makes_133 : fetch 165 133 = some (.aload_n 0, 134, 0, 0, 0, 0) := fr fe_X8_makes_3 8 rfl
theorem i_X8_makes_134 : fetch 165 134 = some (.bipush 11, 136, 0, 0, 0, 0) := fr fe_X8_makes_3 9 rfl
theorem i_X8_makes_136 : fetch 165 136 = some (.aload_n 0, 137, 0, 0, 0, 0) := fr fe_X8_makes_3 10 rfl
theorem i_X8_makes_137 : fetch 165 137 = some (.getfield 30, 140, 8, 7, 0, 1068) := fr fe_X8_makes_3 11 rfl
theorem i_X8_makes_140 : fetch 165 140 = some (.iload_n 1, 141, 0, 0, 0, 0) := fr fe_X8_makes_3 12 rfl
theorem i_X8_makes_141 : fetch 165 141 = some (.iaload, 142, 0, 0, 0, 0) := fr fe_X8_makes_3 13 rfl
theorem i_X8_makes_142 : fetch 165 142 = some (.invokevirtual 269, 145, 162, 0, 0, 1380) := fr fe_X8_makes_3 14 rfl
theorem i_X8_makes_145 : fetch 165 145 = some (.goto 13, 148, 0, 0, 0, 0) := fr fe_X8_makes_3 15 rfl
theorem i_X8_makes_148 : fetch 165 148 = some (.aload_n 0, 149, 0, 0, 0, 0) := fr fe_X8_makes_3 16 rfl
theorem i_X8_makes_149 : fetch 165 149 = some (.aload_n 0, 150, 0, 0, 0, 0) := fr fe_X8_makes_3 17 rfl
theorem i_X8_makes_150 : fetch 165 150 = some (.getfield 30, 153, 8, 7, 0, 1068) := fr fe_X8_makes_3 18 rfl
theorem i_X8_makes_153 : fetch 165 153 = some (.iload_n 1, 154, 0, 0, 0, 0) := fr fe_X8_makes_3 19 rfl
theorem i_X8_makes_154 : fetch 165 154 = some (.iaload, 155, 0, 0, 0, 0) := fr fe_X8_makes_3 20 rfl
theorem i_X8_makes_155 : fetch 165 155 = some (.invokevirtual 272, 158, 163, 0, 0, 1384) := fr fe_X8_makes_3 21 rfl
theorem i_X8_makes_158 : fetch 165 158 = some (.return_, 159, 0, 0, 0, 0) := fr fe_X8_makes_3 22 rfl
theorem i_X8_begins_0 : fetch 166 0 = some (.iconst 0, 1, 0, 0, 0, 0) := fr fe_X8_begins_1 0 rfl
theorem i_X8_begins_1 : fetch 166 1 = some (.istore_n 1, 2, 0, 0, 0, 0) := fr fe_X8_begins_1 1 rfl
theorem i_X8_begins_2 : fetch 166 2 = some (.iload_n 1, 3, 0, 0, 0, 0) := fr fe_X8_begins_1 2 rfl
theorem i_X8_begins_3 : fetch 166 3 = some (.bipush 12, 5, 0, 0, 0, 0) := fr fe_X8_begins_1 3 rfl
theorem i_X8_begins_5 : fetch 166 5 = some (.if_icmp .ge 40, 8, 0, 0, 0, 0) := fr fe_X8_begins_1 4 rfl
theorem i_X8_begins_8 : fetch 166 8 = some (.aload_n 0, 9, 0, 0, 0, 0) := fr fe_X8_begins_1 5 rfl
theorem i_X8_begins_9 : fetch 166 9 = some (.getfield 75, 12, 8, 37, 0, 1114) := fr fe_X8_begins_1 6 rfl
theorem i_X8_begins_12 : fetch 166 12 = some (.iload_n 1, 13, 0, 0, 0, 0) := fr fe_X8_begins_1 7 rfl
theorem i_X8_begins_13 : fetch 166 13 = some (.aload_n 0, 14, 0, 0, 0, 0) := fr fe_X8_begins_1 8 rfl
theorem i_X8_begins_14 : fetch 166 14 = some (.getfield 8, 17, 8, 0, 0, 1061) := fr fe_X8_begins_1 9 rfl
theorem i_X8_begins_17 : fetch 166 17 = some (.iload_n 1, 18, 0, 0, 0, 0) := fr fe_X8_begins_1 10 rfl
theorem i_X8_begins_18 : fetch 166 18 = some (.iaload, 19, 0, 0, 0, 0) := fr fe_X8_begins_1 11 rfl
theorem i_X8_begins_19 : fetch 166 19 = some (.iastore, 20, 0, 0, 0, 0) := fr fe_X8_begins_1 12 rfl
theorem i_X8_begins_20 : fetch 166 20 = some (.aload_n 0, 21, 0, 0, 0, 0) := fr fe_X8_begins_1 13 rfl
theorem i_X8_begins_21 : fetch 166 21 = some (.getfield 78, 24, 8, 38, 0, 1115) := fr fe_X8_begins_1 14 rfl
theorem i_X8_begins_24 : fetch 166 24 = some (.iload_n 1, 25, 0, 0, 0, 0) := fr fe_X8_begins_1 15 rfl
theorem i_X8_begins_25 : fetch 166 25 = some (.aload_n 0, 26, 0, 0, 0, 0) := fr fe_X8_begins_1 16 rfl
theorem i_X8_begins_26 : fetch 166 26 = some (.getfield 14, 29, 8, 1, 0, 1062) := fr fe_X8_begins_1 17 rfl
theorem i_X8_begins_29 : fetch 166 29 = some (.iload_n 1, 30, 0, 0, 0, 0) := fr fe_X8_begins_1 18 rfl
theorem i_X8_begins_30 : fetch 166 30 = some (.iaload, 31, 0, 0, 0, 0) := fr fe_X8_begins_1 19 rfl
theorem i_X8_begins_31 : fetch 166 31 = some (.iastore, 32, 0, 0, 0, 0) := fr fe_X8_begins_1 20 rfl
theorem i_X8_begins_32 : fetch 166 32 = some (.aload_n 0, 33, 0, 0, 0, 0) := fr fe_X8_begins_1 21 rfl
theorem i_X8_begins_33 : fetch 166 33 = some (.getfield 81, 36, 8, 39, 0, 1116) := fr fe_X8_begins_1 22 rfl
theorem i_X8_begins_36 : fetch 166 36 = some (.iload_n 1, 37, 0, 0, 0, 0) := fr fe_X8_begins_1 23 rfl
theorem i_X8_begins_37 : fetch 166 37 = some (.iconst 0, 38, 0, 0, 0, 0) := fr fe_X8_begins_1 24 rfl
theorem i_X8_begins_38 : fetch 166 38 = some (.iastore, 39, 0, 0, 0, 0) := fr fe_X8_begins_2 0 rfl
theorem i_X8_begins_39 : fetch 166 39 = some (.iinc 1 1, 42, 0, 0, 0, 0) := fr fe_X8_begins_2 1 rfl
theorem i_X8_begins_42 : fetch 166 42 = some (.goto (-40), 45, 0, 0, 0, 0) := fr fe_X8_begins_2 2 rfl
theorem i_X8_begins_45 : fetch 166 45 = some (.aload_n 0, 46, 0, 0, 0, 0) := fr fe_X8_begins_2 3 rfl
theorem i_X8_begins_46 : fetch 166 46 = some (.iconst 0, 47, 0, 0, 0, 0) := fr fe_X8_begins_2 4 rfl
theorem i_X8_begins_47 : fetch 166 47 = some (.putfield 205, 50, 8, 40, 0, 1117) := fr fe_X8_begins_2 5 rfl
theorem i_X8_begins_50 : fetch 166 50 = some (.aload_n 0, 51, 0, 0, 0, 0) := fr fe_X8_begins_2 6 rfl
theorem i_X8_begins_51 : fetch 166 51 = some (.iconst 0, 52, 0, 0, 0, 0) := fr fe_X8_begins_2 7 rfl
theorem i_X8_begins_52 : fetch 166 52 = some (.putfield 208, 55, 8, 41, 0, 1118) := fr fe_X8_begins_2 8 rfl
theorem i_X8_begins_55 : fetch 166 55 = some (.aload_n 0, 56, 0, 0, 0, 0) := fr fe_X8_begins_2 9 rfl
theorem i_X8_begins_56 : fetch 166 56 = some (.iconst 0, 57, 0, 0, 0, 0) := fr fe_X8_begins_2 10 rfl
theorem i_X8_begins_57 : fetch 166 57 = some (.putfield 251, 60, 8, 42, 0, 1119) := fr fe_X8_begins_2 11 rfl
theorem i_X8_begins_60 : fetch 166 60 = some (.aload_n 0, 61, 0, 0, 0, 0) := fr fe_X8_begins_2 12 rfl
theorem i_X8_begins_61 : fetch 166 61 = some (.ldc2_w 275, 64, 0, 0, 1000000000, 1307) := fr fe_X8_begins_2 13 rfl
theorem i_X8_begins_64 : fetch 166 64 = some (.putfield 240, 67, 8, 43, 0, 1120) := fr fe_X8_begins_2 14 rfl
theorem i_X8_begins_67 : fetch 166 67 = some (.aload_n 0, 68, 0, 0, 0, 0) := fr fe_X8_begins_2 15 rfl
theorem i_X8_begins_68 : fetch 166 68 = some (.ldc2_w 275, 71, 0, 0, 1000000000, 1307) := fr fe_X8_begins_2 16 rfl
theorem i_X8_begins_71 : fetch 166 71 = some (.putfield 248, 74, 8, 44, 0, 1121) := fr fe_X8_begins_2 17 rfl
theorem i_X8_begins_74 : fetch 166 74 = some (.return_, 75, 0, 0, 0, 0) := fr fe_X8_begins_2 18 rfl
theorem i_X8_goesBut_0 : fetch 167 0 = some (.aload_n 0, 1, 0, 0, 0, 0) := fr fe_X8_goesBut 0 rfl
theorem i_X8_goesBut_1 : fetch 167 1 = some (.invokevirtual 277, 4, 166, 0, 0, 1303) := fr fe_X8_goesBut 1 rfl
theorem i_X8_goesBut_4 : fetch 167 4 = some (.iconst 0, 5, 0, 0, 0, 0) := fr fe_X8_goesBut 2 rfl
theorem i_X8_goesBut_5 : fetch 167 5 = some (.istore_n 3, 6, 0, 0, 0, 0) := fr fe_X8_goesBut 3 rfl
theorem i_X8_goesBut_6 : fetch 167 6 = some (.iload_n 3, 7, 0, 0, 0, 0) := fr fe_X8_goesBut 4 rfl
theorem i_X8_goesBut_7 : fetch 167 7 = some (.iload_n 1, 8, 0, 0, 0, 0) := fr fe_X8_goesBut 5 rfl
theorem i_X8_goesBut_8 : fetch 167 8 = some (.if_icmp .ge 19, 11, 0, 0, 0, 0) := fr fe_X8_goesBut 6 rfl
theorem i_X8_goesBut_11 : fetch 167 11 = some (.iload_n 3, 12, 0, 0, 0, 0) := fr fe_X8_goesBut 7 rfl
theorem i_X8_goesBut_12 : fetch 167 12 = some (.iload_n 2, 13, 0, 0, 0, 0) := fr fe_X8_goesBut 8 rfl
theorem i_X8_goesBut_13 : fetch 167 13 = some (.if_icmp .eq 8, 16, 0, 0, 0, 0) := fr fe_X8_goesBut 9 rfl
theorem i_X8_goesBut_16 : fetch 167 16 = some (.aload_n 0, 17, 0, 0, 0, 0) := fr fe_X8_goesBut 10 rfl
theorem i_X8_goesBut_17 : fetch 167 17 = some (.iload_n 3, 18, 0, 0, 0, 0) := fr fe_X8_goesBut 11 rfl
theorem i_X8_goesBut_18 : fetch 167 18 = some (.invokevirtual 280, 21, 165, 0, 0, 1308) := fr fe_X8_goesBut 12 rfl
theorem i_X8_goesBut_21 : fetch 167 21 = some (.iinc 3 1, 24, 0, 0, 0, 0) := fr fe_X8_goesBut 13 rfl
theorem i_X8_goesBut_24 : fetch 167 24 = some (.goto (-18), 27, 0, 0, 0, 0) := fr fe_X8_goesBut 14 rfl
theorem i_X8_goesBut_27 : fetch 167 27 = some (.return_, 28, 0, 0, 0, 0) := fr fe_X8_goesBut 15 rfl
theorem i_X8_goes_0 : fetch 168 0 = some (.aload_n 0, 1, 0, 0, 0, 0) := fr fe_X8_goes 0 rfl
theorem i_X8_goes_1 : fetch 168 1 = some (.iload_n 1, 2, 0, 0, 0, 0) := fr fe_X8_goes 1 rfl
theorem i_X8_goes_2 : fetch 168 2 = some (.iconst (-1), 3, 0, 0, 0, 0) := fr fe_X8_goes 2 rfl
theorem i_X8_goes_3 : fetch 168 3 = some (.invokevirtual 283, 6, 167, 0, 0, 1299) := fr fe_X8_goes 3 rfl
theorem i_X8_goes_6 : fetch 168 6 = some (.return_, 7, 0, 0, 0, 0) := fr fe_X8_goes 4 rfl
theorem i_X8_rope_0 : fetch 169 0 = some (.aload_n 0, 1, 0, 0, 0, 0) := fr fe_X8_rope_1 0 rfl
theorem i_X8_rope_1 : fetch 169 1 = some (.iload_n 1, 2, 0, 0, 0, 0) := fr fe_X8_rope_1 1 rfl
theorem i_X8_rope_2 : fetch 169 2 = some (.invokevirtual 286, 5, 128, 0, 0, 1291) := fr fe_X8_rope_1 2 rfl
theorem i_X8_rope_5 : fetch 169 5 = some (.ifCond .ne 6, 8, 0, 0, 0, 0) := fr fe_X8_rope_1 3 rfl
theorem i_X8_rope_8 : fetch 169 8 = some (.bipush (-5), 10, 0, 0, 0, 0) := fr fe_X8_rope_1 4 rfl
theorem i_X8_rope_10 : fetch 169 10 = some (.ireturn, 11, 0, 0, 0, 0) := fr fe_X8_rope_1 5 rfl
theorem i_X8_rope_11 : fetch 169 11 = some (.iload_n 2, 12, 0, 0, 0, 0) := fr fe_X8_rope_1 6 rfl
theorem i_X8_rope_12 : fetch 169 12 = some (.invokestatic 119, 15, 127, 0, 0, 1244) := fr fe_X8_rope_1 7 rfl
theorem i_X8_rope_15 : fetch 169 15 = some (.ifCond .eq 12, 18, 0, 0, 0, 0) := fr fe_X8_rope_1 8 rfl
theorem i_X8_rope_18 : fetch 169 18 = some (.iload_n 3, 19, 0, 0, 0, 0) := fr fe_X8_rope_1 9 rfl
theorem i_X8_rope_19 : fetch 169 19 = some (.iconst 0, 20, 0, 0, 0, 0) := fr fe_X8_rope_1 10 rfl
theorem i_X8_rope_20 : fetch 169 20 = some (.iconst 2, 21, 0, 0, 0, 0) := fr fe_X8_rope_1 11 rfl
theorem i_X8_rope_21 : fetch 169 21 = some (.invokestatic 112, 24, 126, 0, 0, 1022) := fr fe_X8_rope_1 12 rfl
theorem i_X8_rope_24 : fetch 169 24 = some (.ifCond .ne 6, 27, 0, 0, 0, 0) := fr fe_X8_rope_1 13 rfl
theorem i_X8_rope_27 : fetch 169 27 = some (.bipush (-7), 29, 0, 0, 0, 0) := fr fe_X8_rope_1 14 rfl
theorem i_X8_rope_29 : fetch 169 29 = some (.ireturn, 30, 0, 0, 0, 0) := fr fe_X8_rope_1 15 rfl
theorem i_X8_rope_30 : fetch 169 30 = some (.aload_n 0, 31, 0, 0, 0, 0) := fr fe_X8_rope_1 16 rfl
theorem i_X8_rope_31 : fetch 169 31 = some (.iload_n 1, 32, 0, 0, 0, 0) := fr fe_X8_rope_1 17 rfl
theorem i_X8_rope_32 : fetch 169 32 = some (.invokevirtual 289, 35, 168, 0, 0, 1295) := fr fe_X8_rope_1 18 rfl
theorem i_X8_rope_35 : fetch 169 35 = some (.iload_n 3, 36, 0, 0, 0, 0) := fr fe_X8_rope_1 19 rfl
theorem i_X8_rope_36 : fetch 169 36 = some (.ifCond .ne 11, 39, 0, 0, 0, 0) := fr fe_X8_rope_1 20 rfl
theorem i_X8_rope_39 : fetch 169 39 = some (.aload_n 0, 40, 0, 0, 0, 0) := fr fe_X8_rope_1 21 rfl
theorem i_X8_rope_40 : fetch 169 40 = some (.iload_n 2, 41, 0, 0, 0, 0) := fr fe_X8_rope_1 22 rfl
theorem i_X8_rope_41 : fetch 169 41 = some (.invokevirtual 202, 44, 154, 0, 0, 1324) := fr fe_X8_rope_1 23 rfl
theorem i_X8_rope_44 : fetch 169 44 = some (.goto 23, 47, 0, 0, 0, 0) := fr fe_X8_rope_1 24 rfl
theorem i_X8_rope_47 : fetch 169 47 = some (.iload_n 3, 48, 0, 0, 0, 0) := fr fe_X8_rope_2 0 rfl
theorem i_X8_rope_48 : fetch 169 48 = some (.iconst 1, 49, 0, 0, 0, 0) := fr fe_X8_rope_2 1 rfl
theorem i_X8_rope_49 : fetch 169 49 = some (.if_icmp .ne 12, 52, 0, 0, 0, 0) := fr fe_X8_rope_2 2 rfl
theorem i_X8_rope_52 : fetch 169 52 = some (.aload_n 0, 53, 0, 0, 0, 0) := fr fe_X8_rope_2 3 rfl
theorem i_X8_rope_53 : fetch 169 53 = some (.getfield 78, 56, 8, 38, 0, 1115) := fr fe_X8_rope_2 4 rfl
theorem i_X8_rope_56 : fetch 169 56 = some (.iload_n 2, 57, 0, 0, 0, 0) := fr fe_X8_rope_2 5 rfl
theorem i_X8_rope_57 : fetch 169 57 = some (.iaload, 58, 0, 0, 0, 0) := fr fe_X8_rope_2 6 rfl
theorem i_X8_rope_58 : fetch 169 58 = some (.goto 9, 61, 0, 0, 0, 0) := fr fe_X8_rope_2 7 rfl
theorem i_X8_rope_61 : fetch 169 61 = some (.aload_n 0, 62, 0, 0, 0, 0) := fr fe_X8_rope_2 8 rfl
theorem i_X8_rope_62 : fetch 169 62 = some (.getfield 81, 65, 8, 39, 0, 1116) := fr fe_X8_rope_2 9 rfl
theorem i_X8_rope_65 : fetch 169 65 = some (.iload_n 2, 66, 0, 0, 0, 0) := fr fe_X8_rope_2 10 rfl
theorem i_X8_rope_66 : fetch 169 66 = some (.iaload, 67, 0, 0, 0, 0) := fr fe_X8_rope_2 11 rfl
theorem i_X8_rope_67 : fetch 169 67 = some (.ireturn, 68, 0, 0, 0, 0) := fr fe_X8_rope_2 12 rfl
theorem i_X8_least_0 : fetch 170 0 = some (.iconst 0, 1, 0, 0, 0, 0) := fr fe_X8_least 0 rfl
theorem i_X8_least_1 : fetch 170 1 = some (.istore_n 1, 2, 0, 0, 0, 0) := fr fe_X8_least 1 rfl
theorem i_X8_least_2 : fetch 170 2 = some (.iconst 1, 3, 0, 0, 0, 0) := fr fe_X8_least 2 rfl
theorem i_X8_least_3 : fetch 170 3 = some (.istore_n 2, 4, 0, 0, 0, 0) := fr fe_X8_least 3 rfl
theorem i_X8_least_4 : fetch 170 4 = some (.iload_n 2, 5, 0, 0, 0, 0) := fr fe_X8_least 4 rfl
theorem i_X8_least_5 : fetch 170 5 = some (.bipush 12, 7, 0, 0, 0, 0) := fr fe_X8_least 5 rfl
theorem i_X8_least_7 : fetch 170 7 = some (.if_icmp .ge 28, 10, 0, 0, 0, 0) := fr fe_X8_least 6 rfl
theorem i_X8_least_10 : fetch 170 10 = some (.aload_n 0, 11, 0, 0, 0, 0) := fr fe_X8_least 7 rfl
theorem i_X8_least_11 : fetch 170 11 = some (.iload_n 2, 12, 0, 0, 0, 0) := fr fe_X8_least 8 rfl
theorem i_X8_least_12 : fetch 170 12 = some (.invokevirtual 202, 15, 154, 0, 0, 1324) := fr fe_X8_least 9 rfl
theorem i_X8_least_15 : fetch 170 15 = some (.aload_n 0, 16, 0, 0, 0, 0) := fr fe_X8_least 10 rfl
theorem i_X8_least_16 : fetch 170 16 = some (.iload_n 1, 17, 0, 0, 0, 0) := fr fe_X8_least 11 rfl
theorem i_X8_least_17 : fetch 170 17 = some (.invokevirtual 202, 20, 154, 0, 0, 1324) := fr fe_X8_least 12 rfl
theorem i_X8_least_20 : fetch 170 20 = some (.if_icmp .ge 7, 23, 0, 0, 0, 0) := fr fe_X8_least 13 rfl
theorem i_X8_least_23 : fetch 170 23 = some (.iload_n 2, 24, 0, 0, 0, 0) := fr fe_X8_least 14 rfl
theorem i_X8_least_24 : fetch 170 24 = some (.goto 4, 27, 0, 0, 0, 0) := fr fe_X8_least 15 rfl
theorem i_X8_least_27 : fetch 170 27 = some (.iload_n 1, 28, 0, 0, 0, 0) := fr fe_X8_least 16 rfl
theorem i_X8_least_28 : fetch 170 28 = some (.istore_n 1, 29, 0, 0, 0, 0) := fr fe_X8_least 17 rfl
theorem i_X8_least_29 : fetch 170 29 = some (.iinc 2 1, 32, 0, 0, 0, 0) := fr fe_X8_least 18 rfl
theorem i_X8_least_32 : fetch 170 32 = some (.goto (-28), 35, 0, 0, 0, 0) := fr fe_X8_least 19 rfl
theorem i_X8_least_35 : fetch 170 35 = some (.iload_n 1, 36, 0, 0, 0, 0) := fr fe_X8_least 20 rfl
theorem i_X8_least_36 : fetch 170 36 = some (.ireturn, 37, 0, 0, 0, 0) := fr fe_X8_least 21 rfl
theorem i_X8_greatest_0 : fetch 171 0 = some (.iconst 0, 1, 0, 0, 0, 0) := fr fe_X8_greatest 0 rfl
theorem i_X8_greatest_1 : fetch 171 1 = some (.istore_n 1, 2, 0, 0, 0, 0) := fr fe_X8_greatest 1 rfl
theorem i_X8_greatest_2 : fetch 171 2 = some (.iconst 1, 3, 0, 0, 0, 0) := fr fe_X8_greatest 2 rfl
theorem i_X8_greatest_3 : fetch 171 3 = some (.istore_n 2, 4, 0, 0, 0, 0) := fr fe_X8_greatest 3 rfl
theorem i_X8_greatest_4 : fetch 171 4 = some (.iload_n 2, 5, 0, 0, 0, 0) := fr fe_X8_greatest 4 rfl
theorem i_X8_greatest_5 : fetch 171 5 = some (.bipush 12, 7, 0, 0, 0, 0) := fr fe_X8_greatest 5 rfl
theorem i_X8_greatest_7 : fetch 171 7 = some (.if_icmp .ge 28, 10, 0, 0, 0, 0) := fr fe_X8_greatest 6 rfl
theorem i_X8_greatest_10 : fetch 171 10 = some (.aload_n 0, 11, 0, 0, 0, 0) := fr fe_X8_greatest 7 rfl
theorem i_X8_greatest_11 : fetch 171 11 = some (.iload_n 2, 12, 0, 0, 0, 0) := fr fe_X8_greatest 8 rfl
theorem i_X8_greatest_12 : fetch 171 12 = some (.invokevirtual 202, 15, 154, 0, 0, 1324) := fr fe_X8_greatest 9 rfl
theorem i_X8_greatest_15 : fetch 171 15 = some (.aload_n 0, 16, 0, 0, 0, 0) := fr fe_X8_greatest 10 rfl
theorem i_X8_greatest_16 : fetch 171 16 = some (.iload_n 1, 17, 0, 0, 0, 0) := fr fe_X8_greatest 11 rfl
theorem i_X8_greatest_17 : fetch 171 17 = some (.invokevirtual 202, 20, 154, 0, 0, 1324) := fr fe_X8_greatest 12 rfl
theorem i_X8_greatest_20 : fetch 171 20 = some (.if_icmp .le 7, 23, 0, 0, 0, 0) := fr fe_X8_greatest 13 rfl
theorem i_X8_greatest_23 : fetch 171 23 = some (.iload_n 2, 24, 0, 0, 0, 0) := fr fe_X8_greatest 14 rfl
theorem i_X8_greatest_24 : fetch 171 24 = some (.goto 4, 27, 0, 0, 0, 0) := fr fe_X8_greatest 15 rfl
theorem i_X8_greatest_27 : fetch 171 27 = some (.iload_n 1, 28, 0, 0, 0, 0) := fr fe_X8_greatest 16 rfl
theorem i_X8_greatest_28 : fetch 171 28 = some (.istore_n 1, 29, 0, 0, 0, 0) := fr fe_X8_greatest 17 rfl
theorem i_X8_greatest_29 : fetch 171 29 = some (.iinc 2 1, 32, 0, 0, 0, 0) := fr fe_X8_greatest 18 rfl
theorem i_X8_greatest_32 : fetch 171 32 = some (.goto (-28), 35, 0, 0, 0, 0) := fr fe_X8_greatest 19 rfl
theorem i_X8_greatest_35 : fetch 171 35 = some (.iload_n 1, 36, 0, 0, 0, 0) := fr fe_X8_greatest 20 rfl
theorem i_X8_greatest_36 : fetch 171 36 = some (.ireturn, 37, 0, 0, 0, 0) := fr fe_X8_greatest 21 rfl
theorem i_X8_spread_0 : fetch 172 0 = some (.aload_n 0, 1, 0, 0, 0, 0) := fr fe_X8_spread 0 rfl
theorem i_X8_spread_1 : fetch 172 1 = some (.aload_n 0, 2, 0, 0, 0, 0) := fr fe_X8_spread 1 rfl
theorem i_X8_spread_2 : fetch 172 2 = some (.invokevirtual 292, 5, 171, 0, 0, 1398) := fr fe_X8_spread 2 rfl
theorem i_X8_spread_5 : fetch 172 5 = some (.invokevirtual 202, 8, 154, 0, 0, 1324) := fr fe_X8_spread 3 rfl
theorem i_X8_spread_8 : fetch 172 8 = some (.aload_n 0, 9, 0, 0, 0, 0) := fr fe_X8_spread 4 rfl
theorem i_X8_spread_9 : fetch 172 9 = some (.aload_n 0, 10, 0, 0, 0, 0) := fr fe_X8_spread 5 rfl
theorem i_X8_spread_10 : fetch 172 10 = some (.invokevirtual 295, 13, 170, 0, 0, 1394) := fr fe_X8_spread 6 rfl
theorem i_X8_spread_13 : fetch 172 13 = some (.invokevirtual 202, 16, 154, 0, 0, 1324) := fr fe_X8_spread 7 rfl
theorem i_X8_spread_16 : fetch 172 16 = some (.isub, 17, 0, 0, 0, 0) := fr fe_X8_spread 8 rfl
theorem i_X8_spread_17 : fetch 172 17 = some (.ireturn, 18, 0, 0, 0, 0) := fr fe_X8_spread 9 rfl
theorem i_X8_doubled_0 : fetch 173 0 = some (.aload_n 0, 1, 0, 0, 0, 0) := fr fe_X8_doubled 0 rfl
theorem i_X8_doubled_1 : fetch 173 1 = some (.invokevirtual 254, 4, 156, 0, 0, 1312) := fr fe_X8_doubled 1 rfl
theorem i_X8_doubled_4 : fetch 173 4 = some (.i2l, 5, 0, 0, 0, 0) := fr fe_X8_doubled 2 rfl
theorem i_X8_doubled_5 : fetch 173 5 = some (.lstore_n 1, 6, 0, 0, 0, 0) := fr fe_X8_doubled 3 rfl
theorem i_X8_doubled_6 : fetch 173 6 = some (.iconst 0, 7, 0, 0, 0, 0) := fr fe_X8_doubled 4 rfl
theorem i_X8_doubled_7 : fetch 173 7 = some (.istore_n 3, 8, 0, 0, 0, 0) := fr fe_X8_doubled 5 rfl
theorem i_X8_doubled_8 : fetch 173 8 = some (.iload_n 3, 9, 0, 0, 0, 0) := fr fe_X8_doubled 6 rfl
theorem i_X8_doubled_9 : fetch 173 9 = some (.aload_n 0, 10, 0, 0, 0, 0) := fr fe_X8_doubled 7 rfl
theorem i_X8_doubled_10 : fetch 173 10 = some (.getfield 205, 13, 8, 40, 0, 1117) := fr fe_X8_doubled 8 rfl
theorem i_X8_doubled_13 : fetch 173 13 = some (.if_icmp .ge 15, 16, 0, 0, 0, 0) := fr fe_X8_doubled 9 rfl
theorem i_X8_doubled_16 : fetch 173 16 = some (.lload_n 1, 17, 0, 0, 0, 0) := fr fe_X8_doubled 10 rfl
theorem i_X8_doubled_17 : fetch 173 17 = some (.ldc2_w 298, 20, 0, 0, 2, 1410) := fr fe_X8_doubled 11 rfl
theorem i_X8_doubled_20 : fetch 173 20 = some (.lmul, 21, 0, 0, 0, 0) := fr fe_X8_doubled 12 rfl
theorem i_X8_doubled_21 : fetch 173 21 = some (.lstore_n 1, 22, 0, 0, 0, 0) := fr fe_X8_doubled 13 rfl
theorem i_X8_doubled_22 : fetch 173 22 = some (.iinc 3 1, 25, 0, 0, 0, 0) := fr fe_X8_doubled 14 rfl
theorem i_X8_doubled_25 : fetch 173 25 = some (.goto (-17), 28, 0, 0, 0, 0) := fr fe_X8_doubled 15 rfl
theorem i_X8_doubled_28 : fetch 173 28 = some (.lload_n 1, 29, 0, 0, 0, 0) := fr fe_X8_doubled 16 rfl
theorem i_X8_doubled_29 : fetch 173 29 = some (.lreturn, 30, 0, 0, 0, 0) := fr fe_X8_doubled 17 rfl
theorem i_X8_state_0 : fetch 174 0 = some (.aload_n 0, 1, 0, 0, 0, 0) := fr fe_X8_state_1 0 rfl
theorem i_X8_state_1 : fetch 174 1 = some (.iload_n 1, 2, 0, 0, 0, 0) := fr fe_X8_state_1 1 rfl
theorem i_X8_state_2 : fetch 174 2 = some (.invokevirtual 286, 5, 128, 0, 0, 1291) := fr fe_X8_state_1 2 rfl
theorem i_X8_state_5 : fetch 174 5 = some (.ifCond .ne 7, 8, 0, 0, 0, 0) := fr fe_X8_state_1 3 rfl
theorem i_X8_state_8 : fetch 174 8 = some (.ldc2_w 300, 11, 0, 0, (-5), 1392) := fr fe_X8_state_1 4 rfl
theorem i_X8_state_11 : fetch 174 11 = some (.lreturn, 12, 0, 0, 0, 0) := fr fe_X8_state_1 5 rfl
theorem i_X8_state_12 : fetch 174 12 = some (.iload_n 2, 13, 0, 0, 0, 0) := fr fe_X8_state_1 6 rfl
theorem i_X8_state_13 : fetch 174 13 = some (.iconst 0, 14, 0, 0, 0, 0) := fr fe_X8_state_1 7 rfl
theorem i_X8_state_14 : fetch 174 14 = some (.bipush 7, 16, 0, 0, 0, 0) := fr fe_X8_state_1 8 rfl
theorem i_X8_state_16 : fetch 174 16 = some (.invokestatic 112, 19, 126, 0, 0, 1022) := fr fe_X8_state_1 9 rfl
theorem i_X8_state_19 : fetch 174 19 = some (.ifCond .ne 7, 22, 0, 0, 0, 0) := fr fe_X8_state_1 10 rfl
theorem i_X8_state_22 : fetch 174 22 = some (.ldc2_w 302, 25, 0, 0, (-7), 1393) := fr fe_X8_state_1 11 rfl
theorem i_X8_state_25 : fetch 174 25 = some (.lreturn, 26, 0, 0, 0, 0) := fr fe_X8_state_1 12 rfl
theorem i_X8_state_26 : fetch 174 26 = some (.aload_n 0, 27, 0, 0, 0, 0) := fr fe_X8_state_1 13 rfl
theorem i_X8_state_27 : fetch 174 27 = some (.iload_n 1, 28, 0, 0, 0, 0) := fr fe_X8_state_1 14 rfl
theorem i_X8_state_28 : fetch 174 28 = some (.invokevirtual 289, 31, 168, 0, 0, 1295) := fr fe_X8_state_1 15 rfl
theorem i_X8_state_31 : fetch 174 31 = some (.iconst 0, 32, 0, 0, 0, 0) := fr fe_X8_state_1 16 rfl
theorem i_X8_state_32 : fetch 174 32 = some (.istore_n 3, 33, 0, 0, 0, 0) := fr fe_X8_state_1 17 rfl
theorem i_X8_state_33 : fetch 174 33 = some (.iconst 0, 34, 0, 0, 0, 0) := fr fe_X8_state_1 18 rfl
theorem i_X8_state_34 : fetch 174 34 = some (.istore 4, 36, 0, 0, 0, 0) := fr fe_X8_state_1 19 rfl
theorem i_X8_state_36 : fetch 174 36 = some (.iload 4, 38, 0, 0, 0, 0) := fr fe_X8_state_1 20 rfl
theorem i_X8_state_38 : fetch 174 38 = some (.iload_n 1, 39, 0, 0, 0, 0) := fr fe_X8_state_1 21 rfl
theorem i_X8_state_39 : fetch 174 39 = some (.if_icmp .ge 18, 42, 0, 0, 0, 0) := fr fe_X8_state_1 22 rfl
theorem i_X8_state_42 : fetch 174 42 = some (.iload_n 3, 43, 0, 0, 0, 0) := fr fe_X8_state_1 23 rfl
theorem i_X8_state_43 : fetch 174 43 = some (.aload_n 0, 44, 0, 0, 0, 0) := fr fe_X8_state_1 24 rfl
theorem i_X8_state_44 : fetch 174 44 = some (.iload 4, 46, 0, 0, 0, 0) := fr fe_X8_state_2 0 rfl
theorem i_X8_state_46 : fetch 174 46 = some (.invokevirtual 199, 49, 152, 0, 0, 1283) := fr fe_X8_state_2 1 rfl
theorem i_X8_state_49 : fetch 174 49 = some (.iadd, 50, 0, 0, 0, 0) := fr fe_X8_state_2 2 rfl
theorem i_X8_state_50 : fetch 174 50 = some (.istore_n 3, 51, 0, 0, 0, 0) := fr fe_X8_state_2 3 rfl
theorem i_X8_state_51 : fetch 174 51 = some (.iinc 4 1, 54, 0, 0, 0, 0) := fr fe_X8_state_2 4 rfl
theorem i_X8_state_54 : fetch 174 54 = some (.goto (-18), 57, 0, 0, 0, 0) := fr fe_X8_state_2 5 rfl
theorem i_X8_state_57 : fetch 174 57 = some (.iload_n 2, 58, 0, 0, 0, 0) := fr fe_X8_state_2 6 rfl
theorem i_X8_state_58 : fetch 174 58 = some (.tableswitch 83 0 6 #[42, 48, 54, 60, 66, 71, 77], 100, 0, 0, 0, 0) := fr fe_X8_state_2 7 rfl
theorem i_X8_state_100 : fetch 174 100 = some (.aload_n 0, 101, 0, 0, 0, 0) := fr fe_X8_state_2 8 rfl
theorem i_X8_state_101 : fetch 174 101 = some (.invokevirtual 295, 104, 170, 0, 0, 1394) := fr fe_X8_state_2 9 rfl
theorem i_X8_state_104 : fetch 174 104 = some (.i2l, 105, 0, 0, 0, 0) := fr fe_X8_state_2 10 rfl
theorem i_X8_state_105 : fetch 174 105 = some (.lreturn, 106, 0, 0, 0, 0) := fr fe_X8_state_2 11 rfl
theorem i_X8_state_106 : fetch 174 106 = some (.aload_n 0, 107, 0, 0, 0, 0) := fr fe_X8_state_2 12 rfl
theorem i_X8_state_107 : fetch 174 107 = some (.invokevirtual 292, 110, 171, 0, 0, 1398) := fr fe_X8_state_2 13 rfl
theorem i_X8_state_110 : fetch 174 110 = some (.i2l, 111, 0, 0, 0, 0) := fr fe_X8_state_2 14 rfl
theorem i_X8_state_111 : fetch 174 111 = some (.lreturn, 112, 0, 0, 0, 0) := fr fe_X8_state_2 15 rfl
theorem i_X8_state_112 : fetch 174 112 = some (.aload_n 0, 113, 0, 0, 0, 0) := fr fe_X8_state_2 16 rfl
theorem i_X8_state_113 : fetch 174 113 = some (.invokevirtual 304, 116, 172, 0, 0, 1402) := fr fe_X8_state_2 17 rfl
theorem i_X8_state_116 : fetch 174 116 = some (.i2l, 117, 0, 0, 0, 0) := fr fe_X8_state_2 18 rfl
theorem i_X8_state_117 : fetch 174 117 = some (.lreturn, 118, 0, 0, 0, 0) := fr fe_X8_state_2 19 rfl
theorem i_X8_state_118 : fetch 174 118 = some (.aload_n 0, 119, 0, 0, 0, 0) := fr fe_X8_state_2 20 rfl
theorem i_X8_state_119 : fetch 174 119 = some (.getfield 205, 122, 8, 40, 0, 1117) := fr fe_X8_state_2 21 rfl
theorem i_X8_state_122 : fetch 174 122 = some (.i2l, 123, 0, 0, 0, 0) := fr fe_X8_state_2 22 rfl
theorem i_X8_state_123 : fetch 174 123 = some (.lreturn, 124, 0, 0, 0, 0) := fr fe_X8_state_2 23 rfl
theorem i_X8_state_124 : fetch 174 124 = some (.aload_n 0, 125, 0, 0, 0, 0) := fr fe_X8_state_2 24 rfl
theorem i_X8_state_125 : fetch 174 125 = some (.invokevirtual 307, 128, 173, 0, 0, 1406) := fr fe_X8_state_3 0 rfl
theorem i_X8_state_128 : fetch 174 128 = some (.lreturn, 129, 0, 0, 0, 0) := fr fe_X8_state_3 1 rfl
theorem i_X8_state_129 : fetch 174 129 = some (.aload_n 0, 130, 0, 0, 0, 0) := fr fe_X8_state_3 2 rfl
theorem i_X8_state_130 : fetch 174 130 = some (.getfield 208, 133, 8, 41, 0, 1118) := fr fe_X8_state_3 3 rfl
theorem i_X8_state_133 : fetch 174 133 = some (.i2l, 134, 0, 0, 0, 0) := fr fe_X8_state_3 4 rfl
theorem i_X8_state_134 : fetch 174 134 = some (.lreturn, 135, 0, 0, 0, 0) := fr fe_X8_state_3 5 rfl
theorem i_X8_state_135 : fetch 174 135 = some (.aload_n 0, 136, 0, 0, 0, 0) := fr fe_X8_state_3 6 rfl
theorem i_X8_state_136 : fetch 174 136 = some (.getfield 251, 139, 8, 42, 0, 1119) := fr fe_X8_state_3 7 rfl
theorem i_X8_state_139 : fetch 174 139 = some (.i2l, 140, 0, 0, 0, 0) := fr fe_X8_state_3 8 rfl
theorem i_X8_state_140 : fetch 174 140 = some (.lreturn, 141, 0, 0, 0, 0) := fr fe_X8_state_3 9 rfl
theorem i_X8_state_141 : fetch 174 141 = some (.iload_n 3, 142, 0, 0, 0, 0) := fr fe_X8_state_3 10 rfl
theorem i_X8_state_142 : fetch 174 142 = some (.i2l, 143, 0, 0, 0, 0) := fr fe_X8_state_3 11 rfl
theorem i_X8_state_143 : fetch 174 143 = some (.lreturn, 144, 0, 0, 0, 0) := fr fe_X8_state_3 12 rfl
theorem i_X8_both_0 : fetch 175 0 = some (.aload_n 0, 1, 0, 0, 0, 0) := fr fe_X8_both 0 rfl
theorem i_X8_both_1 : fetch 175 1 = some (.iload_n 1, 2, 0, 0, 0, 0) := fr fe_X8_both 1 rfl
theorem i_X8_both_2 : fetch 175 2 = some (.invokevirtual 289, 5, 168, 0, 0, 1295) := fr fe_X8_both 2 rfl
theorem i_X8_both_5 : fetch 175 5 = some (.aload_n 0, 6, 0, 0, 0, 0) := fr fe_X8_both 3 rfl
theorem i_X8_both_6 : fetch 175 6 = some (.getfield 240, 9, 8, 43, 0, 1120) := fr fe_X8_both 4 rfl
theorem i_X8_both_9 : fetch 175 9 = some (.aload_n 0, 10, 0, 0, 0, 0) := fr fe_X8_both 5 rfl
theorem i_X8_both_10 : fetch 175 10 = some (.getfield 248, 13, 8, 44, 0, 1121) := fr fe_X8_both 6 rfl
theorem i_X8_both_13 : fetch 175 13 = some (.lmul, 14, 0, 0, 0, 0) := fr fe_X8_both 7 rfl
theorem i_X8_both_14 : fetch 175 14 = some (.ldc2_w 275, 17, 0, 0, 1000000000, 1307) := fr fe_X8_both 8 rfl
theorem i_X8_both_17 : fetch 175 17 = some (.ldiv, 18, 0, 0, 0, 0) := fr fe_X8_both 9 rfl
theorem i_X8_both_18 : fetch 175 18 = some (.lreturn, 19, 0, 0, 0, 0) := fr fe_X8_both 10 rfl
theorem i_X8_whole_0 : fetch 176 0 = some (.aload_n 0, 1, 0, 0, 0, 0) := fr fe_X8_whole 0 rfl
theorem i_X8_whole_1 : fetch 176 1 = some (.iload_n 1, 2, 0, 0, 0, 0) := fr fe_X8_whole 1 rfl
theorem i_X8_whole_2 : fetch 176 2 = some (.invokevirtual 286, 5, 128, 0, 0, 1291) := fr fe_X8_whole 2 rfl
theorem i_X8_whole_5 : fetch 176 5 = some (.ifCond .eq 12, 8, 0, 0, 0, 0) := fr fe_X8_whole 3 rfl
theorem i_X8_whole_8 : fetch 176 8 = some (.iload_n 2, 9, 0, 0, 0, 0) := fr fe_X8_whole 4 rfl
theorem i_X8_whole_9 : fetch 176 9 = some (.iconst 0, 10, 0, 0, 0, 0) := fr fe_X8_whole 5 rfl
theorem i_X8_whole_10 : fetch 176 10 = some (.iconst 2, 11, 0, 0, 0, 0) := fr fe_X8_whole 6 rfl
theorem i_X8_whole_11 : fetch 176 11 = some (.invokestatic 112, 14, 126, 0, 0, 1022) := fr fe_X8_whole 7 rfl
theorem i_X8_whole_14 : fetch 176 14 = some (.ifCond .ne 7, 17, 0, 0, 0, 0) := fr fe_X8_whole 8 rfl
theorem i_X8_whole_17 : fetch 176 17 = some (.ldc2_w 311, 20, 0, 0, (-4611686018427387904), 1415) := fr fe_X8_whole 9 rfl
theorem i_X8_whole_20 : fetch 176 20 = some (.lreturn, 21, 0, 0, 0, 0) := fr fe_X8_whole 10 rfl
theorem i_X8_whole_21 : fetch 176 21 = some (.aload_n 0, 22, 0, 0, 0, 0) := fr fe_X8_whole 11 rfl
theorem i_X8_whole_22 : fetch 176 22 = some (.iload_n 1, 23, 0, 0, 0, 0) := fr fe_X8_whole 12 rfl
theorem i_X8_whole_23 : fetch 176 23 = some (.invokevirtual 313, 26, 175, 0, 0, 1416) := fr fe_X8_whole 13 rfl
theorem i_X8_whole_26 : fetch 176 26 = some (.lstore_n 3, 27, 0, 0, 0, 0) := fr fe_X8_whole 14 rfl
theorem i_X8_whole_27 : fetch 176 27 = some (.iload_n 2, 28, 0, 0, 0, 0) := fr fe_X8_whole 15 rfl
theorem i_X8_whole_28 : fetch 176 28 = some (.ifCond .ne 10, 31, 0, 0, 0, 0) := fr fe_X8_whole 16 rfl
theorem i_X8_whole_31 : fetch 176 31 = some (.aload_n 0, 32, 0, 0, 0, 0) := fr fe_X8_whole 17 rfl
theorem i_X8_whole_32 : fetch 176 32 = some (.getfield 240, 35, 8, 43, 0, 1120) := fr fe_X8_whole 18 rfl
theorem i_X8_whole_35 : fetch 176 35 = some (.goto 16, 38, 0, 0, 0, 0) := fr fe_X8_whole 19 rfl
theorem i_X8_whole_38 : fetch 176 38 = some (.iload_n 2, 39, 0, 0, 0, 0) := fr fe_X8_whole 20 rfl
theorem i_X8_whole_39 : fetch 176 39 = some (.iconst 1, 40, 0, 0, 0, 0) := fr fe_X8_whole 21 rfl
theorem i_X8_whole_40 : fetch 176 40 = some (.if_icmp .ne 10, 43, 0, 0, 0, 0) := fr fe_X8_whole 22 rfl
theorem i_X8_whole_43 : fetch 176 43 = some (.aload_n 0, 44, 0, 0, 0, 0) := fr fe_X8_whole 23 rfl
theorem i_X8_whole_44 : fetch 176 44 = some (.getfield 248, 47, 8, 44, 0, 1121) := fr fe_X8_whole 24 rfl
theorem i_X8_whole_47 : fetch 176 47 = some (.goto 4, 50, 0, 0, 0, 0) := fr fe_X8_whole 25 rfl
theorem i_X8_whole_50 : fetch 176 50 = some (.lload_n 3, 51, 0, 0, 0, 0) := fr fe_X8_whole 26 rfl
theorem i_X8_whole_51 : fetch 176 51 = some (.lreturn, 52, 0, 0, 0, 0) := fr fe_X8_whole 27 rfl
theorem i_X8_stop_0 : fetch 177 0 = some (.iload_n 1, 1, 0, 0, 0, 0) := fr fe_X8_stop 0 rfl
theorem i_X8_stop_1 : fetch 177 1 = some (.iconst 0, 2, 0, 0, 0, 0) := fr fe_X8_stop 1 rfl
theorem i_X8_stop_2 : fetch 177 2 = some (.bipush 100, 4, 0, 0, 0, 0) := fr fe_X8_stop 2 rfl
theorem i_X8_stop_4 : fetch 177 4 = some (.invokestatic 112, 7, 126, 0, 0, 1022) := fr fe_X8_stop 3 rfl
theorem i_X8_stop_7 : fetch 177 7 = some (.ifCond .ne 6, 10, 0, 0, 0, 0) := fr fe_X8_stop 4 rfl
theorem i_X8_stop_10 : fetch 177 10 = some (.bipush (-2), 12, 0, 0, 0, 0) := fr fe_X8_stop 5 rfl
theorem i_X8_stop_12 : fetch 177 12 = some (.ireturn, 13, 0, 0, 0, 0) := fr fe_X8_stop 6 rfl
theorem i_X8_stop_13 : fetch 177 13 = some (.aload_n 0, 14, 0, 0, 0, 0) := fr fe_X8_stop 7 rfl
theorem i_X8_stop_14 : fetch 177 14 = some (.getfield 116, 17, 8, 5, 0, 1066) := fr fe_X8_stop 8 rfl
theorem i_X8_stop_17 : fetch 177 17 = some (.istore_n 2, 18, 0, 0, 0, 0) := fr fe_X8_stop 9 rfl
theorem i_X8_stop_18 : fetch 177 18 = some (.iload_n 2, 19, 0, 0, 0, 0) := fr fe_X8_stop 10 rfl
theorem i_X8_stop_19 : fetch 177 19 = some (.ifCond .le 30, 22, 0, 0, 0, 0) := fr fe_X8_stop 11 rfl
theorem i_X8_stop_22 : fetch 177 22 = some (.aload_n 0, 23, 0, 0, 0, 0) := fr fe_X8_stop 12 rfl
theorem i_X8_stop_23 : fetch 177 23 = some (.iload_n 2, 24, 0, 0, 0, 0) := fr fe_X8_stop 13 rfl
theorem i_X8_stop_24 : fetch 177 24 = some (.invokevirtual 313, 27, 175, 0, 0, 1416) := fr fe_X8_stop 14 rfl
theorem i_X8_stop_27 : fetch 177 27 = some (.ldc2_w 243, 30, 0, 0, 100, 1363) := fr fe_X8_stop 15 rfl
theorem i_X8_stop_30 : fetch 177 30 = some (.lmul, 31, 0, 0, 0, 0) := fr fe_X8_stop 16 rfl
theorem i_X8_stop_31 : fetch 177 31 = some (.iload_n 1, 32, 0, 0, 0, 0) := fr fe_X8_stop 17 rfl
theorem i_X8_stop_32 : fetch 177 32 = some (.i2l, 33, 0, 0, 0, 0) := fr fe_X8_stop 18 rfl
theorem i_X8_stop_33 : fetch 177 33 = some (.ldc2_w 275, 36, 0, 0, 1000000000, 1307) := fr fe_X8_stop 19 rfl
theorem i_X8_stop_36 : fetch 177 36 = some (.lmul, 37, 0, 0, 0, 0) := fr fe_X8_stop 20 rfl
theorem i_X8_stop_37 : fetch 177 37 = some (.lcmp, 38, 0, 0, 0, 0) := fr fe_X8_stop 21 rfl
theorem i_X8_stop_38 : fetch 177 38 = some (.ifCond .lt 5, 41, 0, 0, 0, 0) := fr fe_X8_stop 22 rfl
theorem i_X8_stop_41 : fetch 177 41 = some (.iload_n 2, 42, 0, 0, 0, 0) := fr fe_X8_stop 23 rfl
theorem i_X8_stop_42 : fetch 177 42 = some (.ireturn, 43, 0, 0, 0, 0) := fr fe_X8_stop 24 rfl
theorem i_X8_stop_43 : fetch 177 43 = some (.iinc 2 (-1), 46, 0, 0, 0, 0) := fr fe_X8_stop 25 rfl
theorem i_X8_stop_46 : fetch 177 46 = some (.goto (-28), 49, 0, 0, 0, 0) := fr fe_X8_stop 26 rfl
theorem i_X8_stop_49 : fetch 177 49 = some (.iconst 0, 50, 0, 0, 0, 0) := fr fe_X8_stop 27 rfl
theorem i_X8_stop_50 : fetch 177 50 = some (.ireturn, 51, 0, 0, 0, 0) := fr fe_X8_stop 28 rfl
theorem i_X8_worst_0 : fetch 178 0 = some (.iconst (-1), 1, 0, 0, 0, 0) := fr fe_X8_worst_1 0 rfl
theorem i_X8_worst_1 : fetch 178 1 = some (.istore_n 1, 2, 0, 0, 0, 0) := fr fe_X8_worst_1 1 rfl
theorem i_X8_worst_2 : fetch 178 2 = some (.lconst 0, 3, 0, 0, 0, 0) := fr fe_X8_worst_1 2 rfl
theorem i_X8_worst_3 : fetch 178 3 = some (.lstore_n 2, 4, 0, 0, 0, 0) := fr fe_X8_worst_1 3 rfl
theorem i_X8_worst_4 : fetch 178 4 = some (.iconst 0, 5, 0, 0, 0, 0) := fr fe_X8_worst_1 4 rfl
theorem i_X8_worst_5 : fetch 178 5 = some (.istore 4, 7, 0, 0, 0, 0) := fr fe_X8_worst_1 5 rfl
theorem i_X8_worst_7 : fetch 178 7 = some (.iload 4, 9, 0, 0, 0, 0) := fr fe_X8_worst_1 6 rfl
theorem i_X8_worst_9 : fetch 178 9 = some (.aload_n 0, 10, 0, 0, 0, 0) := fr fe_X8_worst_1 7 rfl
theorem i_X8_worst_10 : fetch 178 10 = some (.getfield 116, 13, 8, 5, 0, 1066) := fr fe_X8_worst_1 8 rfl
theorem i_X8_worst_13 : fetch 178 13 = some (.if_icmp .ge 54, 16, 0, 0, 0, 0) := fr fe_X8_worst_1 9 rfl
theorem i_X8_worst_16 : fetch 178 16 = some (.aload_n 0, 17, 0, 0, 0, 0) := fr fe_X8_worst_1 10 rfl
theorem i_X8_worst_17 : fetch 178 17 = some (.iload 4, 19, 0, 0, 0, 0) := fr fe_X8_worst_1 11 rfl
theorem i_X8_worst_19 : fetch 178 19 = some (.invokevirtual 313, 22, 175, 0, 0, 1416) := fr fe_X8_worst_1 12 rfl
theorem i_X8_worst_22 : fetch 178 22 = some (.aload_n 0, 23, 0, 0, 0, 0) := fr fe_X8_worst_1 13 rfl
theorem i_X8_worst_23 : fetch 178 23 = some (.iload 4, 25, 0, 0, 0, 0) := fr fe_X8_worst_1 14 rfl
theorem i_X8_worst_25 : fetch 178 25 = some (.iconst 1, 26, 0, 0, 0, 0) := fr fe_X8_worst_1 15 rfl
theorem i_X8_worst_26 : fetch 178 26 = some (.iadd, 27, 0, 0, 0, 0) := fr fe_X8_worst_1 16 rfl
theorem i_X8_worst_27 : fetch 178 27 = some (.invokevirtual 313, 30, 175, 0, 0, 1416) := fr fe_X8_worst_1 17 rfl
theorem i_X8_worst_30 : fetch 178 30 = some (.lsub, 31, 0, 0, 0, 0) := fr fe_X8_worst_1 18 rfl
theorem i_X8_worst_31 : fetch 178 31 = some (.lstore 5, 33, 0, 0, 0, 0) := fr fe_X8_worst_1 19 rfl
theorem i_X8_worst_33 : fetch 178 33 = some (.lload 5, 35, 0, 0, 0, 0) := fr fe_X8_worst_1 20 rfl
theorem i_X8_worst_35 : fetch 178 35 = some (.lload_n 2, 36, 0, 0, 0, 0) := fr fe_X8_worst_1 21 rfl
theorem i_X8_worst_36 : fetch 178 36 = some (.lcmp, 37, 0, 0, 0, 0) := fr fe_X8_worst_1 22 rfl
theorem i_X8_worst_37 : fetch 178 37 = some (.ifCond .le 8, 40, 0, 0, 0, 0) := fr fe_X8_worst_1 23 rfl
theorem i_X8_worst_40 : fetch 178 40 = some (.iload 4, 42, 0, 0, 0, 0) := fr fe_X8_worst_1 24 rfl
theorem i_X8_worst_42 : fetch 178 42 = some (.goto 4, 45, 0, 0, 0, 0) := fr fe_X8_worst_2 0 rfl
theorem i_X8_worst_45 : fetch 178 45 = some (.iload_n 1, 46, 0, 0, 0, 0) := fr fe_X8_worst_2 1 rfl
theorem i_X8_worst_46 : fetch 178 46 = some (.istore_n 1, 47, 0, 0, 0, 0) := fr fe_X8_worst_2 2 rfl
theorem i_X8_worst_47 : fetch 178 47 = some (.lload 5, 49, 0, 0, 0, 0) := fr fe_X8_worst_2 3 rfl
theorem i_X8_worst_49 : fetch 178 49 = some (.lload_n 2, 50, 0, 0, 0, 0) := fr fe_X8_worst_2 4 rfl
theorem i_X8_worst_50 : fetch 178 50 = some (.lcmp, 51, 0, 0, 0, 0) := fr fe_X8_worst_2 5 rfl
theorem i_X8_worst_51 : fetch 178 51 = some (.ifCond .le 8, 54, 0, 0, 0, 0) := fr fe_X8_worst_2 6 rfl
theorem i_X8_worst_54 : fetch 178 54 = some (.lload 5, 56, 0, 0, 0, 0) := fr fe_X8_worst_2 7 rfl
theorem i_X8_worst_56 : fetch 178 56 = some (.goto 4, 59, 0, 0, 0, 0) := fr fe_X8_worst_2 8 rfl
theorem i_X8_worst_59 : fetch 178 59 = some (.lload_n 2, 60, 0, 0, 0, 0) := fr fe_X8_worst_2 9 rfl
theorem i_X8_worst_60 : fetch 178 60 = some (.lstore_n 2, 61, 0, 0, 0, 0) := fr fe_X8_worst_2 10 rfl
theorem i_X8_worst_61 : fetch 178 61 = some (.iinc 4 1, 64, 0, 0, 0, 0) := fr fe_X8_worst_2 11 rfl
theorem i_X8_worst_64 : fetch 178 64 = some (.goto (-57), 67, 0, 0, 0, 0) := fr fe_X8_worst_2 12 rfl
theorem i_X8_worst_67 : fetch 178 67 = some (.iload_n 1, 68, 0, 0, 0, 0) := fr fe_X8_worst_2 13 rfl
theorem i_X8_worst_68 : fetch 178 68 = some (.ireturn, 69, 0, 0, 0, 0) := fr fe_X8_worst_2 14 rfl
theorem i_X8_some_0 : fetch 179 0 = some (.iload_n 0, 1, 0, 0, 0, 0) := fr fe_X8_some 0 rfl
theorem i_X8_some_1 : fetch 179 1 = some (.iconst 1, 2, 0, 0, 0, 0) := fr fe_X8_some 1 rfl
theorem i_X8_some_2 : fetch 179 2 = some (.if_icmp .ge 7, 5, 0, 0, 0, 0) := fr fe_X8_some 2 rfl
theorem i_X8_some_5 : fetch 179 5 = some (.lconst 1, 6, 0, 0, 0, 0) := fr fe_X8_some 3 rfl
theorem i_X8_some_6 : fetch 179 6 = some (.goto 5, 9, 0, 0, 0, 0) := fr fe_X8_some 4 rfl
theorem i_X8_some_9 : fetch 179 9 = some (.iload_n 0, 10, 0, 0, 0, 0) := fr fe_X8_some 5 rfl
theorem i_X8_some_10 : fetch 179 10 = some (.i2l, 11, 0, 0, 0, 0) := fr fe_X8_some 6 rfl
theorem i_X8_some_11 : fetch 179 11 = some (.lreturn, 12, 0, 0, 0, 0) := fr fe_X8_some 7 rfl
theorem i_X8_window_0 : fetch 180 0 = some (.aload_n 0, 1, 0, 0, 0, 0) := fr fe_X8_window_1 0 rfl
theorem i_X8_window_1 : fetch 180 1 = some (.iload_n 1, 2, 0, 0, 0, 0) := fr fe_X8_window_1 1 rfl
theorem i_X8_window_2 : fetch 180 2 = some (.invokevirtual 286, 5, 128, 0, 0, 1291) := fr fe_X8_window_1 2 rfl
theorem i_X8_window_5 : fetch 180 5 = some (.ifCond .ne 6, 8, 0, 0, 0, 0) := fr fe_X8_window_1 3 rfl
theorem i_X8_window_8 : fetch 180 8 = some (.bipush (-5), 10, 0, 0, 0, 0) := fr fe_X8_window_1 4 rfl
theorem i_X8_window_10 : fetch 180 10 = some (.ireturn, 11, 0, 0, 0, 0) := fr fe_X8_window_1 5 rfl
theorem i_X8_window_11 : fetch 180 11 = some (.iload_n 2, 12, 0, 0, 0, 0) := fr fe_X8_window_1 6 rfl
theorem i_X8_window_12 : fetch 180 12 = some (.iconst 0, 13, 0, 0, 0, 0) := fr fe_X8_window_1 7 rfl
theorem i_X8_window_13 : fetch 180 13 = some (.bipush 9, 15, 0, 0, 0, 0) := fr fe_X8_window_1 8 rfl
theorem i_X8_window_15 : fetch 180 15 = some (.invokestatic 112, 18, 126, 0, 0, 1022) := fr fe_X8_window_1 9 rfl
theorem i_X8_window_18 : fetch 180 18 = some (.ifCond .ne 6, 21, 0, 0, 0, 0) := fr fe_X8_window_1 10 rfl
theorem i_X8_window_21 : fetch 180 21 = some (.bipush (-7), 23, 0, 0, 0, 0) := fr fe_X8_window_1 11 rfl
theorem i_X8_window_23 : fetch 180 23 = some (.ireturn, 24, 0, 0, 0, 0) := fr fe_X8_window_1 12 rfl
theorem i_X8_window_24 : fetch 180 24 = some (.aload_n 0, 25, 0, 0, 0, 0) := fr fe_X8_window_1 13 rfl
theorem i_X8_window_25 : fetch 180 25 = some (.iload_n 1, 26, 0, 0, 0, 0) := fr fe_X8_window_1 14 rfl
theorem i_X8_window_26 : fetch 180 26 = some (.invokevirtual 289, 29, 168, 0, 0, 1295) := fr fe_X8_window_1 15 rfl
theorem i_X8_window_29 : fetch 180 29 = some (.aload_n 0, 30, 0, 0, 0, 0) := fr fe_X8_window_1 16 rfl
theorem i_X8_window_30 : fetch 180 30 = some (.aload_n 0, 31, 0, 0, 0, 0) := fr fe_X8_window_1 17 rfl
theorem i_X8_window_31 : fetch 180 31 = some (.invokevirtual 292, 34, 171, 0, 0, 1398) := fr fe_X8_window_1 18 rfl
theorem i_X8_window_34 : fetch 180 34 = some (.invokevirtual 202, 37, 154, 0, 0, 1324) := fr fe_X8_window_1 19 rfl
theorem i_X8_window_37 : fetch 180 37 = some (.istore_n 3, 38, 0, 0, 0, 0) := fr fe_X8_window_1 20 rfl
theorem i_X8_window_38 : fetch 180 38 = some (.aload_n 0, 39, 0, 0, 0, 0) := fr fe_X8_window_1 21 rfl
theorem i_X8_window_39 : fetch 180 39 = some (.aload_n 0, 40, 0, 0, 0, 0) := fr fe_X8_window_1 22 rfl
theorem i_X8_window_40 : fetch 180 40 = some (.invokevirtual 295, 43, 170, 0, 0, 1394) := fr fe_X8_window_1 23 rfl
theorem i_X8_window_43 : fetch 180 43 = some (.invokevirtual 202, 46, 154, 0, 0, 1324) := fr fe_X8_window_1 24 rfl
theorem i_X8_window_46 : fetch 180 46 = some (.istore 4, 48, 0, 0, 0, 0) := fr fe_X8_window_2 0 rfl
theorem i_X8_window_48 : fetch 180 48 = some (.iconst 0, 49, 0, 0, 0, 0) := fr fe_X8_window_2 1 rfl
theorem i_X8_window_49 : fetch 180 49 = some (.istore 5, 51, 0, 0, 0, 0) := fr fe_X8_window_2 2 rfl
theorem i_X8_window_51 : fetch 180 51 = some (.iconst 1, 52, 0, 0, 0, 0) := fr fe_X8_window_2 3 rfl
theorem i_X8_window_52 : fetch 180 52 = some (.istore 6, 54, 0, 0, 0, 0) := fr fe_X8_window_2 4 rfl
theorem i_X8_window_54 : fetch 180 54 = some (.iload 6, 56, 0, 0, 0, 0) := fr fe_X8_window_2 5 rfl
theorem i_X8_window_56 : fetch 180 56 = some (.bipush 9, 58, 0, 0, 0, 0) := fr fe_X8_window_2 6 rfl
theorem i_X8_window_58 : fetch 180 58 = some (.if_icmp .gt 75, 61, 0, 0, 0, 0) := fr fe_X8_window_2 7 rfl
theorem i_X8_window_61 : fetch 180 61 = some (.aload_n 0, 62, 0, 0, 0, 0) := fr fe_X8_window_2 8 rfl
theorem i_X8_window_62 : fetch 180 62 = some (.iload_n 1, 63, 0, 0, 0, 0) := fr fe_X8_window_2 9 rfl
theorem i_X8_window_63 : fetch 180 63 = some (.invokevirtual 289, 66, 168, 0, 0, 1295) := fr fe_X8_window_2 10 rfl
theorem i_X8_window_66 : fetch 180 66 = some (.aload_n 0, 67, 0, 0, 0, 0) := fr fe_X8_window_2 11 rfl
theorem i_X8_window_67 : fetch 180 67 = some (.aload_n 0, 68, 0, 0, 0, 0) := fr fe_X8_window_2 12 rfl
theorem i_X8_window_68 : fetch 180 68 = some (.invokevirtual 254, 71, 156, 0, 0, 1312) := fr fe_X8_window_2 13 rfl
theorem i_X8_window_71 : fetch 180 71 = some (.iload_n 2, 72, 0, 0, 0, 0) := fr fe_X8_window_2 14 rfl
theorem i_X8_window_72 : fetch 180 72 = some (.imul, 73, 0, 0, 0, 0) := fr fe_X8_window_2 15 rfl
theorem i_X8_window_73 : fetch 180 73 = some (.bipush 10, 75, 0, 0, 0, 0) := fr fe_X8_window_2 16 rfl
theorem i_X8_window_75 : fetch 180 75 = some (.idiv, 76, 0, 0, 0, 0) := fr fe_X8_window_2 17 rfl
theorem i_X8_window_76 : fetch 180 76 = some (.iload 6, 78, 0, 0, 0, 0) := fr fe_X8_window_2 18 rfl
theorem i_X8_window_78 : fetch 180 78 = some (.invokevirtual 257, 81, 158, 0, 0, 1316) := fr fe_X8_window_2 19 rfl
theorem i_X8_window_81 : fetch 180 81 = some (.iload 5, 83, 0, 0, 0, 0) := fr fe_X8_window_2 20 rfl
theorem i_X8_window_83 : fetch 180 83 = some (.aload_n 0, 84, 0, 0, 0, 0) := fr fe_X8_window_2 21 rfl
theorem i_X8_window_84 : fetch 180 84 = some (.aload_n 0, 85, 0, 0, 0, 0) := fr fe_X8_window_2 22 rfl
theorem i_X8_window_85 : fetch 180 85 = some (.invokevirtual 292, 88, 171, 0, 0, 1398) := fr fe_X8_window_2 23 rfl
theorem i_X8_window_88 : fetch 180 88 = some (.invokevirtual 202, 91, 154, 0, 0, 1324) := fr fe_X8_window_2 24 rfl
theorem i_X8_window_91 : fetch 180 91 = some (.i2l, 92, 0, 0, 0, 0) := fr fe_X8_window_3 0 rfl
theorem i_X8_window_92 : fetch 180 92 = some (.iload 4, 94, 0, 0, 0, 0) := fr fe_X8_window_3 1 rfl
theorem i_X8_window_94 : fetch 180 94 = some (.invokestatic 317, 97, 179, 0, 0, 1432) := fr fe_X8_window_3 2 rfl
theorem i_X8_window_97 : fetch 180 97 = some (.lmul, 98, 0, 0, 0, 0) := fr fe_X8_window_3 3 rfl
theorem i_X8_window_98 : fetch 180 98 = some (.iload_n 3, 99, 0, 0, 0, 0) := fr fe_X8_window_3 4 rfl
theorem i_X8_window_99 : fetch 180 99 = some (.i2l, 100, 0, 0, 0, 0) := fr fe_X8_window_3 5 rfl
theorem i_X8_window_100 : fetch 180 100 = some (.aload_n 0, 101, 0, 0, 0, 0) := fr fe_X8_window_3 6 rfl
theorem i_X8_window_101 : fetch 180 101 = some (.aload_n 0, 102, 0, 0, 0, 0) := fr fe_X8_window_3 7 rfl
theorem i_X8_window_102 : fetch 180 102 = some (.invokevirtual 295, 105, 170, 0, 0, 1394) := fr fe_X8_window_3 8 rfl
theorem i_X8_window_105 : fetch 180 105 = some (.invokevirtual 202, 108, 154, 0, 0, 1324) := fr fe_X8_window_3 9 rfl
theorem i_X8_window_108 : fetch 180 108 = some (.invokestatic 317, 111, 179, 0, 0, 1432) := fr fe_X8_window_3 10 rfl
theorem i_X8_window_111 : fetch 180 111 = some (.lmul, 112, 0, 0, 0, 0) := fr fe_X8_window_3 11 rfl
theorem i_X8_window_112 : fetch 180 112 = some (.lcmp, 113, 0, 0, 0, 0) := fr fe_X8_window_3 12 rfl
theorem i_X8_window_113 : fetch 180 113 = some (.ifCond .ge 10, 116, 0, 0, 0, 0) := fr fe_X8_window_3 13 rfl
theorem i_X8_window_116 : fetch 180 116 = some (.iconst 1, 117, 0, 0, 0, 0) := fr fe_X8_window_3 14 rfl
theorem i_X8_window_117 : fetch 180 117 = some (.iload 6, 119, 0, 0, 0, 0) := fr fe_X8_window_3 15 rfl
theorem i_X8_window_119 : fetch 180 119 = some (.ishl, 120, 0, 0, 0, 0) := fr fe_X8_window_3 16 rfl
theorem i_X8_window_120 : fetch 180 120 = some (.goto 4, 123, 0, 0, 0, 0) := fr fe_X8_window_3 17 rfl
theorem i_X8_window_123 : fetch 180 123 = some (.iconst 0, 124, 0, 0, 0, 0) := fr fe_X8_window_3 18 rfl
theorem i_X8_window_124 : fetch 180 124 = some (.ior, 125, 0, 0, 0, 0) := fr fe_X8_window_3 19 rfl
theorem i_X8_window_125 : fetch 180 125 = some (.istore 5, 127, 0, 0, 0, 0) := fr fe_X8_window_3 20 rfl
theorem i_X8_window_127 : fetch 180 127 = some (.iinc 6 1, 130, 0, 0, 0, 0) := fr fe_X8_window_3 21 rfl
theorem i_X8_window_130 : fetch 180 130 = some (.goto (-76), 133, 0, 0, 0, 0) := fr fe_X8_window_3 22 rfl
theorem i_X8_window_133 : fetch 180 133 = some (.iload 5, 135, 0, 0, 0, 0) := fr fe_X8_window_3 23 rfl
theorem i_X8_window_135 : fetch 180 135 = some (.ireturn, 136, 0, 0, 0, 0) := fr fe_X8_window_3 24 rfl
theorem i_X8_pace_0 : fetch 181 0 = some (.aload_n 0, 1, 0, 0, 0, 0) := fr fe_X8_pace_1 0 rfl
theorem i_X8_pace_1 : fetch 181 1 = some (.iload_n 1, 2, 0, 0, 0, 0) := fr fe_X8_pace_1 1 rfl
theorem i_X8_pace_2 : fetch 181 2 = some (.invokevirtual 286, 5, 128, 0, 0, 1291) := fr fe_X8_pace_1 2 rfl
theorem i_X8_pace_5 : fetch 181 5 = some (.ifCond .ne 6, 8, 0, 0, 0, 0) := fr fe_X8_pace_1 3 rfl
theorem i_X8_pace_8 : fetch 181 8 = some (.bipush (-5), 10, 0, 0, 0, 0) := fr fe_X8_pace_1 4 rfl
theorem i_X8_pace_10 : fetch 181 10 = some (.ireturn, 11, 0, 0, 0, 0) := fr fe_X8_pace_1 5 rfl
theorem i_X8_pace_11 : fetch 181 11 = some (.iload_n 2, 12, 0, 0, 0, 0) := fr fe_X8_pace_1 6 rfl
theorem i_X8_pace_12 : fetch 181 12 = some (.iconst 0, 13, 0, 0, 0, 0) := fr fe_X8_pace_1 7 rfl
theorem i_X8_pace_13 : fetch 181 13 = some (.bipush 9, 15, 0, 0, 0, 0) := fr fe_X8_pace_1 8 rfl
theorem i_X8_pace_15 : fetch 181 15 = some (.invokestatic 112, 18, 126, 0, 0, 1022) := fr fe_X8_pace_1 9 rfl
theorem i_X8_pace_18 : fetch 181 18 = some (.ifCond .eq 12, 21, 0, 0, 0, 0) := fr fe_X8_pace_1 10 rfl
theorem i_X8_pace_21 : fetch 181 21 = some (.iload_n 3, 22, 0, 0, 0, 0) := fr fe_X8_pace_1 11 rfl
theorem i_X8_pace_22 : fetch 181 22 = some (.iconst 0, 23, 0, 0, 0, 0) := fr fe_X8_pace_1 12 rfl
theorem i_X8_pace_23 : fetch 181 23 = some (.iconst 1, 24, 0, 0, 0, 0) := fr fe_X8_pace_1 13 rfl
theorem i_X8_pace_24 : fetch 181 24 = some (.invokestatic 112, 27, 126, 0, 0, 1022) := fr fe_X8_pace_1 14 rfl
theorem i_X8_pace_27 : fetch 181 27 = some (.ifCond .ne 6, 30, 0, 0, 0, 0) := fr fe_X8_pace_1 15 rfl
theorem i_X8_pace_30 : fetch 181 30 = some (.bipush (-7), 32, 0, 0, 0, 0) := fr fe_X8_pace_1 16 rfl
theorem i_X8_pace_32 : fetch 181 32 = some (.ireturn, 33, 0, 0, 0, 0) := fr fe_X8_pace_1 17 rfl
theorem i_X8_pace_33 : fetch 181 33 = some (.iconst 0, 34, 0, 0, 0, 0) := fr fe_X8_pace_1 18 rfl
theorem i_X8_pace_34 : fetch 181 34 = some (.istore 4, 36, 0, 0, 0, 0) := fr fe_X8_pace_1 19 rfl
theorem i_X8_pace_36 : fetch 181 36 = some (.lconst 0, 37, 0, 0, 0, 0) := fr fe_X8_pace_1 20 rfl
theorem i_X8_pace_37 : fetch 181 37 = some (.lstore 5, 39, 0, 0, 0, 0) := fr fe_X8_pace_1 21 rfl
theorem i_X8_pace_39 : fetch 181 39 = some (.iconst 1, 40, 0, 0, 0, 0) := fr fe_X8_pace_1 22 rfl
theorem i_X8_pace_40 : fetch 181 40 = some (.istore 7, 42, 0, 0, 0, 0) := fr fe_X8_pace_1 23 rfl
theorem i_X8_pace_42 : fetch 181 42 = some (.iload 7, 44, 0, 0, 0, 0) := fr fe_X8_pace_1 24 rfl
theorem i_X8_pace_44 : fetch 181 44 = some (.bipush 9, 46, 0, 0, 0, 0) := fr fe_X8_pace_2 0 rfl
theorem i_X8_pace_46 : fetch 181 46 = some (.if_icmp .gt 69, 49, 0, 0, 0, 0) := fr fe_X8_pace_2 1 rfl
theorem i_X8_pace_49 : fetch 181 49 = some (.aload_n 0, 50, 0, 0, 0, 0) := fr fe_X8_pace_2 2 rfl
theorem i_X8_pace_50 : fetch 181 50 = some (.iload_n 1, 51, 0, 0, 0, 0) := fr fe_X8_pace_2 3 rfl
theorem i_X8_pace_51 : fetch 181 51 = some (.invokevirtual 289, 54, 168, 0, 0, 1295) := fr fe_X8_pace_2 4 rfl
theorem i_X8_pace_54 : fetch 181 54 = some (.aload_n 0, 55, 0, 0, 0, 0) := fr fe_X8_pace_2 5 rfl
theorem i_X8_pace_55 : fetch 181 55 = some (.aload_n 0, 56, 0, 0, 0, 0) := fr fe_X8_pace_2 6 rfl
theorem i_X8_pace_56 : fetch 181 56 = some (.invokevirtual 254, 59, 156, 0, 0, 1312) := fr fe_X8_pace_2 7 rfl
theorem i_X8_pace_59 : fetch 181 59 = some (.iload_n 2, 60, 0, 0, 0, 0) := fr fe_X8_pace_2 8 rfl
theorem i_X8_pace_60 : fetch 181 60 = some (.imul, 61, 0, 0, 0, 0) := fr fe_X8_pace_2 9 rfl
theorem i_X8_pace_61 : fetch 181 61 = some (.bipush 10, 63, 0, 0, 0, 0) := fr fe_X8_pace_2 10 rfl
theorem i_X8_pace_63 : fetch 181 63 = some (.idiv, 64, 0, 0, 0, 0) := fr fe_X8_pace_2 11 rfl
theorem i_X8_pace_64 : fetch 181 64 = some (.iload 7, 66, 0, 0, 0, 0) := fr fe_X8_pace_2 12 rfl
theorem i_X8_pace_66 : fetch 181 66 = some (.invokevirtual 257, 69, 158, 0, 0, 1316) := fr fe_X8_pace_2 13 rfl
theorem i_X8_pace_69 : fetch 181 69 = some (.iload_n 3, 70, 0, 0, 0, 0) := fr fe_X8_pace_2 14 rfl
theorem i_X8_pace_70 : fetch 181 70 = some (.ifCond .ne 10, 73, 0, 0, 0, 0) := fr fe_X8_pace_2 15 rfl
theorem i_X8_pace_73 : fetch 181 73 = some (.aload_n 0, 74, 0, 0, 0, 0) := fr fe_X8_pace_2 16 rfl
theorem i_X8_pace_74 : fetch 181 74 = some (.getfield 240, 77, 8, 43, 0, 1120) := fr fe_X8_pace_2 17 rfl
theorem i_X8_pace_77 : fetch 181 77 = some (.goto 9, 80, 0, 0, 0, 0) := fr fe_X8_pace_2 18 rfl
theorem i_X8_pace_80 : fetch 181 80 = some (.aload_n 0, 81, 0, 0, 0, 0) := fr fe_X8_pace_2 19 rfl
theorem i_X8_pace_81 : fetch 181 81 = some (.invokevirtual 304, 84, 172, 0, 0, 1402) := fr fe_X8_pace_2 20 rfl
theorem i_X8_pace_84 : fetch 181 84 = some (.ineg, 85, 0, 0, 0, 0) := fr fe_X8_pace_2 21 rfl
theorem i_X8_pace_85 : fetch 181 85 = some (.i2l, 86, 0, 0, 0, 0) := fr fe_X8_pace_2 22 rfl
theorem i_X8_pace_86 : fetch 181 86 = some (.lstore 8, 88, 0, 0, 0, 0) := fr fe_X8_pace_2 23 rfl
theorem i_X8_pace_88 : fetch 181 88 = some (.iload 4, 90, 0, 0, 0, 0) := fr fe_X8_pace_2 24 rfl
theorem i_X8_pace_90 : fetch 181 90 = some (.ifCond .eq 11, 93, 0, 0, 0, 0) := fr fe_X8_pace_3 0 rfl
theorem i_X8_pace_93 : fetch 181 93 = some (.lload 8, 95, 0, 0, 0, 0) := fr fe_X8_pace_3 1 rfl
theorem i_X8_pace_95 : fetch 181 95 = some (.lload 5, 97, 0, 0, 0, 0) := fr fe_X8_pace_3 2 rfl
theorem i_X8_pace_97 : fetch 181 97 = some (.lcmp, 98, 0, 0, 0, 0) := fr fe_X8_pace_3 3 rfl
theorem i_X8_pace_98 : fetch 181 98 = some (.ifCond .le 11, 101, 0, 0, 0, 0) := fr fe_X8_pace_3 4 rfl
theorem i_X8_pace_101 : fetch 181 101 = some (.iload 7, 103, 0, 0, 0, 0) := fr fe_X8_pace_3 5 rfl
theorem i_X8_pace_103 : fetch 181 103 = some (.istore 4, 105, 0, 0, 0, 0) := fr fe_X8_pace_3 6 rfl
theorem i_X8_pace_105 : fetch 181 105 = some (.lload 8, 107, 0, 0, 0, 0) := fr fe_X8_pace_3 7 rfl
theorem i_X8_pace_107 : fetch 181 107 = some (.lstore 5, 109, 0, 0, 0, 0) := fr fe_X8_pace_3 8 rfl
theorem i_X8_pace_109 : fetch 181 109 = some (.iinc 7 1, 112, 0, 0, 0, 0) := fr fe_X8_pace_3 9 rfl
theorem i_X8_pace_112 : fetch 181 112 = some (.goto (-70), 115, 0, 0, 0, 0) := fr fe_X8_pace_3 10 rfl
theorem i_X8_pace_115 : fetch 181 115 = some (.iload 4, 117, 0, 0, 0, 0) := fr fe_X8_pace_3 11 rfl
theorem i_X8_pace_117 : fetch 181 117 = some (.ireturn, 118, 0, 0, 0, 0) := fr fe_X8_pace_3 12 rfl
theorem i_X8_rest_0 : fetch 182 0 = some (.aload_n 0, 1, 0, 0, 0, 0) := fr fe_X8_rest_1 0 rfl
theorem i_X8_rest_1 : fetch 182 1 = some (.iload_n 1, 2, 0, 0, 0, 0) := fr fe_X8_rest_1 1 rfl
theorem i_X8_rest_2 : fetch 182 2 = some (.invokevirtual 286, 5, 128, 0, 0, 1291) := fr fe_X8_rest_1 2 rfl
theorem i_X8_rest_5 : fetch 182 5 = some (.ifCond .ne 6, 8, 0, 0, 0, 0) := fr fe_X8_rest_1 3 rfl
theorem i_X8_rest_8 : fetch 182 8 = some (.bipush (-5), 10, 0, 0, 0, 0) := fr fe_X8_rest_1 4 rfl
theorem i_X8_rest_10 : fetch 182 10 = some (.ireturn, 11, 0, 0, 0, 0) := fr fe_X8_rest_1 5 rfl
theorem i_X8_rest_11 : fetch 182 11 = some (.iload_n 2, 12, 0, 0, 0, 0) := fr fe_X8_rest_1 6 rfl
theorem i_X8_rest_12 : fetch 182 12 = some (.iconst 0, 13, 0, 0, 0, 0) := fr fe_X8_rest_1 7 rfl
theorem i_X8_rest_13 : fetch 182 13 = some (.bipush 99, 15, 0, 0, 0, 0) := fr fe_X8_rest_1 8 rfl
theorem i_X8_rest_15 : fetch 182 15 = some (.invokestatic 112, 18, 126, 0, 0, 1022) := fr fe_X8_rest_1 9 rfl
theorem i_X8_rest_18 : fetch 182 18 = some (.ifCond .eq 20, 21, 0, 0, 0, 0) := fr fe_X8_rest_1 10 rfl
theorem i_X8_rest_21 : fetch 182 21 = some (.iload_n 2, 22, 0, 0, 0, 0) := fr fe_X8_rest_1 11 rfl
theorem i_X8_rest_22 : fetch 182 22 = some (.bipush 10, 24, 0, 0, 0, 0) := fr fe_X8_rest_1 12 rfl
theorem i_X8_rest_24 : fetch 182 24 = some (.irem, 25, 0, 0, 0, 0) := fr fe_X8_rest_1 13 rfl
theorem i_X8_rest_25 : fetch 182 25 = some (.ifCond .eq 13, 28, 0, 0, 0, 0) := fr fe_X8_rest_1 14 rfl
theorem i_X8_rest_28 : fetch 182 28 = some (.iload_n 3, 29, 0, 0, 0, 0) := fr fe_X8_rest_1 15 rfl
theorem i_X8_rest_29 : fetch 182 29 = some (.iconst 0, 30, 0, 0, 0, 0) := fr fe_X8_rest_1 16 rfl
theorem i_X8_rest_30 : fetch 182 30 = some (.bipush 100, 32, 0, 0, 0, 0) := fr fe_X8_rest_1 17 rfl
theorem i_X8_rest_32 : fetch 182 32 = some (.invokestatic 112, 35, 126, 0, 0, 1022) := fr fe_X8_rest_1 18 rfl
theorem i_X8_rest_35 : fetch 182 35 = some (.ifCond .ne 6, 38, 0, 0, 0, 0) := fr fe_X8_rest_1 19 rfl
theorem i_X8_rest_38 : fetch 182 38 = some (.bipush (-7), 40, 0, 0, 0, 0) := fr fe_X8_rest_1 20 rfl
theorem i_X8_rest_40 : fetch 182 40 = some (.ireturn, 41, 0, 0, 0, 0) := fr fe_X8_rest_1 21 rfl
theorem i_X8_rest_41 : fetch 182 41 = some (.iconst 0, 42, 0, 0, 0, 0) := fr fe_X8_rest_1 22 rfl
theorem i_X8_rest_42 : fetch 182 42 = some (.istore 4, 44, 0, 0, 0, 0) := fr fe_X8_rest_1 23 rfl
theorem i_X8_rest_44 : fetch 182 44 = some (.iload 4, 46, 0, 0, 0, 0) := fr fe_X8_rest_1 24 rfl
theorem i_X8_rest_46 : fetch 182 46 = some (.bipush 30, 48, 0, 0, 0, 0) := fr fe_X8_rest_2 0 rfl
theorem i_X8_rest_48 : fetch 182 48 = some (.if_icmp .gt 66, 51, 0, 0, 0, 0) := fr fe_X8_rest_2 1 rfl
theorem i_X8_rest_51 : fetch 182 51 = some (.aload_n 0, 52, 0, 0, 0, 0) := fr fe_X8_rest_2 2 rfl
theorem i_X8_rest_52 : fetch 182 52 = some (.iload_n 1, 53, 0, 0, 0, 0) := fr fe_X8_rest_2 3 rfl
theorem i_X8_rest_53 : fetch 182 53 = some (.invokevirtual 289, 56, 168, 0, 0, 1295) := fr fe_X8_rest_2 4 rfl
theorem i_X8_rest_56 : fetch 182 56 = some (.aload_n 0, 57, 0, 0, 0, 0) := fr fe_X8_rest_2 5 rfl
theorem i_X8_rest_57 : fetch 182 57 = some (.getfield 240, 60, 8, 43, 0, 1120) := fr fe_X8_rest_2 6 rfl
theorem i_X8_rest_60 : fetch 182 60 = some (.lstore 5, 62, 0, 0, 0, 0) := fr fe_X8_rest_2 7 rfl
theorem i_X8_rest_62 : fetch 182 62 = some (.aload_n 0, 63, 0, 0, 0, 0) := fr fe_X8_rest_2 8 rfl
theorem i_X8_rest_63 : fetch 182 63 = some (.iload 4, 65, 0, 0, 0, 0) := fr fe_X8_rest_2 9 rfl
theorem i_X8_rest_65 : fetch 182 65 = some (.invokevirtual 272, 68, 163, 0, 0, 1384) := fr fe_X8_rest_2 10 rfl
theorem i_X8_rest_68 : fetch 182 68 = some (.aload_n 0, 69, 0, 0, 0, 0) := fr fe_X8_rest_2 11 rfl
theorem i_X8_rest_69 : fetch 182 69 = some (.aload_n 0, 70, 0, 0, 0, 0) := fr fe_X8_rest_2 12 rfl
theorem i_X8_rest_70 : fetch 182 70 = some (.invokevirtual 254, 73, 156, 0, 0, 1312) := fr fe_X8_rest_2 13 rfl
theorem i_X8_rest_73 : fetch 182 73 = some (.iload_n 2, 74, 0, 0, 0, 0) := fr fe_X8_rest_2 14 rfl
theorem i_X8_rest_74 : fetch 182 74 = some (.bipush 10, 76, 0, 0, 0, 0) := fr fe_X8_rest_2 15 rfl
theorem i_X8_rest_76 : fetch 182 76 = some (.idiv, 77, 0, 0, 0, 0) := fr fe_X8_rest_2 16 rfl
theorem i_X8_rest_77 : fetch 182 77 = some (.imul, 78, 0, 0, 0, 0) := fr fe_X8_rest_2 17 rfl
theorem i_X8_rest_78 : fetch 182 78 = some (.bipush 10, 80, 0, 0, 0, 0) := fr fe_X8_rest_2 18 rfl
theorem i_X8_rest_80 : fetch 182 80 = some (.idiv, 81, 0, 0, 0, 0) := fr fe_X8_rest_2 19 rfl
theorem i_X8_rest_81 : fetch 182 81 = some (.iload_n 2, 82, 0, 0, 0, 0) := fr fe_X8_rest_2 20 rfl
theorem i_X8_rest_82 : fetch 182 82 = some (.bipush 10, 84, 0, 0, 0, 0) := fr fe_X8_rest_2 21 rfl
theorem i_X8_rest_84 : fetch 182 84 = some (.irem, 85, 0, 0, 0, 0) := fr fe_X8_rest_2 22 rfl
theorem i_X8_rest_85 : fetch 182 85 = some (.invokevirtual 257, 88, 158, 0, 0, 1316) := fr fe_X8_rest_2 23 rfl
theorem i_X8_rest_88 : fetch 182 88 = some (.aload_n 0, 89, 0, 0, 0, 0) := fr fe_X8_rest_2 24 rfl
theorem i_X8_rest_89 : fetch 182 89 = some (.getfield 240, 92, 8, 43, 0, 1120) := fr fe_X8_rest_3 0 rfl
theorem i_X8_rest_92 : fetch 182 92 = some (.ldc2_w 243, 95, 0, 0, 100, 1363) := fr fe_X8_rest_3 1 rfl
theorem i_X8_rest_95 : fetch 182 95 = some (.lmul, 96, 0, 0, 0, 0) := fr fe_X8_rest_3 2 rfl
theorem i_X8_rest_96 : fetch 182 96 = some (.iload_n 3, 97, 0, 0, 0, 0) := fr fe_X8_rest_3 3 rfl
theorem i_X8_rest_97 : fetch 182 97 = some (.i2l, 98, 0, 0, 0, 0) := fr fe_X8_rest_3 4 rfl
theorem i_X8_rest_98 : fetch 182 98 = some (.lload 5, 100, 0, 0, 0, 0) := fr fe_X8_rest_3 5 rfl
theorem i_X8_rest_100 : fetch 182 100 = some (.lmul, 101, 0, 0, 0, 0) := fr fe_X8_rest_3 6 rfl
theorem i_X8_rest_101 : fetch 182 101 = some (.lcmp, 102, 0, 0, 0, 0) := fr fe_X8_rest_3 7 rfl
theorem i_X8_rest_102 : fetch 182 102 = some (.ifCond .lt 6, 105, 0, 0, 0, 0) := fr fe_X8_rest_3 8 rfl
theorem i_X8_rest_105 : fetch 182 105 = some (.iload 4, 107, 0, 0, 0, 0) := fr fe_X8_rest_3 9 rfl
theorem i_X8_rest_107 : fetch 182 107 = some (.ireturn, 108, 0, 0, 0, 0) := fr fe_X8_rest_3 10 rfl
theorem i_X8_rest_108 : fetch 182 108 = some (.iinc 4 1, 111, 0, 0, 0, 0) := fr fe_X8_rest_3 11 rfl
theorem i_X8_rest_111 : fetch 182 111 = some (.goto (-67), 114, 0, 0, 0, 0) := fr fe_X8_rest_3 12 rfl
theorem i_X8_rest_114 : fetch 182 114 = some (.iconst (-1), 115, 0, 0, 0, 0) := fr fe_X8_rest_3 13 rfl
theorem i_X8_rest_115 : fetch 182 115 = some (.ireturn, 116, 0, 0, 0, 0) := fr fe_X8_rest_3 14 rfl
theorem i_X8_dust_0 : fetch 183 0 = some (.aload_n 0, 1, 0, 0, 0, 0) := fr fe_X8_dust_1 0 rfl
theorem i_X8_dust_1 : fetch 183 1 = some (.iload_n 1, 2, 0, 0, 0, 0) := fr fe_X8_dust_1 1 rfl
theorem i_X8_dust_2 : fetch 183 2 = some (.invokevirtual 286, 5, 128, 0, 0, 1291) := fr fe_X8_dust_1 2 rfl
theorem i_X8_dust_5 : fetch 183 5 = some (.ifCond .ne 6, 8, 0, 0, 0, 0) := fr fe_X8_dust_1 3 rfl
theorem i_X8_dust_8 : fetch 183 8 = some (.bipush (-5), 10, 0, 0, 0, 0) := fr fe_X8_dust_1 4 rfl
theorem i_X8_dust_10 : fetch 183 10 = some (.ireturn, 11, 0, 0, 0, 0) := fr fe_X8_dust_1 5 rfl
theorem i_X8_dust_11 : fetch 183 11 = some (.iload_n 2, 12, 0, 0, 0, 0) := fr fe_X8_dust_1 6 rfl
theorem i_X8_dust_12 : fetch 183 12 = some (.iconst 0, 13, 0, 0, 0, 0) := fr fe_X8_dust_1 7 rfl
theorem i_X8_dust_13 : fetch 183 13 = some (.bipush 100, 15, 0, 0, 0, 0) := fr fe_X8_dust_1 8 rfl
theorem i_X8_dust_15 : fetch 183 15 = some (.invokestatic 112, 18, 126, 0, 0, 1022) := fr fe_X8_dust_1 9 rfl
theorem i_X8_dust_18 : fetch 183 18 = some (.ifCond .ne 6, 21, 0, 0, 0, 0) := fr fe_X8_dust_1 10 rfl
theorem i_X8_dust_21 : fetch 183 21 = some (.bipush (-7), 23, 0, 0, 0, 0) := fr fe_X8_dust_1 11 rfl
theorem i_X8_dust_23 : fetch 183 23 = some (.ireturn, 24, 0, 0, 0, 0) := fr fe_X8_dust_1 12 rfl
theorem i_X8_dust_24 : fetch 183 24 = some (.iconst 0, 25, 0, 0, 0, 0) := fr fe_X8_dust_1 13 rfl
theorem i_X8_dust_25 : fetch 183 25 = some (.istore_n 3, 26, 0, 0, 0, 0) := fr fe_X8_dust_1 14 rfl
theorem i_X8_dust_26 : fetch 183 26 = some (.iload_n 3, 27, 0, 0, 0, 0) := fr fe_X8_dust_1 15 rfl
theorem i_X8_dust_27 : fetch 183 27 = some (.bipush 99, 29, 0, 0, 0, 0) := fr fe_X8_dust_1 16 rfl
theorem i_X8_dust_29 : fetch 183 29 = some (.if_icmp .gt 51, 32, 0, 0, 0, 0) := fr fe_X8_dust_1 17 rfl
theorem i_X8_dust_32 : fetch 183 32 = some (.aload_n 0, 33, 0, 0, 0, 0) := fr fe_X8_dust_1 18 rfl
theorem i_X8_dust_33 : fetch 183 33 = some (.iload_n 1, 34, 0, 0, 0, 0) := fr fe_X8_dust_1 19 rfl
theorem i_X8_dust_34 : fetch 183 34 = some (.invokevirtual 289, 37, 168, 0, 0, 1295) := fr fe_X8_dust_1 20 rfl
theorem i_X8_dust_37 : fetch 183 37 = some (.aload_n 0, 38, 0, 0, 0, 0) := fr fe_X8_dust_1 21 rfl
theorem i_X8_dust_38 : fetch 183 38 = some (.getfield 248, 41, 8, 44, 0, 1121) := fr fe_X8_dust_1 22 rfl
theorem i_X8_dust_41 : fetch 183 41 = some (.lstore 4, 43, 0, 0, 0, 0) := fr fe_X8_dust_1 23 rfl
theorem i_X8_dust_43 : fetch 183 43 = some (.aload_n 0, 44, 0, 0, 0, 0) := fr fe_X8_dust_1 24 rfl
theorem i_X8_dust_44 : fetch 183 44 = some (.iload_n 3, 45, 0, 0, 0, 0) := fr fe_X8_dust_2 0 rfl
theorem i_X8_dust_45 : fetch 183 45 = some (.invokevirtual 266, 48, 164, 0, 0, 1376) := fr fe_X8_dust_2 1 rfl
theorem i_X8_dust_48 : fetch 183 48 = some (.aload_n 0, 49, 0, 0, 0, 0) := fr fe_X8_dust_2 2 rfl
theorem i_X8_dust_49 : fetch 183 49 = some (.invokevirtual 263, 52, 161, 0, 0, 1372) := fr fe_X8_dust_2 3 rfl
theorem i_X8_dust_52 : fetch 183 52 = some (.lload 4, 54, 0, 0, 0, 0) := fr fe_X8_dust_2 4 rfl
theorem i_X8_dust_54 : fetch 183 54 = some (.aload_n 0, 55, 0, 0, 0, 0) := fr fe_X8_dust_2 5 rfl
theorem i_X8_dust_55 : fetch 183 55 = some (.getfield 248, 58, 8, 44, 0, 1121) := fr fe_X8_dust_2 6 rfl
theorem i_X8_dust_58 : fetch 183 58 = some (.lsub, 59, 0, 0, 0, 0) := fr fe_X8_dust_2 7 rfl
theorem i_X8_dust_59 : fetch 183 59 = some (.ldc2_w 243, 62, 0, 0, 100, 1363) := fr fe_X8_dust_2 8 rfl
theorem i_X8_dust_62 : fetch 183 62 = some (.lmul, 63, 0, 0, 0, 0) := fr fe_X8_dust_2 9 rfl
theorem i_X8_dust_63 : fetch 183 63 = some (.iload_n 2, 64, 0, 0, 0, 0) := fr fe_X8_dust_2 10 rfl
theorem i_X8_dust_64 : fetch 183 64 = some (.i2l, 65, 0, 0, 0, 0) := fr fe_X8_dust_2 11 rfl
theorem i_X8_dust_65 : fetch 183 65 = some (.lload 4, 67, 0, 0, 0, 0) := fr fe_X8_dust_2 12 rfl
theorem i_X8_dust_67 : fetch 183 67 = some (.lmul, 68, 0, 0, 0, 0) := fr fe_X8_dust_2 13 rfl
theorem i_X8_dust_68 : fetch 183 68 = some (.lcmp, 69, 0, 0, 0, 0) := fr fe_X8_dust_2 14 rfl
theorem i_X8_dust_69 : fetch 183 69 = some (.ifCond .gt 5, 72, 0, 0, 0, 0) := fr fe_X8_dust_2 15 rfl
theorem i_X8_dust_72 : fetch 183 72 = some (.iload_n 3, 73, 0, 0, 0, 0) := fr fe_X8_dust_2 16 rfl
theorem i_X8_dust_73 : fetch 183 73 = some (.ireturn, 74, 0, 0, 0, 0) := fr fe_X8_dust_2 17 rfl
theorem i_X8_dust_74 : fetch 183 74 = some (.iinc 3 1, 77, 0, 0, 0, 0) := fr fe_X8_dust_2 18 rfl
theorem i_X8_dust_77 : fetch 183 77 = some (.goto (-51), 80, 0, 0, 0, 0) := fr fe_X8_dust_2 19 rfl
theorem i_X8_dust_80 : fetch 183 80 = some (.iconst (-1), 81, 0, 0, 0, 0) := fr fe_X8_dust_2 20 rfl
theorem i_X8_dust_81 : fetch 183 81 = some (.ireturn, 82, 0, 0, 0, 0) := fr fe_X8_dust_2 21 rfl
theorem i_X8_doublings_0 : fetch 184 0 = some (.aload_n 0, 1, 0, 0, 0, 0) := fr fe_X8_doublings_1 0 rfl
theorem i_X8_doublings_1 : fetch 184 1 = some (.iload_n 1, 2, 0, 0, 0, 0) := fr fe_X8_doublings_1 1 rfl
theorem i_X8_doublings_2 : fetch 184 2 = some (.invokevirtual 286, 5, 128, 0, 0, 1291) := fr fe_X8_doublings_1 2 rfl
theorem i_X8_doublings_5 : fetch 184 5 = some (.ifCond .ne 6, 8, 0, 0, 0, 0) := fr fe_X8_doublings_1 3 rfl
theorem i_X8_doublings_8 : fetch 184 8 = some (.bipush (-5), 10, 0, 0, 0, 0) := fr fe_X8_doublings_1 4 rfl
theorem i_X8_doublings_10 : fetch 184 10 = some (.ireturn, 11, 0, 0, 0, 0) := fr fe_X8_doublings_1 5 rfl
theorem i_X8_doublings_11 : fetch 184 11 = some (.iload_n 2, 12, 0, 0, 0, 0) := fr fe_X8_doublings_1 6 rfl
theorem i_X8_doublings_12 : fetch 184 12 = some (.iconst 1, 13, 0, 0, 0, 0) := fr fe_X8_doublings_1 7 rfl
theorem i_X8_doublings_13 : fetch 184 13 = some (.bipush 9, 15, 0, 0, 0, 0) := fr fe_X8_doublings_1 8 rfl
theorem i_X8_doublings_15 : fetch 184 15 = some (.invokestatic 112, 18, 126, 0, 0, 1022) := fr fe_X8_doublings_1 9 rfl
theorem i_X8_doublings_18 : fetch 184 18 = some (.ifCond .eq 14, 21, 0, 0, 0, 0) := fr fe_X8_doublings_1 10 rfl
theorem i_X8_doublings_21 : fetch 184 21 = some (.iload_n 3, 22, 0, 0, 0, 0) := fr fe_X8_doublings_1 11 rfl
theorem i_X8_doublings_22 : fetch 184 22 = some (.iconst 1, 23, 0, 0, 0, 0) := fr fe_X8_doublings_1 12 rfl
theorem i_X8_doublings_23 : fetch 184 23 = some (.sipush 9999, 26, 0, 0, 0, 0) := fr fe_X8_doublings_1 13 rfl
theorem i_X8_doublings_26 : fetch 184 26 = some (.invokestatic 112, 29, 126, 0, 0, 1022) := fr fe_X8_doublings_1 14 rfl
theorem i_X8_doublings_29 : fetch 184 29 = some (.ifCond .ne 6, 32, 0, 0, 0, 0) := fr fe_X8_doublings_1 15 rfl
theorem i_X8_doublings_32 : fetch 184 32 = some (.bipush (-7), 34, 0, 0, 0, 0) := fr fe_X8_doublings_1 16 rfl
theorem i_X8_doublings_34 : fetch 184 34 = some (.ireturn, 35, 0, 0, 0, 0) := fr fe_X8_doublings_1 17 rfl
theorem i_X8_doublings_35 : fetch 184 35 = some (.aload_n 0, 36, 0, 0, 0, 0) := fr fe_X8_doublings_1 18 rfl
theorem i_X8_doublings_36 : fetch 184 36 = some (.iload_n 1, 37, 0, 0, 0, 0) := fr fe_X8_doublings_1 19 rfl
theorem i_X8_doublings_37 : fetch 184 37 = some (.invokevirtual 289, 40, 168, 0, 0, 1295) := fr fe_X8_doublings_1 20 rfl
theorem i_X8_doublings_40 : fetch 184 40 = some (.iconst 0, 41, 0, 0, 0, 0) := fr fe_X8_doublings_1 21 rfl
theorem i_X8_doublings_41 : fetch 184 41 = some (.istore 4, 43, 0, 0, 0, 0) := fr fe_X8_doublings_1 22 rfl
theorem i_X8_doublings_43 : fetch 184 43 = some (.iload 4, 45, 0, 0, 0, 0) := fr fe_X8_doublings_1 23 rfl
theorem i_X8_doublings_45 : fetch 184 45 = some (.bipush 20, 47, 0, 0, 0, 0) := fr fe_X8_doublings_1 24 rfl
theorem i_X8_doublings_47 : fetch 184 47 = some (.if_icmp .ge 37, 50, 0, 0, 0, 0) := fr fe_X8_doublings_2 0 rfl
theorem i_X8_doublings_50 : fetch 184 50 = some (.aload_n 0, 51, 0, 0, 0, 0) := fr fe_X8_doublings_2 1 rfl
theorem i_X8_doublings_51 : fetch 184 51 = some (.aload_n 0, 52, 0, 0, 0, 0) := fr fe_X8_doublings_2 2 rfl
theorem i_X8_doublings_52 : fetch 184 52 = some (.invokevirtual 254, 55, 156, 0, 0, 1312) := fr fe_X8_doublings_2 3 rfl
theorem i_X8_doublings_55 : fetch 184 55 = some (.iload_n 2, 56, 0, 0, 0, 0) := fr fe_X8_doublings_2 4 rfl
theorem i_X8_doublings_56 : fetch 184 56 = some (.invokevirtual 257, 59, 158, 0, 0, 1316) := fr fe_X8_doublings_2 5 rfl
theorem i_X8_doublings_59 : fetch 184 59 = some (.aload_n 0, 60, 0, 0, 0, 0) := fr fe_X8_doublings_2 6 rfl
theorem i_X8_doublings_60 : fetch 184 60 = some (.invokevirtual 263, 63, 161, 0, 0, 1372) := fr fe_X8_doublings_2 7 rfl
theorem i_X8_doublings_63 : fetch 184 63 = some (.aload_n 0, 64, 0, 0, 0, 0) := fr fe_X8_doublings_2 8 rfl
theorem i_X8_doublings_64 : fetch 184 64 = some (.aload_n 0, 65, 0, 0, 0, 0) := fr fe_X8_doublings_2 9 rfl
theorem i_X8_doublings_65 : fetch 184 65 = some (.invokevirtual 295, 68, 170, 0, 0, 1394) := fr fe_X8_doublings_2 10 rfl
theorem i_X8_doublings_68 : fetch 184 68 = some (.invokevirtual 202, 71, 154, 0, 0, 1324) := fr fe_X8_doublings_2 11 rfl
theorem i_X8_doublings_71 : fetch 184 71 = some (.iload_n 3, 72, 0, 0, 0, 0) := fr fe_X8_doublings_2 12 rfl
theorem i_X8_doublings_72 : fetch 184 72 = some (.if_icmp .ge 6, 75, 0, 0, 0, 0) := fr fe_X8_doublings_2 13 rfl
theorem i_X8_doublings_75 : fetch 184 75 = some (.iload 4, 77, 0, 0, 0, 0) := fr fe_X8_doublings_2 14 rfl
theorem i_X8_doublings_77 : fetch 184 77 = some (.ireturn, 78, 0, 0, 0, 0) := fr fe_X8_doublings_2 15 rfl
theorem i_X8_doublings_78 : fetch 184 78 = some (.iinc 4 1, 81, 0, 0, 0, 0) := fr fe_X8_doublings_2 16 rfl
theorem i_X8_doublings_81 : fetch 184 81 = some (.goto (-38), 84, 0, 0, 0, 0) := fr fe_X8_doublings_2 17 rfl
theorem i_X8_doublings_84 : fetch 184 84 = some (.bipush 20, 86, 0, 0, 0, 0) := fr fe_X8_doublings_2 18 rfl
theorem i_X8_doublings_86 : fetch 184 86 = some (.ireturn, 87, 0, 0, 0, 0) := fr fe_X8_doublings_2 19 rfl
theorem i_X8_sheetWrong_0 : fetch 185 0 = some (.iload_n 1, 1, 0, 0, 0, 0) := fr fe_X8_sheetWrong 0 rfl
theorem i_X8_sheetWrong_1 : fetch 185 1 = some (.iconst 0, 2, 0, 0, 0, 0) := fr fe_X8_sheetWrong 1 rfl
theorem i_X8_sheetWrong_2 : fetch 185 2 = some (.iconst 3, 3, 0, 0, 0, 0) := fr fe_X8_sheetWrong 2 rfl
theorem i_X8_sheetWrong_3 : fetch 185 3 = some (.invokestatic 112, 6, 126, 0, 0, 1022) := fr fe_X8_sheetWrong 3 rfl
theorem i_X8_sheetWrong_6 : fetch 185 6 = some (.ifCond .ne 6, 9, 0, 0, 0, 0) := fr fe_X8_sheetWrong 4 rfl
theorem i_X8_sheetWrong_9 : fetch 185 9 = some (.bipush (-2), 11, 0, 0, 0, 0) := fr fe_X8_sheetWrong 5 rfl
theorem i_X8_sheetWrong_11 : fetch 185 11 = some (.ireturn, 12, 0, 0, 0, 0) := fr fe_X8_sheetWrong 6 rfl
theorem i_X8_sheetWrong_12 : fetch 185 12 = some (.aload_n 0, 13, 0, 0, 0, 0) := fr fe_X8_sheetWrong 7 rfl
theorem i_X8_sheetWrong_13 : fetch 185 13 = some (.getfield 51, 16, 8, 22, 0, 1099) := fr fe_X8_sheetWrong 8 rfl
theorem i_X8_sheetWrong_16 : fetch 185 16 = some (.iload_n 1, 17, 0, 0, 0, 0) := fr fe_X8_sheetWrong 9 rfl
theorem i_X8_sheetWrong_17 : fetch 185 17 = some (.iaload, 18, 0, 0, 0, 0) := fr fe_X8_sheetWrong 10 rfl
theorem i_X8_sheetWrong_18 : fetch 185 18 = some (.iconst (-1), 19, 0, 0, 0, 0) := fr fe_X8_sheetWrong 11 rfl
theorem i_X8_sheetWrong_19 : fetch 185 19 = some (.if_icmp .ne 6, 22, 0, 0, 0, 0) := fr fe_X8_sheetWrong 12 rfl
theorem i_X8_sheetWrong_22 : fetch 185 22 = some (.bipush (-11), 24, 0, 0, 0, 0) := fr fe_X8_sheetWrong 13 rfl
theorem i_X8_sheetWrong_24 : fetch 185 24 = some (.ireturn, 25, 0, 0, 0, 0) := fr fe_X8_sheetWrong 14 rfl
theorem i_X8_sheetWrong_25 : fetch 185 25 = some (.aload_n 0, 26, 0, 0, 0, 0) := fr fe_X8_sheetWrong 15 rfl
theorem i_X8_sheetWrong_26 : fetch 185 26 = some (.getfield 54, 29, 8, 23, 0, 1100) := fr fe_X8_sheetWrong 16 rfl
theorem i_X8_sheetWrong_29 : fetch 185 29 = some (.iload_n 1, 30, 0, 0, 0, 0) := fr fe_X8_sheetWrong 17 rfl
theorem i_X8_sheetWrong_30 : fetch 185 30 = some (.iaload, 31, 0, 0, 0, 0) := fr fe_X8_sheetWrong 18 rfl
theorem i_X8_sheetWrong_31 : fetch 185 31 = some (.bipush 12, 33, 0, 0, 0, 0) := fr fe_X8_sheetWrong 19 rfl
theorem i_X8_sheetWrong_33 : fetch 185 33 = some (.if_icmp .ne 7, 36, 0, 0, 0, 0) := fr fe_X8_sheetWrong 20 rfl
theorem i_X8_sheetWrong_36 : fetch 185 36 = some (.iconst 0, 37, 0, 0, 0, 0) := fr fe_X8_sheetWrong 21 rfl
theorem i_X8_sheetWrong_37 : fetch 185 37 = some (.goto 5, 40, 0, 0, 0, 0) := fr fe_X8_sheetWrong 22 rfl
theorem i_X8_sheetWrong_40 : fetch 185 40 = some (.bipush (-2), 42, 0, 0, 0, 0) := fr fe_X8_sheetWrong 23 rfl
theorem i_X8_sheetWrong_42 : fetch 185 42 = some (.ireturn, 43, 0, 0, 0, 0) := fr fe_X8_sheetWrong 24 rfl
theorem i_X8_offFrom_0 : fetch 186 0 = some (.iconst 0, 1, 0, 0, 0, 0) := fr fe_X8_offFrom_1 0 rfl
theorem i_X8_offFrom_1 : fetch 186 1 = some (.istore_n 3, 2, 0, 0, 0, 0) := fr fe_X8_offFrom_1 1 rfl
theorem i_X8_offFrom_2 : fetch 186 2 = some (.iload_n 3, 3, 0, 0, 0, 0) := fr fe_X8_offFrom_1 2 rfl
theorem i_X8_offFrom_3 : fetch 186 3 = some (.bipush 12, 5, 0, 0, 0, 0) := fr fe_X8_offFrom_1 3 rfl
theorem i_X8_offFrom_5 : fetch 186 5 = some (.if_icmp .ge 49, 8, 0, 0, 0, 0) := fr fe_X8_offFrom_1 4 rfl
theorem i_X8_offFrom_8 : fetch 186 8 = some (.aload_n 0, 9, 0, 0, 0, 0) := fr fe_X8_offFrom_1 5 rfl
theorem i_X8_offFrom_9 : fetch 186 9 = some (.iload_n 3, 10, 0, 0, 0, 0) := fr fe_X8_offFrom_1 6 rfl
theorem i_X8_offFrom_10 : fetch 186 10 = some (.invokevirtual 202, 13, 154, 0, 0, 1324) := fr fe_X8_offFrom_1 7 rfl
theorem i_X8_offFrom_13 : fetch 186 13 = some (.i2l, 14, 0, 0, 0, 0) := fr fe_X8_offFrom_1 8 rfl
theorem i_X8_offFrom_14 : fetch 186 14 = some (.aload_n 0, 15, 0, 0, 0, 0) := fr fe_X8_offFrom_1 9 rfl
theorem i_X8_offFrom_15 : fetch 186 15 = some (.getfield 57, 18, 8, 24, 0, 1101) := fr fe_X8_offFrom_1 10 rfl
theorem i_X8_offFrom_18 : fetch 186 18 = some (.bipush 40, 20, 0, 0, 0, 0) := fr fe_X8_offFrom_1 11 rfl
theorem i_X8_offFrom_20 : fetch 186 20 = some (.iload_n 1, 21, 0, 0, 0, 0) := fr fe_X8_offFrom_1 12 rfl
theorem i_X8_offFrom_21 : fetch 186 21 = some (.imul, 22, 0, 0, 0, 0) := fr fe_X8_offFrom_1 13 rfl
theorem i_X8_offFrom_22 : fetch 186 22 = some (.iload_n 3, 23, 0, 0, 0, 0) := fr fe_X8_offFrom_1 14 rfl
theorem i_X8_offFrom_23 : fetch 186 23 = some (.iadd, 24, 0, 0, 0, 0) := fr fe_X8_offFrom_1 15 rfl
theorem i_X8_offFrom_24 : fetch 186 24 = some (.iaload, 25, 0, 0, 0, 0) := fr fe_X8_offFrom_1 16 rfl
theorem i_X8_offFrom_25 : fetch 186 25 = some (.i2l, 26, 0, 0, 0, 0) := fr fe_X8_offFrom_1 17 rfl
theorem i_X8_offFrom_26 : fetch 186 26 = some (.lsub, 27, 0, 0, 0, 0) := fr fe_X8_offFrom_1 18 rfl
theorem i_X8_offFrom_27 : fetch 186 27 = some (.lstore 4, 29, 0, 0, 0, 0) := fr fe_X8_offFrom_1 19 rfl
theorem i_X8_offFrom_29 : fetch 186 29 = some (.lload 4, 31, 0, 0, 0, 0) := fr fe_X8_offFrom_1 20 rfl
theorem i_X8_offFrom_31 : fetch 186 31 = some (.iload_n 2, 32, 0, 0, 0, 0) := fr fe_X8_offFrom_1 21 rfl
theorem i_X8_offFrom_32 : fetch 186 32 = some (.i2l, 33, 0, 0, 0, 0) := fr fe_X8_offFrom_1 22 rfl
theorem i_X8_offFrom_33 : fetch 186 33 = some (.lcmp, 34, 0, 0, 0, 0) := fr fe_X8_offFrom_1 23 rfl
theorem i_X8_offFrom_34 : fetch 186 34 = some (.ifCond .gt 12, 37, 0, 0, 0, 0) := fr fe_X8_offFrom_1 24 rfl
theorem i_X8_offFrom_37 : fetch 186 37 = some (.lload 4, 39, 0, 0, 0, 0) := fr fe_X8_offFrom_2 0 rfl
theorem i_X8_offFrom_39 : fetch 186 39 = some (.lneg, 40, 0, 0, 0, 0) := fr fe_X8_offFrom_2 1 rfl
theorem i_X8_offFrom_40 : fetch 186 40 = some (.iload_n 2, 41, 0, 0, 0, 0) := fr fe_X8_offFrom_2 2 rfl
theorem i_X8_offFrom_41 : fetch 186 41 = some (.i2l, 42, 0, 0, 0, 0) := fr fe_X8_offFrom_2 3 rfl
theorem i_X8_offFrom_42 : fetch 186 42 = some (.lcmp, 43, 0, 0, 0, 0) := fr fe_X8_offFrom_2 4 rfl
theorem i_X8_offFrom_43 : fetch 186 43 = some (.ifCond .le 5, 46, 0, 0, 0, 0) := fr fe_X8_offFrom_2 5 rfl
theorem i_X8_offFrom_46 : fetch 186 46 = some (.iload_n 3, 47, 0, 0, 0, 0) := fr fe_X8_offFrom_2 6 rfl
theorem i_X8_offFrom_47 : fetch 186 47 = some (.ireturn, 48, 0, 0, 0, 0) := fr fe_X8_offFrom_2 7 rfl
theorem i_X8_offFrom_48 : fetch 186 48 = some (.iinc 3 1, 51, 0, 0, 0, 0) := fr fe_X8_offFrom_2 8 rfl
theorem i_X8_offFrom_51 : fetch 186 51 = some (.goto (-49), 54, 0, 0, 0, 0) := fr fe_X8_offFrom_2 9 rfl
theorem i_X8_offFrom_54 : fetch 186 54 = some (.iconst (-1), 55, 0, 0, 0, 0) := fr fe_X8_offFrom_2 10 rfl
theorem i_X8_offFrom_55 : fetch 186 55 = some (.ireturn, 56, 0, 0, 0, 0) := fr fe_X8_offFrom_2 11 rfl
theorem i_X8_judge_0 : fetch 187 0 = some (.aload_n 0, 1, 0, 0, 0, 0) := fr fe_X8_judge 0 rfl
theorem i_X8_judge_1 : fetch 187 1 = some (.iload_n 1, 2, 0, 0, 0, 0) := fr fe_X8_judge 1 rfl
theorem i_X8_judge_2 : fetch 187 2 = some (.invokevirtual 286, 5, 128, 0, 0, 1291) := fr fe_X8_judge 2 rfl
theorem i_X8_judge_5 : fetch 187 5 = some (.ifCond .ne 6, 8, 0, 0, 0, 0) := fr fe_X8_judge 3 rfl
theorem i_X8_judge_8 : fetch 187 8 = some (.bipush (-5), 10, 0, 0, 0, 0) := fr fe_X8_judge 4 rfl
theorem i_X8_judge_10 : fetch 187 10 = some (.ireturn, 11, 0, 0, 0, 0) := fr fe_X8_judge 5 rfl
theorem i_X8_judge_11 : fetch 187 11 = some (.aload_n 0, 12, 0, 0, 0, 0) := fr fe_X8_judge 6 rfl
theorem i_X8_judge_12 : fetch 187 12 = some (.iload_n 2, 13, 0, 0, 0, 0) := fr fe_X8_judge 7 rfl
theorem i_X8_judge_13 : fetch 187 13 = some (.invokevirtual 320, 16, 185, 0, 0, 1455) := fr fe_X8_judge 8 rfl
theorem i_X8_judge_16 : fetch 187 16 = some (.istore 4, 18, 0, 0, 0, 0) := fr fe_X8_judge 9 rfl
theorem i_X8_judge_18 : fetch 187 18 = some (.iload 4, 20, 0, 0, 0, 0) := fr fe_X8_judge 10 rfl
theorem i_X8_judge_20 : fetch 187 20 = some (.ifCond .eq 6, 23, 0, 0, 0, 0) := fr fe_X8_judge 11 rfl
theorem i_X8_judge_23 : fetch 187 23 = some (.iload 4, 25, 0, 0, 0, 0) := fr fe_X8_judge 12 rfl
theorem i_X8_judge_25 : fetch 187 25 = some (.ireturn, 26, 0, 0, 0, 0) := fr fe_X8_judge 13 rfl
theorem i_X8_judge_26 : fetch 187 26 = some (.iload_n 3, 27, 0, 0, 0, 0) := fr fe_X8_judge 14 rfl
theorem i_X8_judge_27 : fetch 187 27 = some (.iconst 0, 28, 0, 0, 0, 0) := fr fe_X8_judge 15 rfl
theorem i_X8_judge_28 : fetch 187 28 = some (.sipush 9999, 31, 0, 0, 0, 0) := fr fe_X8_judge 16 rfl
theorem i_X8_judge_31 : fetch 187 31 = some (.invokestatic 112, 34, 126, 0, 0, 1022) := fr fe_X8_judge 17 rfl
theorem i_X8_judge_34 : fetch 187 34 = some (.ifCond .ne 6, 37, 0, 0, 0, 0) := fr fe_X8_judge 18 rfl
theorem i_X8_judge_37 : fetch 187 37 = some (.bipush (-7), 39, 0, 0, 0, 0) := fr fe_X8_judge 19 rfl
theorem i_X8_judge_39 : fetch 187 39 = some (.ireturn, 40, 0, 0, 0, 0) := fr fe_X8_judge 20 rfl
theorem i_X8_judge_40 : fetch 187 40 = some (.aload_n 0, 41, 0, 0, 0, 0) := fr fe_X8_judge 21 rfl
theorem i_X8_judge_41 : fetch 187 41 = some (.iload_n 1, 42, 0, 0, 0, 0) := fr fe_X8_judge 22 rfl
theorem i_X8_judge_42 : fetch 187 42 = some (.invokevirtual 289, 45, 168, 0, 0, 1295) := fr fe_X8_judge 23 rfl
theorem i_X8_judge_45 : fetch 187 45 = some (.aload_n 0, 46, 0, 0, 0, 0) := fr fe_X8_judge 24 rfl
theorem i_X8_judge_46 : fetch 187 46 = some (.iload_n 2, 47, 0, 0, 0, 0) := fr fe_X8_judge 25 rfl
theorem i_X8_judge_47 : fetch 187 47 = some (.iload_n 3, 48, 0, 0, 0, 0) := fr fe_X8_judge 26 rfl
theorem i_X8_judge_48 : fetch 187 48 = some (.invokevirtual 323, 51, 186, 0, 0, 1459) := fr fe_X8_judge 27 rfl
theorem i_X8_judge_51 : fetch 187 51 = some (.ireturn, 52, 0, 0, 0, 0) := fr fe_X8_judge 28 rfl
theorem i_X8_film_0 : fetch 188 0 = some (.aload_n 0, 1, 0, 0, 0, 0) := fr fe_X8_film_1 0 rfl
theorem i_X8_film_1 : fetch 188 1 = some (.iload_n 1, 2, 0, 0, 0, 0) := fr fe_X8_film_1 1 rfl
theorem i_X8_film_2 : fetch 188 2 = some (.invokevirtual 286, 5, 128, 0, 0, 1291) := fr fe_X8_film_1 2 rfl
theorem i_X8_film_5 : fetch 188 5 = some (.ifCond .ne 6, 8, 0, 0, 0, 0) := fr fe_X8_film_1 3 rfl
theorem i_X8_film_8 : fetch 188 8 = some (.bipush (-5), 10, 0, 0, 0, 0) := fr fe_X8_film_1 4 rfl
theorem i_X8_film_10 : fetch 188 10 = some (.ireturn, 11, 0, 0, 0, 0) := fr fe_X8_film_1 5 rfl
theorem i_X8_film_11 : fetch 188 11 = some (.iload_n 2, 12, 0, 0, 0, 0) := fr fe_X8_film_1 6 rfl
theorem i_X8_film_12 : fetch 188 12 = some (.iconst 0, 13, 0, 0, 0, 0) := fr fe_X8_film_1 7 rfl
theorem i_X8_film_13 : fetch 188 13 = some (.iconst 3, 14, 0, 0, 0, 0) := fr fe_X8_film_1 8 rfl
theorem i_X8_film_14 : fetch 188 14 = some (.invokestatic 112, 17, 126, 0, 0, 1022) := fr fe_X8_film_1 9 rfl
theorem i_X8_film_17 : fetch 188 17 = some (.ifCond .ne 6, 20, 0, 0, 0, 0) := fr fe_X8_film_1 10 rfl
theorem i_X8_film_20 : fetch 188 20 = some (.bipush (-2), 22, 0, 0, 0, 0) := fr fe_X8_film_1 11 rfl
theorem i_X8_film_22 : fetch 188 22 = some (.ireturn, 23, 0, 0, 0, 0) := fr fe_X8_film_1 12 rfl
theorem i_X8_film_23 : fetch 188 23 = some (.aload_n 0, 24, 0, 0, 0, 0) := fr fe_X8_film_1 13 rfl
theorem i_X8_film_24 : fetch 188 24 = some (.iload_n 1, 25, 0, 0, 0, 0) := fr fe_X8_film_1 14 rfl
theorem i_X8_film_25 : fetch 188 25 = some (.invokevirtual 289, 28, 168, 0, 0, 1295) := fr fe_X8_film_1 15 rfl
theorem i_X8_film_28 : fetch 188 28 = some (.aload_n 0, 29, 0, 0, 0, 0) := fr fe_X8_film_1 16 rfl
theorem i_X8_film_29 : fetch 188 29 = some (.getfield 51, 32, 8, 22, 0, 1099) := fr fe_X8_film_1 17 rfl
theorem i_X8_film_32 : fetch 188 32 = some (.iload_n 2, 33, 0, 0, 0, 0) := fr fe_X8_film_1 18 rfl
theorem i_X8_film_33 : fetch 188 33 = some (.iconst 2, 34, 0, 0, 0, 0) := fr fe_X8_film_1 19 rfl
theorem i_X8_film_34 : fetch 188 34 = some (.iastore, 35, 0, 0, 0, 0) := fr fe_X8_film_1 20 rfl
theorem i_X8_film_35 : fetch 188 35 = some (.aload_n 0, 36, 0, 0, 0, 0) := fr fe_X8_film_1 21 rfl
theorem i_X8_film_36 : fetch 188 36 = some (.getfield 54, 39, 8, 23, 0, 1100) := fr fe_X8_film_1 22 rfl
theorem i_X8_film_39 : fetch 188 39 = some (.iload_n 2, 40, 0, 0, 0, 0) := fr fe_X8_film_1 23 rfl
theorem i_X8_film_40 : fetch 188 40 = some (.bipush 12, 42, 0, 0, 0, 0) := fr fe_X8_film_1 24 rfl
theorem i_X8_film_42 : fetch 188 42 = some (.iastore, 43, 0, 0, 0, 0) := fr fe_X8_film_2 0 rfl
theorem i_X8_film_43 : fetch 188 43 = some (.iconst 0, 44, 0, 0, 0, 0) := fr fe_X8_film_2 1 rfl
theorem i_X8_film_44 : fetch 188 44 = some (.istore_n 3, 45, 0, 0, 0, 0) := fr fe_X8_film_2 2 rfl
theorem i_X8_film_45 : fetch 188 45 = some (.iload_n 3, 46, 0, 0, 0, 0) := fr fe_X8_film_2 3 rfl
theorem i_X8_film_46 : fetch 188 46 = some (.bipush 40, 48, 0, 0, 0, 0) := fr fe_X8_film_2 4 rfl
theorem i_X8_film_48 : fetch 188 48 = some (.if_icmp .ge 35, 51, 0, 0, 0, 0) := fr fe_X8_film_2 5 rfl
theorem i_X8_film_51 : fetch 188 51 = some (.aload_n 0, 52, 0, 0, 0, 0) := fr fe_X8_film_2 6 rfl
theorem i_X8_film_52 : fetch 188 52 = some (.getfield 57, 55, 8, 24, 0, 1101) := fr fe_X8_film_2 7 rfl
theorem i_X8_film_55 : fetch 188 55 = some (.bipush 40, 57, 0, 0, 0, 0) := fr fe_X8_film_2 8 rfl
theorem i_X8_film_57 : fetch 188 57 = some (.iload_n 2, 58, 0, 0, 0, 0) := fr fe_X8_film_2 9 rfl
theorem i_X8_film_58 : fetch 188 58 = some (.imul, 59, 0, 0, 0, 0) := fr fe_X8_film_2 10 rfl
theorem i_X8_film_59 : fetch 188 59 = some (.iload_n 3, 60, 0, 0, 0, 0) := fr fe_X8_film_2 11 rfl
theorem i_X8_film_60 : fetch 188 60 = some (.iadd, 61, 0, 0, 0, 0) := fr fe_X8_film_2 12 rfl
theorem i_X8_film_61 : fetch 188 61 = some (.iload_n 3, 62, 0, 0, 0, 0) := fr fe_X8_film_2 13 rfl
theorem i_X8_film_62 : fetch 188 62 = some (.bipush 12, 64, 0, 0, 0, 0) := fr fe_X8_film_2 14 rfl
theorem i_X8_film_64 : fetch 188 64 = some (.if_icmp .ge 11, 67, 0, 0, 0, 0) := fr fe_X8_film_2 15 rfl
theorem i_X8_film_67 : fetch 188 67 = some (.aload_n 0, 68, 0, 0, 0, 0) := fr fe_X8_film_2 16 rfl
theorem i_X8_film_68 : fetch 188 68 = some (.iload_n 3, 69, 0, 0, 0, 0) := fr fe_X8_film_2 17 rfl
theorem i_X8_film_69 : fetch 188 69 = some (.invokevirtual 202, 72, 154, 0, 0, 1324) := fr fe_X8_film_2 18 rfl
theorem i_X8_film_72 : fetch 188 72 = some (.goto 4, 75, 0, 0, 0, 0) := fr fe_X8_film_2 19 rfl
theorem i_X8_film_75 : fetch 188 75 = some (.iconst 0, 76, 0, 0, 0, 0) := fr fe_X8_film_2 20 rfl
theorem i_X8_film_76 : fetch 188 76 = some (.iastore, 77, 0, 0, 0, 0) := fr fe_X8_film_2 21 rfl
theorem i_X8_film_77 : fetch 188 77 = some (.iinc 3 1, 80, 0, 0, 0, 0) := fr fe_X8_film_2 22 rfl
theorem i_X8_film_80 : fetch 188 80 = some (.goto (-35), 83, 0, 0, 0, 0) := fr fe_X8_film_2 23 rfl
theorem i_X8_film_83 : fetch 188 83 = some (.bipush 12, 85, 0, 0, 0, 0) := fr fe_X8_film_2 24 rfl
theorem i_X8_film_85 : fetch 188 85 = some (.ireturn, 86, 0, 0, 0, 0) := fr fe_X8_film_3 0 rfl
theorem i_X8_serves_0 : fetch 189 0 = some (.aload_n 0, 1, 0, 0, 0, 0) := fr fe_X8_serves_1 0 rfl
theorem i_X8_serves_1 : fetch 189 1 = some (.iload_n 1, 2, 0, 0, 0, 0) := fr fe_X8_serves_1 1 rfl
theorem i_X8_serves_2 : fetch 189 2 = some (.invokevirtual 286, 5, 128, 0, 0, 1291) := fr fe_X8_serves_1 2 rfl
theorem i_X8_serves_5 : fetch 189 5 = some (.ifCond .ne 6, 8, 0, 0, 0, 0) := fr fe_X8_serves_1 3 rfl
theorem i_X8_serves_8 : fetch 189 8 = some (.bipush (-5), 10, 0, 0, 0, 0) := fr fe_X8_serves_1 4 rfl
theorem i_X8_serves_10 : fetch 189 10 = some (.ireturn, 11, 0, 0, 0, 0) := fr fe_X8_serves_1 5 rfl
theorem i_X8_serves_11 : fetch 189 11 = some (.aload_n 0, 12, 0, 0, 0, 0) := fr fe_X8_serves_1 6 rfl
theorem i_X8_serves_12 : fetch 189 12 = some (.iload_n 2, 13, 0, 0, 0, 0) := fr fe_X8_serves_1 7 rfl
theorem i_X8_serves_13 : fetch 189 13 = some (.invokevirtual 320, 16, 185, 0, 0, 1455) := fr fe_X8_serves_1 8 rfl
theorem i_X8_serves_16 : fetch 189 16 = some (.istore 4, 18, 0, 0, 0, 0) := fr fe_X8_serves_1 9 rfl
theorem i_X8_serves_18 : fetch 189 18 = some (.iload 4, 20, 0, 0, 0, 0) := fr fe_X8_serves_1 10 rfl
theorem i_X8_serves_20 : fetch 189 20 = some (.ifCond .eq 6, 23, 0, 0, 0, 0) := fr fe_X8_serves_1 11 rfl
theorem i_X8_serves_23 : fetch 189 23 = some (.iload 4, 25, 0, 0, 0, 0) := fr fe_X8_serves_1 12 rfl
theorem i_X8_serves_25 : fetch 189 25 = some (.ireturn, 26, 0, 0, 0, 0) := fr fe_X8_serves_1 13 rfl
theorem i_X8_serves_26 : fetch 189 26 = some (.iload_n 3, 27, 0, 0, 0, 0) := fr fe_X8_serves_1 14 rfl
theorem i_X8_serves_27 : fetch 189 27 = some (.iconst 0, 28, 0, 0, 0, 0) := fr fe_X8_serves_1 15 rfl
theorem i_X8_serves_28 : fetch 189 28 = some (.iconst 2, 29, 0, 0, 0, 0) := fr fe_X8_serves_1 16 rfl
theorem i_X8_serves_29 : fetch 189 29 = some (.invokestatic 112, 32, 126, 0, 0, 1022) := fr fe_X8_serves_1 17 rfl
theorem i_X8_serves_32 : fetch 189 32 = some (.ifCond .ne 6, 35, 0, 0, 0, 0) := fr fe_X8_serves_1 18 rfl
theorem i_X8_serves_35 : fetch 189 35 = some (.bipush (-7), 37, 0, 0, 0, 0) := fr fe_X8_serves_1 19 rfl
theorem i_X8_serves_37 : fetch 189 37 = some (.ireturn, 38, 0, 0, 0, 0) := fr fe_X8_serves_1 20 rfl
theorem i_X8_serves_38 : fetch 189 38 = some (.aload_n 0, 39, 0, 0, 0, 0) := fr fe_X8_serves_1 21 rfl
theorem i_X8_serves_39 : fetch 189 39 = some (.iload_n 3, 40, 0, 0, 0, 0) := fr fe_X8_serves_1 22 rfl
theorem i_X8_serves_40 : fetch 189 40 = some (.invokevirtual 124, 43, 134, 0, 0, 1252) := fr fe_X8_serves_1 23 rfl
theorem i_X8_serves_43 : fetch 189 43 = some (.istore 5, 45, 0, 0, 0, 0) := fr fe_X8_serves_1 24 rfl
theorem i_X8_serves_45 : fetch 189 45 = some (.iconst 0, 46, 0, 0, 0, 0) := fr fe_X8_serves_2 0 rfl
theorem i_X8_serves_46 : fetch 189 46 = some (.istore 6, 48, 0, 0, 0, 0) := fr fe_X8_serves_2 1 rfl
theorem i_X8_serves_48 : fetch 189 48 = some (.iconst 0, 49, 0, 0, 0, 0) := fr fe_X8_serves_2 2 rfl
theorem i_X8_serves_49 : fetch 189 49 = some (.istore 7, 51, 0, 0, 0, 0) := fr fe_X8_serves_2 3 rfl
theorem i_X8_serves_51 : fetch 189 51 = some (.iload 7, 53, 0, 0, 0, 0) := fr fe_X8_serves_2 4 rfl
theorem i_X8_serves_53 : fetch 189 53 = some (.bipush 9, 55, 0, 0, 0, 0) := fr fe_X8_serves_2 5 rfl
theorem i_X8_serves_55 : fetch 189 55 = some (.if_icmp .gt 44, 58, 0, 0, 0, 0) := fr fe_X8_serves_2 6 rfl
theorem i_X8_serves_58 : fetch 189 58 = some (.aload_n 0, 59, 0, 0, 0, 0) := fr fe_X8_serves_2 7 rfl
theorem i_X8_serves_59 : fetch 189 59 = some (.iload_n 3, 60, 0, 0, 0, 0) := fr fe_X8_serves_2 8 rfl
theorem i_X8_serves_60 : fetch 189 60 = some (.iload 7, 62, 0, 0, 0, 0) := fr fe_X8_serves_2 9 rfl
theorem i_X8_serves_62 : fetch 189 62 = some (.invokevirtual 128, 65, 133, 0, 0, 1256) := fr fe_X8_serves_2 10 rfl
theorem i_X8_serves_65 : fetch 189 65 = some (.aload_n 0, 66, 0, 0, 0, 0) := fr fe_X8_serves_2 11 rfl
theorem i_X8_serves_66 : fetch 189 66 = some (.iload_n 1, 67, 0, 0, 0, 0) := fr fe_X8_serves_2 12 rfl
theorem i_X8_serves_67 : fetch 189 67 = some (.invokevirtual 289, 70, 168, 0, 0, 1295) := fr fe_X8_serves_2 13 rfl
theorem i_X8_serves_70 : fetch 189 70 = some (.iload 6, 72, 0, 0, 0, 0) := fr fe_X8_serves_2 14 rfl
theorem i_X8_serves_72 : fetch 189 72 = some (.aload_n 0, 73, 0, 0, 0, 0) := fr fe_X8_serves_2 15 rfl
theorem i_X8_serves_73 : fetch 189 73 = some (.iload_n 2, 74, 0, 0, 0, 0) := fr fe_X8_serves_2 16 rfl
theorem i_X8_serves_74 : fetch 189 74 = some (.iconst 0, 75, 0, 0, 0, 0) := fr fe_X8_serves_2 17 rfl
theorem i_X8_serves_75 : fetch 189 75 = some (.invokevirtual 323, 78, 186, 0, 0, 1459) := fr fe_X8_serves_2 18 rfl
theorem i_X8_serves_78 : fetch 189 78 = some (.iconst (-1), 79, 0, 0, 0, 0) := fr fe_X8_serves_2 19 rfl
theorem i_X8_serves_79 : fetch 189 79 = some (.if_icmp .ne 10, 82, 0, 0, 0, 0) := fr fe_X8_serves_2 20 rfl
theorem i_X8_serves_82 : fetch 189 82 = some (.iconst 1, 83, 0, 0, 0, 0) := fr fe_X8_serves_2 21 rfl
theorem i_X8_serves_83 : fetch 189 83 = some (.iload 7, 85, 0, 0, 0, 0) := fr fe_X8_serves_2 22 rfl
theorem i_X8_serves_85 : fetch 189 85 = some (.ishl, 86, 0, 0, 0, 0) := fr fe_X8_serves_2 23 rfl
theorem i_X8_serves_86 : fetch 189 86 = some (.goto 4, 89, 0, 0, 0, 0) := fr fe_X8_serves_2 24 rfl
theorem i_X8_serves_89 : fetch 189 89 = some (.iconst 0, 90, 0, 0, 0, 0) := fr fe_X8_serves_3 0 rfl
theorem i_X8_serves_90 : fetch 189 90 = some (.ior, 91, 0, 0, 0, 0) := fr fe_X8_serves_3 1 rfl
theorem i_X8_serves_91 : fetch 189 91 = some (.istore 6, 93, 0, 0, 0, 0) := fr fe_X8_serves_3 2 rfl
theorem i_X8_serves_93 : fetch 189 93 = some (.iinc 7 1, 96, 0, 0, 0, 0) := fr fe_X8_serves_3 3 rfl
theorem i_X8_serves_96 : fetch 189 96 = some (.goto (-45), 99, 0, 0, 0, 0) := fr fe_X8_serves_3 4 rfl
theorem i_X8_serves_99 : fetch 189 99 = some (.aload_n 0, 100, 0, 0, 0, 0) := fr fe_X8_serves_3 5 rfl
theorem i_X8_serves_100 : fetch 189 100 = some (.iload_n 3, 101, 0, 0, 0, 0) := fr fe_X8_serves_3 6 rfl
theorem i_X8_serves_101 : fetch 189 101 = some (.iload 5, 103, 0, 0, 0, 0) := fr fe_X8_serves_3 7 rfl
theorem i_X8_serves_103 : fetch 189 103 = some (.invokevirtual 128, 106, 133, 0, 0, 1256) := fr fe_X8_serves_3 8 rfl
theorem i_X8_serves_106 : fetch 189 106 = some (.iload 6, 108, 0, 0, 0, 0) := fr fe_X8_serves_3 9 rfl
theorem i_X8_serves_108 : fetch 189 108 = some (.ireturn, 109, 0, 0, 0, 0) := fr fe_X8_serves_3 10 rfl
theorem i_X8_which_0 : fetch 190 0 = some (.aload_n 0, 1, 0, 0, 0, 0) := fr fe_X8_which_1 0 rfl
theorem i_X8_which_1 : fetch 190 1 = some (.iload_n 1, 2, 0, 0, 0, 0) := fr fe_X8_which_1 1 rfl
theorem i_X8_which_2 : fetch 190 2 = some (.invokevirtual 286, 5, 128, 0, 0, 1291) := fr fe_X8_which_1 2 rfl
theorem i_X8_which_5 : fetch 190 5 = some (.ifCond .ne 6, 8, 0, 0, 0, 0) := fr fe_X8_which_1 3 rfl
theorem i_X8_which_8 : fetch 190 8 = some (.bipush (-5), 10, 0, 0, 0, 0) := fr fe_X8_which_1 4 rfl
theorem i_X8_which_10 : fetch 190 10 = some (.ireturn, 11, 0, 0, 0, 0) := fr fe_X8_which_1 5 rfl
theorem i_X8_which_11 : fetch 190 11 = some (.aload_n 0, 12, 0, 0, 0, 0) := fr fe_X8_which_1 6 rfl
theorem i_X8_which_12 : fetch 190 12 = some (.iload_n 2, 13, 0, 0, 0, 0) := fr fe_X8_which_1 7 rfl
theorem i_X8_which_13 : fetch 190 13 = some (.invokevirtual 320, 16, 185, 0, 0, 1455) := fr fe_X8_which_1 8 rfl
theorem i_X8_which_16 : fetch 190 16 = some (.istore_n 3, 17, 0, 0, 0, 0) := fr fe_X8_which_1 9 rfl
theorem i_X8_which_17 : fetch 190 17 = some (.iload_n 3, 18, 0, 0, 0, 0) := fr fe_X8_which_1 10 rfl
theorem i_X8_which_18 : fetch 190 18 = some (.ifCond .eq 5, 21, 0, 0, 0, 0) := fr fe_X8_which_1 11 rfl
theorem i_X8_which_21 : fetch 190 21 = some (.iload_n 3, 22, 0, 0, 0, 0) := fr fe_X8_which_1 12 rfl
theorem i_X8_which_22 : fetch 190 22 = some (.ireturn, 23, 0, 0, 0, 0) := fr fe_X8_which_1 13 rfl
theorem i_X8_which_23 : fetch 190 23 = some (.aload_n 0, 24, 0, 0, 0, 0) := fr fe_X8_which_1 14 rfl
theorem i_X8_which_24 : fetch 190 24 = some (.getfield 135, 27, 8, 14, 0, 1091) := fr fe_X8_which_1 15 rfl
theorem i_X8_which_27 : fetch 190 27 = some (.istore 4, 29, 0, 0, 0, 0) := fr fe_X8_which_1 16 rfl
theorem i_X8_which_29 : fetch 190 29 = some (.iconst 0, 30, 0, 0, 0, 0) := fr fe_X8_which_1 17 rfl
theorem i_X8_which_30 : fetch 190 30 = some (.istore 5, 32, 0, 0, 0, 0) := fr fe_X8_which_1 18 rfl
theorem i_X8_which_32 : fetch 190 32 = some (.iconst 0, 33, 0, 0, 0, 0) := fr fe_X8_which_1 19 rfl
theorem i_X8_which_33 : fetch 190 33 = some (.istore 6, 35, 0, 0, 0, 0) := fr fe_X8_which_1 20 rfl
theorem i_X8_which_35 : fetch 190 35 = some (.iload 6, 37, 0, 0, 0, 0) := fr fe_X8_which_1 21 rfl
theorem i_X8_which_37 : fetch 190 37 = some (.aload_n 0, 38, 0, 0, 0, 0) := fr fe_X8_which_1 22 rfl
theorem i_X8_which_38 : fetch 190 38 = some (.getfield 132, 41, 8, 13, 0, 1090) := fr fe_X8_which_1 23 rfl
theorem i_X8_which_41 : fetch 190 41 = some (.if_icmp .ge 43, 44, 0, 0, 0, 0) := fr fe_X8_which_1 24 rfl
theorem i_X8_which_44 : fetch 190 44 = some (.aload_n 0, 45, 0, 0, 0, 0) := fr fe_X8_which_2 0 rfl
theorem i_X8_which_45 : fetch 190 45 = some (.iload 6, 47, 0, 0, 0, 0) := fr fe_X8_which_2 1 rfl
theorem i_X8_which_47 : fetch 190 47 = some (.putfield 135, 50, 8, 14, 0, 1091) := fr fe_X8_which_2 2 rfl
theorem i_X8_which_50 : fetch 190 50 = some (.aload_n 0, 51, 0, 0, 0, 0) := fr fe_X8_which_2 3 rfl
theorem i_X8_which_51 : fetch 190 51 = some (.iload_n 1, 52, 0, 0, 0, 0) := fr fe_X8_which_2 4 rfl
theorem i_X8_which_52 : fetch 190 52 = some (.invokevirtual 289, 55, 168, 0, 0, 1295) := fr fe_X8_which_2 5 rfl
theorem i_X8_which_55 : fetch 190 55 = some (.iload 5, 57, 0, 0, 0, 0) := fr fe_X8_which_2 6 rfl
theorem i_X8_which_57 : fetch 190 57 = some (.aload_n 0, 58, 0, 0, 0, 0) := fr fe_X8_which_2 7 rfl
theorem i_X8_which_58 : fetch 190 58 = some (.iload_n 2, 59, 0, 0, 0, 0) := fr fe_X8_which_2 8 rfl
theorem i_X8_which_59 : fetch 190 59 = some (.iconst 0, 60, 0, 0, 0, 0) := fr fe_X8_which_2 9 rfl
theorem i_X8_which_60 : fetch 190 60 = some (.invokevirtual 323, 63, 186, 0, 0, 1459) := fr fe_X8_which_2 10 rfl
theorem i_X8_which_63 : fetch 190 63 = some (.iconst (-1), 64, 0, 0, 0, 0) := fr fe_X8_which_2 11 rfl
theorem i_X8_which_64 : fetch 190 64 = some (.if_icmp .ne 10, 67, 0, 0, 0, 0) := fr fe_X8_which_2 12 rfl
theorem i_X8_which_67 : fetch 190 67 = some (.iconst 1, 68, 0, 0, 0, 0) := fr fe_X8_which_2 13 rfl
theorem i_X8_which_68 : fetch 190 68 = some (.iload 6, 70, 0, 0, 0, 0) := fr fe_X8_which_2 14 rfl
theorem i_X8_which_70 : fetch 190 70 = some (.ishl, 71, 0, 0, 0, 0) := fr fe_X8_which_2 15 rfl
theorem i_X8_which_71 : fetch 190 71 = some (.goto 4, 74, 0, 0, 0, 0) := fr fe_X8_which_2 16 rfl
theorem i_X8_which_74 : fetch 190 74 = some (.iconst 0, 75, 0, 0, 0, 0) := fr fe_X8_which_2 17 rfl
theorem i_X8_which_75 : fetch 190 75 = some (.ior, 76, 0, 0, 0, 0) := fr fe_X8_which_2 18 rfl
theorem i_X8_which_76 : fetch 190 76 = some (.istore 5, 78, 0, 0, 0, 0) := fr fe_X8_which_2 19 rfl
theorem i_X8_which_78 : fetch 190 78 = some (.iinc 6 1, 81, 0, 0, 0, 0) := fr fe_X8_which_2 20 rfl
theorem i_X8_which_81 : fetch 190 81 = some (.goto (-46), 84, 0, 0, 0, 0) := fr fe_X8_which_2 21 rfl
theorem i_X8_which_84 : fetch 190 84 = some (.aload_n 0, 85, 0, 0, 0, 0) := fr fe_X8_which_2 22 rfl
theorem i_X8_which_85 : fetch 190 85 = some (.iload 4, 87, 0, 0, 0, 0) := fr fe_X8_which_2 23 rfl
theorem i_X8_which_87 : fetch 190 87 = some (.putfield 135, 90, 8, 14, 0, 1091) := fr fe_X8_which_2 24 rfl
theorem i_X8_which_90 : fetch 190 90 = some (.iload 5, 92, 0, 0, 0, 0) := fr fe_X8_which_3 0 rfl
theorem i_X8_which_92 : fetch 190 92 = some (.ireturn, 93, 0, 0, 0, 0) := fr fe_X8_which_3 1 rfl
theorem i_X8_fault_0 : fetch 191 0 = some (.aload_n 0, 1, 0, 0, 0, 0) := fr fe_X8_fault_1 0 rfl
theorem i_X8_fault_1 : fetch 191 1 = some (.iload_n 1, 2, 0, 0, 0, 0) := fr fe_X8_fault_1 1 rfl
theorem i_X8_fault_2 : fetch 191 2 = some (.invokevirtual 286, 5, 128, 0, 0, 1291) := fr fe_X8_fault_1 2 rfl
theorem i_X8_fault_5 : fetch 191 5 = some (.ifCond .ne 6, 8, 0, 0, 0, 0) := fr fe_X8_fault_1 3 rfl
theorem i_X8_fault_8 : fetch 191 8 = some (.bipush (-5), 10, 0, 0, 0, 0) := fr fe_X8_fault_1 4 rfl
theorem i_X8_fault_10 : fetch 191 10 = some (.ireturn, 11, 0, 0, 0, 0) := fr fe_X8_fault_1 5 rfl
theorem i_X8_fault_11 : fetch 191 11 = some (.aload_n 0, 12, 0, 0, 0, 0) := fr fe_X8_fault_1 6 rfl
theorem i_X8_fault_12 : fetch 191 12 = some (.iload_n 2, 13, 0, 0, 0, 0) := fr fe_X8_fault_1 7 rfl
theorem i_X8_fault_13 : fetch 191 13 = some (.invokevirtual 320, 16, 185, 0, 0, 1455) := fr fe_X8_fault_1 8 rfl
theorem i_X8_fault_16 : fetch 191 16 = some (.istore_n 3, 17, 0, 0, 0, 0) := fr fe_X8_fault_1 9 rfl
theorem i_X8_fault_17 : fetch 191 17 = some (.iload_n 3, 18, 0, 0, 0, 0) := fr fe_X8_fault_1 10 rfl
theorem i_X8_fault_18 : fetch 191 18 = some (.ifCond .eq 5, 21, 0, 0, 0, 0) := fr fe_X8_fault_1 11 rfl
theorem i_X8_fault_21 : fetch 191 21 = some (.iload_n 3, 22, 0, 0, 0, 0) := fr fe_X8_fault_1 12 rfl
theorem i_X8_fault_22 : fetch 191 22 = some (.ireturn, 23, 0, 0, 0, 0) := fr fe_X8_fault_1 13 rfl
theorem i_X8_fault_23 : fetch 191 23 = some (.iconst 0, 24, 0, 0, 0, 0) := fr fe_X8_fault_1 14 rfl
theorem i_X8_fault_24 : fetch 191 24 = some (.istore 4, 26, 0, 0, 0, 0) := fr fe_X8_fault_1 15 rfl
theorem i_X8_fault_26 : fetch 191 26 = some (.iload 4, 28, 0, 0, 0, 0) := fr fe_X8_fault_1 16 rfl
theorem i_X8_fault_28 : fetch 191 28 = some (.iload_n 1, 29, 0, 0, 0, 0) := fr fe_X8_fault_1 17 rfl
theorem i_X8_fault_29 : fetch 191 29 = some (.if_icmp .ge 29, 32, 0, 0, 0, 0) := fr fe_X8_fault_1 18 rfl
theorem i_X8_fault_32 : fetch 191 32 = some (.aload_n 0, 33, 0, 0, 0, 0) := fr fe_X8_fault_1 19 rfl
theorem i_X8_fault_33 : fetch 191 33 = some (.iload_n 1, 34, 0, 0, 0, 0) := fr fe_X8_fault_1 20 rfl
theorem i_X8_fault_34 : fetch 191 34 = some (.iload 4, 36, 0, 0, 0, 0) := fr fe_X8_fault_1 21 rfl
theorem i_X8_fault_36 : fetch 191 36 = some (.invokevirtual 283, 39, 167, 0, 0, 1299) := fr fe_X8_fault_1 22 rfl
theorem i_X8_fault_39 : fetch 191 39 = some (.aload_n 0, 40, 0, 0, 0, 0) := fr fe_X8_fault_1 23 rfl
theorem i_X8_fault_40 : fetch 191 40 = some (.iload_n 2, 41, 0, 0, 0, 0) := fr fe_X8_fault_1 24 rfl
theorem i_X8_fault_41 : fetch 191 41 = some (.iconst 0, 42, 0, 0, 0, 0) := fr fe_X8_fault_2 0 rfl
theorem i_X8_fault_42 : fetch 191 42 = some (.invokevirtual 323, 45, 186, 0, 0, 1459) := fr fe_X8_fault_2 1 rfl
theorem i_X8_fault_45 : fetch 191 45 = some (.iconst (-1), 46, 0, 0, 0, 0) := fr fe_X8_fault_2 2 rfl
theorem i_X8_fault_46 : fetch 191 46 = some (.if_icmp .ne 6, 49, 0, 0, 0, 0) := fr fe_X8_fault_2 3 rfl
theorem i_X8_fault_49 : fetch 191 49 = some (.iload 4, 51, 0, 0, 0, 0) := fr fe_X8_fault_2 4 rfl
theorem i_X8_fault_51 : fetch 191 51 = some (.ireturn, 52, 0, 0, 0, 0) := fr fe_X8_fault_2 5 rfl
theorem i_X8_fault_52 : fetch 191 52 = some (.iinc 4 1, 55, 0, 0, 0, 0) := fr fe_X8_fault_2 6 rfl
theorem i_X8_fault_55 : fetch 191 55 = some (.goto (-29), 58, 0, 0, 0, 0) := fr fe_X8_fault_2 7 rfl
theorem i_X8_fault_58 : fetch 191 58 = some (.iconst (-1), 59, 0, 0, 0, 0) := fr fe_X8_fault_2 8 rfl
theorem i_X8_fault_59 : fetch 191 59 = some (.ireturn, 60, 0, 0, 0, 0) := fr fe_X8_fault_2 9 rfl
theorem i_X8_uneven_0 : fetch 192 0 = some (.aload_n 0, 1, 0, 0, 0, 0) := fr fe_X8_uneven_1 0 rfl
theorem i_X8_uneven_1 : fetch 192 1 = some (.iload_n 1, 2, 0, 0, 0, 0) := fr fe_X8_uneven_1 1 rfl
theorem i_X8_uneven_2 : fetch 192 2 = some (.invokevirtual 286, 5, 128, 0, 0, 1291) := fr fe_X8_uneven_1 2 rfl
theorem i_X8_uneven_5 : fetch 192 5 = some (.ifCond .ne 6, 8, 0, 0, 0, 0) := fr fe_X8_uneven_1 3 rfl
theorem i_X8_uneven_8 : fetch 192 8 = some (.bipush (-5), 10, 0, 0, 0, 0) := fr fe_X8_uneven_1 4 rfl
theorem i_X8_uneven_10 : fetch 192 10 = some (.ireturn, 11, 0, 0, 0, 0) := fr fe_X8_uneven_1 5 rfl
theorem i_X8_uneven_11 : fetch 192 11 = some (.iload_n 2, 12, 0, 0, 0, 0) := fr fe_X8_uneven_1 6 rfl
theorem i_X8_uneven_12 : fetch 192 12 = some (.iconst 0, 13, 0, 0, 0, 0) := fr fe_X8_uneven_1 7 rfl
theorem i_X8_uneven_13 : fetch 192 13 = some (.iconst 1, 14, 0, 0, 0, 0) := fr fe_X8_uneven_1 8 rfl
theorem i_X8_uneven_14 : fetch 192 14 = some (.invokestatic 112, 17, 126, 0, 0, 1022) := fr fe_X8_uneven_1 9 rfl
theorem i_X8_uneven_17 : fetch 192 17 = some (.ifCond .ne 6, 20, 0, 0, 0, 0) := fr fe_X8_uneven_1 10 rfl
theorem i_X8_uneven_20 : fetch 192 20 = some (.bipush (-7), 22, 0, 0, 0, 0) := fr fe_X8_uneven_1 11 rfl
theorem i_X8_uneven_22 : fetch 192 22 = some (.ireturn, 23, 0, 0, 0, 0) := fr fe_X8_uneven_1 12 rfl
theorem i_X8_uneven_23 : fetch 192 23 = some (.aload_n 0, 24, 0, 0, 0, 0) := fr fe_X8_uneven_1 13 rfl
theorem i_X8_uneven_24 : fetch 192 24 = some (.iload_n 1, 25, 0, 0, 0, 0) := fr fe_X8_uneven_1 14 rfl
theorem i_X8_uneven_25 : fetch 192 25 = some (.invokevirtual 289, 28, 168, 0, 0, 1295) := fr fe_X8_uneven_1 15 rfl
theorem i_X8_uneven_28 : fetch 192 28 = some (.aload_n 0, 29, 0, 0, 0, 0) := fr fe_X8_uneven_1 16 rfl
theorem i_X8_uneven_29 : fetch 192 29 = some (.invokevirtual 304, 32, 172, 0, 0, 1402) := fr fe_X8_uneven_1 17 rfl
theorem i_X8_uneven_32 : fetch 192 32 = some (.istore_n 3, 33, 0, 0, 0, 0) := fr fe_X8_uneven_1 18 rfl
theorem i_X8_uneven_33 : fetch 192 33 = some (.iconst (-1), 34, 0, 0, 0, 0) := fr fe_X8_uneven_1 19 rfl
theorem i_X8_uneven_34 : fetch 192 34 = some (.istore 4, 36, 0, 0, 0, 0) := fr fe_X8_uneven_1 20 rfl
theorem i_X8_uneven_36 : fetch 192 36 = some (.iconst 0, 37, 0, 0, 0, 0) := fr fe_X8_uneven_1 21 rfl
theorem i_X8_uneven_37 : fetch 192 37 = some (.istore 5, 39, 0, 0, 0, 0) := fr fe_X8_uneven_1 22 rfl
theorem i_X8_uneven_39 : fetch 192 39 = some (.iconst 0, 40, 0, 0, 0, 0) := fr fe_X8_uneven_1 23 rfl
theorem i_X8_uneven_40 : fetch 192 40 = some (.istore 6, 42, 0, 0, 0, 0) := fr fe_X8_uneven_1 24 rfl
theorem i_X8_uneven_42 : fetch 192 42 = some (.iload 6, 44, 0, 0, 0, 0) := fr fe_X8_uneven_2 0 rfl
theorem i_X8_uneven_44 : fetch 192 44 = some (.bipush 12, 46, 0, 0, 0, 0) := fr fe_X8_uneven_2 1 rfl
theorem i_X8_uneven_46 : fetch 192 46 = some (.if_icmp .ge 79, 49, 0, 0, 0, 0) := fr fe_X8_uneven_2 2 rfl
theorem i_X8_uneven_49 : fetch 192 49 = some (.aload_n 0, 50, 0, 0, 0, 0) := fr fe_X8_uneven_2 3 rfl
theorem i_X8_uneven_50 : fetch 192 50 = some (.getfield 8, 53, 8, 0, 0, 1061) := fr fe_X8_uneven_2 4 rfl
theorem i_X8_uneven_53 : fetch 192 53 = some (.iload 6, 55, 0, 0, 0, 0) := fr fe_X8_uneven_2 5 rfl
theorem i_X8_uneven_55 : fetch 192 55 = some (.iaload, 56, 0, 0, 0, 0) := fr fe_X8_uneven_2 6 rfl
theorem i_X8_uneven_56 : fetch 192 56 = some (.istore 7, 58, 0, 0, 0, 0) := fr fe_X8_uneven_2 7 rfl
theorem i_X8_uneven_58 : fetch 192 58 = some (.aload_n 0, 59, 0, 0, 0, 0) := fr fe_X8_uneven_2 8 rfl
theorem i_X8_uneven_59 : fetch 192 59 = some (.getfield 8, 62, 8, 0, 0, 1061) := fr fe_X8_uneven_2 9 rfl
theorem i_X8_uneven_62 : fetch 192 62 = some (.iload 6, 64, 0, 0, 0, 0) := fr fe_X8_uneven_2 10 rfl
theorem i_X8_uneven_64 : fetch 192 64 = some (.iload 7, 66, 0, 0, 0, 0) := fr fe_X8_uneven_2 11 rfl
theorem i_X8_uneven_66 : fetch 192 66 = some (.iload 7, 68, 0, 0, 0, 0) := fr fe_X8_uneven_2 12 rfl
theorem i_X8_uneven_68 : fetch 192 68 = some (.bipush 10, 70, 0, 0, 0, 0) := fr fe_X8_uneven_2 13 rfl
theorem i_X8_uneven_70 : fetch 192 70 = some (.idiv, 71, 0, 0, 0, 0) := fr fe_X8_uneven_2 14 rfl
theorem i_X8_uneven_71 : fetch 192 71 = some (.iadd, 72, 0, 0, 0, 0) := fr fe_X8_uneven_2 15 rfl
theorem i_X8_uneven_72 : fetch 192 72 = some (.iastore, 73, 0, 0, 0, 0) := fr fe_X8_uneven_2 16 rfl
theorem i_X8_uneven_73 : fetch 192 73 = some (.aload_n 0, 74, 0, 0, 0, 0) := fr fe_X8_uneven_2 17 rfl
theorem i_X8_uneven_74 : fetch 192 74 = some (.iload_n 1, 75, 0, 0, 0, 0) := fr fe_X8_uneven_2 18 rfl
theorem i_X8_uneven_75 : fetch 192 75 = some (.invokevirtual 289, 78, 168, 0, 0, 1295) := fr fe_X8_uneven_2 19 rfl
theorem i_X8_uneven_78 : fetch 192 78 = some (.aload_n 0, 79, 0, 0, 0, 0) := fr fe_X8_uneven_2 20 rfl
theorem i_X8_uneven_79 : fetch 192 79 = some (.getfield 8, 82, 8, 0, 0, 1061) := fr fe_X8_uneven_2 21 rfl
theorem i_X8_uneven_82 : fetch 192 82 = some (.iload 6, 84, 0, 0, 0, 0) := fr fe_X8_uneven_2 22 rfl
theorem i_X8_uneven_84 : fetch 192 84 = some (.iload 7, 86, 0, 0, 0, 0) := fr fe_X8_uneven_2 23 rfl
theorem i_X8_uneven_86 : fetch 192 86 = some (.iastore, 87, 0, 0, 0, 0) := fr fe_X8_uneven_2 24 rfl
theorem i_X8_uneven_87 : fetch 192 87 = some (.aload_n 0, 88, 0, 0, 0, 0) := fr fe_X8_uneven_3 0 rfl
theorem i_X8_uneven_88 : fetch 192 88 = some (.invokevirtual 304, 91, 172, 0, 0, 1402) := fr fe_X8_uneven_3 1 rfl
theorem i_X8_uneven_91 : fetch 192 91 = some (.iload_n 3, 92, 0, 0, 0, 0) := fr fe_X8_uneven_3 2 rfl
theorem i_X8_uneven_92 : fetch 192 92 = some (.isub, 93, 0, 0, 0, 0) := fr fe_X8_uneven_3 3 rfl
theorem i_X8_uneven_93 : fetch 192 93 = some (.invokestatic 326, 96, 129, 0, 0, 1483) := fr fe_X8_uneven_3 4 rfl
theorem i_X8_uneven_96 : fetch 192 96 = some (.istore 8, 98, 0, 0, 0, 0) := fr fe_X8_uneven_3 5 rfl
theorem i_X8_uneven_98 : fetch 192 98 = some (.iload 4, 100, 0, 0, 0, 0) := fr fe_X8_uneven_3 6 rfl
theorem i_X8_uneven_100 : fetch 192 100 = some (.iconst (-1), 101, 0, 0, 0, 0) := fr fe_X8_uneven_3 7 rfl
theorem i_X8_uneven_101 : fetch 192 101 = some (.if_icmp .eq 10, 104, 0, 0, 0, 0) := fr fe_X8_uneven_3 8 rfl
theorem i_X8_uneven_104 : fetch 192 104 = some (.iload 8, 106, 0, 0, 0, 0) := fr fe_X8_uneven_3 9 rfl
theorem i_X8_uneven_106 : fetch 192 106 = some (.iload 5, 108, 0, 0, 0, 0) := fr fe_X8_uneven_3 10 rfl
theorem i_X8_uneven_108 : fetch 192 108 = some (.if_icmp .le 11, 111, 0, 0, 0, 0) := fr fe_X8_uneven_3 11 rfl
theorem i_X8_uneven_111 : fetch 192 111 = some (.iload 6, 113, 0, 0, 0, 0) := fr fe_X8_uneven_3 12 rfl
theorem i_X8_uneven_113 : fetch 192 113 = some (.istore 4, 115, 0, 0, 0, 0) := fr fe_X8_uneven_3 13 rfl
theorem i_X8_uneven_115 : fetch 192 115 = some (.iload 8, 117, 0, 0, 0, 0) := fr fe_X8_uneven_3 14 rfl
theorem i_X8_uneven_117 : fetch 192 117 = some (.istore 5, 119, 0, 0, 0, 0) := fr fe_X8_uneven_3 15 rfl
theorem i_X8_uneven_119 : fetch 192 119 = some (.iinc 6 1, 122, 0, 0, 0, 0) := fr fe_X8_uneven_3 16 rfl
theorem i_X8_uneven_122 : fetch 192 122 = some (.goto (-80), 125, 0, 0, 0, 0) := fr fe_X8_uneven_3 17 rfl
theorem i_X8_uneven_125 : fetch 192 125 = some (.iload_n 2, 126, 0, 0, 0, 0) := fr fe_X8_uneven_3 18 rfl
theorem i_X8_uneven_126 : fetch 192 126 = some (.ifCond .ne 8, 129, 0, 0, 0, 0) := fr fe_X8_uneven_3 19 rfl
theorem i_X8_uneven_129 : fetch 192 129 = some (.iload 4, 131, 0, 0, 0, 0) := fr fe_X8_uneven_3 20 rfl
theorem i_X8_uneven_131 : fetch 192 131 = some (.goto 5, 134, 0, 0, 0, 0) := fr fe_X8_uneven_3 21 rfl
theorem i_X8_uneven_134 : fetch 192 134 = some (.iload 5, 136, 0, 0, 0, 0) := fr fe_X8_uneven_3 22 rfl
theorem i_X8_uneven_136 : fetch 192 136 = some (.ireturn, 137, 0, 0, 0, 0) := fr fe_X8_uneven_3 23 rfl
theorem i_X8_cooked_0 : fetch 193 0 = some (.iconst 0, 1, 0, 0, 0, 0) := fr fe_X8_cooked_1 0 rfl
theorem i_X8_cooked_1 : fetch 193 1 = some (.istore_n 3, 2, 0, 0, 0, 0) := fr fe_X8_cooked_1 1 rfl
theorem i_X8_cooked_2 : fetch 193 2 = some (.iconst 0, 3, 0, 0, 0, 0) := fr fe_X8_cooked_1 2 rfl
theorem i_X8_cooked_3 : fetch 193 3 = some (.istore 4, 5, 0, 0, 0, 0) := fr fe_X8_cooked_1 3 rfl
theorem i_X8_cooked_5 : fetch 193 5 = some (.iload 4, 7, 0, 0, 0, 0) := fr fe_X8_cooked_1 4 rfl
theorem i_X8_cooked_7 : fetch 193 7 = some (.bipush 12, 9, 0, 0, 0, 0) := fr fe_X8_cooked_1 5 rfl
theorem i_X8_cooked_9 : fetch 193 9 = some (.if_icmp .ge 56, 12, 0, 0, 0, 0) := fr fe_X8_cooked_1 6 rfl
theorem i_X8_cooked_12 : fetch 193 12 = some (.aload_n 0, 13, 0, 0, 0, 0) := fr fe_X8_cooked_1 7 rfl
theorem i_X8_cooked_13 : fetch 193 13 = some (.iload 4, 15, 0, 0, 0, 0) := fr fe_X8_cooked_1 8 rfl
theorem i_X8_cooked_15 : fetch 193 15 = some (.invokevirtual 202, 18, 154, 0, 0, 1324) := fr fe_X8_cooked_1 9 rfl
theorem i_X8_cooked_18 : fetch 193 18 = some (.istore 5, 20, 0, 0, 0, 0) := fr fe_X8_cooked_1 10 rfl
theorem i_X8_cooked_20 : fetch 193 20 = some (.iload_n 1, 21, 0, 0, 0, 0) := fr fe_X8_cooked_1 11 rfl
theorem i_X8_cooked_21 : fetch 193 21 = some (.iload 5, 23, 0, 0, 0, 0) := fr fe_X8_cooked_1 12 rfl
theorem i_X8_cooked_23 : fetch 193 23 = some (.if_icmp .ge 7, 26, 0, 0, 0, 0) := fr fe_X8_cooked_1 13 rfl
theorem i_X8_cooked_26 : fetch 193 26 = some (.iconst 0, 27, 0, 0, 0, 0) := fr fe_X8_cooked_1 14 rfl
theorem i_X8_cooked_27 : fetch 193 27 = some (.goto 16, 30, 0, 0, 0, 0) := fr fe_X8_cooked_1 15 rfl
theorem i_X8_cooked_30 : fetch 193 30 = some (.iload_n 1, 31, 0, 0, 0, 0) := fr fe_X8_cooked_1 16 rfl
theorem i_X8_cooked_31 : fetch 193 31 = some (.iconst 2, 32, 0, 0, 0, 0) := fr fe_X8_cooked_1 17 rfl
theorem i_X8_cooked_32 : fetch 193 32 = some (.iload 5, 34, 0, 0, 0, 0) := fr fe_X8_cooked_1 18 rfl
theorem i_X8_cooked_34 : fetch 193 34 = some (.imul, 35, 0, 0, 0, 0) := fr fe_X8_cooked_1 19 rfl
theorem i_X8_cooked_35 : fetch 193 35 = some (.if_icmp .ge 7, 38, 0, 0, 0, 0) := fr fe_X8_cooked_1 20 rfl
theorem i_X8_cooked_38 : fetch 193 38 = some (.iconst 1, 39, 0, 0, 0, 0) := fr fe_X8_cooked_1 21 rfl
theorem i_X8_cooked_39 : fetch 193 39 = some (.goto 4, 42, 0, 0, 0, 0) := fr fe_X8_cooked_1 22 rfl
theorem i_X8_cooked_42 : fetch 193 42 = some (.iconst 2, 43, 0, 0, 0, 0) := fr fe_X8_cooked_1 23 rfl
theorem i_X8_cooked_43 : fetch 193 43 = some (.istore 6, 45, 0, 0, 0, 0) := fr fe_X8_cooked_1 24 rfl
theorem i_X8_cooked_45 : fetch 193 45 = some (.iload_n 3, 46, 0, 0, 0, 0) := fr fe_X8_cooked_2 0 rfl
theorem i_X8_cooked_46 : fetch 193 46 = some (.iload 6, 48, 0, 0, 0, 0) := fr fe_X8_cooked_2 1 rfl
theorem i_X8_cooked_48 : fetch 193 48 = some (.iload_n 2, 49, 0, 0, 0, 0) := fr fe_X8_cooked_2 2 rfl
theorem i_X8_cooked_49 : fetch 193 49 = some (.if_icmp .ne 7, 52, 0, 0, 0, 0) := fr fe_X8_cooked_2 3 rfl
theorem i_X8_cooked_52 : fetch 193 52 = some (.iconst 1, 53, 0, 0, 0, 0) := fr fe_X8_cooked_2 4 rfl
theorem i_X8_cooked_53 : fetch 193 53 = some (.goto 4, 56, 0, 0, 0, 0) := fr fe_X8_cooked_2 5 rfl
theorem i_X8_cooked_56 : fetch 193 56 = some (.iconst 0, 57, 0, 0, 0, 0) := fr fe_X8_cooked_2 6 rfl
theorem i_X8_cooked_57 : fetch 193 57 = some (.iadd, 58, 0, 0, 0, 0) := fr fe_X8_cooked_2 7 rfl
theorem i_X8_cooked_58 : fetch 193 58 = some (.istore_n 3, 59, 0, 0, 0, 0) := fr fe_X8_cooked_2 8 rfl
theorem i_X8_cooked_59 : fetch 193 59 = some (.iinc 4 1, 62, 0, 0, 0, 0) := fr fe_X8_cooked_2 9 rfl
theorem i_X8_cooked_62 : fetch 193 62 = some (.goto (-57), 65, 0, 0, 0, 0) := fr fe_X8_cooked_2 10 rfl
theorem i_X8_cooked_65 : fetch 193 65 = some (.iload_n 3, 66, 0, 0, 0, 0) := fr fe_X8_cooked_2 11 rfl
theorem i_X8_cooked_66 : fetch 193 66 = some (.ireturn, 67, 0, 0, 0, 0) := fr fe_X8_cooked_2 12 rfl
theorem i_X8_cooks_0 : fetch 194 0 = some (.aload_n 0, 1, 0, 0, 0, 0) := fr fe_X8_cooks 0 rfl
theorem i_X8_cooks_1 : fetch 194 1 = some (.iload_n 1, 2, 0, 0, 0, 0) := fr fe_X8_cooks 1 rfl
theorem i_X8_cooks_2 : fetch 194 2 = some (.invokevirtual 286, 5, 128, 0, 0, 1291) := fr fe_X8_cooks 2 rfl
theorem i_X8_cooks_5 : fetch 194 5 = some (.ifCond .ne 6, 8, 0, 0, 0, 0) := fr fe_X8_cooks 3 rfl
theorem i_X8_cooks_8 : fetch 194 8 = some (.bipush (-5), 10, 0, 0, 0, 0) := fr fe_X8_cooks 4 rfl
theorem i_X8_cooks_10 : fetch 194 10 = some (.ireturn, 11, 0, 0, 0, 0) := fr fe_X8_cooks 5 rfl
theorem i_X8_cooks_11 : fetch 194 11 = some (.iload_n 2, 12, 0, 0, 0, 0) := fr fe_X8_cooks 6 rfl
theorem i_X8_cooks_12 : fetch 194 12 = some (.iconst 0, 13, 0, 0, 0, 0) := fr fe_X8_cooks 7 rfl
theorem i_X8_cooks_13 : fetch 194 13 = some (.sipush 9999, 16, 0, 0, 0, 0) := fr fe_X8_cooks 8 rfl
theorem i_X8_cooks_16 : fetch 194 16 = some (.invokestatic 112, 19, 126, 0, 0, 1022) := fr fe_X8_cooks 9 rfl
theorem i_X8_cooks_19 : fetch 194 19 = some (.ifCond .eq 12, 22, 0, 0, 0, 0) := fr fe_X8_cooks 10 rfl
theorem i_X8_cooks_22 : fetch 194 22 = some (.iload_n 3, 23, 0, 0, 0, 0) := fr fe_X8_cooks 11 rfl
theorem i_X8_cooks_23 : fetch 194 23 = some (.iconst 0, 24, 0, 0, 0, 0) := fr fe_X8_cooks 12 rfl
theorem i_X8_cooks_24 : fetch 194 24 = some (.iconst 2, 25, 0, 0, 0, 0) := fr fe_X8_cooks 13 rfl
theorem i_X8_cooks_25 : fetch 194 25 = some (.invokestatic 112, 28, 126, 0, 0, 1022) := fr fe_X8_cooks 14 rfl
theorem i_X8_cooks_28 : fetch 194 28 = some (.ifCond .ne 6, 31, 0, 0, 0, 0) := fr fe_X8_cooks 15 rfl
theorem i_X8_cooks_31 : fetch 194 31 = some (.bipush (-7), 33, 0, 0, 0, 0) := fr fe_X8_cooks 16 rfl
theorem i_X8_cooks_33 : fetch 194 33 = some (.ireturn, 34, 0, 0, 0, 0) := fr fe_X8_cooks 17 rfl
theorem i_X8_cooks_34 : fetch 194 34 = some (.aload_n 0, 35, 0, 0, 0, 0) := fr fe_X8_cooks 18 rfl
theorem i_X8_cooks_35 : fetch 194 35 = some (.iload_n 1, 36, 0, 0, 0, 0) := fr fe_X8_cooks 19 rfl
theorem i_X8_cooks_36 : fetch 194 36 = some (.invokevirtual 289, 39, 168, 0, 0, 1295) := fr fe_X8_cooks 20 rfl
theorem i_X8_cooks_39 : fetch 194 39 = some (.aload_n 0, 40, 0, 0, 0, 0) := fr fe_X8_cooks 21 rfl
theorem i_X8_cooks_40 : fetch 194 40 = some (.iload_n 2, 41, 0, 0, 0, 0) := fr fe_X8_cooks 22 rfl
theorem i_X8_cooks_41 : fetch 194 41 = some (.iload_n 3, 42, 0, 0, 0, 0) := fr fe_X8_cooks 23 rfl
theorem i_X8_cooks_42 : fetch 194 42 = some (.invokevirtual 329, 45, 193, 0, 0, 1490) := fr fe_X8_cooks 24 rfl
theorem i_X8_cooks_45 : fetch 194 45 = some (.ireturn, 46, 0, 0, 0, 0) := fr fe_X8_cooks 25 rfl
theorem i_X8_pot_0 : fetch 195 0 = some (.aload_n 0, 1, 0, 0, 0, 0) := fr fe_X8_pot_1 0 rfl
theorem i_X8_pot_1 : fetch 195 1 = some (.iload_n 1, 2, 0, 0, 0, 0) := fr fe_X8_pot_1 1 rfl
theorem i_X8_pot_2 : fetch 195 2 = some (.invokevirtual 286, 5, 128, 0, 0, 1291) := fr fe_X8_pot_1 2 rfl
theorem i_X8_pot_5 : fetch 195 5 = some (.ifCond .ne 6, 8, 0, 0, 0, 0) := fr fe_X8_pot_1 3 rfl
theorem i_X8_pot_8 : fetch 195 8 = some (.bipush (-5), 10, 0, 0, 0, 0) := fr fe_X8_pot_1 4 rfl
theorem i_X8_pot_10 : fetch 195 10 = some (.ireturn, 11, 0, 0, 0, 0) := fr fe_X8_pot_1 5 rfl
theorem i_X8_pot_11 : fetch 195 11 = some (.aload_n 0, 12, 0, 0, 0, 0) := fr fe_X8_pot_1 6 rfl
theorem i_X8_pot_12 : fetch 195 12 = some (.iload_n 1, 13, 0, 0, 0, 0) := fr fe_X8_pot_1 7 rfl
theorem i_X8_pot_13 : fetch 195 13 = some (.invokevirtual 289, 16, 168, 0, 0, 1295) := fr fe_X8_pot_1 8 rfl
theorem i_X8_pot_16 : fetch 195 16 = some (.iconst 0, 17, 0, 0, 0, 0) := fr fe_X8_pot_1 9 rfl
theorem i_X8_pot_17 : fetch 195 17 = some (.istore_n 2, 18, 0, 0, 0, 0) := fr fe_X8_pot_1 10 rfl
theorem i_X8_pot_18 : fetch 195 18 = some (.iconst 0, 19, 0, 0, 0, 0) := fr fe_X8_pot_1 11 rfl
theorem i_X8_pot_19 : fetch 195 19 = some (.istore_n 3, 20, 0, 0, 0, 0) := fr fe_X8_pot_1 12 rfl
theorem i_X8_pot_20 : fetch 195 20 = some (.iconst 0, 21, 0, 0, 0, 0) := fr fe_X8_pot_1 13 rfl
theorem i_X8_pot_21 : fetch 195 21 = some (.istore 4, 23, 0, 0, 0, 0) := fr fe_X8_pot_1 14 rfl
theorem i_X8_pot_23 : fetch 195 23 = some (.iload 4, 25, 0, 0, 0, 0) := fr fe_X8_pot_1 15 rfl
theorem i_X8_pot_25 : fetch 195 25 = some (.bipush 12, 27, 0, 0, 0, 0) := fr fe_X8_pot_1 16 rfl
theorem i_X8_pot_27 : fetch 195 27 = some (.if_icmp .ge 50, 30, 0, 0, 0, 0) := fr fe_X8_pot_1 17 rfl
theorem i_X8_pot_30 : fetch 195 30 = some (.aload_n 0, 31, 0, 0, 0, 0) := fr fe_X8_pot_1 18 rfl
theorem i_X8_pot_31 : fetch 195 31 = some (.iload 4, 33, 0, 0, 0, 0) := fr fe_X8_pot_1 19 rfl
theorem i_X8_pot_33 : fetch 195 33 = some (.invokevirtual 202, 36, 154, 0, 0, 1324) := fr fe_X8_pot_1 20 rfl
theorem i_X8_pot_36 : fetch 195 36 = some (.istore 5, 38, 0, 0, 0, 0) := fr fe_X8_pot_1 21 rfl
theorem i_X8_pot_38 : fetch 195 38 = some (.aload_n 0, 39, 0, 0, 0, 0) := fr fe_X8_pot_1 22 rfl
theorem i_X8_pot_39 : fetch 195 39 = some (.iload 5, 41, 0, 0, 0, 0) := fr fe_X8_pot_1 23 rfl
theorem i_X8_pot_41 : fetch 195 41 = some (.iconst 1, 42, 0, 0, 0, 0) := fr fe_X8_pot_1 24 rfl
theorem i_X8_pot_42 : fetch 195 42 = some (.invokevirtual 329, 45, 193, 0, 0, 1490) := fr fe_X8_pot_2 0 rfl
theorem i_X8_pot_45 : fetch 195 45 = some (.istore 6, 47, 0, 0, 0, 0) := fr fe_X8_pot_2 1 rfl
theorem i_X8_pot_47 : fetch 195 47 = some (.iload 6, 49, 0, 0, 0, 0) := fr fe_X8_pot_2 2 rfl
theorem i_X8_pot_49 : fetch 195 49 = some (.iload_n 3, 50, 0, 0, 0, 0) := fr fe_X8_pot_2 3 rfl
theorem i_X8_pot_50 : fetch 195 50 = some (.if_icmp .gt 15, 53, 0, 0, 0, 0) := fr fe_X8_pot_2 4 rfl
theorem i_X8_pot_53 : fetch 195 53 = some (.iload 6, 55, 0, 0, 0, 0) := fr fe_X8_pot_2 5 rfl
theorem i_X8_pot_55 : fetch 195 55 = some (.iload_n 3, 56, 0, 0, 0, 0) := fr fe_X8_pot_2 6 rfl
theorem i_X8_pot_56 : fetch 195 56 = some (.if_icmp .ne 15, 59, 0, 0, 0, 0) := fr fe_X8_pot_2 7 rfl
theorem i_X8_pot_59 : fetch 195 59 = some (.iload 5, 61, 0, 0, 0, 0) := fr fe_X8_pot_2 8 rfl
theorem i_X8_pot_61 : fetch 195 61 = some (.iload_n 2, 62, 0, 0, 0, 0) := fr fe_X8_pot_2 9 rfl
theorem i_X8_pot_62 : fetch 195 62 = some (.if_icmp .ge 9, 65, 0, 0, 0, 0) := fr fe_X8_pot_2 10 rfl
theorem i_X8_pot_65 : fetch 195 65 = some (.iload 5, 67, 0, 0, 0, 0) := fr fe_X8_pot_2 11 rfl
theorem i_X8_pot_67 : fetch 195 67 = some (.istore_n 2, 68, 0, 0, 0, 0) := fr fe_X8_pot_2 12 rfl
theorem i_X8_pot_68 : fetch 195 68 = some (.iload 6, 70, 0, 0, 0, 0) := fr fe_X8_pot_2 13 rfl
theorem i_X8_pot_70 : fetch 195 70 = some (.istore_n 3, 71, 0, 0, 0, 0) := fr fe_X8_pot_2 14 rfl
theorem i_X8_pot_71 : fetch 195 71 = some (.iinc 4 1, 74, 0, 0, 0, 0) := fr fe_X8_pot_2 15 rfl
theorem i_X8_pot_74 : fetch 195 74 = some (.goto (-51), 77, 0, 0, 0, 0) := fr fe_X8_pot_2 16 rfl
theorem i_X8_pot_77 : fetch 195 77 = some (.iload_n 2, 78, 0, 0, 0, 0) := fr fe_X8_pot_2 17 rfl
theorem i_X8_pot_78 : fetch 195 78 = some (.ireturn, 79, 0, 0, 0, 0) := fr fe_X8_pot_2 18 rfl
theorem i_X8_isSpot_0 : fetch 196 0 = some (.iload_n 0, 1, 0, 0, 0, 0) := fr fe_X8_isSpot 0 rfl
theorem i_X8_isSpot_1 : fetch 196 1 = some (.iconst 0, 2, 0, 0, 0, 0) := fr fe_X8_isSpot 1 rfl
theorem i_X8_isSpot_2 : fetch 196 2 = some (.sipush 4095, 5, 0, 0, 0, 0) := fr fe_X8_isSpot 2 rfl
theorem i_X8_isSpot_5 : fetch 196 5 = some (.invokestatic 112, 8, 126, 0, 0, 1022) := fr fe_X8_isSpot 3 rfl
theorem i_X8_isSpot_8 : fetch 196 8 = some (.ireturn, 9, 0, 0, 0, 0) := fr fe_X8_isSpot 4 rfl
theorem i_X8_doubledOnce_0 : fetch 197 0 = some (.iload_n 0, 1, 0, 0, 0, 0) := fr fe_X8_doubledOnce 0 rfl
theorem i_X8_doubledOnce_1 : fetch 197 1 = some (.sipush 2048, 4, 0, 0, 0, 0) := fr fe_X8_doubledOnce 1 rfl
theorem i_X8_doubledOnce_4 : fetch 197 4 = some (.if_icmp .ge 9, 7, 0, 0, 0, 0) := fr fe_X8_doubledOnce 2 rfl
theorem i_X8_doubledOnce_7 : fetch 197 7 = some (.iconst 2, 8, 0, 0, 0, 0) := fr fe_X8_doubledOnce 3 rfl
theorem i_X8_doubledOnce_8 : fetch 197 8 = some (.iload_n 0, 9, 0, 0, 0, 0) := fr fe_X8_doubledOnce 4 rfl
theorem i_X8_doubledOnce_9 : fetch 197 9 = some (.imul, 10, 0, 0, 0, 0) := fr fe_X8_doubledOnce 5 rfl
theorem i_X8_doubledOnce_10 : fetch 197 10 = some (.goto 12, 13, 0, 0, 0, 0) := fr fe_X8_doubledOnce 6 rfl
theorem i_X8_doubledOnce_13 : fetch 197 13 = some (.iconst 2, 14, 0, 0, 0, 0) := fr fe_X8_doubledOnce 7 rfl
theorem i_X8_doubledOnce_14 : fetch 197 14 = some (.sipush 4095, 17, 0, 0, 0, 0) := fr fe_X8_doubledOnce 8 rfl
theorem i_X8_doubledOnce_17 : fetch 197 17 = some (.iload_n 0, 18, 0, 0, 0, 0) := fr fe_X8_doubledOnce 9 rfl
theorem i_X8_doubledOnce_18 : fetch 197 18 = some (.isub, 19, 0, 0, 0, 0) := fr fe_X8_doubledOnce 10 rfl
theorem i_X8_doubledOnce_19 : fetch 197 19 = some (.imul, 20, 0, 0, 0, 0) := fr fe_X8_doubledOnce 11 rfl
theorem i_X8_doubledOnce_20 : fetch 197 20 = some (.iconst 1, 21, 0, 0, 0, 0) := fr fe_X8_doubledOnce 12 rfl
theorem i_X8_doubledOnce_21 : fetch 197 21 = some (.iadd, 22, 0, 0, 0, 0) := fr fe_X8_doubledOnce 13 rfl
theorem i_X8_doubledOnce_22 : fetch 197 22 = some (.ireturn, 23, 0, 0, 0, 0) := fr fe_X8_doubledOnce 14 rfl
theorem i_X8_behind_0 : fetch 198 0 = some (.iload_n 0, 1, 0, 0, 0, 0) := fr fe_X8_behind 0 rfl
theorem i_X8_behind_1 : fetch 198 1 = some (.istore_n 2, 2, 0, 0, 0, 0) := fr fe_X8_behind 1 rfl
theorem i_X8_behind_2 : fetch 198 2 = some (.iconst 0, 3, 0, 0, 0, 0) := fr fe_X8_behind 2 rfl
theorem i_X8_behind_3 : fetch 198 3 = some (.istore_n 3, 4, 0, 0, 0, 0) := fr fe_X8_behind 3 rfl
theorem i_X8_behind_4 : fetch 198 4 = some (.iload_n 3, 5, 0, 0, 0, 0) := fr fe_X8_behind 4 rfl
theorem i_X8_behind_5 : fetch 198 5 = some (.iload_n 1, 6, 0, 0, 0, 0) := fr fe_X8_behind 5 rfl
theorem i_X8_behind_6 : fetch 198 6 = some (.if_icmp .ge 14, 9, 0, 0, 0, 0) := fr fe_X8_behind 6 rfl
theorem i_X8_behind_9 : fetch 198 9 = some (.iload_n 2, 10, 0, 0, 0, 0) := fr fe_X8_behind 7 rfl
theorem i_X8_behind_10 : fetch 198 10 = some (.invokestatic 332, 13, 197, 0, 0, 1508) := fr fe_X8_behind 8 rfl
theorem i_X8_behind_13 : fetch 198 13 = some (.istore_n 2, 14, 0, 0, 0, 0) := fr fe_X8_behind 9 rfl
theorem i_X8_behind_14 : fetch 198 14 = some (.iinc 3 1, 17, 0, 0, 0, 0) := fr fe_X8_behind 10 rfl
theorem i_X8_behind_17 : fetch 198 17 = some (.goto (-13), 20, 0, 0, 0, 0) := fr fe_X8_behind 11 rfl
theorem i_X8_behind_20 : fetch 198 20 = some (.iload_n 2, 21, 0, 0, 0, 0) := fr fe_X8_behind 12 rfl
theorem i_X8_behind_21 : fetch 198 21 = some (.ireturn, 22, 0, 0, 0, 0) := fr fe_X8_behind 13 rfl
theorem i_X8_place_0 : fetch 199 0 = some (.iload_n 1, 1, 0, 0, 0, 0) := fr fe_X8_place 0 rfl
theorem i_X8_place_1 : fetch 199 1 = some (.invokestatic 335, 4, 196, 0, 0, 1502) := fr fe_X8_place 1 rfl
theorem i_X8_place_4 : fetch 199 4 = some (.ifCond .eq 21, 7, 0, 0, 0, 0) := fr fe_X8_place 2 rfl
theorem i_X8_place_7 : fetch 199 7 = some (.iload_n 2, 8, 0, 0, 0, 0) := fr fe_X8_place 3 rfl
theorem i_X8_place_8 : fetch 199 8 = some (.iconst 0, 9, 0, 0, 0, 0) := fr fe_X8_place 4 rfl
theorem i_X8_place_9 : fetch 199 9 = some (.bipush 64, 11, 0, 0, 0, 0) := fr fe_X8_place 5 rfl
theorem i_X8_place_11 : fetch 199 11 = some (.invokestatic 112, 14, 126, 0, 0, 1022) := fr fe_X8_place 6 rfl
theorem i_X8_place_14 : fetch 199 14 = some (.ifCond .eq 11, 17, 0, 0, 0, 0) := fr fe_X8_place 7 rfl
theorem i_X8_place_17 : fetch 199 17 = some (.iload_n 1, 18, 0, 0, 0, 0) := fr fe_X8_place 8 rfl
theorem i_X8_place_18 : fetch 199 18 = some (.iload_n 2, 19, 0, 0, 0, 0) := fr fe_X8_place 9 rfl
theorem i_X8_place_19 : fetch 199 19 = some (.invokestatic 338, 22, 198, 0, 0, 1505) := fr fe_X8_place 10 rfl
theorem i_X8_place_22 : fetch 199 22 = some (.goto 5, 25, 0, 0, 0, 0) := fr fe_X8_place 11 rfl
theorem i_X8_place_25 : fetch 199 25 = some (.bipush (-2), 27, 0, 0, 0, 0) := fr fe_X8_place 12 rfl
theorem i_X8_place_27 : fetch 199 27 = some (.ireturn, 28, 0, 0, 0, 0) := fr fe_X8_place 13 rfl
theorem i_X8_apart_0 : fetch 200 0 = some (.iload_n 1, 1, 0, 0, 0, 0) := fr fe_X8_apart 0 rfl
theorem i_X8_apart_1 : fetch 200 1 = some (.invokestatic 335, 4, 196, 0, 0, 1502) := fr fe_X8_apart 1 rfl
theorem i_X8_apart_4 : fetch 200 4 = some (.ifCond .eq 37, 7, 0, 0, 0, 0) := fr fe_X8_apart 2 rfl
theorem i_X8_apart_7 : fetch 200 7 = some (.iload_n 2, 8, 0, 0, 0, 0) := fr fe_X8_apart 3 rfl
theorem i_X8_apart_8 : fetch 200 8 = some (.invokestatic 335, 11, 196, 0, 0, 1502) := fr fe_X8_apart 4 rfl
theorem i_X8_apart_11 : fetch 200 11 = some (.ifCond .eq 30, 14, 0, 0, 0, 0) := fr fe_X8_apart 5 rfl
theorem i_X8_apart_14 : fetch 200 14 = some (.iload_n 3, 15, 0, 0, 0, 0) := fr fe_X8_apart 6 rfl
theorem i_X8_apart_15 : fetch 200 15 = some (.iconst 0, 16, 0, 0, 0, 0) := fr fe_X8_apart 7 rfl
theorem i_X8_apart_16 : fetch 200 16 = some (.bipush 64, 18, 0, 0, 0, 0) := fr fe_X8_apart 8 rfl
theorem i_X8_apart_18 : fetch 200 18 = some (.invokestatic 112, 21, 126, 0, 0, 1022) := fr fe_X8_apart 9 rfl
theorem i_X8_apart_21 : fetch 200 21 = some (.ifCond .eq 20, 24, 0, 0, 0, 0) := fr fe_X8_apart 10 rfl
theorem i_X8_apart_24 : fetch 200 24 = some (.iload_n 1, 25, 0, 0, 0, 0) := fr fe_X8_apart 11 rfl
theorem i_X8_apart_25 : fetch 200 25 = some (.iload_n 3, 26, 0, 0, 0, 0) := fr fe_X8_apart 12 rfl
theorem i_X8_apart_26 : fetch 200 26 = some (.invokestatic 338, 29, 198, 0, 0, 1505) := fr fe_X8_apart 13 rfl
theorem i_X8_apart_29 : fetch 200 29 = some (.iload_n 2, 30, 0, 0, 0, 0) := fr fe_X8_apart 14 rfl
theorem i_X8_apart_30 : fetch 200 30 = some (.iload_n 3, 31, 0, 0, 0, 0) := fr fe_X8_apart 15 rfl
theorem i_X8_apart_31 : fetch 200 31 = some (.invokestatic 338, 34, 198, 0, 0, 1505) := fr fe_X8_apart 16 rfl
theorem i_X8_apart_34 : fetch 200 34 = some (.isub, 35, 0, 0, 0, 0) := fr fe_X8_apart 17 rfl
theorem i_X8_apart_35 : fetch 200 35 = some (.invokestatic 326, 38, 129, 0, 0, 1483) := fr fe_X8_apart 18 rfl
theorem i_X8_apart_38 : fetch 200 38 = some (.goto 5, 41, 0, 0, 0, 0) := fr fe_X8_apart 19 rfl
theorem i_X8_apart_41 : fetch 200 41 = some (.bipush (-2), 43, 0, 0, 0, 0) := fr fe_X8_apart 20 rfl
theorem i_X8_apart_43 : fetch 200 43 = some (.ireturn, 44, 0, 0, 0, 0) := fr fe_X8_apart 21 rfl
theorem i_X8_parted_0 : fetch 201 0 = some (.iload_n 1, 1, 0, 0, 0, 0) := fr fe_X8_parted_1 0 rfl
theorem i_X8_parted_1 : fetch 201 1 = some (.invokestatic 335, 4, 196, 0, 0, 1502) := fr fe_X8_parted_1 1 rfl
theorem i_X8_parted_4 : fetch 201 4 = some (.ifCond .eq 17, 7, 0, 0, 0, 0) := fr fe_X8_parted_1 2 rfl
theorem i_X8_parted_7 : fetch 201 7 = some (.iload_n 2, 8, 0, 0, 0, 0) := fr fe_X8_parted_1 3 rfl
theorem i_X8_parted_8 : fetch 201 8 = some (.invokestatic 335, 11, 196, 0, 0, 1502) := fr fe_X8_parted_1 4 rfl
theorem i_X8_parted_11 : fetch 201 11 = some (.ifCond .eq 10, 14, 0, 0, 0, 0) := fr fe_X8_parted_1 5 rfl
theorem i_X8_parted_14 : fetch 201 14 = some (.iload_n 3, 15, 0, 0, 0, 0) := fr fe_X8_parted_1 6 rfl
theorem i_X8_parted_15 : fetch 201 15 = some (.invokestatic 335, 18, 196, 0, 0, 1502) := fr fe_X8_parted_1 7 rfl
theorem i_X8_parted_18 : fetch 201 18 = some (.ifCond .ne 6, 21, 0, 0, 0, 0) := fr fe_X8_parted_1 8 rfl
theorem i_X8_parted_21 : fetch 201 21 = some (.bipush (-2), 23, 0, 0, 0, 0) := fr fe_X8_parted_1 9 rfl
theorem i_X8_parted_23 : fetch 201 23 = some (.ireturn, 24, 0, 0, 0, 0) := fr fe_X8_parted_1 10 rfl
theorem i_X8_parted_24 : fetch 201 24 = some (.iconst 0, 25, 0, 0, 0, 0) := fr fe_X8_parted_1 11 rfl
theorem i_X8_parted_25 : fetch 201 25 = some (.istore 4, 27, 0, 0, 0, 0) := fr fe_X8_parted_1 12 rfl
theorem i_X8_parted_27 : fetch 201 27 = some (.iload 4, 29, 0, 0, 0, 0) := fr fe_X8_parted_1 13 rfl
theorem i_X8_parted_29 : fetch 201 29 = some (.bipush 64, 31, 0, 0, 0, 0) := fr fe_X8_parted_1 14 rfl
theorem i_X8_parted_31 : fetch 201 31 = some (.if_icmp .gt 32, 34, 0, 0, 0, 0) := fr fe_X8_parted_1 15 rfl
theorem i_X8_parted_34 : fetch 201 34 = some (.iload_n 1, 35, 0, 0, 0, 0) := fr fe_X8_parted_1 16 rfl
theorem i_X8_parted_35 : fetch 201 35 = some (.iload 4, 37, 0, 0, 0, 0) := fr fe_X8_parted_1 17 rfl
theorem i_X8_parted_37 : fetch 201 37 = some (.invokestatic 338, 40, 198, 0, 0, 1505) := fr fe_X8_parted_1 18 rfl
theorem i_X8_parted_40 : fetch 201 40 = some (.iload_n 2, 41, 0, 0, 0, 0) := fr fe_X8_parted_1 19 rfl
theorem i_X8_parted_41 : fetch 201 41 = some (.iload 4, 43, 0, 0, 0, 0) := fr fe_X8_parted_1 20 rfl
theorem i_X8_parted_43 : fetch 201 43 = some (.invokestatic 338, 46, 198, 0, 0, 1505) := fr fe_X8_parted_1 21 rfl
theorem i_X8_parted_46 : fetch 201 46 = some (.isub, 47, 0, 0, 0, 0) := fr fe_X8_parted_1 22 rfl
theorem i_X8_parted_47 : fetch 201 47 = some (.invokestatic 326, 50, 129, 0, 0, 1483) := fr fe_X8_parted_1 23 rfl
theorem i_X8_parted_50 : fetch 201 50 = some (.iload_n 3, 51, 0, 0, 0, 0) := fr fe_X8_parted_1 24 rfl
theorem i_X8_parted_51 : fetch 201 51 = some (.if_icmp .lt 6, 54, 0, 0, 0, 0) := fr fe_X8_parted_2 0 rfl
theorem i_X8_parted_54 : fetch 201 54 = some (.iload 4, 56, 0, 0, 0, 0) := fr fe_X8_parted_2 1 rfl
theorem i_X8_parted_56 : fetch 201 56 = some (.ireturn, 57, 0, 0, 0, 0) := fr fe_X8_parted_2 2 rfl
theorem i_X8_parted_57 : fetch 201 57 = some (.iinc 4 1, 60, 0, 0, 0, 0) := fr fe_X8_parted_2 3 rfl
theorem i_X8_parted_60 : fetch 201 60 = some (.goto (-33), 63, 0, 0, 0, 0) := fr fe_X8_parted_2 4 rfl
theorem i_X8_parted_63 : fetch 201 63 = some (.iconst (-1), 64, 0, 0, 0, 0) := fr fe_X8_parted_2 5 rfl
theorem i_X8_parted_64 : fetch 201 64 = some (.ireturn, 65, 0, 0, 0, 0) := fr fe_X8_parted_2 6 rfl
theorem i_X8_round_0 : fetch 202 0 = some (.iload_n 1, 1, 0, 0, 0, 0) := fr fe_X8_round 0 rfl
theorem i_X8_round_1 : fetch 202 1 = some (.invokestatic 335, 4, 196, 0, 0, 1502) := fr fe_X8_round 1 rfl
theorem i_X8_round_4 : fetch 202 4 = some (.ifCond .ne 6, 7, 0, 0, 0, 0) := fr fe_X8_round 2 rfl
theorem i_X8_round_7 : fetch 202 7 = some (.bipush (-2), 9, 0, 0, 0, 0) := fr fe_X8_round 3 rfl
theorem i_X8_round_9 : fetch 202 9 = some (.ireturn, 10, 0, 0, 0, 0) := fr fe_X8_round 4 rfl
theorem i_X8_round_10 : fetch 202 10 = some (.iconst 1, 11, 0, 0, 0, 0) := fr fe_X8_round 5 rfl
theorem i_X8_round_11 : fetch 202 11 = some (.istore_n 2, 12, 0, 0, 0, 0) := fr fe_X8_round 6 rfl
theorem i_X8_round_12 : fetch 202 12 = some (.iload_n 2, 13, 0, 0, 0, 0) := fr fe_X8_round 7 rfl
theorem i_X8_round_13 : fetch 202 13 = some (.bipush 64, 15, 0, 0, 0, 0) := fr fe_X8_round 8 rfl
theorem i_X8_round_15 : fetch 202 15 = some (.if_icmp .gt 20, 18, 0, 0, 0, 0) := fr fe_X8_round 9 rfl
theorem i_X8_round_18 : fetch 202 18 = some (.iload_n 1, 19, 0, 0, 0, 0) := fr fe_X8_round 10 rfl
theorem i_X8_round_19 : fetch 202 19 = some (.iload_n 2, 20, 0, 0, 0, 0) := fr fe_X8_round 11 rfl
theorem i_X8_round_20 : fetch 202 20 = some (.invokestatic 338, 23, 198, 0, 0, 1505) := fr fe_X8_round 12 rfl
theorem i_X8_round_23 : fetch 202 23 = some (.iload_n 1, 24, 0, 0, 0, 0) := fr fe_X8_round 13 rfl
theorem i_X8_round_24 : fetch 202 24 = some (.if_icmp .ne 5, 27, 0, 0, 0, 0) := fr fe_X8_round 14 rfl
theorem i_X8_round_27 : fetch 202 27 = some (.iload_n 2, 28, 0, 0, 0, 0) := fr fe_X8_round 15 rfl
theorem i_X8_round_28 : fetch 202 28 = some (.ireturn, 29, 0, 0, 0, 0) := fr fe_X8_round 16 rfl
theorem i_X8_round_29 : fetch 202 29 = some (.iinc 2 1, 32, 0, 0, 0, 0) := fr fe_X8_round 17 rfl
theorem i_X8_round_32 : fetch 202 32 = some (.goto (-20), 35, 0, 0, 0, 0) := fr fe_X8_round 18 rfl
theorem i_X8_round_35 : fetch 202 35 = some (.iconst (-1), 36, 0, 0, 0, 0) := fr fe_X8_round 19 rfl
theorem i_X8_round_36 : fetch 202 36 = some (.ireturn, 37, 0, 0, 0, 0) := fr fe_X8_round 20 rfl
theorem i_X8_colours_0 : fetch 203 0 = some (.iload_n 1, 1, 0, 0, 0, 0) := fr fe_X8_colours_1 0 rfl
theorem i_X8_colours_1 : fetch 203 1 = some (.iconst 0, 2, 0, 0, 0, 0) := fr fe_X8_colours_1 1 rfl
theorem i_X8_colours_2 : fetch 203 2 = some (.ldc_w 341, 5, 0, 0, 65535, 1527) := fr fe_X8_colours_1 2 rfl
theorem i_X8_colours_5 : fetch 203 5 = some (.invokestatic 112, 8, 126, 0, 0, 1022) := fr fe_X8_colours_1 3 rfl
theorem i_X8_colours_8 : fetch 203 8 = some (.ifCond .eq 22, 11, 0, 0, 0, 0) := fr fe_X8_colours_1 4 rfl
theorem i_X8_colours_11 : fetch 203 11 = some (.iload_n 2, 12, 0, 0, 0, 0) := fr fe_X8_colours_1 5 rfl
theorem i_X8_colours_12 : fetch 203 12 = some (.iconst 0, 13, 0, 0, 0, 0) := fr fe_X8_colours_1 6 rfl
theorem i_X8_colours_13 : fetch 203 13 = some (.bipush 10, 15, 0, 0, 0, 0) := fr fe_X8_colours_1 7 rfl
theorem i_X8_colours_15 : fetch 203 15 = some (.invokestatic 112, 18, 126, 0, 0, 1022) := fr fe_X8_colours_1 8 rfl
theorem i_X8_colours_18 : fetch 203 18 = some (.ifCond .eq 12, 21, 0, 0, 0, 0) := fr fe_X8_colours_1 9 rfl
theorem i_X8_colours_21 : fetch 203 21 = some (.iload_n 3, 22, 0, 0, 0, 0) := fr fe_X8_colours_1 10 rfl
theorem i_X8_colours_22 : fetch 203 22 = some (.iconst 0, 23, 0, 0, 0, 0) := fr fe_X8_colours_1 11 rfl
theorem i_X8_colours_23 : fetch 203 23 = some (.iconst 2, 24, 0, 0, 0, 0) := fr fe_X8_colours_1 12 rfl
theorem i_X8_colours_24 : fetch 203 24 = some (.invokestatic 112, 27, 126, 0, 0, 1022) := fr fe_X8_colours_1 13 rfl
theorem i_X8_colours_27 : fetch 203 27 = some (.ifCond .ne 6, 30, 0, 0, 0, 0) := fr fe_X8_colours_1 14 rfl
theorem i_X8_colours_30 : fetch 203 30 = some (.bipush (-2), 32, 0, 0, 0, 0) := fr fe_X8_colours_1 15 rfl
theorem i_X8_colours_32 : fetch 203 32 = some (.ireturn, 33, 0, 0, 0, 0) := fr fe_X8_colours_1 16 rfl
theorem i_X8_colours_33 : fetch 203 33 = some (.iconst 0, 34, 0, 0, 0, 0) := fr fe_X8_colours_1 17 rfl
theorem i_X8_colours_34 : fetch 203 34 = some (.istore 4, 36, 0, 0, 0, 0) := fr fe_X8_colours_1 18 rfl
theorem i_X8_colours_36 : fetch 203 36 = some (.iload 4, 38, 0, 0, 0, 0) := fr fe_X8_colours_1 19 rfl
theorem i_X8_colours_38 : fetch 203 38 = some (.bipush 16, 40, 0, 0, 0, 0) := fr fe_X8_colours_1 20 rfl
theorem i_X8_colours_40 : fetch 203 40 = some (.if_icmp .ge 22, 43, 0, 0, 0, 0) := fr fe_X8_colours_1 21 rfl
theorem i_X8_colours_43 : fetch 203 43 = some (.aload_n 0, 44, 0, 0, 0, 0) := fr fe_X8_colours_1 22 rfl
theorem i_X8_colours_44 : fetch 203 44 = some (.getfield 99, 47, 8, 52, 0, 1129) := fr fe_X8_colours_1 23 rfl
theorem i_X8_colours_47 : fetch 203 47 = some (.iload 4, 49, 0, 0, 0, 0) := fr fe_X8_colours_1 24 rfl
theorem i_X8_colours_49 : fetch 203 49 = some (.iload_n 1, 50, 0, 0, 0, 0) := fr fe_X8_colours_2 0 rfl
theorem i_X8_colours_50 : fetch 203 50 = some (.iload 4, 52, 0, 0, 0, 0) := fr fe_X8_colours_2 1 rfl
theorem i_X8_colours_52 : fetch 203 52 = some (.ishr, 53, 0, 0, 0, 0) := fr fe_X8_colours_2 2 rfl
theorem i_X8_colours_53 : fetch 203 53 = some (.iconst 1, 54, 0, 0, 0, 0) := fr fe_X8_colours_2 3 rfl
theorem i_X8_colours_54 : fetch 203 54 = some (.iand, 55, 0, 0, 0, 0) := fr fe_X8_colours_2 4 rfl
theorem i_X8_colours_55 : fetch 203 55 = some (.iastore, 56, 0, 0, 0, 0) := fr fe_X8_colours_2 5 rfl
theorem i_X8_colours_56 : fetch 203 56 = some (.iinc 4 1, 59, 0, 0, 0, 0) := fr fe_X8_colours_2 6 rfl
theorem i_X8_colours_59 : fetch 203 59 = some (.goto (-23), 62, 0, 0, 0, 0) := fr fe_X8_colours_2 7 rfl
theorem i_X8_colours_62 : fetch 203 62 = some (.iconst 0, 63, 0, 0, 0, 0) := fr fe_X8_colours_2 8 rfl
theorem i_X8_colours_63 : fetch 203 63 = some (.istore 4, 65, 0, 0, 0, 0) := fr fe_X8_colours_2 9 rfl
theorem i_X8_colours_65 : fetch 203 65 = some (.iload 4, 67, 0, 0, 0, 0) := fr fe_X8_colours_2 10 rfl
theorem i_X8_colours_67 : fetch 203 67 = some (.iload_n 2, 68, 0, 0, 0, 0) := fr fe_X8_colours_2 11 rfl
theorem i_X8_colours_68 : fetch 203 68 = some (.if_icmp .ge 84, 71, 0, 0, 0, 0) := fr fe_X8_colours_2 12 rfl
theorem i_X8_colours_71 : fetch 203 71 = some (.iconst 0, 72, 0, 0, 0, 0) := fr fe_X8_colours_2 13 rfl
theorem i_X8_colours_72 : fetch 203 72 = some (.istore 5, 74, 0, 0, 0, 0) := fr fe_X8_colours_2 14 rfl
theorem i_X8_colours_74 : fetch 203 74 = some (.iload 5, 76, 0, 0, 0, 0) := fr fe_X8_colours_2 15 rfl
theorem i_X8_colours_76 : fetch 203 76 = some (.bipush 16, 78, 0, 0, 0, 0) := fr fe_X8_colours_2 16 rfl
theorem i_X8_colours_78 : fetch 203 78 = some (.if_icmp .ge 38, 81, 0, 0, 0, 0) := fr fe_X8_colours_2 17 rfl
theorem i_X8_colours_81 : fetch 203 81 = some (.aload_n 0, 82, 0, 0, 0, 0) := fr fe_X8_colours_2 18 rfl
theorem i_X8_colours_82 : fetch 203 82 = some (.getfield 102, 85, 8, 53, 0, 1130) := fr fe_X8_colours_2 19 rfl
theorem i_X8_colours_85 : fetch 203 85 = some (.iload 5, 87, 0, 0, 0, 0) := fr fe_X8_colours_2 20 rfl
theorem i_X8_colours_87 : fetch 203 87 = some (.aload_n 0, 88, 0, 0, 0, 0) := fr fe_X8_colours_2 21 rfl
theorem i_X8_colours_88 : fetch 203 88 = some (.getfield 99, 91, 8, 52, 0, 1129) := fr fe_X8_colours_2 22 rfl
theorem i_X8_colours_91 : fetch 203 91 = some (.iload 5, 93, 0, 0, 0, 0) := fr fe_X8_colours_2 23 rfl
theorem i_X8_colours_93 : fetch 203 93 = some (.iconst 2, 94, 0, 0, 0, 0) := fr fe_X8_colours_2 24 rfl
theorem i_X8_colours_94 : fetch 203 94 = some (.idiv, 95, 0, 0, 0, 0) := fr fe_X8_colours_3 0 rfl
theorem i_X8_colours_95 : fetch 203 95 = some (.iaload, 96, 0, 0, 0, 0) := fr fe_X8_colours_3 1 rfl
theorem i_X8_colours_96 : fetch 203 96 = some (.aload_n 0, 97, 0, 0, 0, 0) := fr fe_X8_colours_3 2 rfl
theorem i_X8_colours_97 : fetch 203 97 = some (.getfield 99, 100, 8, 52, 0, 1129) := fr fe_X8_colours_3 3 rfl
theorem i_X8_colours_100 : fetch 203 100 = some (.bipush 15, 102, 0, 0, 0, 0) := fr fe_X8_colours_3 4 rfl
theorem i_X8_colours_102 : fetch 203 102 = some (.iload 5, 104, 0, 0, 0, 0) := fr fe_X8_colours_3 5 rfl
theorem i_X8_colours_104 : fetch 203 104 = some (.iconst 2, 105, 0, 0, 0, 0) := fr fe_X8_colours_3 6 rfl
theorem i_X8_colours_105 : fetch 203 105 = some (.idiv, 106, 0, 0, 0, 0) := fr fe_X8_colours_3 7 rfl
theorem i_X8_colours_106 : fetch 203 106 = some (.isub, 107, 0, 0, 0, 0) := fr fe_X8_colours_3 8 rfl
theorem i_X8_colours_107 : fetch 203 107 = some (.iaload, 108, 0, 0, 0, 0) := fr fe_X8_colours_3 9 rfl
theorem i_X8_colours_108 : fetch 203 108 = some (.iadd, 109, 0, 0, 0, 0) := fr fe_X8_colours_3 10 rfl
theorem i_X8_colours_109 : fetch 203 109 = some (.iastore, 110, 0, 0, 0, 0) := fr fe_X8_colours_3 11 rfl
theorem i_X8_colours_110 : fetch 203 110 = some (.iinc 5 1, 113, 0, 0, 0, 0) := fr fe_X8_colours_3 12 rfl
theorem i_X8_colours_113 : fetch 203 113 = some (.goto (-39), 116, 0, 0, 0, 0) := fr fe_X8_colours_3 13 rfl
theorem i_X8_colours_116 : fetch 203 116 = some (.iconst 0, 117, 0, 0, 0, 0) := fr fe_X8_colours_3 14 rfl
theorem i_X8_colours_117 : fetch 203 117 = some (.istore 5, 119, 0, 0, 0, 0) := fr fe_X8_colours_3 15 rfl
theorem i_X8_colours_119 : fetch 203 119 = some (.iload 5, 121, 0, 0, 0, 0) := fr fe_X8_colours_3 16 rfl
theorem i_X8_colours_121 : fetch 203 121 = some (.bipush 16, 123, 0, 0, 0, 0) := fr fe_X8_colours_3 17 rfl
theorem i_X8_colours_123 : fetch 203 123 = some (.if_icmp .ge 23, 126, 0, 0, 0, 0) := fr fe_X8_colours_3 18 rfl
theorem i_X8_colours_126 : fetch 203 126 = some (.aload_n 0, 127, 0, 0, 0, 0) := fr fe_X8_colours_3 19 rfl
theorem i_X8_colours_127 : fetch 203 127 = some (.getfield 99, 130, 8, 52, 0, 1129) := fr fe_X8_colours_3 20 rfl
theorem i_X8_colours_130 : fetch 203 130 = some (.iload 5, 132, 0, 0, 0, 0) := fr fe_X8_colours_3 21 rfl
theorem i_X8_colours_132 : fetch 203 132 = some (.aload_n 0, 133, 0, 0, 0, 0) := fr fe_X8_colours_3 22 rfl
theorem i_X8_colours_133 : fetch 203 133 = some (.getfield 102, 136, 8, 53, 0, 1130) := fr fe_X8_colours_3 23 rfl
theorem i_X8_colours_136 : fetch 203 136 = some (.iload 5, 138, 0, 0, 0, 0) := fr fe_X8_colours_3 24 rfl
theorem i_X8_colours_138 : fetch 203 138 = some (.iaload, 139, 0, 0, 0, 0) := fr fe_X8_colours_4 0 rfl
theorem i_X8_colours_139 : fetch 203 139 = some (.iastore, 140, 0, 0, 0, 0) := fr fe_X8_colours_4 1 rfl
theorem i_X8_colours_140 : fetch 203 140 = some (.iinc 5 1, 143, 0, 0, 0, 0) := fr fe_X8_colours_4 2 rfl
theorem i_X8_colours_143 : fetch 203 143 = some (.goto (-24), 146, 0, 0, 0, 0) := fr fe_X8_colours_4 3 rfl
theorem i_X8_colours_146 : fetch 203 146 = some (.iinc 4 1, 149, 0, 0, 0, 0) := fr fe_X8_colours_4 4 rfl
theorem i_X8_colours_149 : fetch 203 149 = some (.goto (-84), 152, 0, 0, 0, 0) := fr fe_X8_colours_4 5 rfl
theorem i_X8_colours_152 : fetch 203 152 = some (.aload_n 0, 153, 0, 0, 0, 0) := fr fe_X8_colours_4 6 rfl
theorem i_X8_colours_153 : fetch 203 153 = some (.getfield 99, 156, 8, 52, 0, 1129) := fr fe_X8_colours_4 7 rfl
theorem i_X8_colours_156 : fetch 203 156 = some (.iconst 0, 157, 0, 0, 0, 0) := fr fe_X8_colours_4 8 rfl
theorem i_X8_colours_157 : fetch 203 157 = some (.iaload, 158, 0, 0, 0, 0) := fr fe_X8_colours_4 9 rfl
theorem i_X8_colours_158 : fetch 203 158 = some (.istore 4, 160, 0, 0, 0, 0) := fr fe_X8_colours_4 10 rfl
theorem i_X8_colours_160 : fetch 203 160 = some (.aload_n 0, 161, 0, 0, 0, 0) := fr fe_X8_colours_4 11 rfl
theorem i_X8_colours_161 : fetch 203 161 = some (.getfield 99, 164, 8, 52, 0, 1129) := fr fe_X8_colours_4 12 rfl
theorem i_X8_colours_164 : fetch 203 164 = some (.iconst 0, 165, 0, 0, 0, 0) := fr fe_X8_colours_4 13 rfl
theorem i_X8_colours_165 : fetch 203 165 = some (.iaload, 166, 0, 0, 0, 0) := fr fe_X8_colours_4 14 rfl
theorem i_X8_colours_166 : fetch 203 166 = some (.istore 5, 168, 0, 0, 0, 0) := fr fe_X8_colours_4 15 rfl
theorem i_X8_colours_168 : fetch 203 168 = some (.iconst 0, 169, 0, 0, 0, 0) := fr fe_X8_colours_4 16 rfl
theorem i_X8_colours_169 : fetch 203 169 = some (.istore 6, 171, 0, 0, 0, 0) := fr fe_X8_colours_4 17 rfl
theorem i_X8_colours_171 : fetch 203 171 = some (.iconst 0, 172, 0, 0, 0, 0) := fr fe_X8_colours_4 18 rfl
theorem i_X8_colours_172 : fetch 203 172 = some (.istore 7, 174, 0, 0, 0, 0) := fr fe_X8_colours_4 19 rfl
theorem i_X8_colours_174 : fetch 203 174 = some (.iload 7, 176, 0, 0, 0, 0) := fr fe_X8_colours_4 20 rfl
theorem i_X8_colours_176 : fetch 203 176 = some (.bipush 16, 178, 0, 0, 0, 0) := fr fe_X8_colours_4 21 rfl
theorem i_X8_colours_178 : fetch 203 178 = some (.if_icmp .ge 94, 181, 0, 0, 0, 0) := fr fe_X8_colours_4 22 rfl
theorem i_X8_colours_181 : fetch 203 181 = some (.aload_n 0, 182, 0, 0, 0, 0) := fr fe_X8_colours_4 23 rfl
theorem i_X8_colours_182 : fetch 203 182 = some (.getfield 99, 185, 8, 52, 0, 1129) := fr fe_X8_colours_4 24 rfl
theorem i_X8_colours_185 : fetch 203 185 = some (.iload 7, 187, 0, 0, 0, 0) := fr fe_X8_colours_5 0 rfl
theorem i_X8_colours_187 : fetch 203 187 = some (.iaload, 188, 0, 0, 0, 0) := fr fe_X8_colours_5 1 rfl
theorem i_X8_colours_188 : fetch 203 188 = some (.iload 4, 190, 0, 0, 0, 0) := fr fe_X8_colours_5 2 rfl
theorem i_X8_colours_190 : fetch 203 190 = some (.if_icmp .ge 13, 193, 0, 0, 0, 0) := fr fe_X8_colours_5 3 rfl
theorem i_X8_colours_193 : fetch 203 193 = some (.aload_n 0, 194, 0, 0, 0, 0) := fr fe_X8_colours_5 4 rfl
theorem i_X8_colours_194 : fetch 203 194 = some (.getfield 99, 197, 8, 52, 0, 1129) := fr fe_X8_colours_5 5 rfl
theorem i_X8_colours_197 : fetch 203 197 = some (.iload 7, 199, 0, 0, 0, 0) := fr fe_X8_colours_5 6 rfl
theorem i_X8_colours_199 : fetch 203 199 = some (.iaload, 200, 0, 0, 0, 0) := fr fe_X8_colours_5 7 rfl
theorem i_X8_colours_200 : fetch 203 200 = some (.goto 5, 203, 0, 0, 0, 0) := fr fe_X8_colours_5 8 rfl
theorem i_X8_colours_203 : fetch 203 203 = some (.iload 4, 205, 0, 0, 0, 0) := fr fe_X8_colours_5 9 rfl
theorem i_X8_colours_205 : fetch 203 205 = some (.istore 4, 207, 0, 0, 0, 0) := fr fe_X8_colours_5 10 rfl
theorem i_X8_colours_207 : fetch 203 207 = some (.aload_n 0, 208, 0, 0, 0, 0) := fr fe_X8_colours_5 11 rfl
theorem i_X8_colours_208 : fetch 203 208 = some (.getfield 99, 211, 8, 52, 0, 1129) := fr fe_X8_colours_5 12 rfl
theorem i_X8_colours_211 : fetch 203 211 = some (.iload 7, 213, 0, 0, 0, 0) := fr fe_X8_colours_5 13 rfl
theorem i_X8_colours_213 : fetch 203 213 = some (.iaload, 214, 0, 0, 0, 0) := fr fe_X8_colours_5 14 rfl
theorem i_X8_colours_214 : fetch 203 214 = some (.iload 5, 216, 0, 0, 0, 0) := fr fe_X8_colours_5 15 rfl
theorem i_X8_colours_216 : fetch 203 216 = some (.if_icmp .le 13, 219, 0, 0, 0, 0) := fr fe_X8_colours_5 16 rfl
theorem i_X8_colours_219 : fetch 203 219 = some (.aload_n 0, 220, 0, 0, 0, 0) := fr fe_X8_colours_5 17 rfl
theorem i_X8_colours_220 : fetch 203 220 = some (.getfield 99, 223, 8, 52, 0, 1129) := fr fe_X8_colours_5 18 rfl
theorem i_X8_colours_223 : fetch 203 223 = some (.iload 7, 225, 0, 0, 0, 0) := fr fe_X8_colours_5 19 rfl
theorem i_X8_colours_225 : fetch 203 225 = some (.iaload, 226, 0, 0, 0, 0) := fr fe_X8_colours_5 20 rfl
theorem i_X8_colours_226 : fetch 203 226 = some (.goto 5, 229, 0, 0, 0, 0) := fr fe_X8_colours_5 21 rfl
theorem i_X8_colours_229 : fetch 203 229 = some (.iload 5, 231, 0, 0, 0, 0) := fr fe_X8_colours_5 22 rfl
theorem i_X8_colours_231 : fetch 203 231 = some (.istore 5, 233, 0, 0, 0, 0) := fr fe_X8_colours_5 23 rfl
theorem i_X8_colours_233 : fetch 203 233 = some (.iload 6, 235, 0, 0, 0, 0) := fr fe_X8_colours_5 24 rfl
theorem i_X8_colours_235 : fetch 203 235 = some (.aload_n 0, 236, 0, 0, 0, 0) := fr fe_X8_colours_6 0 rfl
theorem i_X8_colours_236 : fetch 203 236 = some (.getfield 99, 239, 8, 52, 0, 1129) := fr fe_X8_colours_6 1 rfl
theorem i_X8_colours_239 : fetch 203 239 = some (.iload 7, 241, 0, 0, 0, 0) := fr fe_X8_colours_6 2 rfl
theorem i_X8_colours_241 : fetch 203 241 = some (.iaload, 242, 0, 0, 0, 0) := fr fe_X8_colours_6 3 rfl
theorem i_X8_colours_242 : fetch 203 242 = some (.ifCond .le 20, 245, 0, 0, 0, 0) := fr fe_X8_colours_6 4 rfl
theorem i_X8_colours_245 : fetch 203 245 = some (.aload_n 0, 246, 0, 0, 0, 0) := fr fe_X8_colours_6 5 rfl
theorem i_X8_colours_246 : fetch 203 246 = some (.getfield 99, 249, 8, 52, 0, 1129) := fr fe_X8_colours_6 6 rfl
theorem i_X8_colours_249 : fetch 203 249 = some (.iload 7, 251, 0, 0, 0, 0) := fr fe_X8_colours_6 7 rfl
theorem i_X8_colours_251 : fetch 203 251 = some (.iaload, 252, 0, 0, 0, 0) := fr fe_X8_colours_6 8 rfl
theorem i_X8_colours_252 : fetch 203 252 = some (.iconst 1, 253, 0, 0, 0, 0) := fr fe_X8_colours_6 9 rfl
theorem i_X8_colours_253 : fetch 203 253 = some (.iload_n 2, 254, 0, 0, 0, 0) := fr fe_X8_colours_6 10 rfl
theorem i_X8_colours_254 : fetch 203 254 = some (.ishl, 255, 0, 0, 0, 0) := fr fe_X8_colours_6 11 rfl
theorem i_X8_colours_255 : fetch 203 255 = some (.if_icmp .ge 7, 258, 0, 0, 0, 0) := fr fe_X8_colours_6 12 rfl
theorem i_X8_colours_258 : fetch 203 258 = some (.iconst 1, 259, 0, 0, 0, 0) := fr fe_X8_colours_6 13 rfl
theorem i_X8_colours_259 : fetch 203 259 = some (.goto 4, 262, 0, 0, 0, 0) := fr fe_X8_colours_6 14 rfl
theorem i_X8_colours_262 : fetch 203 262 = some (.iconst 0, 263, 0, 0, 0, 0) := fr fe_X8_colours_6 15 rfl
theorem i_X8_colours_263 : fetch 203 263 = some (.iadd, 264, 0, 0, 0, 0) := fr fe_X8_colours_6 16 rfl
theorem i_X8_colours_264 : fetch 203 264 = some (.istore 6, 266, 0, 0, 0, 0) := fr fe_X8_colours_6 17 rfl
theorem i_X8_colours_266 : fetch 203 266 = some (.iinc 7 1, 269, 0, 0, 0, 0) := fr fe_X8_colours_6 18 rfl
theorem i_X8_colours_269 : fetch 203 269 = some (.goto (-95), 272, 0, 0, 0, 0) := fr fe_X8_colours_6 19 rfl
theorem i_X8_colours_272 : fetch 203 272 = some (.iload_n 3, 273, 0, 0, 0, 0) := fr fe_X8_colours_6 20 rfl
theorem i_X8_colours_273 : fetch 203 273 = some (.ifCond .ne 8, 276, 0, 0, 0, 0) := fr fe_X8_colours_6 21 rfl
theorem i_X8_colours_276 : fetch 203 276 = some (.iload 4, 278, 0, 0, 0, 0) := fr fe_X8_colours_6 22 rfl
theorem i_X8_colours_278 : fetch 203 278 = some (.goto 15, 281, 0, 0, 0, 0) := fr fe_X8_colours_6 23 rfl
theorem i_X8_colours_281 : fetch 203 281 = some (.iload_n 3, 282, 0, 0, 0, 0) := fr fe_X8_colours_6 24 rfl
theorem i_X8_colours_282 : fetch 203 282 = some (.iconst 1, 283, 0, 0, 0, 0) := fr fe_X8_colours_7 0 rfl
theorem i_X8_colours_283 : fetch 203 283 = some (.if_icmp .ne 8, 286, 0, 0, 0, 0) := fr fe_X8_colours_7 1 rfl
theorem i_X8_colours_286 : fetch 203 286 = some (.iload 5, 288, 0, 0, 0, 0) := fr fe_X8_colours_7 2 rfl
theorem i_X8_colours_288 : fetch 203 288 = some (.goto 5, 291, 0, 0, 0, 0) := fr fe_X8_colours_7 3 rfl
theorem i_X8_colours_291 : fetch 203 291 = some (.iload 6, 293, 0, 0, 0, 0) := fr fe_X8_colours_7 4 rfl
theorem i_X8_colours_293 : fetch 203 293 = some (.ireturn, 294, 0, 0, 0, 0) := fr fe_X8_colours_7 5 rfl
theorem i_X8_lowest_0 : fetch 204 0 = some (.lload_n 0, 1, 0, 0, 0, 0) := fr fe_X8_lowest_1 0 rfl
theorem i_X8_lowest_1 : fetch 204 1 = some (.lconst 0, 2, 0, 0, 0, 0) := fr fe_X8_lowest_1 1 rfl
theorem i_X8_lowest_2 : fetch 204 2 = some (.lcmp, 3, 0, 0, 0, 0) := fr fe_X8_lowest_1 2 rfl
theorem i_X8_lowest_3 : fetch 204 3 = some (.ifCond .ne 7, 6, 0, 0, 0, 0) := fr fe_X8_lowest_1 3 rfl
theorem i_X8_lowest_6 : fetch 204 6 = some (.iload 4, 8, 0, 0, 0, 0) := fr fe_X8_lowest_1 4 rfl
theorem i_X8_lowest_8 : fetch 204 8 = some (.i2l, 9, 0, 0, 0, 0) := fr fe_X8_lowest_1 5 rfl
theorem i_X8_lowest_9 : fetch 204 9 = some (.lreturn, 10, 0, 0, 0, 0) := fr fe_X8_lowest_1 6 rfl
theorem i_X8_lowest_10 : fetch 204 10 = some (.lload_n 0, 11, 0, 0, 0, 0) := fr fe_X8_lowest_1 7 rfl
theorem i_X8_lowest_11 : fetch 204 11 = some (.lstore 5, 13, 0, 0, 0, 0) := fr fe_X8_lowest_1 8 rfl
theorem i_X8_lowest_13 : fetch 204 13 = some (.lload_n 2, 14, 0, 0, 0, 0) := fr fe_X8_lowest_1 9 rfl
theorem i_X8_lowest_14 : fetch 204 14 = some (.lstore 7, 16, 0, 0, 0, 0) := fr fe_X8_lowest_1 10 rfl
theorem i_X8_lowest_16 : fetch 204 16 = some (.lload 7, 18, 0, 0, 0, 0) := fr fe_X8_lowest_1 11 rfl
theorem i_X8_lowest_18 : fetch 204 18 = some (.lconst 0, 19, 0, 0, 0, 0) := fr fe_X8_lowest_1 12 rfl
theorem i_X8_lowest_19 : fetch 204 19 = some (.lcmp, 20, 0, 0, 0, 0) := fr fe_X8_lowest_1 13 rfl
theorem i_X8_lowest_20 : fetch 204 20 = some (.ifCond .eq 21, 23, 0, 0, 0, 0) := fr fe_X8_lowest_1 14 rfl
theorem i_X8_lowest_23 : fetch 204 23 = some (.lload 5, 25, 0, 0, 0, 0) := fr fe_X8_lowest_1 15 rfl
theorem i_X8_lowest_25 : fetch 204 25 = some (.lload 7, 27, 0, 0, 0, 0) := fr fe_X8_lowest_1 16 rfl
theorem i_X8_lowest_27 : fetch 204 27 = some (.lrem, 28, 0, 0, 0, 0) := fr fe_X8_lowest_1 17 rfl
theorem i_X8_lowest_28 : fetch 204 28 = some (.lstore 9, 30, 0, 0, 0, 0) := fr fe_X8_lowest_1 18 rfl
theorem i_X8_lowest_30 : fetch 204 30 = some (.lload 7, 32, 0, 0, 0, 0) := fr fe_X8_lowest_1 19 rfl
theorem i_X8_lowest_32 : fetch 204 32 = some (.lstore 5, 34, 0, 0, 0, 0) := fr fe_X8_lowest_1 20 rfl
theorem i_X8_lowest_34 : fetch 204 34 = some (.lload 9, 36, 0, 0, 0, 0) := fr fe_X8_lowest_1 21 rfl
theorem i_X8_lowest_36 : fetch 204 36 = some (.lstore 7, 38, 0, 0, 0, 0) := fr fe_X8_lowest_1 22 rfl
theorem i_X8_lowest_38 : fetch 204 38 = some (.goto (-22), 41, 0, 0, 0, 0) := fr fe_X8_lowest_1 23 rfl
theorem i_X8_lowest_41 : fetch 204 41 = some (.iload 4, 43, 0, 0, 0, 0) := fr fe_X8_lowest_1 24 rfl
theorem i_X8_lowest_43 : fetch 204 43 = some (.ifCond .ne 7, 46, 0, 0, 0, 0) := fr fe_X8_lowest_2 0 rfl
theorem i_X8_lowest_46 : fetch 204 46 = some (.lload_n 0, 47, 0, 0, 0, 0) := fr fe_X8_lowest_2 1 rfl
theorem i_X8_lowest_47 : fetch 204 47 = some (.goto 4, 50, 0, 0, 0, 0) := fr fe_X8_lowest_2 2 rfl
theorem i_X8_lowest_50 : fetch 204 50 = some (.lload_n 2, 51, 0, 0, 0, 0) := fr fe_X8_lowest_2 3 rfl
theorem i_X8_lowest_51 : fetch 204 51 = some (.lload 5, 53, 0, 0, 0, 0) := fr fe_X8_lowest_2 4 rfl
theorem i_X8_lowest_53 : fetch 204 53 = some (.ldiv, 54, 0, 0, 0, 0) := fr fe_X8_lowest_2 5 rfl
theorem i_X8_lowest_54 : fetch 204 54 = some (.lreturn, 55, 0, 0, 0, 0) := fr fe_X8_lowest_2 6 rfl
theorem i_X8_power_0 : fetch 205 0 = some (.lconst 1, 1, 0, 0, 0, 0) := fr fe_X8_power 0 rfl
theorem i_X8_power_1 : fetch 205 1 = some (.lstore_n 3, 2, 0, 0, 0, 0) := fr fe_X8_power 1 rfl
theorem i_X8_power_2 : fetch 205 2 = some (.iconst 0, 3, 0, 0, 0, 0) := fr fe_X8_power 2 rfl
theorem i_X8_power_3 : fetch 205 3 = some (.istore 5, 5, 0, 0, 0, 0) := fr fe_X8_power 3 rfl
theorem i_X8_power_5 : fetch 205 5 = some (.iload 5, 7, 0, 0, 0, 0) := fr fe_X8_power 4 rfl
theorem i_X8_power_7 : fetch 205 7 = some (.iload_n 2, 8, 0, 0, 0, 0) := fr fe_X8_power 5 rfl
theorem i_X8_power_8 : fetch 205 8 = some (.if_icmp .ge 13, 11, 0, 0, 0, 0) := fr fe_X8_power 6 rfl
theorem i_X8_power_11 : fetch 205 11 = some (.lload_n 3, 12, 0, 0, 0, 0) := fr fe_X8_power 7 rfl
theorem i_X8_power_12 : fetch 205 12 = some (.lload_n 0, 13, 0, 0, 0, 0) := fr fe_X8_power 8 rfl
theorem i_X8_power_13 : fetch 205 13 = some (.lmul, 14, 0, 0, 0, 0) := fr fe_X8_power 9 rfl
theorem i_X8_power_14 : fetch 205 14 = some (.lstore_n 3, 15, 0, 0, 0, 0) := fr fe_X8_power 10 rfl
theorem i_X8_power_15 : fetch 205 15 = some (.iinc 5 1, 18, 0, 0, 0, 0) := fr fe_X8_power 11 rfl
theorem i_X8_power_18 : fetch 205 18 = some (.goto (-13), 21, 0, 0, 0, 0) := fr fe_X8_power 12 rfl
theorem i_X8_power_21 : fetch 205 21 = some (.lload_n 3, 22, 0, 0, 0, 0) := fr fe_X8_power 13 rfl
theorem i_X8_power_22 : fetch 205 22 = some (.lreturn, 23, 0, 0, 0, 0) := fr fe_X8_power 14 rfl
theorem i_X8_thin_0 : fetch 206 0 = some (.iload_n 1, 1, 0, 0, 0, 0) := fr fe_X8_thin 0 rfl
theorem i_X8_thin_1 : fetch 206 1 = some (.iconst 1, 2, 0, 0, 0, 0) := fr fe_X8_thin 1 rfl
theorem i_X8_thin_2 : fetch 206 2 = some (.ldc_w 342, 5, 0, 0, 999999, 1532) := fr fe_X8_thin 2 rfl
theorem i_X8_thin_5 : fetch 206 5 = some (.invokestatic 112, 8, 126, 0, 0, 1022) := fr fe_X8_thin 3 rfl
theorem i_X8_thin_8 : fetch 206 8 = some (.ifCond .eq 38, 11, 0, 0, 0, 0) := fr fe_X8_thin 4 rfl
theorem i_X8_thin_11 : fetch 206 11 = some (.iload_n 2, 12, 0, 0, 0, 0) := fr fe_X8_thin 5 rfl
theorem i_X8_thin_12 : fetch 206 12 = some (.iconst 0, 13, 0, 0, 0, 0) := fr fe_X8_thin 6 rfl
theorem i_X8_thin_13 : fetch 206 13 = some (.bipush 30, 15, 0, 0, 0, 0) := fr fe_X8_thin 7 rfl
theorem i_X8_thin_15 : fetch 206 15 = some (.invokestatic 112, 18, 126, 0, 0, 1022) := fr fe_X8_thin 8 rfl
theorem i_X8_thin_18 : fetch 206 18 = some (.ifCond .eq 28, 21, 0, 0, 0, 0) := fr fe_X8_thin 9 rfl
theorem i_X8_thin_21 : fetch 206 21 = some (.iload_n 3, 22, 0, 0, 0, 0) := fr fe_X8_thin 10 rfl
theorem i_X8_thin_22 : fetch 206 22 = some (.iconst 0, 23, 0, 0, 0, 0) := fr fe_X8_thin 11 rfl
theorem i_X8_thin_23 : fetch 206 23 = some (.iconst 1, 24, 0, 0, 0, 0) := fr fe_X8_thin 12 rfl
theorem i_X8_thin_24 : fetch 206 24 = some (.invokestatic 112, 27, 126, 0, 0, 1022) := fr fe_X8_thin 13 rfl
theorem i_X8_thin_27 : fetch 206 27 = some (.ifCond .eq 19, 30, 0, 0, 0, 0) := fr fe_X8_thin 14 rfl
theorem i_X8_thin_30 : fetch 206 30 = some (.iload_n 1, 31, 0, 0, 0, 0) := fr fe_X8_thin 15 rfl
theorem i_X8_thin_31 : fetch 206 31 = some (.i2l, 32, 0, 0, 0, 0) := fr fe_X8_thin 16 rfl
theorem i_X8_thin_32 : fetch 206 32 = some (.ldc2_w 298, 35, 0, 0, 2, 1410) := fr fe_X8_thin 17 rfl
theorem i_X8_thin_35 : fetch 206 35 = some (.iload_n 2, 36, 0, 0, 0, 0) := fr fe_X8_thin 18 rfl
theorem i_X8_thin_36 : fetch 206 36 = some (.invokestatic 343, 39, 205, 0, 0, 1533) := fr fe_X8_thin 19 rfl
theorem i_X8_thin_39 : fetch 206 39 = some (.iload_n 3, 40, 0, 0, 0, 0) := fr fe_X8_thin 20 rfl
theorem i_X8_thin_40 : fetch 206 40 = some (.invokestatic 347, 43, 204, 0, 0, 1536) := fr fe_X8_thin 21 rfl
theorem i_X8_thin_43 : fetch 206 43 = some (.goto 6, 46, 0, 0, 0, 0) := fr fe_X8_thin 22 rfl
theorem i_X8_thin_46 : fetch 206 46 = some (.ldc2_w 311, 49, 0, 0, (-4611686018427387904), 1415) := fr fe_X8_thin 23 rfl
theorem i_X8_thin_49 : fetch 206 49 = some (.lreturn, 50, 0, 0, 0, 0) := fr fe_X8_thin 24 rfl
theorem i_X8_areOdds_0 : fetch 207 0 = some (.iload_n 1, 1, 0, 0, 0, 0) := fr fe_X8_areOdds 0 rfl
theorem i_X8_areOdds_1 : fetch 207 1 = some (.iconst 1, 2, 0, 0, 0, 0) := fr fe_X8_areOdds 1 rfl
theorem i_X8_areOdds_2 : fetch 207 2 = some (.bipush 30, 4, 0, 0, 0, 0) := fr fe_X8_areOdds 2 rfl
theorem i_X8_areOdds_4 : fetch 207 4 = some (.invokestatic 112, 7, 126, 0, 0, 1022) := fr fe_X8_areOdds 3 rfl
theorem i_X8_areOdds_7 : fetch 207 7 = some (.ifCond .eq 16, 10, 0, 0, 0, 0) := fr fe_X8_areOdds 4 rfl
theorem i_X8_areOdds_10 : fetch 207 10 = some (.iload_n 0, 11, 0, 0, 0, 0) := fr fe_X8_areOdds 5 rfl
theorem i_X8_areOdds_11 : fetch 207 11 = some (.iconst 0, 12, 0, 0, 0, 0) := fr fe_X8_areOdds 6 rfl
theorem i_X8_areOdds_12 : fetch 207 12 = some (.iload_n 1, 13, 0, 0, 0, 0) := fr fe_X8_areOdds 7 rfl
theorem i_X8_areOdds_13 : fetch 207 13 = some (.invokestatic 112, 16, 126, 0, 0, 1022) := fr fe_X8_areOdds 8 rfl
theorem i_X8_areOdds_16 : fetch 207 16 = some (.ifCond .eq 7, 19, 0, 0, 0, 0) := fr fe_X8_areOdds 9 rfl
theorem i_X8_areOdds_19 : fetch 207 19 = some (.iconst 1, 20, 0, 0, 0, 0) := fr fe_X8_areOdds 10 rfl
theorem i_X8_areOdds_20 : fetch 207 20 = some (.goto 4, 23, 0, 0, 0, 0) := fr fe_X8_areOdds 11 rfl
theorem i_X8_areOdds_23 : fetch 207 23 = some (.iconst 0, 24, 0, 0, 0, 0) := fr fe_X8_areOdds 12 rfl
theorem i_X8_areOdds_24 : fetch 207 24 = some (.ireturn, 25, 0, 0, 0, 0) := fr fe_X8_areOdds 13 rfl
theorem i_X8_odds_0 : fetch 208 0 = some (.iload_n 1, 1, 0, 0, 0, 0) := fr fe_X8_odds 0 rfl
theorem i_X8_odds_1 : fetch 208 1 = some (.iload_n 2, 2, 0, 0, 0, 0) := fr fe_X8_odds 1 rfl
theorem i_X8_odds_2 : fetch 208 2 = some (.invokestatic 351, 5, 207, 0, 0, 1543) := fr fe_X8_odds 2 rfl
theorem i_X8_odds_5 : fetch 208 5 = some (.ifCond .eq 45, 8, 0, 0, 0, 0) := fr fe_X8_odds 3 rfl
theorem i_X8_odds_8 : fetch 208 8 = some (.iload_n 3, 9, 0, 0, 0, 0) := fr fe_X8_odds 4 rfl
theorem i_X8_odds_9 : fetch 208 9 = some (.iconst 0, 10, 0, 0, 0, 0) := fr fe_X8_odds 5 rfl
theorem i_X8_odds_10 : fetch 208 10 = some (.bipush 10, 12, 0, 0, 0, 0) := fr fe_X8_odds 6 rfl
theorem i_X8_odds_12 : fetch 208 12 = some (.invokestatic 112, 15, 126, 0, 0, 1022) := fr fe_X8_odds 7 rfl
theorem i_X8_odds_15 : fetch 208 15 = some (.ifCond .eq 35, 18, 0, 0, 0, 0) := fr fe_X8_odds 8 rfl
theorem i_X8_odds_18 : fetch 208 18 = some (.iload 4, 20, 0, 0, 0, 0) := fr fe_X8_odds 9 rfl
theorem i_X8_odds_20 : fetch 208 20 = some (.iconst 0, 21, 0, 0, 0, 0) := fr fe_X8_odds 10 rfl
theorem i_X8_odds_21 : fetch 208 21 = some (.iconst 1, 22, 0, 0, 0, 0) := fr fe_X8_odds 11 rfl
theorem i_X8_odds_22 : fetch 208 22 = some (.invokestatic 112, 25, 126, 0, 0, 1022) := fr fe_X8_odds 12 rfl
theorem i_X8_odds_25 : fetch 208 25 = some (.ifCond .eq 25, 28, 0, 0, 0, 0) := fr fe_X8_odds 13 rfl
theorem i_X8_odds_28 : fetch 208 28 = some (.iload_n 2, 29, 0, 0, 0, 0) := fr fe_X8_odds 14 rfl
theorem i_X8_odds_29 : fetch 208 29 = some (.iload_n 1, 30, 0, 0, 0, 0) := fr fe_X8_odds 15 rfl
theorem i_X8_odds_30 : fetch 208 30 = some (.isub, 31, 0, 0, 0, 0) := fr fe_X8_odds 16 rfl
theorem i_X8_odds_31 : fetch 208 31 = some (.i2l, 32, 0, 0, 0, 0) := fr fe_X8_odds 17 rfl
theorem i_X8_odds_32 : fetch 208 32 = some (.iload_n 3, 33, 0, 0, 0, 0) := fr fe_X8_odds 18 rfl
theorem i_X8_odds_33 : fetch 208 33 = some (.invokestatic 343, 36, 205, 0, 0, 1533) := fr fe_X8_odds 19 rfl
theorem i_X8_odds_36 : fetch 208 36 = some (.iload_n 2, 37, 0, 0, 0, 0) := fr fe_X8_odds 20 rfl
theorem i_X8_odds_37 : fetch 208 37 = some (.i2l, 38, 0, 0, 0, 0) := fr fe_X8_odds 21 rfl
theorem i_X8_odds_38 : fetch 208 38 = some (.iload_n 3, 39, 0, 0, 0, 0) := fr fe_X8_odds 22 rfl
theorem i_X8_odds_39 : fetch 208 39 = some (.invokestatic 343, 42, 205, 0, 0, 1533) := fr fe_X8_odds 23 rfl
theorem i_X8_odds_42 : fetch 208 42 = some (.iload 4, 44, 0, 0, 0, 0) := fr fe_X8_odds 24 rfl
theorem i_X8_odds_44 : fetch 208 44 = some (.invokestatic 347, 47, 204, 0, 0, 1536) := fr fe_X8_odds 25 rfl
theorem i_X8_odds_47 : fetch 208 47 = some (.goto 6, 50, 0, 0, 0, 0) := fr fe_X8_odds 26 rfl
theorem i_X8_odds_50 : fetch 208 50 = some (.ldc2_w 311, 53, 0, 0, (-4611686018427387904), 1415) := fr fe_X8_odds 27 rfl
theorem i_X8_odds_53 : fetch 208 53 = some (.lreturn, 54, 0, 0, 0, 0) := fr fe_X8_odds 28 rfl
theorem i_X8_record_0 : fetch 209 0 = some (.iload_n 1, 1, 0, 0, 0, 0) := fr fe_X8_record_1 0 rfl
theorem i_X8_record_1 : fetch 209 1 = some (.iload_n 2, 2, 0, 0, 0, 0) := fr fe_X8_record_1 1 rfl
theorem i_X8_record_2 : fetch 209 2 = some (.invokestatic 351, 5, 207, 0, 0, 1543) := fr fe_X8_record_1 2 rfl
theorem i_X8_record_5 : fetch 209 5 = some (.ifCond .eq 13, 8, 0, 0, 0, 0) := fr fe_X8_record_1 3 rfl
theorem i_X8_record_8 : fetch 209 8 = some (.iload_n 3, 9, 0, 0, 0, 0) := fr fe_X8_record_1 4 rfl
theorem i_X8_record_9 : fetch 209 9 = some (.iconst 0, 10, 0, 0, 0, 0) := fr fe_X8_record_1 5 rfl
theorem i_X8_record_10 : fetch 209 10 = some (.bipush 100, 12, 0, 0, 0, 0) := fr fe_X8_record_1 6 rfl
theorem i_X8_record_12 : fetch 209 12 = some (.invokestatic 112, 15, 126, 0, 0, 1022) := fr fe_X8_record_1 7 rfl
theorem i_X8_record_15 : fetch 209 15 = some (.ifCond .ne 6, 18, 0, 0, 0, 0) := fr fe_X8_record_1 8 rfl
theorem i_X8_record_18 : fetch 209 18 = some (.bipush (-2), 20, 0, 0, 0, 0) := fr fe_X8_record_1 9 rfl
theorem i_X8_record_20 : fetch 209 20 = some (.ireturn, 21, 0, 0, 0, 0) := fr fe_X8_record_1 10 rfl
theorem i_X8_record_21 : fetch 209 21 = some (.iconst 0, 22, 0, 0, 0, 0) := fr fe_X8_record_1 11 rfl
theorem i_X8_record_22 : fetch 209 22 = some (.istore 4, 24, 0, 0, 0, 0) := fr fe_X8_record_1 12 rfl
theorem i_X8_record_24 : fetch 209 24 = some (.iconst 1, 25, 0, 0, 0, 0) := fr fe_X8_record_1 13 rfl
theorem i_X8_record_25 : fetch 209 25 = some (.istore 5, 27, 0, 0, 0, 0) := fr fe_X8_record_1 14 rfl
theorem i_X8_record_27 : fetch 209 27 = some (.iload 5, 29, 0, 0, 0, 0) := fr fe_X8_record_1 15 rfl
theorem i_X8_record_29 : fetch 209 29 = some (.bipush 10, 31, 0, 0, 0, 0) := fr fe_X8_record_1 16 rfl
theorem i_X8_record_31 : fetch 209 31 = some (.if_icmp .gt 45, 34, 0, 0, 0, 0) := fr fe_X8_record_1 17 rfl
theorem i_X8_record_34 : fetch 209 34 = some (.iload_n 2, 35, 0, 0, 0, 0) := fr fe_X8_record_1 18 rfl
theorem i_X8_record_35 : fetch 209 35 = some (.iload_n 1, 36, 0, 0, 0, 0) := fr fe_X8_record_1 19 rfl
theorem i_X8_record_36 : fetch 209 36 = some (.isub, 37, 0, 0, 0, 0) := fr fe_X8_record_1 20 rfl
theorem i_X8_record_37 : fetch 209 37 = some (.i2l, 38, 0, 0, 0, 0) := fr fe_X8_record_1 21 rfl
theorem i_X8_record_38 : fetch 209 38 = some (.iload 5, 40, 0, 0, 0, 0) := fr fe_X8_record_1 22 rfl
theorem i_X8_record_40 : fetch 209 40 = some (.invokestatic 343, 43, 205, 0, 0, 1533) := fr fe_X8_record_1 23 rfl
theorem i_X8_record_43 : fetch 209 43 = some (.ldc2_w 243, 46, 0, 0, 100, 1363) := fr fe_X8_record_1 24 rfl
theorem i_X8_record_46 : fetch 209 46 = some (.lmul, 47, 0, 0, 0, 0) := fr fe_X8_record_2 0 rfl
theorem i_X8_record_47 : fetch 209 47 = some (.iload_n 3, 48, 0, 0, 0, 0) := fr fe_X8_record_2 1 rfl
theorem i_X8_record_48 : fetch 209 48 = some (.i2l, 49, 0, 0, 0, 0) := fr fe_X8_record_2 2 rfl
theorem i_X8_record_49 : fetch 209 49 = some (.iload_n 2, 50, 0, 0, 0, 0) := fr fe_X8_record_2 3 rfl
theorem i_X8_record_50 : fetch 209 50 = some (.i2l, 51, 0, 0, 0, 0) := fr fe_X8_record_2 4 rfl
theorem i_X8_record_51 : fetch 209 51 = some (.iload 5, 53, 0, 0, 0, 0) := fr fe_X8_record_2 5 rfl
theorem i_X8_record_53 : fetch 209 53 = some (.invokestatic 343, 56, 205, 0, 0, 1533) := fr fe_X8_record_2 6 rfl
theorem i_X8_record_56 : fetch 209 56 = some (.lmul, 57, 0, 0, 0, 0) := fr fe_X8_record_2 7 rfl
theorem i_X8_record_57 : fetch 209 57 = some (.lcmp, 58, 0, 0, 0, 0) := fr fe_X8_record_2 8 rfl
theorem i_X8_record_58 : fetch 209 58 = some (.ifCond .lt 8, 61, 0, 0, 0, 0) := fr fe_X8_record_2 9 rfl
theorem i_X8_record_61 : fetch 209 61 = some (.iload 5, 63, 0, 0, 0, 0) := fr fe_X8_record_2 10 rfl
theorem i_X8_record_63 : fetch 209 63 = some (.goto 5, 66, 0, 0, 0, 0) := fr fe_X8_record_2 11 rfl
theorem i_X8_record_66 : fetch 209 66 = some (.iload 4, 68, 0, 0, 0, 0) := fr fe_X8_record_2 12 rfl
theorem i_X8_record_68 : fetch 209 68 = some (.istore 4, 70, 0, 0, 0, 0) := fr fe_X8_record_2 13 rfl
theorem i_X8_record_70 : fetch 209 70 = some (.iinc 5 1, 73, 0, 0, 0, 0) := fr fe_X8_record_2 14 rfl
theorem i_X8_record_73 : fetch 209 73 = some (.goto (-46), 76, 0, 0, 0, 0) := fr fe_X8_record_2 15 rfl
theorem i_X8_record_76 : fetch 209 76 = some (.iload 4, 78, 0, 0, 0, 0) := fr fe_X8_record_2 16 rfl
theorem i_X8_record_78 : fetch 209 78 = some (.ireturn, 79, 0, 0, 0, 0) := fr fe_X8_record_2 17 rfl
theorem i_X8_drawn_0 : fetch 210 0 = some (.aload_n 0, 1, 0, 0, 0, 0) := fr fe_X8_drawn_1 0 rfl
theorem i_X8_drawn_1 : fetch 210 1 = some (.iload_n 1, 2, 0, 0, 0, 0) := fr fe_X8_drawn_1 1 rfl
theorem i_X8_drawn_2 : fetch 210 2 = some (.invokevirtual 286, 5, 128, 0, 0, 1291) := fr fe_X8_drawn_1 2 rfl
theorem i_X8_drawn_5 : fetch 210 5 = some (.ifCond .ne 6, 8, 0, 0, 0, 0) := fr fe_X8_drawn_1 3 rfl
theorem i_X8_drawn_8 : fetch 210 8 = some (.bipush (-5), 10, 0, 0, 0, 0) := fr fe_X8_drawn_1 4 rfl
theorem i_X8_drawn_10 : fetch 210 10 = some (.ireturn, 11, 0, 0, 0, 0) := fr fe_X8_drawn_1 5 rfl
theorem i_X8_drawn_11 : fetch 210 11 = some (.iload_n 2, 12, 0, 0, 0, 0) := fr fe_X8_drawn_1 6 rfl
theorem i_X8_drawn_12 : fetch 210 12 = some (.invokestatic 119, 15, 127, 0, 0, 1244) := fr fe_X8_drawn_1 7 rfl
theorem i_X8_drawn_15 : fetch 210 15 = some (.ifCond .eq 23, 18, 0, 0, 0, 0) := fr fe_X8_drawn_1 8 rfl
theorem i_X8_drawn_18 : fetch 210 18 = some (.iload_n 3, 19, 0, 0, 0, 0) := fr fe_X8_drawn_1 9 rfl
theorem i_X8_drawn_19 : fetch 210 19 = some (.iconst 0, 20, 0, 0, 0, 0) := fr fe_X8_drawn_1 10 rfl
theorem i_X8_drawn_20 : fetch 210 20 = some (.ldc 123, 22, 0, 0, 99999, 1247) := fr fe_X8_drawn_1 11 rfl
theorem i_X8_drawn_22 : fetch 210 22 = some (.invokestatic 112, 25, 126, 0, 0, 1022) := fr fe_X8_drawn_1 12 rfl
theorem i_X8_drawn_25 : fetch 210 25 = some (.ifCond .eq 13, 28, 0, 0, 0, 0) := fr fe_X8_drawn_1 13 rfl
theorem i_X8_drawn_28 : fetch 210 28 = some (.iload 4, 30, 0, 0, 0, 0) := fr fe_X8_drawn_1 14 rfl
theorem i_X8_drawn_30 : fetch 210 30 = some (.iconst 0, 31, 0, 0, 0, 0) := fr fe_X8_drawn_1 15 rfl
theorem i_X8_drawn_31 : fetch 210 31 = some (.iconst 1, 32, 0, 0, 0, 0) := fr fe_X8_drawn_1 16 rfl
theorem i_X8_drawn_32 : fetch 210 32 = some (.invokestatic 112, 35, 126, 0, 0, 1022) := fr fe_X8_drawn_1 17 rfl
theorem i_X8_drawn_35 : fetch 210 35 = some (.ifCond .ne 6, 38, 0, 0, 0, 0) := fr fe_X8_drawn_1 18 rfl
theorem i_X8_drawn_38 : fetch 210 38 = some (.bipush (-7), 40, 0, 0, 0, 0) := fr fe_X8_drawn_1 19 rfl
theorem i_X8_drawn_40 : fetch 210 40 = some (.ireturn, 41, 0, 0, 0, 0) := fr fe_X8_drawn_1 20 rfl
theorem i_X8_drawn_41 : fetch 210 41 = some (.aload_n 0, 42, 0, 0, 0, 0) := fr fe_X8_drawn_1 21 rfl
theorem i_X8_drawn_42 : fetch 210 42 = some (.iload_n 3, 43, 0, 0, 0, 0) := fr fe_X8_drawn_1 22 rfl
theorem i_X8_drawn_43 : fetch 210 43 = some (.i2l, 44, 0, 0, 0, 0) := fr fe_X8_drawn_1 23 rfl
theorem i_X8_drawn_44 : fetch 210 44 = some (.lconst 1, 45, 0, 0, 0, 0) := fr fe_X8_drawn_1 24 rfl
theorem i_X8_drawn_45 : fetch 210 45 = some (.ladd, 46, 0, 0, 0, 0) := fr fe_X8_drawn_2 0 rfl
theorem i_X8_drawn_46 : fetch 210 46 = some (.putfield 218, 49, 8, 46, 0, 1123) := fr fe_X8_drawn_2 1 rfl
theorem i_X8_drawn_49 : fetch 210 49 = some (.aload_n 0, 50, 0, 0, 0, 0) := fr fe_X8_drawn_2 2 rfl
theorem i_X8_drawn_50 : fetch 210 50 = some (.iconst 1, 51, 0, 0, 0, 0) := fr fe_X8_drawn_2 3 rfl
theorem i_X8_drawn_51 : fetch 210 51 = some (.putfield 214, 54, 8, 45, 0, 1122) := fr fe_X8_drawn_2 4 rfl
theorem i_X8_drawn_54 : fetch 210 54 = some (.aload_n 0, 55, 0, 0, 0, 0) := fr fe_X8_drawn_2 5 rfl
theorem i_X8_drawn_55 : fetch 210 55 = some (.iload_n 1, 56, 0, 0, 0, 0) := fr fe_X8_drawn_2 6 rfl
theorem i_X8_drawn_56 : fetch 210 56 = some (.invokevirtual 289, 59, 168, 0, 0, 1295) := fr fe_X8_drawn_2 7 rfl
theorem i_X8_drawn_59 : fetch 210 59 = some (.aload_n 0, 60, 0, 0, 0, 0) := fr fe_X8_drawn_2 8 rfl
theorem i_X8_drawn_60 : fetch 210 60 = some (.iconst 0, 61, 0, 0, 0, 0) := fr fe_X8_drawn_2 9 rfl
theorem i_X8_drawn_61 : fetch 210 61 = some (.putfield 214, 64, 8, 45, 0, 1122) := fr fe_X8_drawn_2 10 rfl
theorem i_X8_drawn_64 : fetch 210 64 = some (.iload 4, 66, 0, 0, 0, 0) := fr fe_X8_drawn_2 11 rfl
theorem i_X8_drawn_66 : fetch 210 66 = some (.ifCond .ne 11, 69, 0, 0, 0, 0) := fr fe_X8_drawn_2 12 rfl
theorem i_X8_drawn_69 : fetch 210 69 = some (.aload_n 0, 70, 0, 0, 0, 0) := fr fe_X8_drawn_2 13 rfl
theorem i_X8_drawn_70 : fetch 210 70 = some (.iload_n 2, 71, 0, 0, 0, 0) := fr fe_X8_drawn_2 14 rfl
theorem i_X8_drawn_71 : fetch 210 71 = some (.invokevirtual 202, 74, 154, 0, 0, 1324) := fr fe_X8_drawn_2 15 rfl
theorem i_X8_drawn_74 : fetch 210 74 = some (.goto 7, 77, 0, 0, 0, 0) := fr fe_X8_drawn_2 16 rfl
theorem i_X8_drawn_77 : fetch 210 77 = some (.aload_n 0, 78, 0, 0, 0, 0) := fr fe_X8_drawn_2 17 rfl
theorem i_X8_drawn_78 : fetch 210 78 = some (.invokevirtual 304, 81, 172, 0, 0, 1402) := fr fe_X8_drawn_2 18 rfl
theorem i_X8_drawn_81 : fetch 210 81 = some (.ireturn, 82, 0, 0, 0, 0) := fr fe_X8_drawn_2 19 rfl
theorem i_X8_image_0 : fetch 211 0 = some (.aload_n 0, 1, 0, 0, 0, 0) := fr fe_X8_image_1 0 rfl
theorem i_X8_image_1 : fetch 211 1 = some (.iconst 1, 2, 0, 0, 0, 0) := fr fe_X8_image_1 1 rfl
theorem i_X8_image_2 : fetch 211 2 = some (.putfield 355, 5, 8, 15, 0, 1092) := fr fe_X8_image_1 2 rfl
theorem i_X8_image_5 : fetch 211 5 = some (.aload_n 0, 6, 0, 0, 0, 0) := fr fe_X8_image_1 3 rfl
theorem i_X8_image_6 : fetch 211 6 = some (.aload_n 0, 7, 0, 0, 0, 0) := fr fe_X8_image_1 4 rfl
theorem i_X8_image_7 : fetch 211 7 = some (.getfield 17, 10, 8, 2, 0, 1063) := fr fe_X8_image_1 5 rfl
theorem i_X8_image_10 : fetch 211 10 = some (.putfield 358, 13, 8, 16, 0, 1093) := fr fe_X8_image_1 6 rfl
theorem i_X8_image_13 : fetch 211 13 = some (.aload_n 0, 14, 0, 0, 0, 0) := fr fe_X8_image_1 7 rfl
theorem i_X8_image_14 : fetch 211 14 = some (.aload_n 0, 15, 0, 0, 0, 0) := fr fe_X8_image_1 8 rfl
theorem i_X8_image_15 : fetch 211 15 = some (.getfield 21, 18, 8, 3, 0, 1064) := fr fe_X8_image_1 9 rfl
theorem i_X8_image_18 : fetch 211 18 = some (.putfield 361, 21, 8, 17, 0, 1094) := fr fe_X8_image_1 10 rfl
theorem i_X8_image_21 : fetch 211 21 = some (.aload_n 0, 22, 0, 0, 0, 0) := fr fe_X8_image_1 11 rfl
theorem i_X8_image_22 : fetch 211 22 = some (.aload_n 0, 23, 0, 0, 0, 0) := fr fe_X8_image_1 12 rfl
theorem i_X8_image_23 : fetch 211 23 = some (.getfield 24, 26, 8, 4, 0, 1065) := fr fe_X8_image_1 13 rfl
theorem i_X8_image_26 : fetch 211 26 = some (.putfield 364, 29, 8, 18, 0, 1095) := fr fe_X8_image_1 14 rfl
theorem i_X8_image_29 : fetch 211 29 = some (.aload_n 0, 30, 0, 0, 0, 0) := fr fe_X8_image_1 15 rfl
theorem i_X8_image_30 : fetch 211 30 = some (.aload_n 0, 31, 0, 0, 0, 0) := fr fe_X8_image_1 16 rfl
theorem i_X8_image_31 : fetch 211 31 = some (.getfield 135, 34, 8, 14, 0, 1091) := fr fe_X8_image_1 17 rfl
theorem i_X8_image_34 : fetch 211 34 = some (.putfield 367, 37, 8, 19, 0, 1096) := fr fe_X8_image_1 18 rfl
theorem i_X8_image_37 : fetch 211 37 = some (.iconst 0, 38, 0, 0, 0, 0) := fr fe_X8_image_1 19 rfl
theorem i_X8_image_38 : fetch 211 38 = some (.istore_n 1, 39, 0, 0, 0, 0) := fr fe_X8_image_1 20 rfl
theorem i_X8_image_39 : fetch 211 39 = some (.iload_n 1, 40, 0, 0, 0, 0) := fr fe_X8_image_1 21 rfl
theorem i_X8_image_40 : fetch 211 40 = some (.bipush 12, 42, 0, 0, 0, 0) := fr fe_X8_image_1 22 rfl
theorem i_X8_image_42 : fetch 211 42 = some (.if_icmp .ge 33, 45, 0, 0, 0, 0) := fr fe_X8_image_1 23 rfl
theorem i_X8_image_45 : fetch 211 45 = some (.aload_n 0, 46, 0, 0, 0, 0) := fr fe_X8_image_1 24 rfl
theorem i_X8_image_46 : fetch 211 46 = some (.getfield 45, 49, 8, 20, 0, 1097) := fr fe_X8_image_2 0 rfl
theorem i_X8_image_49 : fetch 211 49 = some (.iload_n 1, 50, 0, 0, 0, 0) := fr fe_X8_image_2 1 rfl
theorem i_X8_image_50 : fetch 211 50 = some (.aload_n 0, 51, 0, 0, 0, 0) := fr fe_X8_image_2 2 rfl
theorem i_X8_image_51 : fetch 211 51 = some (.getfield 8, 54, 8, 0, 0, 1061) := fr fe_X8_image_2 3 rfl
theorem i_X8_image_54 : fetch 211 54 = some (.iload_n 1, 55, 0, 0, 0, 0) := fr fe_X8_image_2 4 rfl
theorem i_X8_image_55 : fetch 211 55 = some (.iaload, 56, 0, 0, 0, 0) := fr fe_X8_image_2 5 rfl
theorem i_X8_image_56 : fetch 211 56 = some (.iastore, 57, 0, 0, 0, 0) := fr fe_X8_image_2 6 rfl
theorem i_X8_image_57 : fetch 211 57 = some (.aload_n 0, 58, 0, 0, 0, 0) := fr fe_X8_image_2 7 rfl
theorem i_X8_image_58 : fetch 211 58 = some (.getfield 48, 61, 8, 21, 0, 1098) := fr fe_X8_image_2 8 rfl
theorem i_X8_image_61 : fetch 211 61 = some (.iload_n 1, 62, 0, 0, 0, 0) := fr fe_X8_image_2 9 rfl
theorem i_X8_image_62 : fetch 211 62 = some (.aload_n 0, 63, 0, 0, 0, 0) := fr fe_X8_image_2 10 rfl
theorem i_X8_image_63 : fetch 211 63 = some (.getfield 14, 66, 8, 1, 0, 1062) := fr fe_X8_image_2 11 rfl
theorem i_X8_image_66 : fetch 211 66 = some (.iload_n 1, 67, 0, 0, 0, 0) := fr fe_X8_image_2 12 rfl
theorem i_X8_image_67 : fetch 211 67 = some (.iaload, 68, 0, 0, 0, 0) := fr fe_X8_image_2 13 rfl
theorem i_X8_image_68 : fetch 211 68 = some (.iastore, 69, 0, 0, 0, 0) := fr fe_X8_image_2 14 rfl
theorem i_X8_image_69 : fetch 211 69 = some (.iinc 1 1, 72, 0, 0, 0, 0) := fr fe_X8_image_2 15 rfl
theorem i_X8_image_72 : fetch 211 72 = some (.goto (-33), 75, 0, 0, 0, 0) := fr fe_X8_image_2 16 rfl
theorem i_X8_image_75 : fetch 211 75 = some (.aload_n 0, 76, 0, 0, 0, 0) := fr fe_X8_image_2 17 rfl
theorem i_X8_image_76 : fetch 211 76 = some (.getfield 116, 79, 8, 5, 0, 1066) := fr fe_X8_image_2 18 rfl
theorem i_X8_image_79 : fetch 211 79 = some (.ireturn, 80, 0, 0, 0, 0) := fr fe_X8_image_2 19 rfl
theorem i_X8_back_0 : fetch 212 0 = some (.aload_n 0, 1, 0, 0, 0, 0) := fr fe_X8_back_1 0 rfl
theorem i_X8_back_1 : fetch 212 1 = some (.getfield 355, 4, 8, 15, 0, 1092) := fr fe_X8_back_1 1 rfl
theorem i_X8_back_4 : fetch 212 4 = some (.ifCond .ne 6, 7, 0, 0, 0, 0) := fr fe_X8_back_1 2 rfl
theorem i_X8_back_7 : fetch 212 7 = some (.bipush (-3), 9, 0, 0, 0, 0) := fr fe_X8_back_1 3 rfl
theorem i_X8_back_9 : fetch 212 9 = some (.ireturn, 10, 0, 0, 0, 0) := fr fe_X8_back_1 4 rfl
theorem i_X8_back_10 : fetch 212 10 = some (.aload_n 0, 11, 0, 0, 0, 0) := fr fe_X8_back_1 5 rfl
theorem i_X8_back_11 : fetch 212 11 = some (.aload_n 0, 12, 0, 0, 0, 0) := fr fe_X8_back_1 6 rfl
theorem i_X8_back_12 : fetch 212 12 = some (.getfield 358, 15, 8, 16, 0, 1093) := fr fe_X8_back_1 7 rfl
theorem i_X8_back_15 : fetch 212 15 = some (.putfield 17, 18, 8, 2, 0, 1063) := fr fe_X8_back_1 8 rfl
theorem i_X8_back_18 : fetch 212 18 = some (.aload_n 0, 19, 0, 0, 0, 0) := fr fe_X8_back_1 9 rfl
theorem i_X8_back_19 : fetch 212 19 = some (.aload_n 0, 20, 0, 0, 0, 0) := fr fe_X8_back_1 10 rfl
theorem i_X8_back_20 : fetch 212 20 = some (.getfield 361, 23, 8, 17, 0, 1094) := fr fe_X8_back_1 11 rfl
theorem i_X8_back_23 : fetch 212 23 = some (.putfield 21, 26, 8, 3, 0, 1064) := fr fe_X8_back_1 12 rfl
theorem i_X8_back_26 : fetch 212 26 = some (.aload_n 0, 27, 0, 0, 0, 0) := fr fe_X8_back_1 13 rfl
theorem i_X8_back_27 : fetch 212 27 = some (.aload_n 0, 28, 0, 0, 0, 0) := fr fe_X8_back_1 14 rfl
theorem i_X8_back_28 : fetch 212 28 = some (.getfield 364, 31, 8, 18, 0, 1095) := fr fe_X8_back_1 15 rfl
theorem i_X8_back_31 : fetch 212 31 = some (.putfield 24, 34, 8, 4, 0, 1065) := fr fe_X8_back_1 16 rfl
theorem i_X8_back_34 : fetch 212 34 = some (.aload_n 0, 35, 0, 0, 0, 0) := fr fe_X8_back_1 17 rfl
theorem i_X8_back_35 : fetch 212 35 = some (.aload_n 0, 36, 0, 0, 0, 0) := fr fe_X8_back_1 18 rfl
theorem i_X8_back_36 : fetch 212 36 = some (.getfield 367, 39, 8, 19, 0, 1096) := fr fe_X8_back_1 19 rfl
theorem i_X8_back_39 : fetch 212 39 = some (.putfield 135, 42, 8, 14, 0, 1091) := fr fe_X8_back_1 20 rfl
theorem i_X8_back_42 : fetch 212 42 = some (.iconst 0, 43, 0, 0, 0, 0) := fr fe_X8_back_1 21 rfl
theorem i_X8_back_43 : fetch 212 43 = some (.istore_n 1, 44, 0, 0, 0, 0) := fr fe_X8_back_1 22 rfl
theorem i_X8_back_44 : fetch 212 44 = some (.iload_n 1, 45, 0, 0, 0, 0) := fr fe_X8_back_1 23 rfl
theorem i_X8_back_45 : fetch 212 45 = some (.bipush 12, 47, 0, 0, 0, 0) := fr fe_X8_back_1 24 rfl
theorem i_X8_back_47 : fetch 212 47 = some (.if_icmp .ge 33, 50, 0, 0, 0, 0) := fr fe_X8_back_2 0 rfl
theorem i_X8_back_50 : fetch 212 50 = some (.aload_n 0, 51, 0, 0, 0, 0) := fr fe_X8_back_2 1 rfl
theorem i_X8_back_51 : fetch 212 51 = some (.getfield 8, 54, 8, 0, 0, 1061) := fr fe_X8_back_2 2 rfl
theorem i_X8_back_54 : fetch 212 54 = some (.iload_n 1, 55, 0, 0, 0, 0) := fr fe_X8_back_2 3 rfl
theorem i_X8_back_55 : fetch 212 55 = some (.aload_n 0, 56, 0, 0, 0, 0) := fr fe_X8_back_2 4 rfl
theorem i_X8_back_56 : fetch 212 56 = some (.getfield 45, 59, 8, 20, 0, 1097) := fr fe_X8_back_2 5 rfl
theorem i_X8_back_59 : fetch 212 59 = some (.iload_n 1, 60, 0, 0, 0, 0) := fr fe_X8_back_2 6 rfl
theorem i_X8_back_60 : fetch 212 60 = some (.iaload, 61, 0, 0, 0, 0) := fr fe_X8_back_2 7 rfl
theorem i_X8_back_61 : fetch 212 61 = some (.iastore, 62, 0, 0, 0, 0) := fr fe_X8_back_2 8 rfl
theorem i_X8_back_62 : fetch 212 62 = some (.aload_n 0, 63, 0, 0, 0, 0) := fr fe_X8_back_2 9 rfl
theorem i_X8_back_63 : fetch 212 63 = some (.getfield 14, 66, 8, 1, 0, 1062) := fr fe_X8_back_2 10 rfl
theorem i_X8_back_66 : fetch 212 66 = some (.iload_n 1, 67, 0, 0, 0, 0) := fr fe_X8_back_2 11 rfl
theorem i_X8_back_67 : fetch 212 67 = some (.aload_n 0, 68, 0, 0, 0, 0) := fr fe_X8_back_2 12 rfl
theorem i_X8_back_68 : fetch 212 68 = some (.getfield 48, 71, 8, 21, 0, 1098) := fr fe_X8_back_2 13 rfl
theorem i_X8_back_71 : fetch 212 71 = some (.iload_n 1, 72, 0, 0, 0, 0) := fr fe_X8_back_2 14 rfl
theorem i_X8_back_72 : fetch 212 72 = some (.iaload, 73, 0, 0, 0, 0) := fr fe_X8_back_2 15 rfl
theorem i_X8_back_73 : fetch 212 73 = some (.iastore, 74, 0, 0, 0, 0) := fr fe_X8_back_2 16 rfl
theorem i_X8_back_74 : fetch 212 74 = some (.iinc 1 1, 77, 0, 0, 0, 0) := fr fe_X8_back_2 17 rfl
theorem i_X8_back_77 : fetch 212 77 = some (.goto (-33), 80, 0, 0, 0, 0) := fr fe_X8_back_2 18 rfl
theorem i_X8_back_80 : fetch 212 80 = some (.aload_n 0, 81, 0, 0, 0, 0) := fr fe_X8_back_2 19 rfl
theorem i_X8_back_81 : fetch 212 81 = some (.getfield 116, 84, 8, 5, 0, 1066) := fr fe_X8_back_2 20 rfl
theorem i_X8_back_84 : fetch 212 84 = some (.ireturn, 85, 0, 0, 0, 0) := fr fe_X8_back_2 21 rfl
theorem i_X8_sheet_0 : fetch 213 0 = some (.iload_n 1, 1, 0, 0, 0, 0) := fr fe_X8_sheet_1 0 rfl
theorem i_X8_sheet_1 : fetch 213 1 = some (.iconst 0, 2, 0, 0, 0, 0) := fr fe_X8_sheet_1 1 rfl
theorem i_X8_sheet_2 : fetch 213 2 = some (.iconst 3, 3, 0, 0, 0, 0) := fr fe_X8_sheet_1 2 rfl
theorem i_X8_sheet_3 : fetch 213 3 = some (.invokestatic 112, 6, 126, 0, 0, 1022) := fr fe_X8_sheet_1 3 rfl
theorem i_X8_sheet_6 : fetch 213 6 = some (.ifCond .eq 23, 9, 0, 0, 0, 0) := fr fe_X8_sheet_1 4 rfl
theorem i_X8_sheet_9 : fetch 213 9 = some (.iload_n 2, 10, 0, 0, 0, 0) := fr fe_X8_sheet_1 5 rfl
theorem i_X8_sheet_10 : fetch 213 10 = some (.iconst (-1), 11, 0, 0, 0, 0) := fr fe_X8_sheet_1 6 rfl
theorem i_X8_sheet_11 : fetch 213 11 = some (.iconst 2, 12, 0, 0, 0, 0) := fr fe_X8_sheet_1 7 rfl
theorem i_X8_sheet_12 : fetch 213 12 = some (.invokestatic 112, 15, 126, 0, 0, 1022) := fr fe_X8_sheet_1 8 rfl
theorem i_X8_sheet_15 : fetch 213 15 = some (.ifCond .eq 14, 18, 0, 0, 0, 0) := fr fe_X8_sheet_1 9 rfl
theorem i_X8_sheet_18 : fetch 213 18 = some (.iload_n 2, 19, 0, 0, 0, 0) := fr fe_X8_sheet_1 10 rfl
theorem i_X8_sheet_19 : fetch 213 19 = some (.iconst (-1), 20, 0, 0, 0, 0) := fr fe_X8_sheet_1 11 rfl
theorem i_X8_sheet_20 : fetch 213 20 = some (.if_icmp .eq 12, 23, 0, 0, 0, 0) := fr fe_X8_sheet_1 12 rfl
theorem i_X8_sheet_23 : fetch 213 23 = some (.iload_n 3, 24, 0, 0, 0, 0) := fr fe_X8_sheet_1 13 rfl
theorem i_X8_sheet_24 : fetch 213 24 = some (.bipush 40, 26, 0, 0, 0, 0) := fr fe_X8_sheet_1 14 rfl
theorem i_X8_sheet_26 : fetch 213 26 = some (.if_icmp .le 6, 29, 0, 0, 0, 0) := fr fe_X8_sheet_1 15 rfl
theorem i_X8_sheet_29 : fetch 213 29 = some (.bipush (-2), 31, 0, 0, 0, 0) := fr fe_X8_sheet_1 16 rfl
theorem i_X8_sheet_31 : fetch 213 31 = some (.ireturn, 32, 0, 0, 0, 0) := fr fe_X8_sheet_1 17 rfl
theorem i_X8_sheet_32 : fetch 213 32 = some (.iload_n 2, 33, 0, 0, 0, 0) := fr fe_X8_sheet_1 18 rfl
theorem i_X8_sheet_33 : fetch 213 33 = some (.iconst (-1), 34, 0, 0, 0, 0) := fr fe_X8_sheet_1 19 rfl
theorem i_X8_sheet_34 : fetch 213 34 = some (.if_icmp .eq 10, 37, 0, 0, 0, 0) := fr fe_X8_sheet_1 20 rfl
theorem i_X8_sheet_37 : fetch 213 37 = some (.iload_n 3, 38, 0, 0, 0, 0) := fr fe_X8_sheet_1 21 rfl
theorem i_X8_sheet_38 : fetch 213 38 = some (.ifCond .ge 6, 41, 0, 0, 0, 0) := fr fe_X8_sheet_1 22 rfl
theorem i_X8_sheet_41 : fetch 213 41 = some (.bipush (-14), 43, 0, 0, 0, 0) := fr fe_X8_sheet_1 23 rfl
theorem i_X8_sheet_43 : fetch 213 43 = some (.ireturn, 44, 0, 0, 0, 0) := fr fe_X8_sheet_1 24 rfl
theorem i_X8_sheet_44 : fetch 213 44 = some (.aload_n 0, 45, 0, 0, 0, 0) := fr fe_X8_sheet_2 0 rfl
theorem i_X8_sheet_45 : fetch 213 45 = some (.getfield 51, 48, 8, 22, 0, 1099) := fr fe_X8_sheet_2 1 rfl
theorem i_X8_sheet_48 : fetch 213 48 = some (.iload_n 1, 49, 0, 0, 0, 0) := fr fe_X8_sheet_2 2 rfl
theorem i_X8_sheet_49 : fetch 213 49 = some (.iload_n 2, 50, 0, 0, 0, 0) := fr fe_X8_sheet_2 3 rfl
theorem i_X8_sheet_50 : fetch 213 50 = some (.iastore, 51, 0, 0, 0, 0) := fr fe_X8_sheet_2 4 rfl
theorem i_X8_sheet_51 : fetch 213 51 = some (.aload_n 0, 52, 0, 0, 0, 0) := fr fe_X8_sheet_2 5 rfl
theorem i_X8_sheet_52 : fetch 213 52 = some (.getfield 54, 55, 8, 23, 0, 1100) := fr fe_X8_sheet_2 6 rfl
theorem i_X8_sheet_55 : fetch 213 55 = some (.iload_n 1, 56, 0, 0, 0, 0) := fr fe_X8_sheet_2 7 rfl
theorem i_X8_sheet_56 : fetch 213 56 = some (.iload_n 2, 57, 0, 0, 0, 0) := fr fe_X8_sheet_2 8 rfl
theorem i_X8_sheet_57 : fetch 213 57 = some (.iconst (-1), 58, 0, 0, 0, 0) := fr fe_X8_sheet_2 9 rfl
theorem i_X8_sheet_58 : fetch 213 58 = some (.if_icmp .ne 7, 61, 0, 0, 0, 0) := fr fe_X8_sheet_2 10 rfl
theorem i_X8_sheet_61 : fetch 213 61 = some (.iconst 0, 62, 0, 0, 0, 0) := fr fe_X8_sheet_2 11 rfl
theorem i_X8_sheet_62 : fetch 213 62 = some (.goto 4, 65, 0, 0, 0, 0) := fr fe_X8_sheet_2 12 rfl
theorem i_X8_sheet_65 : fetch 213 65 = some (.iload_n 3, 66, 0, 0, 0, 0) := fr fe_X8_sheet_2 13 rfl
theorem i_X8_sheet_66 : fetch 213 66 = some (.iastore, 67, 0, 0, 0, 0) := fr fe_X8_sheet_2 14 rfl
theorem i_X8_sheet_67 : fetch 213 67 = some (.iconst 0, 68, 0, 0, 0, 0) := fr fe_X8_sheet_2 15 rfl
theorem i_X8_sheet_68 : fetch 213 68 = some (.istore 4, 70, 0, 0, 0, 0) := fr fe_X8_sheet_2 16 rfl
theorem i_X8_sheet_70 : fetch 213 70 = some (.iload 4, 72, 0, 0, 0, 0) := fr fe_X8_sheet_2 17 rfl
theorem i_X8_sheet_72 : fetch 213 72 = some (.bipush 40, 74, 0, 0, 0, 0) := fr fe_X8_sheet_2 18 rfl
theorem i_X8_sheet_74 : fetch 213 74 = some (.if_icmp .ge 22, 77, 0, 0, 0, 0) := fr fe_X8_sheet_2 19 rfl
theorem i_X8_sheet_77 : fetch 213 77 = some (.aload_n 0, 78, 0, 0, 0, 0) := fr fe_X8_sheet_2 20 rfl
theorem i_X8_sheet_78 : fetch 213 78 = some (.getfield 57, 81, 8, 24, 0, 1101) := fr fe_X8_sheet_2 21 rfl
theorem i_X8_sheet_81 : fetch 213 81 = some (.bipush 40, 83, 0, 0, 0, 0) := fr fe_X8_sheet_2 22 rfl
theorem i_X8_sheet_83 : fetch 213 83 = some (.iload_n 1, 84, 0, 0, 0, 0) := fr fe_X8_sheet_2 23 rfl
theorem i_X8_sheet_84 : fetch 213 84 = some (.imul, 85, 0, 0, 0, 0) := fr fe_X8_sheet_2 24 rfl
theorem i_X8_sheet_85 : fetch 213 85 = some (.iload 4, 87, 0, 0, 0, 0) := fr fe_X8_sheet_3 0 rfl
theorem i_X8_sheet_87 : fetch 213 87 = some (.iadd, 88, 0, 0, 0, 0) := fr fe_X8_sheet_3 1 rfl
theorem i_X8_sheet_88 : fetch 213 88 = some (.iconst 0, 89, 0, 0, 0, 0) := fr fe_X8_sheet_3 2 rfl
theorem i_X8_sheet_89 : fetch 213 89 = some (.iastore, 90, 0, 0, 0, 0) := fr fe_X8_sheet_3 3 rfl
theorem i_X8_sheet_90 : fetch 213 90 = some (.iinc 4 1, 93, 0, 0, 0, 0) := fr fe_X8_sheet_3 4 rfl
theorem i_X8_sheet_93 : fetch 213 93 = some (.goto (-23), 96, 0, 0, 0, 0) := fr fe_X8_sheet_3 5 rfl
theorem i_X8_sheet_96 : fetch 213 96 = some (.iconst 1, 97, 0, 0, 0, 0) := fr fe_X8_sheet_3 6 rfl
theorem i_X8_sheet_97 : fetch 213 97 = some (.ireturn, 98, 0, 0, 0, 0) := fr fe_X8_sheet_3 7 rfl
theorem i_X8_cell_0 : fetch 214 0 = some (.iload_n 1, 1, 0, 0, 0, 0) := fr fe_X8_cell_1 0 rfl
theorem i_X8_cell_1 : fetch 214 1 = some (.iconst 0, 2, 0, 0, 0, 0) := fr fe_X8_cell_1 1 rfl
theorem i_X8_cell_2 : fetch 214 2 = some (.iconst 3, 3, 0, 0, 0, 0) := fr fe_X8_cell_1 2 rfl
theorem i_X8_cell_3 : fetch 214 3 = some (.invokestatic 112, 6, 126, 0, 0, 1022) := fr fe_X8_cell_1 3 rfl
theorem i_X8_cell_6 : fetch 214 6 = some (.ifCond .ne 6, 9, 0, 0, 0, 0) := fr fe_X8_cell_1 4 rfl
theorem i_X8_cell_9 : fetch 214 9 = some (.bipush (-2), 11, 0, 0, 0, 0) := fr fe_X8_cell_1 5 rfl
theorem i_X8_cell_11 : fetch 214 11 = some (.ireturn, 12, 0, 0, 0, 0) := fr fe_X8_cell_1 6 rfl
theorem i_X8_cell_12 : fetch 214 12 = some (.aload_n 0, 13, 0, 0, 0, 0) := fr fe_X8_cell_1 7 rfl
theorem i_X8_cell_13 : fetch 214 13 = some (.getfield 51, 16, 8, 22, 0, 1099) := fr fe_X8_cell_1 8 rfl
theorem i_X8_cell_16 : fetch 214 16 = some (.iload_n 1, 17, 0, 0, 0, 0) := fr fe_X8_cell_1 9 rfl
theorem i_X8_cell_17 : fetch 214 17 = some (.iaload, 18, 0, 0, 0, 0) := fr fe_X8_cell_1 10 rfl
theorem i_X8_cell_18 : fetch 214 18 = some (.iconst (-1), 19, 0, 0, 0, 0) := fr fe_X8_cell_1 11 rfl
theorem i_X8_cell_19 : fetch 214 19 = some (.if_icmp .ne 6, 22, 0, 0, 0, 0) := fr fe_X8_cell_1 12 rfl
theorem i_X8_cell_22 : fetch 214 22 = some (.bipush (-11), 24, 0, 0, 0, 0) := fr fe_X8_cell_1 13 rfl
theorem i_X8_cell_24 : fetch 214 24 = some (.ireturn, 25, 0, 0, 0, 0) := fr fe_X8_cell_1 14 rfl
theorem i_X8_cell_25 : fetch 214 25 = some (.iload_n 2, 26, 0, 0, 0, 0) := fr fe_X8_cell_1 15 rfl
theorem i_X8_cell_26 : fetch 214 26 = some (.iconst 0, 27, 0, 0, 0, 0) := fr fe_X8_cell_1 16 rfl
theorem i_X8_cell_27 : fetch 214 27 = some (.aload_n 0, 28, 0, 0, 0, 0) := fr fe_X8_cell_1 17 rfl
theorem i_X8_cell_28 : fetch 214 28 = some (.getfield 54, 31, 8, 23, 0, 1100) := fr fe_X8_cell_1 18 rfl
theorem i_X8_cell_31 : fetch 214 31 = some (.iload_n 1, 32, 0, 0, 0, 0) := fr fe_X8_cell_1 19 rfl
theorem i_X8_cell_32 : fetch 214 32 = some (.iaload, 33, 0, 0, 0, 0) := fr fe_X8_cell_1 20 rfl
theorem i_X8_cell_33 : fetch 214 33 = some (.iconst 1, 34, 0, 0, 0, 0) := fr fe_X8_cell_1 21 rfl
theorem i_X8_cell_34 : fetch 214 34 = some (.isub, 35, 0, 0, 0, 0) := fr fe_X8_cell_1 22 rfl
theorem i_X8_cell_35 : fetch 214 35 = some (.invokestatic 112, 38, 126, 0, 0, 1022) := fr fe_X8_cell_1 23 rfl
theorem i_X8_cell_38 : fetch 214 38 = some (.ifCond .ne 6, 41, 0, 0, 0, 0) := fr fe_X8_cell_1 24 rfl
theorem i_X8_cell_41 : fetch 214 41 = some (.bipush (-12), 43, 0, 0, 0, 0) := fr fe_X8_cell_2 0 rfl
theorem i_X8_cell_43 : fetch 214 43 = some (.ireturn, 44, 0, 0, 0, 0) := fr fe_X8_cell_2 1 rfl
theorem i_X8_cell_44 : fetch 214 44 = some (.aload_n 0, 45, 0, 0, 0, 0) := fr fe_X8_cell_2 2 rfl
theorem i_X8_cell_45 : fetch 214 45 = some (.getfield 57, 48, 8, 24, 0, 1101) := fr fe_X8_cell_2 3 rfl
theorem i_X8_cell_48 : fetch 214 48 = some (.bipush 40, 50, 0, 0, 0, 0) := fr fe_X8_cell_2 4 rfl
theorem i_X8_cell_50 : fetch 214 50 = some (.iload_n 1, 51, 0, 0, 0, 0) := fr fe_X8_cell_2 5 rfl
theorem i_X8_cell_51 : fetch 214 51 = some (.imul, 52, 0, 0, 0, 0) := fr fe_X8_cell_2 6 rfl
theorem i_X8_cell_52 : fetch 214 52 = some (.iload_n 2, 53, 0, 0, 0, 0) := fr fe_X8_cell_2 7 rfl
theorem i_X8_cell_53 : fetch 214 53 = some (.iadd, 54, 0, 0, 0, 0) := fr fe_X8_cell_2 8 rfl
theorem i_X8_cell_54 : fetch 214 54 = some (.aload_n 0, 55, 0, 0, 0, 0) := fr fe_X8_cell_2 9 rfl
theorem i_X8_cell_55 : fetch 214 55 = some (.getfield 51, 58, 8, 22, 0, 1099) := fr fe_X8_cell_2 10 rfl
theorem i_X8_cell_58 : fetch 214 58 = some (.iload_n 1, 59, 0, 0, 0, 0) := fr fe_X8_cell_2 11 rfl
theorem i_X8_cell_59 : fetch 214 59 = some (.iaload, 60, 0, 0, 0, 0) := fr fe_X8_cell_2 12 rfl
theorem i_X8_cell_60 : fetch 214 60 = some (.ifCond .ne 8, 63, 0, 0, 0, 0) := fr fe_X8_cell_2 13 rfl
theorem i_X8_cell_63 : fetch 214 63 = some (.iload_n 3, 64, 0, 0, 0, 0) := fr fe_X8_cell_2 14 rfl
theorem i_X8_cell_64 : fetch 214 64 = some (.i2b, 65, 0, 0, 0, 0) := fr fe_X8_cell_2 15 rfl
theorem i_X8_cell_65 : fetch 214 65 = some (.goto 19, 68, 0, 0, 0, 0) := fr fe_X8_cell_2 16 rfl
theorem i_X8_cell_68 : fetch 214 68 = some (.aload_n 0, 69, 0, 0, 0, 0) := fr fe_X8_cell_2 17 rfl
theorem i_X8_cell_69 : fetch 214 69 = some (.getfield 51, 72, 8, 22, 0, 1099) := fr fe_X8_cell_2 18 rfl
theorem i_X8_cell_72 : fetch 214 72 = some (.iload_n 1, 73, 0, 0, 0, 0) := fr fe_X8_cell_2 19 rfl
theorem i_X8_cell_73 : fetch 214 73 = some (.iaload, 74, 0, 0, 0, 0) := fr fe_X8_cell_2 20 rfl
theorem i_X8_cell_74 : fetch 214 74 = some (.iconst 1, 75, 0, 0, 0, 0) := fr fe_X8_cell_2 21 rfl
theorem i_X8_cell_75 : fetch 214 75 = some (.if_icmp .ne 8, 78, 0, 0, 0, 0) := fr fe_X8_cell_2 22 rfl
theorem i_X8_cell_78 : fetch 214 78 = some (.iload_n 3, 79, 0, 0, 0, 0) := fr fe_X8_cell_2 23 rfl
theorem i_X8_cell_79 : fetch 214 79 = some (.i2s, 80, 0, 0, 0, 0) := fr fe_X8_cell_2 24 rfl
theorem i_X8_cell_80 : fetch 214 80 = some (.goto 4, 83, 0, 0, 0, 0) := fr fe_X8_cell_3 0 rfl
theorem i_X8_cell_83 : fetch 214 83 = some (.iload_n 3, 84, 0, 0, 0, 0) := fr fe_X8_cell_3 1 rfl
theorem i_X8_cell_84 : fetch 214 84 = some (.iastore, 85, 0, 0, 0, 0) := fr fe_X8_cell_3 2 rfl
theorem i_X8_cell_85 : fetch 214 85 = some (.iconst 1, 86, 0, 0, 0, 0) := fr fe_X8_cell_3 3 rfl
theorem i_X8_cell_86 : fetch 214 86 = some (.ireturn, 87, 0, 0, 0, 0) := fr fe_X8_cell_3 4 rfl
theorem i_X8_copy_0 : fetch 215 0 = some (.iload_n 1, 1, 0, 0, 0, 0) := fr fe_X8_copy_1 0 rfl
theorem i_X8_copy_1 : fetch 215 1 = some (.iconst 0, 2, 0, 0, 0, 0) := fr fe_X8_copy_1 1 rfl
theorem i_X8_copy_2 : fetch 215 2 = some (.iconst 3, 3, 0, 0, 0, 0) := fr fe_X8_copy_1 2 rfl
theorem i_X8_copy_3 : fetch 215 3 = some (.invokestatic 112, 6, 126, 0, 0, 1022) := fr fe_X8_copy_1 3 rfl
theorem i_X8_copy_6 : fetch 215 6 = some (.ifCond .eq 12, 9, 0, 0, 0, 0) := fr fe_X8_copy_1 4 rfl
theorem i_X8_copy_9 : fetch 215 9 = some (.iload_n 3, 10, 0, 0, 0, 0) := fr fe_X8_copy_1 5 rfl
theorem i_X8_copy_10 : fetch 215 10 = some (.iconst 0, 11, 0, 0, 0, 0) := fr fe_X8_copy_1 6 rfl
theorem i_X8_copy_11 : fetch 215 11 = some (.iconst 3, 12, 0, 0, 0, 0) := fr fe_X8_copy_1 7 rfl
theorem i_X8_copy_12 : fetch 215 12 = some (.invokestatic 112, 15, 126, 0, 0, 1022) := fr fe_X8_copy_1 8 rfl
theorem i_X8_copy_15 : fetch 215 15 = some (.ifCond .ne 6, 18, 0, 0, 0, 0) := fr fe_X8_copy_1 9 rfl
theorem i_X8_copy_18 : fetch 215 18 = some (.bipush (-2), 20, 0, 0, 0, 0) := fr fe_X8_copy_1 10 rfl
theorem i_X8_copy_20 : fetch 215 20 = some (.ireturn, 21, 0, 0, 0, 0) := fr fe_X8_copy_1 11 rfl
theorem i_X8_copy_21 : fetch 215 21 = some (.aload_n 0, 22, 0, 0, 0, 0) := fr fe_X8_copy_1 12 rfl
theorem i_X8_copy_22 : fetch 215 22 = some (.getfield 51, 25, 8, 22, 0, 1099) := fr fe_X8_copy_1 13 rfl
theorem i_X8_copy_25 : fetch 215 25 = some (.iload_n 1, 26, 0, 0, 0, 0) := fr fe_X8_copy_1 14 rfl
theorem i_X8_copy_26 : fetch 215 26 = some (.iaload, 27, 0, 0, 0, 0) := fr fe_X8_copy_1 15 rfl
theorem i_X8_copy_27 : fetch 215 27 = some (.iconst (-1), 28, 0, 0, 0, 0) := fr fe_X8_copy_1 16 rfl
theorem i_X8_copy_28 : fetch 215 28 = some (.if_icmp .eq 13, 31, 0, 0, 0, 0) := fr fe_X8_copy_1 17 rfl
theorem i_X8_copy_31 : fetch 215 31 = some (.aload_n 0, 32, 0, 0, 0, 0) := fr fe_X8_copy_1 18 rfl
theorem i_X8_copy_32 : fetch 215 32 = some (.getfield 51, 35, 8, 22, 0, 1099) := fr fe_X8_copy_1 19 rfl
theorem i_X8_copy_35 : fetch 215 35 = some (.iload_n 3, 36, 0, 0, 0, 0) := fr fe_X8_copy_1 20 rfl
theorem i_X8_copy_36 : fetch 215 36 = some (.iaload, 37, 0, 0, 0, 0) := fr fe_X8_copy_1 21 rfl
theorem i_X8_copy_37 : fetch 215 37 = some (.iconst (-1), 38, 0, 0, 0, 0) := fr fe_X8_copy_1 22 rfl
theorem i_X8_copy_38 : fetch 215 38 = some (.if_icmp .ne 6, 41, 0, 0, 0, 0) := fr fe_X8_copy_1 23 rfl
theorem i_X8_copy_41 : fetch 215 41 = some (.bipush (-11), 43, 0, 0, 0, 0) := fr fe_X8_copy_1 24 rfl
theorem i_X8_copy_43 : fetch 215 43 = some (.ireturn, 44, 0, 0, 0, 0) := fr fe_X8_copy_2 0 rfl
theorem i_X8_copy_44 : fetch 215 44 = some (.aload_n 0, 45, 0, 0, 0, 0) := fr fe_X8_copy_2 1 rfl
theorem i_X8_copy_45 : fetch 215 45 = some (.getfield 51, 48, 8, 22, 0, 1099) := fr fe_X8_copy_2 2 rfl
theorem i_X8_copy_48 : fetch 215 48 = some (.iload_n 1, 49, 0, 0, 0, 0) := fr fe_X8_copy_2 3 rfl
theorem i_X8_copy_49 : fetch 215 49 = some (.iaload, 50, 0, 0, 0, 0) := fr fe_X8_copy_2 4 rfl
theorem i_X8_copy_50 : fetch 215 50 = some (.aload_n 0, 51, 0, 0, 0, 0) := fr fe_X8_copy_2 5 rfl
theorem i_X8_copy_51 : fetch 215 51 = some (.getfield 51, 54, 8, 22, 0, 1099) := fr fe_X8_copy_2 6 rfl
theorem i_X8_copy_54 : fetch 215 54 = some (.iload_n 3, 55, 0, 0, 0, 0) := fr fe_X8_copy_2 7 rfl
theorem i_X8_copy_55 : fetch 215 55 = some (.iaload, 56, 0, 0, 0, 0) := fr fe_X8_copy_2 8 rfl
theorem i_X8_copy_56 : fetch 215 56 = some (.if_icmp .eq 6, 59, 0, 0, 0, 0) := fr fe_X8_copy_2 9 rfl
theorem i_X8_copy_59 : fetch 215 59 = some (.bipush (-13), 61, 0, 0, 0, 0) := fr fe_X8_copy_2 10 rfl
theorem i_X8_copy_61 : fetch 215 61 = some (.ireturn, 62, 0, 0, 0, 0) := fr fe_X8_copy_2 11 rfl
theorem i_X8_copy_62 : fetch 215 62 = some (.iload 5, 64, 0, 0, 0, 0) := fr fe_X8_copy_2 12 rfl
theorem i_X8_copy_64 : fetch 215 64 = some (.ifCond .lt 60, 67, 0, 0, 0, 0) := fr fe_X8_copy_2 13 rfl
theorem i_X8_copy_67 : fetch 215 67 = some (.iload_n 2, 68, 0, 0, 0, 0) := fr fe_X8_copy_2 14 rfl
theorem i_X8_copy_68 : fetch 215 68 = some (.ifCond .lt 56, 71, 0, 0, 0, 0) := fr fe_X8_copy_2 15 rfl
theorem i_X8_copy_71 : fetch 215 71 = some (.iload 4, 73, 0, 0, 0, 0) := fr fe_X8_copy_2 16 rfl
theorem i_X8_copy_73 : fetch 215 73 = some (.ifCond .lt 51, 76, 0, 0, 0, 0) := fr fe_X8_copy_2 17 rfl
theorem i_X8_copy_76 : fetch 215 76 = some (.iload_n 2, 77, 0, 0, 0, 0) := fr fe_X8_copy_2 18 rfl
theorem i_X8_copy_77 : fetch 215 77 = some (.aload_n 0, 78, 0, 0, 0, 0) := fr fe_X8_copy_2 19 rfl
theorem i_X8_copy_78 : fetch 215 78 = some (.getfield 54, 81, 8, 23, 0, 1100) := fr fe_X8_copy_2 20 rfl
theorem i_X8_copy_81 : fetch 215 81 = some (.iload_n 1, 82, 0, 0, 0, 0) := fr fe_X8_copy_2 21 rfl
theorem i_X8_copy_82 : fetch 215 82 = some (.iaload, 83, 0, 0, 0, 0) := fr fe_X8_copy_2 22 rfl
theorem i_X8_copy_83 : fetch 215 83 = some (.if_icmp .gt 41, 86, 0, 0, 0, 0) := fr fe_X8_copy_2 23 rfl
theorem i_X8_copy_86 : fetch 215 86 = some (.iload 4, 88, 0, 0, 0, 0) := fr fe_X8_copy_2 24 rfl
theorem i_X8_copy_88 : fetch 215 88 = some (.aload_n 0, 89, 0, 0, 0, 0) := fr fe_X8_copy_3 0 rfl
theorem i_X8_copy_89 : fetch 215 89 = some (.getfield 54, 92, 8, 23, 0, 1100) := fr fe_X8_copy_3 1 rfl
theorem i_X8_copy_92 : fetch 215 92 = some (.iload_n 3, 93, 0, 0, 0, 0) := fr fe_X8_copy_3 2 rfl
theorem i_X8_copy_93 : fetch 215 93 = some (.iaload, 94, 0, 0, 0, 0) := fr fe_X8_copy_3 3 rfl
theorem i_X8_copy_94 : fetch 215 94 = some (.if_icmp .gt 30, 97, 0, 0, 0, 0) := fr fe_X8_copy_3 4 rfl
theorem i_X8_copy_97 : fetch 215 97 = some (.iload 5, 99, 0, 0, 0, 0) := fr fe_X8_copy_3 5 rfl
theorem i_X8_copy_99 : fetch 215 99 = some (.aload_n 0, 100, 0, 0, 0, 0) := fr fe_X8_copy_3 6 rfl
theorem i_X8_copy_100 : fetch 215 100 = some (.getfield 54, 103, 8, 23, 0, 1100) := fr fe_X8_copy_3 7 rfl
theorem i_X8_copy_103 : fetch 215 103 = some (.iload_n 1, 104, 0, 0, 0, 0) := fr fe_X8_copy_3 8 rfl
theorem i_X8_copy_104 : fetch 215 104 = some (.iaload, 105, 0, 0, 0, 0) := fr fe_X8_copy_3 9 rfl
theorem i_X8_copy_105 : fetch 215 105 = some (.iload_n 2, 106, 0, 0, 0, 0) := fr fe_X8_copy_3 10 rfl
theorem i_X8_copy_106 : fetch 215 106 = some (.isub, 107, 0, 0, 0, 0) := fr fe_X8_copy_3 11 rfl
theorem i_X8_copy_107 : fetch 215 107 = some (.if_icmp .gt 17, 110, 0, 0, 0, 0) := fr fe_X8_copy_3 12 rfl
theorem i_X8_copy_110 : fetch 215 110 = some (.iload 5, 112, 0, 0, 0, 0) := fr fe_X8_copy_3 13 rfl
theorem i_X8_copy_112 : fetch 215 112 = some (.aload_n 0, 113, 0, 0, 0, 0) := fr fe_X8_copy_3 14 rfl
theorem i_X8_copy_113 : fetch 215 113 = some (.getfield 54, 116, 8, 23, 0, 1100) := fr fe_X8_copy_3 15 rfl
theorem i_X8_copy_116 : fetch 215 116 = some (.iload_n 3, 117, 0, 0, 0, 0) := fr fe_X8_copy_3 16 rfl
theorem i_X8_copy_117 : fetch 215 117 = some (.iaload, 118, 0, 0, 0, 0) := fr fe_X8_copy_3 17 rfl
theorem i_X8_copy_118 : fetch 215 118 = some (.iload 4, 120, 0, 0, 0, 0) := fr fe_X8_copy_3 18 rfl
theorem i_X8_copy_120 : fetch 215 120 = some (.isub, 121, 0, 0, 0, 0) := fr fe_X8_copy_3 19 rfl
theorem i_X8_copy_121 : fetch 215 121 = some (.if_icmp .le 6, 124, 0, 0, 0, 0) := fr fe_X8_copy_3 20 rfl
theorem i_X8_copy_124 : fetch 215 124 = some (.bipush (-12), 126, 0, 0, 0, 0) := fr fe_X8_copy_3 21 rfl
theorem i_X8_copy_126 : fetch 215 126 = some (.ireturn, 127, 0, 0, 0, 0) := fr fe_X8_copy_3 22 rfl
theorem i_X8_copy_127 : fetch 215 127 = some (.bipush 40, 129, 0, 0, 0, 0) := fr fe_X8_copy_3 23 rfl
theorem i_X8_copy_129 : fetch 215 129 = some (.iload_n 1, 130, 0, 0, 0, 0) := fr fe_X8_copy_3 24 rfl
theorem i_X8_copy_130 : fetch 215 130 = some (.imul, 131, 0, 0, 0, 0) := fr fe_X8_copy_4 0 rfl
theorem i_X8_copy_131 : fetch 215 131 = some (.iload_n 2, 132, 0, 0, 0, 0) := fr fe_X8_copy_4 1 rfl
theorem i_X8_copy_132 : fetch 215 132 = some (.iadd, 133, 0, 0, 0, 0) := fr fe_X8_copy_4 2 rfl
theorem i_X8_copy_133 : fetch 215 133 = some (.istore 6, 135, 0, 0, 0, 0) := fr fe_X8_copy_4 3 rfl
theorem i_X8_copy_135 : fetch 215 135 = some (.bipush 40, 137, 0, 0, 0, 0) := fr fe_X8_copy_4 4 rfl
theorem i_X8_copy_137 : fetch 215 137 = some (.iload_n 3, 138, 0, 0, 0, 0) := fr fe_X8_copy_4 5 rfl
theorem i_X8_copy_138 : fetch 215 138 = some (.imul, 139, 0, 0, 0, 0) := fr fe_X8_copy_4 6 rfl
theorem i_X8_copy_139 : fetch 215 139 = some (.iload 4, 141, 0, 0, 0, 0) := fr fe_X8_copy_4 7 rfl
theorem i_X8_copy_141 : fetch 215 141 = some (.iadd, 142, 0, 0, 0, 0) := fr fe_X8_copy_4 8 rfl
theorem i_X8_copy_142 : fetch 215 142 = some (.istore 7, 144, 0, 0, 0, 0) := fr fe_X8_copy_4 9 rfl
theorem i_X8_copy_144 : fetch 215 144 = some (.iconst 0, 145, 0, 0, 0, 0) := fr fe_X8_copy_4 10 rfl
theorem i_X8_copy_145 : fetch 215 145 = some (.istore 8, 147, 0, 0, 0, 0) := fr fe_X8_copy_4 11 rfl
theorem i_X8_copy_147 : fetch 215 147 = some (.iload 8, 149, 0, 0, 0, 0) := fr fe_X8_copy_4 12 rfl
theorem i_X8_copy_149 : fetch 215 149 = some (.iload 5, 151, 0, 0, 0, 0) := fr fe_X8_copy_4 13 rfl
theorem i_X8_copy_151 : fetch 215 151 = some (.if_icmp .ge 50, 154, 0, 0, 0, 0) := fr fe_X8_copy_4 14 rfl
theorem i_X8_copy_154 : fetch 215 154 = some (.iload 6, 156, 0, 0, 0, 0) := fr fe_X8_copy_4 15 rfl
theorem i_X8_copy_156 : fetch 215 156 = some (.iload 7, 158, 0, 0, 0, 0) := fr fe_X8_copy_4 16 rfl
theorem i_X8_copy_158 : fetch 215 158 = some (.if_icmp .ge 13, 161, 0, 0, 0, 0) := fr fe_X8_copy_4 17 rfl
theorem i_X8_copy_161 : fetch 215 161 = some (.iload 5, 163, 0, 0, 0, 0) := fr fe_X8_copy_4 18 rfl
theorem i_X8_copy_163 : fetch 215 163 = some (.iconst 1, 164, 0, 0, 0, 0) := fr fe_X8_copy_4 19 rfl
theorem i_X8_copy_164 : fetch 215 164 = some (.isub, 165, 0, 0, 0, 0) := fr fe_X8_copy_4 20 rfl
theorem i_X8_copy_165 : fetch 215 165 = some (.iload 8, 167, 0, 0, 0, 0) := fr fe_X8_copy_4 21 rfl
theorem i_X8_copy_167 : fetch 215 167 = some (.isub, 168, 0, 0, 0, 0) := fr fe_X8_copy_4 22 rfl
theorem i_X8_copy_168 : fetch 215 168 = some (.goto 5, 171, 0, 0, 0, 0) := fr fe_X8_copy_4 23 rfl
theorem i_X8_copy_171 : fetch 215 171 = some (.iload 8, 173, 0, 0, 0, 0) := fr fe_X8_copy_4 24 rfl
theorem i_X8_copy_173 : fetch 215 173 = some (.istore 9, 175, 0, 0, 0, 0) := fr fe_X8_copy_5 0 rfl
theorem i_X8_copy_175 : fetch 215 175 = some (.aload_n 0, 176, 0, 0, 0, 0) := fr fe_X8_copy_5 1 rfl
theorem i_X8_copy_176 : fetch 215 176 = some (.getfield 57, 179, 8, 24, 0, 1101) := fr fe_X8_copy_5 2 rfl
theorem i_X8_copy_179 : fetch 215 179 = some (.iload 7, 181, 0, 0, 0, 0) := fr fe_X8_copy_5 3 rfl
theorem i_X8_copy_181 : fetch 215 181 = some (.iload 9, 183, 0, 0, 0, 0) := fr fe_X8_copy_5 4 rfl
theorem i_X8_copy_183 : fetch 215 183 = some (.iadd, 184, 0, 0, 0, 0) := fr fe_X8_copy_5 5 rfl
theorem i_X8_copy_184 : fetch 215 184 = some (.aload_n 0, 185, 0, 0, 0, 0) := fr fe_X8_copy_5 6 rfl
theorem i_X8_copy_185 : fetch 215 185 = some (.getfield 57, 188, 8, 24, 0, 1101) := fr fe_X8_copy_5 7 rfl
theorem i_X8_copy_188 : fetch 215 188 = some (.iload 6, 190, 0, 0, 0, 0) := fr fe_X8_copy_5 8 rfl
theorem i_X8_copy_190 : fetch 215 190 = some (.iload 9, 192, 0, 0, 0, 0) := fr fe_X8_copy_5 9 rfl
theorem i_X8_copy_192 : fetch 215 192 = some (.iadd, 193, 0, 0, 0, 0) := fr fe_X8_copy_5 10 rfl
theorem i_X8_copy_193 : fetch 215 193 = some (.iaload, 194, 0, 0, 0, 0) := fr fe_X8_copy_5 11 rfl
theorem i_X8_copy_194 : fetch 215 194 = some (.iastore, 195, 0, 0, 0, 0) := fr fe_X8_copy_5 12 rfl
theorem i_X8_copy_195 : fetch 215 195 = some (.iinc 8 1, 198, 0, 0, 0, 0) := fr fe_X8_copy_5 13 rfl
theorem i_X8_copy_198 : fetch 215 198 = some (.goto (-51), 201, 0, 0, 0, 0) := fr fe_X8_copy_5 14 rfl
theorem i_X8_copy_201 : fetch 215 201 = some (.iload 5, 203, 0, 0, 0, 0) := fr fe_X8_copy_5 15 rfl
theorem i_X8_copy_203 : fetch 215 203 = some (.ireturn, 204, 0, 0, 0, 0) := fr fe_X8_copy_5 16 rfl
theorem i_X8_stepsBy_0 : fetch 216 0 = some (.iload_n 1, 1, 0, 0, 0, 0) := fr fe_X8_stepsBy_1 0 rfl
theorem i_X8_stepsBy_1 : fetch 216 1 = some (.iconst 0, 2, 0, 0, 0, 0) := fr fe_X8_stepsBy_1 1 rfl
theorem i_X8_stepsBy_2 : fetch 216 2 = some (.iconst 3, 3, 0, 0, 0, 0) := fr fe_X8_stepsBy_1 2 rfl
theorem i_X8_stepsBy_3 : fetch 216 3 = some (.invokestatic 112, 6, 126, 0, 0, 1022) := fr fe_X8_stepsBy_1 3 rfl
theorem i_X8_stepsBy_6 : fetch 216 6 = some (.ifCond .eq 23, 9, 0, 0, 0, 0) := fr fe_X8_stepsBy_1 4 rfl
theorem i_X8_stepsBy_9 : fetch 216 9 = some (.iload_n 2, 10, 0, 0, 0, 0) := fr fe_X8_stepsBy_1 5 rfl
theorem i_X8_stepsBy_10 : fetch 216 10 = some (.iconst 0, 11, 0, 0, 0, 0) := fr fe_X8_stepsBy_1 6 rfl
theorem i_X8_stepsBy_11 : fetch 216 11 = some (.iconst 2, 12, 0, 0, 0, 0) := fr fe_X8_stepsBy_1 7 rfl
theorem i_X8_stepsBy_12 : fetch 216 12 = some (.invokestatic 112, 15, 126, 0, 0, 1022) := fr fe_X8_stepsBy_1 8 rfl
theorem i_X8_stepsBy_15 : fetch 216 15 = some (.ifCond .eq 14, 18, 0, 0, 0, 0) := fr fe_X8_stepsBy_1 9 rfl
theorem i_X8_stepsBy_18 : fetch 216 18 = some (.iload 4, 20, 0, 0, 0, 0) := fr fe_X8_stepsBy_1 10 rfl
theorem i_X8_stepsBy_20 : fetch 216 20 = some (.iconst 0, 21, 0, 0, 0, 0) := fr fe_X8_stepsBy_1 11 rfl
theorem i_X8_stepsBy_21 : fetch 216 21 = some (.bipush 12, 23, 0, 0, 0, 0) := fr fe_X8_stepsBy_1 12 rfl
theorem i_X8_stepsBy_23 : fetch 216 23 = some (.invokestatic 112, 26, 126, 0, 0, 1022) := fr fe_X8_stepsBy_1 13 rfl
theorem i_X8_stepsBy_26 : fetch 216 26 = some (.ifCond .ne 6, 29, 0, 0, 0, 0) := fr fe_X8_stepsBy_1 14 rfl
theorem i_X8_stepsBy_29 : fetch 216 29 = some (.bipush (-2), 31, 0, 0, 0, 0) := fr fe_X8_stepsBy_1 15 rfl
theorem i_X8_stepsBy_31 : fetch 216 31 = some (.ireturn, 32, 0, 0, 0, 0) := fr fe_X8_stepsBy_1 16 rfl
theorem i_X8_stepsBy_32 : fetch 216 32 = some (.aload_n 0, 33, 0, 0, 0, 0) := fr fe_X8_stepsBy_1 17 rfl
theorem i_X8_stepsBy_33 : fetch 216 33 = some (.getfield 51, 36, 8, 22, 0, 1099) := fr fe_X8_stepsBy_1 18 rfl
theorem i_X8_stepsBy_36 : fetch 216 36 = some (.iload_n 1, 37, 0, 0, 0, 0) := fr fe_X8_stepsBy_1 19 rfl
theorem i_X8_stepsBy_37 : fetch 216 37 = some (.iaload, 38, 0, 0, 0, 0) := fr fe_X8_stepsBy_1 20 rfl
theorem i_X8_stepsBy_38 : fetch 216 38 = some (.iconst (-1), 39, 0, 0, 0, 0) := fr fe_X8_stepsBy_1 21 rfl
theorem i_X8_stepsBy_39 : fetch 216 39 = some (.if_icmp .ne 6, 42, 0, 0, 0, 0) := fr fe_X8_stepsBy_1 22 rfl
theorem i_X8_stepsBy_42 : fetch 216 42 = some (.bipush (-11), 44, 0, 0, 0, 0) := fr fe_X8_stepsBy_1 23 rfl
theorem i_X8_stepsBy_44 : fetch 216 44 = some (.ireturn, 45, 0, 0, 0, 0) := fr fe_X8_stepsBy_1 24 rfl
theorem i_X8_stepsBy_45 : fetch 216 45 = some (.aload_n 0, 46, 0, 0, 0, 0) := fr fe_X8_stepsBy_2 0 rfl
theorem i_X8_stepsBy_46 : fetch 216 46 = some (.getfield 51, 49, 8, 22, 0, 1099) := fr fe_X8_stepsBy_2 1 rfl
theorem i_X8_stepsBy_49 : fetch 216 49 = some (.iload_n 1, 50, 0, 0, 0, 0) := fr fe_X8_stepsBy_2 2 rfl
theorem i_X8_stepsBy_50 : fetch 216 50 = some (.iaload, 51, 0, 0, 0, 0) := fr fe_X8_stepsBy_2 3 rfl
theorem i_X8_stepsBy_51 : fetch 216 51 = some (.iload_n 2, 52, 0, 0, 0, 0) := fr fe_X8_stepsBy_2 4 rfl
theorem i_X8_stepsBy_52 : fetch 216 52 = some (.if_icmp .eq 6, 55, 0, 0, 0, 0) := fr fe_X8_stepsBy_2 5 rfl
theorem i_X8_stepsBy_55 : fetch 216 55 = some (.bipush (-13), 57, 0, 0, 0, 0) := fr fe_X8_stepsBy_2 6 rfl
theorem i_X8_stepsBy_57 : fetch 216 57 = some (.ireturn, 58, 0, 0, 0, 0) := fr fe_X8_stepsBy_2 7 rfl
theorem i_X8_stepsBy_58 : fetch 216 58 = some (.iconst 0, 59, 0, 0, 0, 0) := fr fe_X8_stepsBy_2 8 rfl
theorem i_X8_stepsBy_59 : fetch 216 59 = some (.istore 5, 61, 0, 0, 0, 0) := fr fe_X8_stepsBy_2 9 rfl
theorem i_X8_stepsBy_61 : fetch 216 61 = some (.iconst 0, 62, 0, 0, 0, 0) := fr fe_X8_stepsBy_2 10 rfl
theorem i_X8_stepsBy_62 : fetch 216 62 = some (.istore 6, 64, 0, 0, 0, 0) := fr fe_X8_stepsBy_2 11 rfl
theorem i_X8_stepsBy_64 : fetch 216 64 = some (.iload 6, 66, 0, 0, 0, 0) := fr fe_X8_stepsBy_2 12 rfl
theorem i_X8_stepsBy_66 : fetch 216 66 = some (.iload 4, 68, 0, 0, 0, 0) := fr fe_X8_stepsBy_2 13 rfl
theorem i_X8_stepsBy_68 : fetch 216 68 = some (.if_icmp .ge 94, 71, 0, 0, 0, 0) := fr fe_X8_stepsBy_2 14 rfl
theorem i_X8_stepsBy_71 : fetch 216 71 = some (.iload_n 3, 72, 0, 0, 0, 0) := fr fe_X8_stepsBy_2 15 rfl
theorem i_X8_stepsBy_72 : fetch 216 72 = some (.iconst 3, 73, 0, 0, 0, 0) := fr fe_X8_stepsBy_2 16 rfl
theorem i_X8_stepsBy_73 : fetch 216 73 = some (.iload 6, 75, 0, 0, 0, 0) := fr fe_X8_stepsBy_2 17 rfl
theorem i_X8_stepsBy_75 : fetch 216 75 = some (.imul, 76, 0, 0, 0, 0) := fr fe_X8_stepsBy_2 18 rfl
theorem i_X8_stepsBy_76 : fetch 216 76 = some (.iadd, 77, 0, 0, 0, 0) := fr fe_X8_stepsBy_2 19 rfl
theorem i_X8_stepsBy_77 : fetch 216 77 = some (.istore 7, 79, 0, 0, 0, 0) := fr fe_X8_stepsBy_2 20 rfl
theorem i_X8_stepsBy_79 : fetch 216 79 = some (.iload_n 3, 80, 0, 0, 0, 0) := fr fe_X8_stepsBy_2 21 rfl
theorem i_X8_stepsBy_80 : fetch 216 80 = some (.ifCond .lt 22, 83, 0, 0, 0, 0) := fr fe_X8_stepsBy_2 22 rfl
theorem i_X8_stepsBy_83 : fetch 216 83 = some (.iload 7, 85, 0, 0, 0, 0) := fr fe_X8_stepsBy_2 23 rfl
theorem i_X8_stepsBy_85 : fetch 216 85 = some (.iload_n 3, 86, 0, 0, 0, 0) := fr fe_X8_stepsBy_2 24 rfl
theorem i_X8_stepsBy_86 : fetch 216 86 = some (.if_icmp .lt 16, 89, 0, 0, 0, 0) := fr fe_X8_stepsBy_3 0 rfl
theorem i_X8_stepsBy_89 : fetch 216 89 = some (.iload 7, 91, 0, 0, 0, 0) := fr fe_X8_stepsBy_3 1 rfl
theorem i_X8_stepsBy_91 : fetch 216 91 = some (.aload_n 0, 92, 0, 0, 0, 0) := fr fe_X8_stepsBy_3 2 rfl
theorem i_X8_stepsBy_92 : fetch 216 92 = some (.getfield 54, 95, 8, 23, 0, 1100) := fr fe_X8_stepsBy_3 3 rfl
theorem i_X8_stepsBy_95 : fetch 216 95 = some (.iload_n 1, 96, 0, 0, 0, 0) := fr fe_X8_stepsBy_3 4 rfl
theorem i_X8_stepsBy_96 : fetch 216 96 = some (.iaload, 97, 0, 0, 0, 0) := fr fe_X8_stepsBy_3 5 rfl
theorem i_X8_stepsBy_97 : fetch 216 97 = some (.iconst 3, 98, 0, 0, 0, 0) := fr fe_X8_stepsBy_3 6 rfl
theorem i_X8_stepsBy_98 : fetch 216 98 = some (.isub, 99, 0, 0, 0, 0) := fr fe_X8_stepsBy_3 7 rfl
theorem i_X8_stepsBy_99 : fetch 216 99 = some (.if_icmp .le 6, 102, 0, 0, 0, 0) := fr fe_X8_stepsBy_3 8 rfl
theorem i_X8_stepsBy_102 : fetch 216 102 = some (.bipush (-12), 104, 0, 0, 0, 0) := fr fe_X8_stepsBy_3 9 rfl
theorem i_X8_stepsBy_104 : fetch 216 104 = some (.ireturn, 105, 0, 0, 0, 0) := fr fe_X8_stepsBy_3 10 rfl
theorem i_X8_stepsBy_105 : fetch 216 105 = some (.bipush 40, 107, 0, 0, 0, 0) := fr fe_X8_stepsBy_3 11 rfl
theorem i_X8_stepsBy_107 : fetch 216 107 = some (.iload_n 1, 108, 0, 0, 0, 0) := fr fe_X8_stepsBy_3 12 rfl
theorem i_X8_stepsBy_108 : fetch 216 108 = some (.imul, 109, 0, 0, 0, 0) := fr fe_X8_stepsBy_3 13 rfl
theorem i_X8_stepsBy_109 : fetch 216 109 = some (.iload 7, 111, 0, 0, 0, 0) := fr fe_X8_stepsBy_3 14 rfl
theorem i_X8_stepsBy_111 : fetch 216 111 = some (.iadd, 112, 0, 0, 0, 0) := fr fe_X8_stepsBy_3 15 rfl
theorem i_X8_stepsBy_112 : fetch 216 112 = some (.istore 8, 114, 0, 0, 0, 0) := fr fe_X8_stepsBy_3 16 rfl
theorem i_X8_stepsBy_114 : fetch 216 114 = some (.iload 5, 116, 0, 0, 0, 0) := fr fe_X8_stepsBy_3 17 rfl
theorem i_X8_stepsBy_116 : fetch 216 116 = some (.aload_n 0, 117, 0, 0, 0, 0) := fr fe_X8_stepsBy_3 18 rfl
theorem i_X8_stepsBy_117 : fetch 216 117 = some (.aload_n 0, 118, 0, 0, 0, 0) := fr fe_X8_stepsBy_3 19 rfl
theorem i_X8_stepsBy_118 : fetch 216 118 = some (.getfield 57, 121, 8, 24, 0, 1101) := fr fe_X8_stepsBy_3 20 rfl
theorem i_X8_stepsBy_121 : fetch 216 121 = some (.iload 8, 123, 0, 0, 0, 0) := fr fe_X8_stepsBy_3 21 rfl
theorem i_X8_stepsBy_123 : fetch 216 123 = some (.iaload, 124, 0, 0, 0, 0) := fr fe_X8_stepsBy_3 22 rfl
theorem i_X8_stepsBy_124 : fetch 216 124 = some (.aload_n 0, 125, 0, 0, 0, 0) := fr fe_X8_stepsBy_3 23 rfl
theorem i_X8_stepsBy_125 : fetch 216 125 = some (.getfield 57, 128, 8, 24, 0, 1101) := fr fe_X8_stepsBy_3 24 rfl
theorem i_X8_stepsBy_128 : fetch 216 128 = some (.iload 8, 130, 0, 0, 0, 0) := fr fe_X8_stepsBy_4 0 rfl
theorem i_X8_stepsBy_130 : fetch 216 130 = some (.iconst 1, 131, 0, 0, 0, 0) := fr fe_X8_stepsBy_4 1 rfl
theorem i_X8_stepsBy_131 : fetch 216 131 = some (.iadd, 132, 0, 0, 0, 0) := fr fe_X8_stepsBy_4 2 rfl
theorem i_X8_stepsBy_132 : fetch 216 132 = some (.iaload, 133, 0, 0, 0, 0) := fr fe_X8_stepsBy_4 3 rfl
theorem i_X8_stepsBy_133 : fetch 216 133 = some (.aload_n 0, 134, 0, 0, 0, 0) := fr fe_X8_stepsBy_4 4 rfl
theorem i_X8_stepsBy_134 : fetch 216 134 = some (.getfield 57, 137, 8, 24, 0, 1101) := fr fe_X8_stepsBy_4 5 rfl
theorem i_X8_stepsBy_137 : fetch 216 137 = some (.iload 8, 139, 0, 0, 0, 0) := fr fe_X8_stepsBy_4 6 rfl
theorem i_X8_stepsBy_139 : fetch 216 139 = some (.iconst 2, 140, 0, 0, 0, 0) := fr fe_X8_stepsBy_4 7 rfl
theorem i_X8_stepsBy_140 : fetch 216 140 = some (.iadd, 141, 0, 0, 0, 0) := fr fe_X8_stepsBy_4 8 rfl
theorem i_X8_stepsBy_141 : fetch 216 141 = some (.iaload, 142, 0, 0, 0, 0) := fr fe_X8_stepsBy_4 9 rfl
theorem i_X8_stepsBy_142 : fetch 216 142 = some (.invokevirtual 370, 145, 150, 0, 0, 1578) := fr fe_X8_stepsBy_4 10 rfl
theorem i_X8_stepsBy_145 : fetch 216 145 = some (.ifCond .lt 7, 148, 0, 0, 0, 0) := fr fe_X8_stepsBy_4 11 rfl
theorem i_X8_stepsBy_148 : fetch 216 148 = some (.iconst 1, 149, 0, 0, 0, 0) := fr fe_X8_stepsBy_4 12 rfl
theorem i_X8_stepsBy_149 : fetch 216 149 = some (.goto 4, 152, 0, 0, 0, 0) := fr fe_X8_stepsBy_4 13 rfl
theorem i_X8_stepsBy_152 : fetch 216 152 = some (.iconst 0, 153, 0, 0, 0, 0) := fr fe_X8_stepsBy_4 14 rfl
theorem i_X8_stepsBy_153 : fetch 216 153 = some (.iadd, 154, 0, 0, 0, 0) := fr fe_X8_stepsBy_4 15 rfl
theorem i_X8_stepsBy_154 : fetch 216 154 = some (.istore 5, 156, 0, 0, 0, 0) := fr fe_X8_stepsBy_4 16 rfl
theorem i_X8_stepsBy_156 : fetch 216 156 = some (.iinc 6 1, 159, 0, 0, 0, 0) := fr fe_X8_stepsBy_4 17 rfl
theorem i_X8_stepsBy_159 : fetch 216 159 = some (.goto (-95), 162, 0, 0, 0, 0) := fr fe_X8_stepsBy_4 18 rfl
theorem i_X8_stepsBy_162 : fetch 216 162 = some (.iload 5, 164, 0, 0, 0, 0) := fr fe_X8_stepsBy_4 19 rfl
theorem i_X8_stepsBy_164 : fetch 216 164 = some (.ireturn, 165, 0, 0, 0, 0) := fr fe_X8_stepsBy_4 20 rfl
theorem i_X8_isUnder_0 : fetch 217 0 = some (.iload_n 1, 1, 0, 0, 0, 0) := fr fe_X8_isUnder 0 rfl
theorem i_X8_isUnder_1 : fetch 217 1 = some (.ifCond .eq 28, 4, 0, 0, 0, 0) := fr fe_X8_isUnder 1 rfl
theorem i_X8_isUnder_4 : fetch 217 4 = some (.iload_n 0, 5, 0, 0, 0, 0) := fr fe_X8_isUnder 2 rfl
theorem i_X8_isUnder_5 : fetch 217 5 = some (.iload_n 1, 6, 0, 0, 0, 0) := fr fe_X8_isUnder 3 rfl
theorem i_X8_isUnder_6 : fetch 217 6 = some (.if_icmp .eq 23, 9, 0, 0, 0, 0) := fr fe_X8_isUnder 4 rfl
theorem i_X8_isUnder_9 : fetch 217 9 = some (.iload_n 1, 10, 0, 0, 0, 0) := fr fe_X8_isUnder 5 rfl
theorem i_X8_isUnder_10 : fetch 217 10 = some (.iconst 1, 11, 0, 0, 0, 0) := fr fe_X8_isUnder 6 rfl
theorem i_X8_isUnder_11 : fetch 217 11 = some (.if_icmp .ne 8, 14, 0, 0, 0, 0) := fr fe_X8_isUnder 7 rfl
theorem i_X8_isUnder_14 : fetch 217 14 = some (.iload_n 0, 15, 0, 0, 0, 0) := fr fe_X8_isUnder 8 rfl
theorem i_X8_isUnder_15 : fetch 217 15 = some (.iconst 2, 16, 0, 0, 0, 0) := fr fe_X8_isUnder 9 rfl
theorem i_X8_isUnder_16 : fetch 217 16 = some (.if_icmp .eq 13, 19, 0, 0, 0, 0) := fr fe_X8_isUnder 10 rfl
theorem i_X8_isUnder_19 : fetch 217 19 = some (.iload_n 1, 20, 0, 0, 0, 0) := fr fe_X8_isUnder 11 rfl
theorem i_X8_isUnder_20 : fetch 217 20 = some (.iconst 3, 21, 0, 0, 0, 0) := fr fe_X8_isUnder 12 rfl
theorem i_X8_isUnder_21 : fetch 217 21 = some (.if_icmp .ne 12, 24, 0, 0, 0, 0) := fr fe_X8_isUnder 13 rfl
theorem i_X8_isUnder_24 : fetch 217 24 = some (.iload_n 0, 25, 0, 0, 0, 0) := fr fe_X8_isUnder 14 rfl
theorem i_X8_isUnder_25 : fetch 217 25 = some (.iconst 5, 26, 0, 0, 0, 0) := fr fe_X8_isUnder 15 rfl
theorem i_X8_isUnder_26 : fetch 217 26 = some (.if_icmp .ne 7, 29, 0, 0, 0, 0) := fr fe_X8_isUnder 16 rfl
theorem i_X8_isUnder_29 : fetch 217 29 = some (.iconst 1, 30, 0, 0, 0, 0) := fr fe_X8_isUnder 17 rfl
theorem i_X8_isUnder_30 : fetch 217 30 = some (.goto 4, 33, 0, 0, 0, 0) := fr fe_X8_isUnder 18 rfl
theorem i_X8_isUnder_33 : fetch 217 33 = some (.iconst 0, 34, 0, 0, 0, 0) := fr fe_X8_isUnder 19 rfl
theorem i_X8_isUnder_34 : fetch 217 34 = some (.ireturn, 35, 0, 0, 0, 0) := fr fe_X8_isUnder 20 rfl
theorem i_X8_taken_0 : fetch 218 0 = some (.iload_n 2, 1, 0, 0, 0, 0) := fr fe_X8_taken_1 0 rfl
theorem i_X8_taken_1 : fetch 218 1 = some (.iconst 0, 2, 0, 0, 0, 0) := fr fe_X8_taken_1 1 rfl
theorem i_X8_taken_2 : fetch 218 2 = some (.bipush 6, 4, 0, 0, 0, 0) := fr fe_X8_taken_1 2 rfl
theorem i_X8_taken_4 : fetch 218 4 = some (.invokestatic 112, 7, 126, 0, 0, 1022) := fr fe_X8_taken_1 3 rfl
theorem i_X8_taken_7 : fetch 218 7 = some (.ifCond .ne 6, 10, 0, 0, 0, 0) := fr fe_X8_taken_1 4 rfl
theorem i_X8_taken_10 : fetch 218 10 = some (.bipush (-2), 12, 0, 0, 0, 0) := fr fe_X8_taken_1 5 rfl
theorem i_X8_taken_12 : fetch 218 12 = some (.ireturn, 13, 0, 0, 0, 0) := fr fe_X8_taken_1 6 rfl
theorem i_X8_taken_13 : fetch 218 13 = some (.iload_n 1, 14, 0, 0, 0, 0) := fr fe_X8_taken_1 7 rfl
theorem i_X8_taken_14 : fetch 218 14 = some (.iconst 0, 15, 0, 0, 0, 0) := fr fe_X8_taken_1 8 rfl
theorem i_X8_taken_15 : fetch 218 15 = some (.bipush 23, 17, 0, 0, 0, 0) := fr fe_X8_taken_1 9 rfl
theorem i_X8_taken_17 : fetch 218 17 = some (.invokestatic 112, 20, 126, 0, 0, 1022) := fr fe_X8_taken_1 10 rfl
theorem i_X8_taken_20 : fetch 218 20 = some (.ifCond .ne 6, 23, 0, 0, 0, 0) := fr fe_X8_taken_1 11 rfl
theorem i_X8_taken_23 : fetch 218 23 = some (.bipush (-12), 25, 0, 0, 0, 0) := fr fe_X8_taken_1 12 rfl
theorem i_X8_taken_25 : fetch 218 25 = some (.ireturn, 26, 0, 0, 0, 0) := fr fe_X8_taken_1 13 rfl
theorem i_X8_taken_26 : fetch 218 26 = some (.iload_n 1, 27, 0, 0, 0, 0) := fr fe_X8_taken_1 14 rfl
theorem i_X8_taken_27 : fetch 218 27 = some (.bipush 12, 29, 0, 0, 0, 0) := fr fe_X8_taken_1 15 rfl
theorem i_X8_taken_29 : fetch 218 29 = some (.if_icmp .ge 21, 32, 0, 0, 0, 0) := fr fe_X8_taken_1 16 rfl
theorem i_X8_taken_32 : fetch 218 32 = some (.iload_n 2, 33, 0, 0, 0, 0) := fr fe_X8_taken_1 17 rfl
theorem i_X8_taken_33 : fetch 218 33 = some (.bipush 6, 35, 0, 0, 0, 0) := fr fe_X8_taken_1 18 rfl
theorem i_X8_taken_35 : fetch 218 35 = some (.if_icmp .ne 12, 38, 0, 0, 0, 0) := fr fe_X8_taken_1 19 rfl
theorem i_X8_taken_38 : fetch 218 38 = some (.aload_n 0, 39, 0, 0, 0, 0) := fr fe_X8_taken_1 20 rfl
theorem i_X8_taken_39 : fetch 218 39 = some (.getfield 8, 42, 8, 0, 0, 1061) := fr fe_X8_taken_1 21 rfl
theorem i_X8_taken_42 : fetch 218 42 = some (.iload_n 1, 43, 0, 0, 0, 0) := fr fe_X8_taken_1 22 rfl
theorem i_X8_taken_43 : fetch 218 43 = some (.iaload, 44, 0, 0, 0, 0) := fr fe_X8_taken_1 23 rfl
theorem i_X8_taken_44 : fetch 218 44 = some (.goto 5, 47, 0, 0, 0, 0) := fr fe_X8_taken_1 24 rfl
theorem i_X8_taken_47 : fetch 218 47 = some (.bipush (-13), 49, 0, 0, 0, 0) := fr fe_X8_taken_2 0 rfl
theorem i_X8_taken_49 : fetch 218 49 = some (.ireturn, 50, 0, 0, 0, 0) := fr fe_X8_taken_2 1 rfl
theorem i_X8_taken_50 : fetch 218 50 = some (.iload_n 1, 51, 0, 0, 0, 0) := fr fe_X8_taken_2 2 rfl
theorem i_X8_taken_51 : fetch 218 51 = some (.bipush 12, 53, 0, 0, 0, 0) := fr fe_X8_taken_2 3 rfl
theorem i_X8_taken_53 : fetch 218 53 = some (.isub, 54, 0, 0, 0, 0) := fr fe_X8_taken_2 4 rfl
theorem i_X8_taken_54 : fetch 218 54 = some (.aload_n 0, 55, 0, 0, 0, 0) := fr fe_X8_taken_2 5 rfl
theorem i_X8_taken_55 : fetch 218 55 = some (.getfield 116, 58, 8, 5, 0, 1066) := fr fe_X8_taken_2 6 rfl
theorem i_X8_taken_58 : fetch 218 58 = some (.if_icmp .lt 8, 61, 0, 0, 0, 0) := fr fe_X8_taken_2 7 rfl
theorem i_X8_taken_61 : fetch 218 61 = some (.bipush (-11), 63, 0, 0, 0, 0) := fr fe_X8_taken_2 8 rfl
theorem i_X8_taken_63 : fetch 218 63 = some (.goto 34, 66, 0, 0, 0, 0) := fr fe_X8_taken_2 9 rfl
theorem i_X8_taken_66 : fetch 218 66 = some (.iload_n 2, 67, 0, 0, 0, 0) := fr fe_X8_taken_2 10 rfl
theorem i_X8_taken_67 : fetch 218 67 = some (.bipush 6, 69, 0, 0, 0, 0) := fr fe_X8_taken_2 11 rfl
theorem i_X8_taken_69 : fetch 218 69 = some (.if_icmp .ge 26, 72, 0, 0, 0, 0) := fr fe_X8_taken_2 12 rfl
theorem i_X8_taken_72 : fetch 218 72 = some (.aload_n 0, 73, 0, 0, 0, 0) := fr fe_X8_taken_2 13 rfl
theorem i_X8_taken_73 : fetch 218 73 = some (.getfield 27, 76, 8, 6, 0, 1067) := fr fe_X8_taken_2 14 rfl
theorem i_X8_taken_76 : fetch 218 76 = some (.iload_n 1, 77, 0, 0, 0, 0) := fr fe_X8_taken_2 15 rfl
theorem i_X8_taken_77 : fetch 218 77 = some (.bipush 12, 79, 0, 0, 0, 0) := fr fe_X8_taken_2 16 rfl
theorem i_X8_taken_79 : fetch 218 79 = some (.isub, 80, 0, 0, 0, 0) := fr fe_X8_taken_2 17 rfl
theorem i_X8_taken_80 : fetch 218 80 = some (.iaload, 81, 0, 0, 0, 0) := fr fe_X8_taken_2 18 rfl
theorem i_X8_taken_81 : fetch 218 81 = some (.iload_n 2, 82, 0, 0, 0, 0) := fr fe_X8_taken_2 19 rfl
theorem i_X8_taken_82 : fetch 218 82 = some (.invokestatic 373, 85, 217, 0, 0, 1583) := fr fe_X8_taken_2 20 rfl
theorem i_X8_taken_85 : fetch 218 85 = some (.ifCond .eq 10, 88, 0, 0, 0, 0) := fr fe_X8_taken_2 21 rfl
theorem i_X8_taken_88 : fetch 218 88 = some (.iload_n 1, 89, 0, 0, 0, 0) := fr fe_X8_taken_2 22 rfl
theorem i_X8_taken_89 : fetch 218 89 = some (.bipush 12, 91, 0, 0, 0, 0) := fr fe_X8_taken_2 23 rfl
theorem i_X8_taken_91 : fetch 218 91 = some (.isub, 92, 0, 0, 0, 0) := fr fe_X8_taken_2 24 rfl
theorem i_X8_taken_92 : fetch 218 92 = some (.goto 5, 95, 0, 0, 0, 0) := fr fe_X8_taken_3 0 rfl
theorem i_X8_taken_95 : fetch 218 95 = some (.bipush (-13), 97, 0, 0, 0, 0) := fr fe_X8_taken_3 1 rfl
theorem i_X8_taken_97 : fetch 218 97 = some (.ireturn, 98, 0, 0, 0, 0) := fr fe_X8_taken_3 2 rfl
theorem i_L_law_0 : fetch 0 0 = some (.new 7, 3, 7, 0, 0, 81) := fr fe_L_law_1 0 rfl
theorem i_L_law_3 : fetch 0 3 = some (.dup, 4, 0, 0, 0, 0) := fr fe_L_law_1 1 rfl
theorem i_L_law_4 : fetch 0 4 = some (.invokespecial 9, 7, 66, 0, 0, 83) := fr fe_L_law_1 2 rfl
theorem i_L_law_7 : fetch 0 7 = some (.astore_n 1, 8, 0, 0, 0, 0) := fr fe_L_law_1 3 rfl
theorem i_L_law_8 : fetch 0 8 = some (.new 10, 11, 8, 0, 0, 1007) := fr fe_L_law_1 4 rfl
theorem i_L_law_11 : fetch 0 11 = some (.dup, 12, 0, 0, 0, 0) := fr fe_L_law_1 5 rfl
theorem i_L_law_12 : fetch 0 12 = some (.invokespecial 12, 15, 125, 0, 0, 1009) := fr fe_L_law_1 6 rfl
theorem i_L_law_15 : fetch 0 15 = some (.astore_n 2, 16, 0, 0, 0, 0) := fr fe_L_law_1 7 rfl
theorem i_L_law_16 : fetch 0 16 = some (.iconst 0, 17, 0, 0, 0, 0) := fr fe_L_law_1 8 rfl
theorem i_L_law_17 : fetch 0 17 = some (.istore_n 3, 18, 0, 0, 0, 0) := fr fe_L_law_1 9 rfl
theorem i_L_law_18 : fetch 0 18 = some (.iload_n 3, 19, 0, 0, 0, 0) := fr fe_L_law_1 10 rfl
theorem i_L_law_19 : fetch 0 19 = some (.aload_n 0, 20, 0, 0, 0, 0) := fr fe_L_law_1 11 rfl
theorem i_L_law_20 : fetch 0 20 = some (.arraylength, 21, 0, 0, 0, 0) := fr fe_L_law_1 12 rfl
theorem i_L_law_21 : fetch 0 21 = some (.bipush 6, 23, 0, 0, 0, 0) := fr fe_L_law_1 13 rfl
theorem i_L_law_23 : fetch 0 23 = some (.isub, 24, 0, 0, 0, 0) := fr fe_L_law_1 14 rfl
theorem i_L_law_24 : fetch 0 24 = some (.if_icmp .gt 1755, 27, 0, 0, 0, 0) := fr fe_L_law_1 15 rfl
theorem i_L_law_27 : fetch 0 27 = some (.aload_n 0, 28, 0, 0, 0, 0) := fr fe_L_law_1 16 rfl
theorem i_L_law_28 : fetch 0 28 = some (.iload_n 3, 29, 0, 0, 0, 0) := fr fe_L_law_1 17 rfl
theorem i_L_law_29 : fetch 0 29 = some (.iaload, 30, 0, 0, 0, 0) := fr fe_L_law_1 18 rfl
theorem i_L_law_30 : fetch 0 30 = some (.bipush 63, 32, 0, 0, 0, 0) := fr fe_L_law_1 19 rfl
theorem i_L_law_32 : fetch 0 32 = some (.iand, 33, 0, 0, 0, 0) := fr fe_L_law_1 20 rfl
theorem i_L_law_33 : fetch 0 33 = some (.tableswitch 1740 0 42 #[187, 230, 263, 286, 349, 362, 385, 428, 441, 474, 517, 551, 585, 608, 621, 654, 697, 740, 773, 816, 859, 892, 935, 968, 1001, 1034, 1077, 1100, 1133, 1176, 1219, 1242, 1285, 1329, 1383, 1426, 1479, 1492, 1505, 1548, 1591, 1654, 1707], 220, 0, 0, 0, 0) := fr fe_L_law_1 21 rfl
theorem i_L_law_220 : fetch 0 220 = some (.aload_n 1, 221, 0, 0, 0, 0) := fr fe_L_law_1 22 rfl
theorem i_L_law_221 : fetch 0 221 = some (.aload_n 0, 222, 0, 0, 0, 0) := fr fe_L_law_1 23 rfl
theorem i_L_law_222 : fetch 0 222 = some (.iload_n 3, 223, 0, 0, 0, 0) := fr fe_L_law_1 24 rfl
theorem i_L_law_223 : fetch 0 223 = some (.iconst 1, 224, 0, 0, 0, 0) := fr fe_L_law_2 0 rfl
theorem i_L_law_224 : fetch 0 224 = some (.iadd, 225, 0, 0, 0, 0) := fr fe_L_law_2 1 rfl
theorem i_L_law_225 : fetch 0 225 = some (.iaload, 226, 0, 0, 0, 0) := fr fe_L_law_2 2 rfl
theorem i_L_law_226 : fetch 0 226 = some (.aload_n 0, 227, 0, 0, 0, 0) := fr fe_L_law_2 3 rfl
theorem i_L_law_227 : fetch 0 227 = some (.iload_n 3, 228, 0, 0, 0, 0) := fr fe_L_law_2 4 rfl
theorem i_L_law_228 : fetch 0 228 = some (.iconst 2, 229, 0, 0, 0, 0) := fr fe_L_law_2 5 rfl
theorem i_L_law_229 : fetch 0 229 = some (.iadd, 230, 0, 0, 0, 0) := fr fe_L_law_2 6 rfl
theorem i_L_law_230 : fetch 0 230 = some (.iaload, 231, 0, 0, 0, 0) := fr fe_L_law_2 7 rfl
theorem i_L_law_231 : fetch 0 231 = some (.aload_n 0, 232, 0, 0, 0, 0) := fr fe_L_law_2 8 rfl
theorem i_L_law_232 : fetch 0 232 = some (.iload_n 3, 233, 0, 0, 0, 0) := fr fe_L_law_2 9 rfl
theorem i_L_law_233 : fetch 0 233 = some (.iconst 3, 234, 0, 0, 0, 0) := fr fe_L_law_2 10 rfl
theorem i_L_law_234 : fetch 0 234 = some (.iadd, 235, 0, 0, 0, 0) := fr fe_L_law_2 11 rfl
theorem i_L_law_235 : fetch 0 235 = some (.iaload, 236, 0, 0, 0, 0) := fr fe_L_law_2 12 rfl
theorem i_L_law_236 : fetch 0 236 = some (.invokevirtual 13, 239, 67, 0, 0, 550) := fr fe_L_law_2 13 rfl
theorem i_L_law_239 : fetch 0 239 = some (.aload_n 2, 240, 0, 0, 0, 0) := fr fe_L_law_2 14 rfl
theorem i_L_law_240 : fetch 0 240 = some (.aload_n 0, 241, 0, 0, 0, 0) := fr fe_L_law_2 15 rfl
theorem i_L_law_241 : fetch 0 241 = some (.iload_n 3, 242, 0, 0, 0, 0) := fr fe_L_law_2 16 rfl
theorem i_L_law_242 : fetch 0 242 = some (.iconst 1, 243, 0, 0, 0, 0) := fr fe_L_law_2 17 rfl
theorem i_L_law_243 : fetch 0 243 = some (.iadd, 244, 0, 0, 0, 0) := fr fe_L_law_2 18 rfl
theorem i_L_law_244 : fetch 0 244 = some (.iaload, 245, 0, 0, 0, 0) := fr fe_L_law_2 19 rfl
theorem i_L_law_245 : fetch 0 245 = some (.aload_n 0, 246, 0, 0, 0, 0) := fr fe_L_law_2 20 rfl
theorem i_L_law_246 : fetch 0 246 = some (.iload_n 3, 247, 0, 0, 0, 0) := fr fe_L_law_2 21 rfl
theorem i_L_law_247 : fetch 0 247 = some (.iconst 2, 248, 0, 0, 0, 0) := fr fe_L_law_2 22 rfl
theorem i_L_law_248 : fetch 0 248 = some (.iadd, 249, 0, 0, 0, 0) := fr fe_L_law_2 23 rfl
theorem i_L_law_249 : fetch 0 249 = some (.iaload, 250, 0, 0, 0, 0) := fr fe_L_law_2 24 rfl
theorem i_L_law_250 : fetch 0 250 = some (.aload_n 0, 251, 0, 0, 0, 0) := fr fe_L_law_3 0 rfl
theorem i_L_law_251 : fetch 0 251 = some (.iload_n 3, 252, 0, 0, 0, 0) := fr fe_L_law_3 1 rfl
theorem i_L_law_252 : fetch 0 252 = some (.iconst 3, 253, 0, 0, 0, 0) := fr fe_L_law_3 2 rfl
theorem i_L_law_253 : fetch 0 253 = some (.iadd, 254, 0, 0, 0, 0) := fr fe_L_law_3 3 rfl
theorem i_L_law_254 : fetch 0 254 = some (.iaload, 255, 0, 0, 0, 0) := fr fe_L_law_3 4 rfl
theorem i_L_law_255 : fetch 0 255 = some (.invokevirtual 17, 258, 131, 0, 0, 1240) := fr fe_L_law_3 5 rfl
theorem i_L_law_258 : fetch 0 258 = some (.if_icmp .eq 1515, 261, 0, 0, 0, 0) := fr fe_L_law_3 6 rfl
theorem i_L_law_261 : fetch 0 261 = some (.iconst 0, 262, 0, 0, 0, 0) := fr fe_L_law_3 7 rfl
theorem i_L_law_262 : fetch 0 262 = some (.ireturn, 263, 0, 0, 0, 0) := fr fe_L_law_3 8 rfl
theorem i_L_law_263 : fetch 0 263 = some (.aload_n 1, 264, 0, 0, 0, 0) := fr fe_L_law_3 9 rfl
theorem i_L_law_264 : fetch 0 264 = some (.aload_n 0, 265, 0, 0, 0, 0) := fr fe_L_law_3 10 rfl
theorem i_L_law_265 : fetch 0 265 = some (.iload_n 3, 266, 0, 0, 0, 0) := fr fe_L_law_3 11 rfl
theorem i_L_law_266 : fetch 0 266 = some (.iconst 1, 267, 0, 0, 0, 0) := fr fe_L_law_3 12 rfl
theorem i_L_law_267 : fetch 0 267 = some (.iadd, 268, 0, 0, 0, 0) := fr fe_L_law_3 13 rfl
theorem i_L_law_268 : fetch 0 268 = some (.iaload, 269, 0, 0, 0, 0) := fr fe_L_law_3 14 rfl
theorem i_L_law_269 : fetch 0 269 = some (.aload_n 0, 270, 0, 0, 0, 0) := fr fe_L_law_3 15 rfl
theorem i_L_law_270 : fetch 0 270 = some (.iload_n 3, 271, 0, 0, 0, 0) := fr fe_L_law_3 16 rfl
theorem i_L_law_271 : fetch 0 271 = some (.iconst 2, 272, 0, 0, 0, 0) := fr fe_L_law_3 17 rfl
theorem i_L_law_272 : fetch 0 272 = some (.iadd, 273, 0, 0, 0, 0) := fr fe_L_law_3 18 rfl
theorem i_L_law_273 : fetch 0 273 = some (.iaload, 274, 0, 0, 0, 0) := fr fe_L_law_3 19 rfl
theorem i_L_law_274 : fetch 0 274 = some (.invokevirtual 18, 277, 68, 0, 0, 556) := fr fe_L_law_3 20 rfl
theorem i_L_law_277 : fetch 0 277 = some (.aload_n 2, 278, 0, 0, 0, 0) := fr fe_L_law_3 21 rfl
theorem i_L_law_278 : fetch 0 278 = some (.aload_n 0, 279, 0, 0, 0, 0) := fr fe_L_law_3 22 rfl
theorem i_L_law_279 : fetch 0 279 = some (.iload_n 3, 280, 0, 0, 0, 0) := fr fe_L_law_3 23 rfl
theorem i_L_law_280 : fetch 0 280 = some (.iconst 1, 281, 0, 0, 0, 0) := fr fe_L_law_3 24 rfl
theorem i_L_law_281 : fetch 0 281 = some (.iadd, 282, 0, 0, 0, 0) := fr fe_L_law_4 0 rfl
theorem i_L_law_282 : fetch 0 282 = some (.iaload, 283, 0, 0, 0, 0) := fr fe_L_law_4 1 rfl
theorem i_L_law_283 : fetch 0 283 = some (.aload_n 0, 284, 0, 0, 0, 0) := fr fe_L_law_4 2 rfl
theorem i_L_law_284 : fetch 0 284 = some (.iload_n 3, 285, 0, 0, 0, 0) := fr fe_L_law_4 3 rfl
theorem i_L_law_285 : fetch 0 285 = some (.iconst 2, 286, 0, 0, 0, 0) := fr fe_L_law_4 4 rfl
theorem i_L_law_286 : fetch 0 286 = some (.iadd, 287, 0, 0, 0, 0) := fr fe_L_law_4 5 rfl
theorem i_L_law_287 : fetch 0 287 = some (.iaload, 288, 0, 0, 0, 0) := fr fe_L_law_4 6 rfl
theorem i_L_law_288 : fetch 0 288 = some (.invokevirtual 22, 291, 132, 0, 0, 1248) := fr fe_L_law_4 7 rfl
theorem i_L_law_291 : fetch 0 291 = some (.if_icmp .eq 1482, 294, 0, 0, 0, 0) := fr fe_L_law_4 8 rfl
theorem i_L_law_294 : fetch 0 294 = some (.iconst 0, 295, 0, 0, 0, 0) := fr fe_L_law_4 9 rfl
theorem i_L_law_295 : fetch 0 295 = some (.ireturn, 296, 0, 0, 0, 0) := fr fe_L_law_4 10 rfl
theorem i_L_law_296 : fetch 0 296 = some (.aload_n 1, 297, 0, 0, 0, 0) := fr fe_L_law_4 11 rfl
theorem i_L_law_297 : fetch 0 297 = some (.aload_n 0, 298, 0, 0, 0, 0) := fr fe_L_law_4 12 rfl
theorem i_L_law_298 : fetch 0 298 = some (.iload_n 3, 299, 0, 0, 0, 0) := fr fe_L_law_4 13 rfl
theorem i_L_law_299 : fetch 0 299 = some (.iconst 1, 300, 0, 0, 0, 0) := fr fe_L_law_4 14 rfl
theorem i_L_law_300 : fetch 0 300 = some (.iadd, 301, 0, 0, 0, 0) := fr fe_L_law_4 15 rfl
theorem i_L_law_301 : fetch 0 301 = some (.iaload, 302, 0, 0, 0, 0) := fr fe_L_law_4 16 rfl
theorem i_L_law_302 : fetch 0 302 = some (.invokevirtual 23, 305, 69, 0, 0, 576) := fr fe_L_law_4 17 rfl
theorem i_L_law_305 : fetch 0 305 = some (.aload_n 2, 306, 0, 0, 0, 0) := fr fe_L_law_4 18 rfl
theorem i_L_law_306 : fetch 0 306 = some (.aload_n 0, 307, 0, 0, 0, 0) := fr fe_L_law_4 19 rfl
theorem i_L_law_307 : fetch 0 307 = some (.iload_n 3, 308, 0, 0, 0, 0) := fr fe_L_law_4 20 rfl
theorem i_L_law_308 : fetch 0 308 = some (.iconst 1, 309, 0, 0, 0, 0) := fr fe_L_law_4 21 rfl
theorem i_L_law_309 : fetch 0 309 = some (.iadd, 310, 0, 0, 0, 0) := fr fe_L_law_4 22 rfl
theorem i_L_law_310 : fetch 0 310 = some (.iaload, 311, 0, 0, 0, 0) := fr fe_L_law_4 23 rfl
theorem i_L_law_311 : fetch 0 311 = some (.invokevirtual 27, 314, 134, 0, 0, 1260) := fr fe_L_law_4 24 rfl
theorem i_L_law_314 : fetch 0 314 = some (.if_icmp .eq 1459, 317, 0, 0, 0, 0) := fr fe_L_law_5 0 rfl
theorem i_L_law_317 : fetch 0 317 = some (.iconst 0, 318, 0, 0, 0, 0) := fr fe_L_law_5 1 rfl
theorem i_L_law_318 : fetch 0 318 = some (.ireturn, 319, 0, 0, 0, 0) := fr fe_L_law_5 2 rfl
theorem i_L_law_319 : fetch 0 319 = some (.aload_n 1, 320, 0, 0, 0, 0) := fr fe_L_law_5 3 rfl
theorem i_L_law_320 : fetch 0 320 = some (.aload_n 0, 321, 0, 0, 0, 0) := fr fe_L_law_5 4 rfl
theorem i_L_law_321 : fetch 0 321 = some (.iload_n 3, 322, 0, 0, 0, 0) := fr fe_L_law_5 5 rfl
theorem i_L_law_322 : fetch 0 322 = some (.iconst 1, 323, 0, 0, 0, 0) := fr fe_L_law_5 6 rfl
theorem i_L_law_323 : fetch 0 323 = some (.iadd, 324, 0, 0, 0, 0) := fr fe_L_law_5 7 rfl
theorem i_L_law_324 : fetch 0 324 = some (.iaload, 325, 0, 0, 0, 0) := fr fe_L_law_5 8 rfl
theorem i_L_law_325 : fetch 0 325 = some (.i2l, 326, 0, 0, 0, 0) := fr fe_L_law_5 9 rfl
theorem i_L_law_326 : fetch 0 326 = some (.bipush 32, 328, 0, 0, 0, 0) := fr fe_L_law_5 10 rfl
theorem i_L_law_328 : fetch 0 328 = some (.lshl, 329, 0, 0, 0, 0) := fr fe_L_law_5 11 rfl
theorem i_L_law_329 : fetch 0 329 = some (.aload_n 0, 330, 0, 0, 0, 0) := fr fe_L_law_5 12 rfl
theorem i_L_law_330 : fetch 0 330 = some (.iload_n 3, 331, 0, 0, 0, 0) := fr fe_L_law_5 13 rfl
theorem i_L_law_331 : fetch 0 331 = some (.iconst 2, 332, 0, 0, 0, 0) := fr fe_L_law_5 14 rfl
theorem i_L_law_332 : fetch 0 332 = some (.iadd, 333, 0, 0, 0, 0) := fr fe_L_law_5 15 rfl
theorem i_L_law_333 : fetch 0 333 = some (.iaload, 334, 0, 0, 0, 0) := fr fe_L_law_5 16 rfl
theorem i_L_law_334 : fetch 0 334 = some (.i2l, 335, 0, 0, 0, 0) := fr fe_L_law_5 17 rfl
theorem i_L_law_335 : fetch 0 335 = some (.ldc2_w 28, 338, 0, 0, 4294967295, 1602) := fr fe_L_law_5 18 rfl
theorem i_L_law_338 : fetch 0 338 = some (.land, 339, 0, 0, 0, 0) := fr fe_L_law_5 19 rfl
theorem i_L_law_339 : fetch 0 339 = some (.lor, 340, 0, 0, 0, 0) := fr fe_L_law_5 20 rfl
theorem i_L_law_340 : fetch 0 340 = some (.aload_n 0, 341, 0, 0, 0, 0) := fr fe_L_law_5 21 rfl
theorem i_L_law_341 : fetch 0 341 = some (.iload_n 3, 342, 0, 0, 0, 0) := fr fe_L_law_5 22 rfl
theorem i_L_law_342 : fetch 0 342 = some (.iconst 3, 343, 0, 0, 0, 0) := fr fe_L_law_5 23 rfl
theorem i_L_law_343 : fetch 0 343 = some (.iadd, 344, 0, 0, 0, 0) := fr fe_L_law_5 24 rfl
theorem i_L_law_344 : fetch 0 344 = some (.iaload, 345, 0, 0, 0, 0) := fr fe_L_law_6 0 rfl
theorem i_L_law_345 : fetch 0 345 = some (.invokevirtual 30, 348, 70, 0, 0, 580) := fr fe_L_law_6 1 rfl
theorem i_L_law_348 : fetch 0 348 = some (.aload_n 2, 349, 0, 0, 0, 0) := fr fe_L_law_6 2 rfl
theorem i_L_law_349 : fetch 0 349 = some (.aload_n 0, 350, 0, 0, 0, 0) := fr fe_L_law_6 3 rfl
theorem i_L_law_350 : fetch 0 350 = some (.iload_n 3, 351, 0, 0, 0, 0) := fr fe_L_law_6 4 rfl
theorem i_L_law_351 : fetch 0 351 = some (.iconst 1, 352, 0, 0, 0, 0) := fr fe_L_law_6 5 rfl
theorem i_L_law_352 : fetch 0 352 = some (.iadd, 353, 0, 0, 0, 0) := fr fe_L_law_6 6 rfl
theorem i_L_law_353 : fetch 0 353 = some (.iaload, 354, 0, 0, 0, 0) := fr fe_L_law_6 7 rfl
theorem i_L_law_354 : fetch 0 354 = some (.i2l, 355, 0, 0, 0, 0) := fr fe_L_law_6 8 rfl
theorem i_L_law_355 : fetch 0 355 = some (.bipush 32, 357, 0, 0, 0, 0) := fr fe_L_law_6 9 rfl
theorem i_L_law_357 : fetch 0 357 = some (.lshl, 358, 0, 0, 0, 0) := fr fe_L_law_6 10 rfl
theorem i_L_law_358 : fetch 0 358 = some (.aload_n 0, 359, 0, 0, 0, 0) := fr fe_L_law_6 11 rfl
theorem i_L_law_359 : fetch 0 359 = some (.iload_n 3, 360, 0, 0, 0, 0) := fr fe_L_law_6 12 rfl
theorem i_L_law_360 : fetch 0 360 = some (.iconst 2, 361, 0, 0, 0, 0) := fr fe_L_law_6 13 rfl
theorem i_L_law_361 : fetch 0 361 = some (.iadd, 362, 0, 0, 0, 0) := fr fe_L_law_6 14 rfl
theorem i_L_law_362 : fetch 0 362 = some (.iaload, 363, 0, 0, 0, 0) := fr fe_L_law_6 15 rfl
theorem i_L_law_363 : fetch 0 363 = some (.i2l, 364, 0, 0, 0, 0) := fr fe_L_law_6 16 rfl
theorem i_L_law_364 : fetch 0 364 = some (.ldc2_w 28, 367, 0, 0, 4294967295, 1602) := fr fe_L_law_6 17 rfl
theorem i_L_law_367 : fetch 0 367 = some (.land, 368, 0, 0, 0, 0) := fr fe_L_law_6 18 rfl
theorem i_L_law_368 : fetch 0 368 = some (.lor, 369, 0, 0, 0, 0) := fr fe_L_law_6 19 rfl
theorem i_L_law_369 : fetch 0 369 = some (.aload_n 0, 370, 0, 0, 0, 0) := fr fe_L_law_6 20 rfl
theorem i_L_law_370 : fetch 0 370 = some (.iload_n 3, 371, 0, 0, 0, 0) := fr fe_L_law_6 21 rfl
theorem i_L_law_371 : fetch 0 371 = some (.iconst 3, 372, 0, 0, 0, 0) := fr fe_L_law_6 22 rfl
theorem i_L_law_372 : fetch 0 372 = some (.iadd, 373, 0, 0, 0, 0) := fr fe_L_law_6 23 rfl
theorem i_L_law_373 : fetch 0 373 = some (.iaload, 374, 0, 0, 0, 0) := fr fe_L_law_6 24 rfl
theorem i_L_law_374 : fetch 0 374 = some (.invokevirtual 34, 377, 135, 0, 0, 1261) := fr fe_L_law_7 0 rfl
theorem i_L_law_377 : fetch 0 377 = some (.if_icmp .eq 1396, 380, 0, 0, 0, 0) := fr fe_L_law_7 1 rfl
theorem i_L_law_380 : fetch 0 380 = some (.iconst 0, 381, 0, 0, 0, 0) := fr fe_L_law_7 2 rfl
theorem i_L_law_381 : fetch 0 381 = some (.ireturn, 382, 0, 0, 0, 0) := fr fe_L_law_7 3 rfl
theorem i_L_law_382 : fetch 0 382 = some (.aload_n 1, 383, 0, 0, 0, 0) := fr fe_L_law_7 4 rfl
theorem i_L_law_383 : fetch 0 383 = some (.invokevirtual 35, 386, 71, 0, 0, 584) := fr fe_L_law_7 5 rfl
theorem i_L_law_386 : fetch 0 386 = some (.aload_n 2, 387, 0, 0, 0, 0) := fr fe_L_law_7 6 rfl
theorem i_L_law_387 : fetch 0 387 = some (.invokevirtual 39, 390, 146, 0, 0, 1266) := fr fe_L_law_7 7 rfl
theorem i_L_law_390 : fetch 0 390 = some (.if_icmp .eq 1383, 393, 0, 0, 0, 0) := fr fe_L_law_7 8 rfl
theorem i_L_law_393 : fetch 0 393 = some (.iconst 0, 394, 0, 0, 0, 0) := fr fe_L_law_7 9 rfl
theorem i_L_law_394 : fetch 0 394 = some (.ireturn, 395, 0, 0, 0, 0) := fr fe_L_law_7 10 rfl
theorem i_L_law_395 : fetch 0 395 = some (.aload_n 1, 396, 0, 0, 0, 0) := fr fe_L_law_7 11 rfl
theorem i_L_law_396 : fetch 0 396 = some (.aload_n 0, 397, 0, 0, 0, 0) := fr fe_L_law_7 12 rfl
theorem i_L_law_397 : fetch 0 397 = some (.iload_n 3, 398, 0, 0, 0, 0) := fr fe_L_law_7 13 rfl
theorem i_L_law_398 : fetch 0 398 = some (.iconst 1, 399, 0, 0, 0, 0) := fr fe_L_law_7 14 rfl
theorem i_L_law_399 : fetch 0 399 = some (.iadd, 400, 0, 0, 0, 0) := fr fe_L_law_7 15 rfl
theorem i_L_law_400 : fetch 0 400 = some (.iaload, 401, 0, 0, 0, 0) := fr fe_L_law_7 16 rfl
theorem i_L_law_401 : fetch 0 401 = some (.invokevirtual 40, 404, 72, 0, 0, 588) := fr fe_L_law_7 17 rfl
theorem i_L_law_404 : fetch 0 404 = some (.aload_n 2, 405, 0, 0, 0, 0) := fr fe_L_law_7 18 rfl
theorem i_L_law_405 : fetch 0 405 = some (.aload_n 0, 406, 0, 0, 0, 0) := fr fe_L_law_7 19 rfl
theorem i_L_law_406 : fetch 0 406 = some (.iload_n 3, 407, 0, 0, 0, 0) := fr fe_L_law_7 20 rfl
theorem i_L_law_407 : fetch 0 407 = some (.iconst 1, 408, 0, 0, 0, 0) := fr fe_L_law_7 21 rfl
theorem i_L_law_408 : fetch 0 408 = some (.iadd, 409, 0, 0, 0, 0) := fr fe_L_law_7 22 rfl
theorem i_L_law_409 : fetch 0 409 = some (.iaload, 410, 0, 0, 0, 0) := fr fe_L_law_7 23 rfl
theorem i_L_law_410 : fetch 0 410 = some (.invokevirtual 43, 413, 149, 0, 0, 1267) := fr fe_L_law_7 24 rfl
theorem i_L_law_413 : fetch 0 413 = some (.if_icmp .eq 1360, 416, 0, 0, 0, 0) := fr fe_L_law_8 0 rfl
theorem i_L_law_416 : fetch 0 416 = some (.iconst 0, 417, 0, 0, 0, 0) := fr fe_L_law_8 1 rfl
theorem i_L_law_417 : fetch 0 417 = some (.ireturn, 418, 0, 0, 0, 0) := fr fe_L_law_8 2 rfl
theorem i_L_law_418 : fetch 0 418 = some (.aload_n 1, 419, 0, 0, 0, 0) := fr fe_L_law_8 3 rfl
theorem i_L_law_419 : fetch 0 419 = some (.aload_n 0, 420, 0, 0, 0, 0) := fr fe_L_law_8 4 rfl
theorem i_L_law_420 : fetch 0 420 = some (.iload_n 3, 421, 0, 0, 0, 0) := fr fe_L_law_8 5 rfl
theorem i_L_law_421 : fetch 0 421 = some (.iconst 1, 422, 0, 0, 0, 0) := fr fe_L_law_8 6 rfl
theorem i_L_law_422 : fetch 0 422 = some (.iadd, 423, 0, 0, 0, 0) := fr fe_L_law_8 7 rfl
theorem i_L_law_423 : fetch 0 423 = some (.iaload, 424, 0, 0, 0, 0) := fr fe_L_law_8 8 rfl
theorem i_L_law_424 : fetch 0 424 = some (.aload_n 0, 425, 0, 0, 0, 0) := fr fe_L_law_8 9 rfl
theorem i_L_law_425 : fetch 0 425 = some (.iload_n 3, 426, 0, 0, 0, 0) := fr fe_L_law_8 10 rfl
theorem i_L_law_426 : fetch 0 426 = some (.iconst 2, 427, 0, 0, 0, 0) := fr fe_L_law_8 11 rfl
theorem i_L_law_427 : fetch 0 427 = some (.iadd, 428, 0, 0, 0, 0) := fr fe_L_law_8 12 rfl
theorem i_L_law_428 : fetch 0 428 = some (.iaload, 429, 0, 0, 0, 0) := fr fe_L_law_8 13 rfl
theorem i_L_law_429 : fetch 0 429 = some (.aload_n 0, 430, 0, 0, 0, 0) := fr fe_L_law_8 14 rfl
theorem i_L_law_430 : fetch 0 430 = some (.iload_n 3, 431, 0, 0, 0, 0) := fr fe_L_law_8 15 rfl
theorem i_L_law_431 : fetch 0 431 = some (.iconst 3, 432, 0, 0, 0, 0) := fr fe_L_law_8 16 rfl
theorem i_L_law_432 : fetch 0 432 = some (.iadd, 433, 0, 0, 0, 0) := fr fe_L_law_8 17 rfl
theorem i_L_law_433 : fetch 0 433 = some (.iaload, 434, 0, 0, 0, 0) := fr fe_L_law_8 18 rfl
theorem i_L_law_434 : fetch 0 434 = some (.invokevirtual 44, 437, 73, 0, 0, 592) := fr fe_L_law_8 19 rfl
theorem i_L_law_437 : fetch 0 437 = some (.aload_n 2, 438, 0, 0, 0, 0) := fr fe_L_law_8 20 rfl
theorem i_L_law_438 : fetch 0 438 = some (.aload_n 0, 439, 0, 0, 0, 0) := fr fe_L_law_8 21 rfl
theorem i_L_law_439 : fetch 0 439 = some (.iload_n 3, 440, 0, 0, 0, 0) := fr fe_L_law_8 22 rfl
theorem i_L_law_440 : fetch 0 440 = some (.iconst 1, 441, 0, 0, 0, 0) := fr fe_L_law_8 23 rfl
theorem i_L_law_441 : fetch 0 441 = some (.iadd, 442, 0, 0, 0, 0) := fr fe_L_law_8 24 rfl
theorem i_L_law_442 : fetch 0 442 = some (.iaload, 443, 0, 0, 0, 0) := fr fe_L_law_9 0 rfl
theorem i_L_law_443 : fetch 0 443 = some (.aload_n 0, 444, 0, 0, 0, 0) := fr fe_L_law_9 1 rfl
theorem i_L_law_444 : fetch 0 444 = some (.iload_n 3, 445, 0, 0, 0, 0) := fr fe_L_law_9 2 rfl
theorem i_L_law_445 : fetch 0 445 = some (.iconst 2, 446, 0, 0, 0, 0) := fr fe_L_law_9 3 rfl
theorem i_L_law_446 : fetch 0 446 = some (.iadd, 447, 0, 0, 0, 0) := fr fe_L_law_9 4 rfl
theorem i_L_law_447 : fetch 0 447 = some (.iaload, 448, 0, 0, 0, 0) := fr fe_L_law_9 5 rfl
theorem i_L_law_448 : fetch 0 448 = some (.aload_n 0, 449, 0, 0, 0, 0) := fr fe_L_law_9 6 rfl
theorem i_L_law_449 : fetch 0 449 = some (.iload_n 3, 450, 0, 0, 0, 0) := fr fe_L_law_9 7 rfl
theorem i_L_law_450 : fetch 0 450 = some (.iconst 3, 451, 0, 0, 0, 0) := fr fe_L_law_9 8 rfl
theorem i_L_law_451 : fetch 0 451 = some (.iadd, 452, 0, 0, 0, 0) := fr fe_L_law_9 9 rfl
theorem i_L_law_452 : fetch 0 452 = some (.iaload, 453, 0, 0, 0, 0) := fr fe_L_law_9 10 rfl
theorem i_L_law_453 : fetch 0 453 = some (.invokevirtual 47, 456, 150, 0, 0, 1271) := fr fe_L_law_9 11 rfl
theorem i_L_law_456 : fetch 0 456 = some (.if_icmp .eq 1317, 459, 0, 0, 0, 0) := fr fe_L_law_9 12 rfl
theorem i_L_law_459 : fetch 0 459 = some (.iconst 0, 460, 0, 0, 0, 0) := fr fe_L_law_9 13 rfl
theorem i_L_law_460 : fetch 0 460 = some (.ireturn, 461, 0, 0, 0, 0) := fr fe_L_law_9 14 rfl
theorem i_L_law_461 : fetch 0 461 = some (.aload_n 1, 462, 0, 0, 0, 0) := fr fe_L_law_9 15 rfl
theorem i_L_law_462 : fetch 0 462 = some (.invokevirtual 48, 465, 74, 0, 0, 600) := fr fe_L_law_9 16 rfl
theorem i_L_law_465 : fetch 0 465 = some (.aload_n 2, 466, 0, 0, 0, 0) := fr fe_L_law_9 17 rfl
theorem i_L_law_466 : fetch 0 466 = some (.invokevirtual 51, 469, 151, 0, 0, 1275) := fr fe_L_law_9 18 rfl
theorem i_L_law_469 : fetch 0 469 = some (.if_icmp .eq 1304, 472, 0, 0, 0, 0) := fr fe_L_law_9 19 rfl
theorem i_L_law_472 : fetch 0 472 = some (.iconst 0, 473, 0, 0, 0, 0) := fr fe_L_law_9 20 rfl
theorem i_L_law_473 : fetch 0 473 = some (.ireturn, 474, 0, 0, 0, 0) := fr fe_L_law_9 21 rfl
theorem i_L_law_474 : fetch 0 474 = some (.aload_n 1, 475, 0, 0, 0, 0) := fr fe_L_law_9 22 rfl
theorem i_L_law_475 : fetch 0 475 = some (.aload_n 0, 476, 0, 0, 0, 0) := fr fe_L_law_9 23 rfl
theorem i_L_law_476 : fetch 0 476 = some (.iload_n 3, 477, 0, 0, 0, 0) := fr fe_L_law_9 24 rfl
theorem i_L_law_477 : fetch 0 477 = some (.iconst 1, 478, 0, 0, 0, 0) := fr fe_L_law_10 0 rfl
theorem i_L_law_478 : fetch 0 478 = some (.iadd, 479, 0, 0, 0, 0) := fr fe_L_law_10 1 rfl
theorem i_L_law_479 : fetch 0 479 = some (.iaload, 480, 0, 0, 0, 0) := fr fe_L_law_10 2 rfl
theorem i_L_law_480 : fetch 0 480 = some (.aload_n 0, 481, 0, 0, 0, 0) := fr fe_L_law_10 3 rfl
theorem i_L_law_481 : fetch 0 481 = some (.iload_n 3, 482, 0, 0, 0, 0) := fr fe_L_law_10 4 rfl
theorem i_L_law_482 : fetch 0 482 = some (.iconst 2, 483, 0, 0, 0, 0) := fr fe_L_law_10 5 rfl
theorem i_L_law_483 : fetch 0 483 = some (.iadd, 484, 0, 0, 0, 0) := fr fe_L_law_10 6 rfl
theorem i_L_law_484 : fetch 0 484 = some (.iaload, 485, 0, 0, 0, 0) := fr fe_L_law_10 7 rfl
theorem i_L_law_485 : fetch 0 485 = some (.invokevirtual 52, 488, 75, 0, 0, 604) := fr fe_L_law_10 8 rfl
theorem i_L_law_488 : fetch 0 488 = some (.aload_n 2, 489, 0, 0, 0, 0) := fr fe_L_law_10 9 rfl
theorem i_L_law_489 : fetch 0 489 = some (.aload_n 0, 490, 0, 0, 0, 0) := fr fe_L_law_10 10 rfl
theorem i_L_law_490 : fetch 0 490 = some (.iload_n 3, 491, 0, 0, 0, 0) := fr fe_L_law_10 11 rfl
theorem i_L_law_491 : fetch 0 491 = some (.iconst 1, 492, 0, 0, 0, 0) := fr fe_L_law_10 12 rfl
theorem i_L_law_492 : fetch 0 492 = some (.iadd, 493, 0, 0, 0, 0) := fr fe_L_law_10 13 rfl
theorem i_L_law_493 : fetch 0 493 = some (.iaload, 494, 0, 0, 0, 0) := fr fe_L_law_10 14 rfl
theorem i_L_law_494 : fetch 0 494 = some (.aload_n 0, 495, 0, 0, 0, 0) := fr fe_L_law_10 15 rfl
theorem i_L_law_495 : fetch 0 495 = some (.iload_n 3, 496, 0, 0, 0, 0) := fr fe_L_law_10 16 rfl
theorem i_L_law_496 : fetch 0 496 = some (.iconst 2, 497, 0, 0, 0, 0) := fr fe_L_law_10 17 rfl
theorem i_L_law_497 : fetch 0 497 = some (.iadd, 498, 0, 0, 0, 0) := fr fe_L_law_10 18 rfl
theorem i_L_law_498 : fetch 0 498 = some (.iaload, 499, 0, 0, 0, 0) := fr fe_L_law_10 19 rfl
theorem i_L_law_499 : fetch 0 499 = some (.invokevirtual 55, 502, 153, 0, 0, 1279) := fr fe_L_law_10 20 rfl
theorem i_L_law_502 : fetch 0 502 = some (.if_icmp .eq 1271, 505, 0, 0, 0, 0) := fr fe_L_law_10 21 rfl
theorem i_L_law_505 : fetch 0 505 = some (.iconst 0, 506, 0, 0, 0, 0) := fr fe_L_law_10 22 rfl
theorem i_L_law_506 : fetch 0 506 = some (.ireturn, 507, 0, 0, 0, 0) := fr fe_L_law_10 23 rfl
theorem i_L_law_507 : fetch 0 507 = some (.aload_n 1, 508, 0, 0, 0, 0) := fr fe_L_law_10 24 rfl
theorem i_L_law_508 : fetch 0 508 = some (.aload_n 0, 509, 0, 0, 0, 0) := fr fe_L_law_11 0 rfl
theorem i_L_law_509 : fetch 0 509 = some (.iload_n 3, 510, 0, 0, 0, 0) := fr fe_L_law_11 1 rfl
theorem i_L_law_510 : fetch 0 510 = some (.iconst 1, 511, 0, 0, 0, 0) := fr fe_L_law_11 2 rfl
theorem i_L_law_511 : fetch 0 511 = some (.iadd, 512, 0, 0, 0, 0) := fr fe_L_law_11 3 rfl
theorem i_L_law_512 : fetch 0 512 = some (.iaload, 513, 0, 0, 0, 0) := fr fe_L_law_11 4 rfl
theorem i_L_law_513 : fetch 0 513 = some (.aload_n 0, 514, 0, 0, 0, 0) := fr fe_L_law_11 5 rfl
theorem i_L_law_514 : fetch 0 514 = some (.iload_n 3, 515, 0, 0, 0, 0) := fr fe_L_law_11 6 rfl
theorem i_L_law_515 : fetch 0 515 = some (.iconst 2, 516, 0, 0, 0, 0) := fr fe_L_law_11 7 rfl
theorem i_L_law_516 : fetch 0 516 = some (.iadd, 517, 0, 0, 0, 0) := fr fe_L_law_11 8 rfl
theorem i_L_law_517 : fetch 0 517 = some (.iaload, 518, 0, 0, 0, 0) := fr fe_L_law_11 9 rfl
theorem i_L_law_518 : fetch 0 518 = some (.aload_n 0, 519, 0, 0, 0, 0) := fr fe_L_law_11 10 rfl
theorem i_L_law_519 : fetch 0 519 = some (.iload_n 3, 520, 0, 0, 0, 0) := fr fe_L_law_11 11 rfl
theorem i_L_law_520 : fetch 0 520 = some (.iconst 3, 521, 0, 0, 0, 0) := fr fe_L_law_11 12 rfl
theorem i_L_law_521 : fetch 0 521 = some (.iadd, 522, 0, 0, 0, 0) := fr fe_L_law_11 13 rfl
theorem i_L_law_522 : fetch 0 522 = some (.iaload, 523, 0, 0, 0, 0) := fr fe_L_law_11 14 rfl
theorem i_L_law_523 : fetch 0 523 = some (.invokevirtual 56, 526, 76, 0, 0, 616) := fr fe_L_law_11 15 rfl
theorem i_L_law_526 : fetch 0 526 = some (.aload_n 2, 527, 0, 0, 0, 0) := fr fe_L_law_11 16 rfl
theorem i_L_law_527 : fetch 0 527 = some (.aload_n 0, 528, 0, 0, 0, 0) := fr fe_L_law_11 17 rfl
theorem i_L_law_528 : fetch 0 528 = some (.iload_n 3, 529, 0, 0, 0, 0) := fr fe_L_law_11 18 rfl
theorem i_L_law_529 : fetch 0 529 = some (.iconst 1, 530, 0, 0, 0, 0) := fr fe_L_law_11 19 rfl
theorem i_L_law_530 : fetch 0 530 = some (.iadd, 531, 0, 0, 0, 0) := fr fe_L_law_11 20 rfl
theorem i_L_law_531 : fetch 0 531 = some (.iaload, 532, 0, 0, 0, 0) := fr fe_L_law_11 21 rfl
theorem i_L_law_532 : fetch 0 532 = some (.aload_n 0, 533, 0, 0, 0, 0) := fr fe_L_law_11 22 rfl
theorem i_L_law_533 : fetch 0 533 = some (.iload_n 3, 534, 0, 0, 0, 0) := fr fe_L_law_11 23 rfl
theorem i_L_law_534 : fetch 0 534 = some (.iconst 2, 535, 0, 0, 0, 0) := fr fe_L_law_11 24 rfl
theorem i_L_law_535 : fetch 0 535 = some (.iadd, 536, 0, 0, 0, 0) := fr fe_L_law_12 0 rfl
theorem i_L_law_536 : fetch 0 536 = some (.iaload, 537, 0, 0, 0, 0) := fr fe_L_law_12 1 rfl
theorem i_L_law_537 : fetch 0 537 = some (.aload_n 0, 538, 0, 0, 0, 0) := fr fe_L_law_12 2 rfl
theorem i_L_law_538 : fetch 0 538 = some (.iload_n 3, 539, 0, 0, 0, 0) := fr fe_L_law_12 3 rfl
theorem i_L_law_539 : fetch 0 539 = some (.iconst 3, 540, 0, 0, 0, 0) := fr fe_L_law_12 4 rfl
theorem i_L_law_540 : fetch 0 540 = some (.iadd, 541, 0, 0, 0, 0) := fr fe_L_law_12 5 rfl
theorem i_L_law_541 : fetch 0 541 = some (.iaload, 542, 0, 0, 0, 0) := fr fe_L_law_12 6 rfl
theorem i_L_law_542 : fetch 0 542 = some (.invokevirtual 59, 545, 169, 0, 0, 1287) := fr fe_L_law_12 7 rfl
theorem i_L_law_545 : fetch 0 545 = some (.if_icmp .eq 1228, 548, 0, 0, 0, 0) := fr fe_L_law_12 8 rfl
theorem i_L_law_548 : fetch 0 548 = some (.iconst 0, 549, 0, 0, 0, 0) := fr fe_L_law_12 9 rfl
theorem i_L_law_549 : fetch 0 549 = some (.ireturn, 550, 0, 0, 0, 0) := fr fe_L_law_12 10 rfl
theorem i_L_law_550 : fetch 0 550 = some (.aload_n 1, 551, 0, 0, 0, 0) := fr fe_L_law_12 11 rfl
theorem i_L_law_551 : fetch 0 551 = some (.aload_n 0, 552, 0, 0, 0, 0) := fr fe_L_law_12 12 rfl
theorem i_L_law_552 : fetch 0 552 = some (.iload_n 3, 553, 0, 0, 0, 0) := fr fe_L_law_12 13 rfl
theorem i_L_law_553 : fetch 0 553 = some (.iconst 1, 554, 0, 0, 0, 0) := fr fe_L_law_12 14 rfl
theorem i_L_law_554 : fetch 0 554 = some (.iadd, 555, 0, 0, 0, 0) := fr fe_L_law_12 15 rfl
theorem i_L_law_555 : fetch 0 555 = some (.iaload, 556, 0, 0, 0, 0) := fr fe_L_law_12 16 rfl
theorem i_L_law_556 : fetch 0 556 = some (.aload_n 0, 557, 0, 0, 0, 0) := fr fe_L_law_12 17 rfl
theorem i_L_law_557 : fetch 0 557 = some (.iload_n 3, 558, 0, 0, 0, 0) := fr fe_L_law_12 18 rfl
theorem i_L_law_558 : fetch 0 558 = some (.iconst 2, 559, 0, 0, 0, 0) := fr fe_L_law_12 19 rfl
theorem i_L_law_559 : fetch 0 559 = some (.iadd, 560, 0, 0, 0, 0) := fr fe_L_law_12 20 rfl
theorem i_L_law_560 : fetch 0 560 = some (.iaload, 561, 0, 0, 0, 0) := fr fe_L_law_12 21 rfl
theorem i_L_law_561 : fetch 0 561 = some (.invokevirtual 60, 564, 77, 0, 0, 737) := fr fe_L_law_12 22 rfl
theorem i_L_law_564 : fetch 0 564 = some (.aload_n 2, 565, 0, 0, 0, 0) := fr fe_L_law_12 23 rfl
theorem i_L_law_565 : fetch 0 565 = some (.aload_n 0, 566, 0, 0, 0, 0) := fr fe_L_law_12 24 rfl
theorem i_L_law_566 : fetch 0 566 = some (.iload_n 3, 567, 0, 0, 0, 0) := fr fe_L_law_13 0 rfl
theorem i_L_law_567 : fetch 0 567 = some (.iconst 1, 568, 0, 0, 0, 0) := fr fe_L_law_13 1 rfl
theorem i_L_law_568 : fetch 0 568 = some (.iadd, 569, 0, 0, 0, 0) := fr fe_L_law_13 2 rfl
theorem i_L_law_569 : fetch 0 569 = some (.iaload, 570, 0, 0, 0, 0) := fr fe_L_law_13 3 rfl
theorem i_L_law_570 : fetch 0 570 = some (.aload_n 0, 571, 0, 0, 0, 0) := fr fe_L_law_13 4 rfl
theorem i_L_law_571 : fetch 0 571 = some (.iload_n 3, 572, 0, 0, 0, 0) := fr fe_L_law_13 5 rfl
theorem i_L_law_572 : fetch 0 572 = some (.iconst 2, 573, 0, 0, 0, 0) := fr fe_L_law_13 6 rfl
theorem i_L_law_573 : fetch 0 573 = some (.iadd, 574, 0, 0, 0, 0) := fr fe_L_law_13 7 rfl
theorem i_L_law_574 : fetch 0 574 = some (.iaload, 575, 0, 0, 0, 0) := fr fe_L_law_13 8 rfl
theorem i_L_law_575 : fetch 0 575 = some (.invokevirtual 64, 578, 174, 0, 0, 1388) := fr fe_L_law_13 9 rfl
theorem i_L_law_578 : fetch 0 578 = some (.lcmp, 579, 0, 0, 0, 0) := fr fe_L_law_13 10 rfl
theorem i_L_law_579 : fetch 0 579 = some (.ifCond .eq 1194, 582, 0, 0, 0, 0) := fr fe_L_law_13 11 rfl
theorem i_L_law_582 : fetch 0 582 = some (.iconst 0, 583, 0, 0, 0, 0) := fr fe_L_law_13 12 rfl
theorem i_L_law_583 : fetch 0 583 = some (.ireturn, 584, 0, 0, 0, 0) := fr fe_L_law_13 13 rfl
theorem i_L_law_584 : fetch 0 584 = some (.aload_n 1, 585, 0, 0, 0, 0) := fr fe_L_law_13 14 rfl
theorem i_L_law_585 : fetch 0 585 = some (.aload_n 0, 586, 0, 0, 0, 0) := fr fe_L_law_13 15 rfl
theorem i_L_law_586 : fetch 0 586 = some (.iload_n 3, 587, 0, 0, 0, 0) := fr fe_L_law_13 16 rfl
theorem i_L_law_587 : fetch 0 587 = some (.iconst 1, 588, 0, 0, 0, 0) := fr fe_L_law_13 17 rfl
theorem i_L_law_588 : fetch 0 588 = some (.iadd, 589, 0, 0, 0, 0) := fr fe_L_law_13 18 rfl
theorem i_L_law_589 : fetch 0 589 = some (.iaload, 590, 0, 0, 0, 0) := fr fe_L_law_13 19 rfl
theorem i_L_law_590 : fetch 0 590 = some (.aload_n 0, 591, 0, 0, 0, 0) := fr fe_L_law_13 20 rfl
theorem i_L_law_591 : fetch 0 591 = some (.iload_n 3, 592, 0, 0, 0, 0) := fr fe_L_law_13 21 rfl
theorem i_L_law_592 : fetch 0 592 = some (.iconst 2, 593, 0, 0, 0, 0) := fr fe_L_law_13 22 rfl
theorem i_L_law_593 : fetch 0 593 = some (.iadd, 594, 0, 0, 0, 0) := fr fe_L_law_13 23 rfl
theorem i_L_law_594 : fetch 0 594 = some (.iaload, 595, 0, 0, 0, 0) := fr fe_L_law_13 24 rfl
theorem i_L_law_595 : fetch 0 595 = some (.invokevirtual 65, 598, 78, 0, 0, 763) := fr fe_L_law_14 0 rfl
theorem i_L_law_598 : fetch 0 598 = some (.aload_n 2, 599, 0, 0, 0, 0) := fr fe_L_law_14 1 rfl
theorem i_L_law_599 : fetch 0 599 = some (.aload_n 0, 600, 0, 0, 0, 0) := fr fe_L_law_14 2 rfl
theorem i_L_law_600 : fetch 0 600 = some (.iload_n 3, 601, 0, 0, 0, 0) := fr fe_L_law_14 3 rfl
theorem i_L_law_601 : fetch 0 601 = some (.iconst 1, 602, 0, 0, 0, 0) := fr fe_L_law_14 4 rfl
theorem i_L_law_602 : fetch 0 602 = some (.iadd, 603, 0, 0, 0, 0) := fr fe_L_law_14 5 rfl
theorem i_L_law_603 : fetch 0 603 = some (.iaload, 604, 0, 0, 0, 0) := fr fe_L_law_14 6 rfl
theorem i_L_law_604 : fetch 0 604 = some (.aload_n 0, 605, 0, 0, 0, 0) := fr fe_L_law_14 7 rfl
theorem i_L_law_605 : fetch 0 605 = some (.iload_n 3, 606, 0, 0, 0, 0) := fr fe_L_law_14 8 rfl
theorem i_L_law_606 : fetch 0 606 = some (.iconst 2, 607, 0, 0, 0, 0) := fr fe_L_law_14 9 rfl
theorem i_L_law_607 : fetch 0 607 = some (.iadd, 608, 0, 0, 0, 0) := fr fe_L_law_14 10 rfl
theorem i_L_law_608 : fetch 0 608 = some (.iaload, 609, 0, 0, 0, 0) := fr fe_L_law_14 11 rfl
theorem i_L_law_609 : fetch 0 609 = some (.invokevirtual 68, 612, 176, 0, 0, 1411) := fr fe_L_law_14 12 rfl
theorem i_L_law_612 : fetch 0 612 = some (.lcmp, 613, 0, 0, 0, 0) := fr fe_L_law_14 13 rfl
theorem i_L_law_613 : fetch 0 613 = some (.ifCond .eq 1160, 616, 0, 0, 0, 0) := fr fe_L_law_14 14 rfl
theorem i_L_law_616 : fetch 0 616 = some (.iconst 0, 617, 0, 0, 0, 0) := fr fe_L_law_14 15 rfl
theorem i_L_law_617 : fetch 0 617 = some (.ireturn, 618, 0, 0, 0, 0) := fr fe_L_law_14 16 rfl
theorem i_L_law_618 : fetch 0 618 = some (.aload_n 1, 619, 0, 0, 0, 0) := fr fe_L_law_14 17 rfl
theorem i_L_law_619 : fetch 0 619 = some (.aload_n 0, 620, 0, 0, 0, 0) := fr fe_L_law_14 18 rfl
theorem i_L_law_620 : fetch 0 620 = some (.iload_n 3, 621, 0, 0, 0, 0) := fr fe_L_law_14 19 rfl
theorem i_L_law_621 : fetch 0 621 = some (.iconst 1, 622, 0, 0, 0, 0) := fr fe_L_law_14 20 rfl
theorem i_L_law_622 : fetch 0 622 = some (.iadd, 623, 0, 0, 0, 0) := fr fe_L_law_14 21 rfl
theorem i_L_law_623 : fetch 0 623 = some (.iaload, 624, 0, 0, 0, 0) := fr fe_L_law_14 22 rfl
theorem i_L_law_624 : fetch 0 624 = some (.invokevirtual 69, 627, 79, 0, 0, 772) := fr fe_L_law_14 23 rfl
theorem i_L_law_627 : fetch 0 627 = some (.aload_n 2, 628, 0, 0, 0, 0) := fr fe_L_law_14 24 rfl
theorem i_L_law_628 : fetch 0 628 = some (.aload_n 0, 629, 0, 0, 0, 0) := fr fe_L_law_15 0 rfl
theorem i_L_law_629 : fetch 0 629 = some (.iload_n 3, 630, 0, 0, 0, 0) := fr fe_L_law_15 1 rfl
theorem i_L_law_630 : fetch 0 630 = some (.iconst 1, 631, 0, 0, 0, 0) := fr fe_L_law_15 2 rfl
theorem i_L_law_631 : fetch 0 631 = some (.iadd, 632, 0, 0, 0, 0) := fr fe_L_law_15 3 rfl
theorem i_L_law_632 : fetch 0 632 = some (.iaload, 633, 0, 0, 0, 0) := fr fe_L_law_15 4 rfl
theorem i_L_law_633 : fetch 0 633 = some (.invokevirtual 72, 636, 177, 0, 0, 1420) := fr fe_L_law_15 5 rfl
theorem i_L_law_636 : fetch 0 636 = some (.if_icmp .eq 1137, 639, 0, 0, 0, 0) := fr fe_L_law_15 6 rfl
theorem i_L_law_639 : fetch 0 639 = some (.iconst 0, 640, 0, 0, 0, 0) := fr fe_L_law_15 7 rfl
theorem i_L_law_640 : fetch 0 640 = some (.ireturn, 641, 0, 0, 0, 0) := fr fe_L_law_15 8 rfl
theorem i_L_law_641 : fetch 0 641 = some (.aload_n 1, 642, 0, 0, 0, 0) := fr fe_L_law_15 9 rfl
theorem i_L_law_642 : fetch 0 642 = some (.invokevirtual 73, 645, 80, 0, 0, 778) := fr fe_L_law_15 10 rfl
theorem i_L_law_645 : fetch 0 645 = some (.aload_n 2, 646, 0, 0, 0, 0) := fr fe_L_law_15 11 rfl
theorem i_L_law_646 : fetch 0 646 = some (.invokevirtual 76, 649, 178, 0, 0, 1424) := fr fe_L_law_15 12 rfl
theorem i_L_law_649 : fetch 0 649 = some (.if_icmp .eq 1124, 652, 0, 0, 0, 0) := fr fe_L_law_15 13 rfl
theorem i_L_law_652 : fetch 0 652 = some (.iconst 0, 653, 0, 0, 0, 0) := fr fe_L_law_15 14 rfl
theorem i_L_law_653 : fetch 0 653 = some (.ireturn, 654, 0, 0, 0, 0) := fr fe_L_law_15 15 rfl
theorem i_L_law_654 : fetch 0 654 = some (.aload_n 1, 655, 0, 0, 0, 0) := fr fe_L_law_15 16 rfl
theorem i_L_law_655 : fetch 0 655 = some (.aload_n 0, 656, 0, 0, 0, 0) := fr fe_L_law_15 17 rfl
theorem i_L_law_656 : fetch 0 656 = some (.iload_n 3, 657, 0, 0, 0, 0) := fr fe_L_law_15 18 rfl
theorem i_L_law_657 : fetch 0 657 = some (.iconst 1, 658, 0, 0, 0, 0) := fr fe_L_law_15 19 rfl
theorem i_L_law_658 : fetch 0 658 = some (.iadd, 659, 0, 0, 0, 0) := fr fe_L_law_15 20 rfl
theorem i_L_law_659 : fetch 0 659 = some (.iaload, 660, 0, 0, 0, 0) := fr fe_L_law_15 21 rfl
theorem i_L_law_660 : fetch 0 660 = some (.aload_n 0, 661, 0, 0, 0, 0) := fr fe_L_law_15 22 rfl
theorem i_L_law_661 : fetch 0 661 = some (.iload_n 3, 662, 0, 0, 0, 0) := fr fe_L_law_15 23 rfl
theorem i_L_law_662 : fetch 0 662 = some (.iconst 2, 663, 0, 0, 0, 0) := fr fe_L_law_15 24 rfl
theorem i_L_law_663 : fetch 0 663 = some (.iadd, 664, 0, 0, 0, 0) := fr fe_L_law_16 0 rfl
theorem i_L_law_664 : fetch 0 664 = some (.iaload, 665, 0, 0, 0, 0) := fr fe_L_law_16 1 rfl
theorem i_L_law_665 : fetch 0 665 = some (.invokevirtual 77, 668, 81, 0, 0, 782) := fr fe_L_law_16 2 rfl
theorem i_L_law_668 : fetch 0 668 = some (.aload_n 2, 669, 0, 0, 0, 0) := fr fe_L_law_16 3 rfl
theorem i_L_law_669 : fetch 0 669 = some (.aload_n 0, 670, 0, 0, 0, 0) := fr fe_L_law_16 4 rfl
theorem i_L_law_670 : fetch 0 670 = some (.iload_n 3, 671, 0, 0, 0, 0) := fr fe_L_law_16 5 rfl
theorem i_L_law_671 : fetch 0 671 = some (.iconst 1, 672, 0, 0, 0, 0) := fr fe_L_law_16 6 rfl
theorem i_L_law_672 : fetch 0 672 = some (.iadd, 673, 0, 0, 0, 0) := fr fe_L_law_16 7 rfl
theorem i_L_law_673 : fetch 0 673 = some (.iaload, 674, 0, 0, 0, 0) := fr fe_L_law_16 8 rfl
theorem i_L_law_674 : fetch 0 674 = some (.aload_n 0, 675, 0, 0, 0, 0) := fr fe_L_law_16 9 rfl
theorem i_L_law_675 : fetch 0 675 = some (.iload_n 3, 676, 0, 0, 0, 0) := fr fe_L_law_16 10 rfl
theorem i_L_law_676 : fetch 0 676 = some (.iconst 2, 677, 0, 0, 0, 0) := fr fe_L_law_16 11 rfl
theorem i_L_law_677 : fetch 0 677 = some (.iadd, 678, 0, 0, 0, 0) := fr fe_L_law_16 12 rfl
theorem i_L_law_678 : fetch 0 678 = some (.iaload, 679, 0, 0, 0, 0) := fr fe_L_law_16 13 rfl
theorem i_L_law_679 : fetch 0 679 = some (.invokevirtual 80, 682, 180, 0, 0, 1428) := fr fe_L_law_16 14 rfl
theorem i_L_law_682 : fetch 0 682 = some (.if_icmp .eq 1091, 685, 0, 0, 0, 0) := fr fe_L_law_16 15 rfl
theorem i_L_law_685 : fetch 0 685 = some (.iconst 0, 686, 0, 0, 0, 0) := fr fe_L_law_16 16 rfl
theorem i_L_law_686 : fetch 0 686 = some (.ireturn, 687, 0, 0, 0, 0) := fr fe_L_law_16 17 rfl
theorem i_L_law_687 : fetch 0 687 = some (.aload_n 1, 688, 0, 0, 0, 0) := fr fe_L_law_16 18 rfl
theorem i_L_law_688 : fetch 0 688 = some (.aload_n 0, 689, 0, 0, 0, 0) := fr fe_L_law_16 19 rfl
theorem i_L_law_689 : fetch 0 689 = some (.iload_n 3, 690, 0, 0, 0, 0) := fr fe_L_law_16 20 rfl
theorem i_L_law_690 : fetch 0 690 = some (.iconst 1, 691, 0, 0, 0, 0) := fr fe_L_law_16 21 rfl
theorem i_L_law_691 : fetch 0 691 = some (.iadd, 692, 0, 0, 0, 0) := fr fe_L_law_16 22 rfl
theorem i_L_law_692 : fetch 0 692 = some (.iaload, 693, 0, 0, 0, 0) := fr fe_L_law_16 23 rfl
theorem i_L_law_693 : fetch 0 693 = some (.aload_n 0, 694, 0, 0, 0, 0) := fr fe_L_law_16 24 rfl
theorem i_L_law_694 : fetch 0 694 = some (.iload_n 3, 695, 0, 0, 0, 0) := fr fe_L_law_17 0 rfl
theorem i_L_law_695 : fetch 0 695 = some (.iconst 2, 696, 0, 0, 0, 0) := fr fe_L_law_17 1 rfl
theorem i_L_law_696 : fetch 0 696 = some (.iadd, 697, 0, 0, 0, 0) := fr fe_L_law_17 2 rfl
theorem i_L_law_697 : fetch 0 697 = some (.iaload, 698, 0, 0, 0, 0) := fr fe_L_law_17 3 rfl
theorem i_L_law_698 : fetch 0 698 = some (.aload_n 0, 699, 0, 0, 0, 0) := fr fe_L_law_17 4 rfl
theorem i_L_law_699 : fetch 0 699 = some (.iload_n 3, 700, 0, 0, 0, 0) := fr fe_L_law_17 5 rfl
theorem i_L_law_700 : fetch 0 700 = some (.iconst 3, 701, 0, 0, 0, 0) := fr fe_L_law_17 6 rfl
theorem i_L_law_701 : fetch 0 701 = some (.iadd, 702, 0, 0, 0, 0) := fr fe_L_law_17 7 rfl
theorem i_L_law_702 : fetch 0 702 = some (.iaload, 703, 0, 0, 0, 0) := fr fe_L_law_17 8 rfl
theorem i_L_law_703 : fetch 0 703 = some (.invokevirtual 81, 706, 82, 0, 0, 800) := fr fe_L_law_17 9 rfl
theorem i_L_law_706 : fetch 0 706 = some (.aload_n 2, 707, 0, 0, 0, 0) := fr fe_L_law_17 10 rfl
theorem i_L_law_707 : fetch 0 707 = some (.aload_n 0, 708, 0, 0, 0, 0) := fr fe_L_law_17 11 rfl
theorem i_L_law_708 : fetch 0 708 = some (.iload_n 3, 709, 0, 0, 0, 0) := fr fe_L_law_17 12 rfl
theorem i_L_law_709 : fetch 0 709 = some (.iconst 1, 710, 0, 0, 0, 0) := fr fe_L_law_17 13 rfl
theorem i_L_law_710 : fetch 0 710 = some (.iadd, 711, 0, 0, 0, 0) := fr fe_L_law_17 14 rfl
theorem i_L_law_711 : fetch 0 711 = some (.iaload, 712, 0, 0, 0, 0) := fr fe_L_law_17 15 rfl
theorem i_L_law_712 : fetch 0 712 = some (.aload_n 0, 713, 0, 0, 0, 0) := fr fe_L_law_17 16 rfl
theorem i_L_law_713 : fetch 0 713 = some (.iload_n 3, 714, 0, 0, 0, 0) := fr fe_L_law_17 17 rfl
theorem i_L_law_714 : fetch 0 714 = some (.iconst 2, 715, 0, 0, 0, 0) := fr fe_L_law_17 18 rfl
theorem i_L_law_715 : fetch 0 715 = some (.iadd, 716, 0, 0, 0, 0) := fr fe_L_law_17 19 rfl
theorem i_L_law_716 : fetch 0 716 = some (.iaload, 717, 0, 0, 0, 0) := fr fe_L_law_17 20 rfl
theorem i_L_law_717 : fetch 0 717 = some (.aload_n 0, 718, 0, 0, 0, 0) := fr fe_L_law_17 21 rfl
theorem i_L_law_718 : fetch 0 718 = some (.iload_n 3, 719, 0, 0, 0, 0) := fr fe_L_law_17 22 rfl
theorem i_L_law_719 : fetch 0 719 = some (.iconst 3, 720, 0, 0, 0, 0) := fr fe_L_law_17 23 rfl
theorem i_L_law_720 : fetch 0 720 = some (.iadd, 721, 0, 0, 0, 0) := fr fe_L_law_17 24 rfl
theorem i_L_law_721 : fetch 0 721 = some (.iaload, 722, 0, 0, 0, 0) := fr fe_L_law_18 0 rfl
theorem i_L_law_722 : fetch 0 722 = some (.invokevirtual 84, 725, 181, 0, 0, 1435) := fr fe_L_law_18 1 rfl
theorem i_L_law_725 : fetch 0 725 = some (.if_icmp .eq 1048, 728, 0, 0, 0, 0) := fr fe_L_law_18 2 rfl
theorem i_L_law_728 : fetch 0 728 = some (.iconst 0, 729, 0, 0, 0, 0) := fr fe_L_law_18 3 rfl
theorem i_L_law_729 : fetch 0 729 = some (.ireturn, 730, 0, 0, 0, 0) := fr fe_L_law_18 4 rfl
theorem i_L_law_730 : fetch 0 730 = some (.aload_n 1, 731, 0, 0, 0, 0) := fr fe_L_law_18 5 rfl
theorem i_L_law_731 : fetch 0 731 = some (.aload_n 0, 732, 0, 0, 0, 0) := fr fe_L_law_18 6 rfl
theorem i_L_law_732 : fetch 0 732 = some (.iload_n 3, 733, 0, 0, 0, 0) := fr fe_L_law_18 7 rfl
theorem i_L_law_733 : fetch 0 733 = some (.iconst 1, 734, 0, 0, 0, 0) := fr fe_L_law_18 8 rfl
theorem i_L_law_734 : fetch 0 734 = some (.iadd, 735, 0, 0, 0, 0) := fr fe_L_law_18 9 rfl
theorem i_L_law_735 : fetch 0 735 = some (.iaload, 736, 0, 0, 0, 0) := fr fe_L_law_18 10 rfl
theorem i_L_law_736 : fetch 0 736 = some (.aload_n 0, 737, 0, 0, 0, 0) := fr fe_L_law_18 11 rfl
theorem i_L_law_737 : fetch 0 737 = some (.iload_n 3, 738, 0, 0, 0, 0) := fr fe_L_law_18 12 rfl
theorem i_L_law_738 : fetch 0 738 = some (.iconst 2, 739, 0, 0, 0, 0) := fr fe_L_law_18 13 rfl
theorem i_L_law_739 : fetch 0 739 = some (.iadd, 740, 0, 0, 0, 0) := fr fe_L_law_18 14 rfl
theorem i_L_law_740 : fetch 0 740 = some (.iaload, 741, 0, 0, 0, 0) := fr fe_L_law_18 15 rfl
theorem i_L_law_741 : fetch 0 741 = some (.aload_n 0, 742, 0, 0, 0, 0) := fr fe_L_law_18 16 rfl
theorem i_L_law_742 : fetch 0 742 = some (.iload_n 3, 743, 0, 0, 0, 0) := fr fe_L_law_18 17 rfl
theorem i_L_law_743 : fetch 0 743 = some (.iconst 3, 744, 0, 0, 0, 0) := fr fe_L_law_18 18 rfl
theorem i_L_law_744 : fetch 0 744 = some (.iadd, 745, 0, 0, 0, 0) := fr fe_L_law_18 19 rfl
theorem i_L_law_745 : fetch 0 745 = some (.iaload, 746, 0, 0, 0, 0) := fr fe_L_law_18 20 rfl
theorem i_L_law_746 : fetch 0 746 = some (.invokevirtual 85, 749, 83, 0, 0, 804) := fr fe_L_law_18 21 rfl
theorem i_L_law_749 : fetch 0 749 = some (.aload_n 2, 750, 0, 0, 0, 0) := fr fe_L_law_18 22 rfl
theorem i_L_law_750 : fetch 0 750 = some (.aload_n 0, 751, 0, 0, 0, 0) := fr fe_L_law_18 23 rfl
theorem i_L_law_751 : fetch 0 751 = some (.iload_n 3, 752, 0, 0, 0, 0) := fr fe_L_law_18 24 rfl
theorem i_L_law_752 : fetch 0 752 = some (.iconst 1, 753, 0, 0, 0, 0) := fr fe_L_law_19 0 rfl
theorem i_L_law_753 : fetch 0 753 = some (.iadd, 754, 0, 0, 0, 0) := fr fe_L_law_19 1 rfl
theorem i_L_law_754 : fetch 0 754 = some (.iaload, 755, 0, 0, 0, 0) := fr fe_L_law_19 2 rfl
theorem i_L_law_755 : fetch 0 755 = some (.aload_n 0, 756, 0, 0, 0, 0) := fr fe_L_law_19 3 rfl
theorem i_L_law_756 : fetch 0 756 = some (.iload_n 3, 757, 0, 0, 0, 0) := fr fe_L_law_19 4 rfl
theorem i_L_law_757 : fetch 0 757 = some (.iconst 2, 758, 0, 0, 0, 0) := fr fe_L_law_19 5 rfl
theorem i_L_law_758 : fetch 0 758 = some (.iadd, 759, 0, 0, 0, 0) := fr fe_L_law_19 6 rfl
theorem i_L_law_759 : fetch 0 759 = some (.iaload, 760, 0, 0, 0, 0) := fr fe_L_law_19 7 rfl
theorem i_L_law_760 : fetch 0 760 = some (.aload_n 0, 761, 0, 0, 0, 0) := fr fe_L_law_19 8 rfl
theorem i_L_law_761 : fetch 0 761 = some (.iload_n 3, 762, 0, 0, 0, 0) := fr fe_L_law_19 9 rfl
theorem i_L_law_762 : fetch 0 762 = some (.iconst 3, 763, 0, 0, 0, 0) := fr fe_L_law_19 10 rfl
theorem i_L_law_763 : fetch 0 763 = some (.iadd, 764, 0, 0, 0, 0) := fr fe_L_law_19 11 rfl
theorem i_L_law_764 : fetch 0 764 = some (.iaload, 765, 0, 0, 0, 0) := fr fe_L_law_19 12 rfl
theorem i_L_law_765 : fetch 0 765 = some (.invokevirtual 88, 768, 182, 0, 0, 1439) := fr fe_L_law_19 13 rfl
theorem i_L_law_768 : fetch 0 768 = some (.if_icmp .eq 1005, 771, 0, 0, 0, 0) := fr fe_L_law_19 14 rfl
theorem i_L_law_771 : fetch 0 771 = some (.iconst 0, 772, 0, 0, 0, 0) := fr fe_L_law_19 15 rfl
theorem i_L_law_772 : fetch 0 772 = some (.ireturn, 773, 0, 0, 0, 0) := fr fe_L_law_19 16 rfl
theorem i_L_law_773 : fetch 0 773 = some (.aload_n 1, 774, 0, 0, 0, 0) := fr fe_L_law_19 17 rfl
theorem i_L_law_774 : fetch 0 774 = some (.aload_n 0, 775, 0, 0, 0, 0) := fr fe_L_law_19 18 rfl
theorem i_L_law_775 : fetch 0 775 = some (.iload_n 3, 776, 0, 0, 0, 0) := fr fe_L_law_19 19 rfl
theorem i_L_law_776 : fetch 0 776 = some (.iconst 1, 777, 0, 0, 0, 0) := fr fe_L_law_19 20 rfl
theorem i_L_law_777 : fetch 0 777 = some (.iadd, 778, 0, 0, 0, 0) := fr fe_L_law_19 21 rfl
theorem i_L_law_778 : fetch 0 778 = some (.iaload, 779, 0, 0, 0, 0) := fr fe_L_law_19 22 rfl
theorem i_L_law_779 : fetch 0 779 = some (.aload_n 0, 780, 0, 0, 0, 0) := fr fe_L_law_19 23 rfl
theorem i_L_law_780 : fetch 0 780 = some (.iload_n 3, 781, 0, 0, 0, 0) := fr fe_L_law_19 24 rfl
theorem i_L_law_781 : fetch 0 781 = some (.iconst 2, 782, 0, 0, 0, 0) := fr fe_L_law_20 0 rfl
theorem i_L_law_782 : fetch 0 782 = some (.iadd, 783, 0, 0, 0, 0) := fr fe_L_law_20 1 rfl
theorem i_L_law_783 : fetch 0 783 = some (.iaload, 784, 0, 0, 0, 0) := fr fe_L_law_20 2 rfl
theorem i_L_law_784 : fetch 0 784 = some (.invokevirtual 89, 787, 84, 0, 0, 809) := fr fe_L_law_20 3 rfl
theorem i_L_law_787 : fetch 0 787 = some (.aload_n 2, 788, 0, 0, 0, 0) := fr fe_L_law_20 4 rfl
theorem i_L_law_788 : fetch 0 788 = some (.aload_n 0, 789, 0, 0, 0, 0) := fr fe_L_law_20 5 rfl
theorem i_L_law_789 : fetch 0 789 = some (.iload_n 3, 790, 0, 0, 0, 0) := fr fe_L_law_20 6 rfl
theorem i_L_law_790 : fetch 0 790 = some (.iconst 1, 791, 0, 0, 0, 0) := fr fe_L_law_20 7 rfl
theorem i_L_law_791 : fetch 0 791 = some (.iadd, 792, 0, 0, 0, 0) := fr fe_L_law_20 8 rfl
theorem i_L_law_792 : fetch 0 792 = some (.iaload, 793, 0, 0, 0, 0) := fr fe_L_law_20 9 rfl
theorem i_L_law_793 : fetch 0 793 = some (.aload_n 0, 794, 0, 0, 0, 0) := fr fe_L_law_20 10 rfl
theorem i_L_law_794 : fetch 0 794 = some (.iload_n 3, 795, 0, 0, 0, 0) := fr fe_L_law_20 11 rfl
theorem i_L_law_795 : fetch 0 795 = some (.iconst 2, 796, 0, 0, 0, 0) := fr fe_L_law_20 12 rfl
theorem i_L_law_796 : fetch 0 796 = some (.iadd, 797, 0, 0, 0, 0) := fr fe_L_law_20 13 rfl
theorem i_L_law_797 : fetch 0 797 = some (.iaload, 798, 0, 0, 0, 0) := fr fe_L_law_20 14 rfl
theorem i_L_law_798 : fetch 0 798 = some (.invokevirtual 92, 801, 183, 0, 0, 1443) := fr fe_L_law_20 15 rfl
theorem i_L_law_801 : fetch 0 801 = some (.if_icmp .eq 972, 804, 0, 0, 0, 0) := fr fe_L_law_20 16 rfl
theorem i_L_law_804 : fetch 0 804 = some (.iconst 0, 805, 0, 0, 0, 0) := fr fe_L_law_20 17 rfl
theorem i_L_law_805 : fetch 0 805 = some (.ireturn, 806, 0, 0, 0, 0) := fr fe_L_law_20 18 rfl
theorem i_L_law_806 : fetch 0 806 = some (.aload_n 1, 807, 0, 0, 0, 0) := fr fe_L_law_20 19 rfl
theorem i_L_law_807 : fetch 0 807 = some (.aload_n 0, 808, 0, 0, 0, 0) := fr fe_L_law_20 20 rfl
theorem i_L_law_808 : fetch 0 808 = some (.iload_n 3, 809, 0, 0, 0, 0) := fr fe_L_law_20 21 rfl
theorem i_L_law_809 : fetch 0 809 = some (.iconst 1, 810, 0, 0, 0, 0) := fr fe_L_law_20 22 rfl
theorem i_L_law_810 : fetch 0 810 = some (.iadd, 811, 0, 0, 0, 0) := fr fe_L_law_20 23 rfl
theorem i_L_law_811 : fetch 0 811 = some (.iaload, 812, 0, 0, 0, 0) := fr fe_L_law_20 24 rfl
theorem i_L_law_812 : fetch 0 812 = some (.aload_n 0, 813, 0, 0, 0, 0) := fr fe_L_law_21 0 rfl
theorem i_L_law_813 : fetch 0 813 = some (.iload_n 3, 814, 0, 0, 0, 0) := fr fe_L_law_21 1 rfl
theorem i_L_law_814 : fetch 0 814 = some (.iconst 2, 815, 0, 0, 0, 0) := fr fe_L_law_21 2 rfl
theorem i_L_law_815 : fetch 0 815 = some (.iadd, 816, 0, 0, 0, 0) := fr fe_L_law_21 3 rfl
theorem i_L_law_816 : fetch 0 816 = some (.iaload, 817, 0, 0, 0, 0) := fr fe_L_law_21 4 rfl
theorem i_L_law_817 : fetch 0 817 = some (.aload_n 0, 818, 0, 0, 0, 0) := fr fe_L_law_21 5 rfl
theorem i_L_law_818 : fetch 0 818 = some (.iload_n 3, 819, 0, 0, 0, 0) := fr fe_L_law_21 6 rfl
theorem i_L_law_819 : fetch 0 819 = some (.iconst 3, 820, 0, 0, 0, 0) := fr fe_L_law_21 7 rfl
theorem i_L_law_820 : fetch 0 820 = some (.iadd, 821, 0, 0, 0, 0) := fr fe_L_law_21 8 rfl
theorem i_L_law_821 : fetch 0 821 = some (.iaload, 822, 0, 0, 0, 0) := fr fe_L_law_21 9 rfl
theorem i_L_law_822 : fetch 0 822 = some (.invokevirtual 93, 825, 85, 0, 0, 815) := fr fe_L_law_21 10 rfl
theorem i_L_law_825 : fetch 0 825 = some (.aload_n 2, 826, 0, 0, 0, 0) := fr fe_L_law_21 11 rfl
theorem i_L_law_826 : fetch 0 826 = some (.aload_n 0, 827, 0, 0, 0, 0) := fr fe_L_law_21 12 rfl
theorem i_L_law_827 : fetch 0 827 = some (.iload_n 3, 828, 0, 0, 0, 0) := fr fe_L_law_21 13 rfl
theorem i_L_law_828 : fetch 0 828 = some (.iconst 1, 829, 0, 0, 0, 0) := fr fe_L_law_21 14 rfl
theorem i_L_law_829 : fetch 0 829 = some (.iadd, 830, 0, 0, 0, 0) := fr fe_L_law_21 15 rfl
theorem i_L_law_830 : fetch 0 830 = some (.iaload, 831, 0, 0, 0, 0) := fr fe_L_law_21 16 rfl
theorem i_L_law_831 : fetch 0 831 = some (.aload_n 0, 832, 0, 0, 0, 0) := fr fe_L_law_21 17 rfl
theorem i_L_law_832 : fetch 0 832 = some (.iload_n 3, 833, 0, 0, 0, 0) := fr fe_L_law_21 18 rfl
theorem i_L_law_833 : fetch 0 833 = some (.iconst 2, 834, 0, 0, 0, 0) := fr fe_L_law_21 19 rfl
theorem i_L_law_834 : fetch 0 834 = some (.iadd, 835, 0, 0, 0, 0) := fr fe_L_law_21 20 rfl
theorem i_L_law_835 : fetch 0 835 = some (.iaload, 836, 0, 0, 0, 0) := fr fe_L_law_21 21 rfl
theorem i_L_law_836 : fetch 0 836 = some (.aload_n 0, 837, 0, 0, 0, 0) := fr fe_L_law_21 22 rfl
theorem i_L_law_837 : fetch 0 837 = some (.iload_n 3, 838, 0, 0, 0, 0) := fr fe_L_law_21 23 rfl
theorem i_L_law_838 : fetch 0 838 = some (.iconst 3, 839, 0, 0, 0, 0) := fr fe_L_law_21 24 rfl
theorem i_L_law_839 : fetch 0 839 = some (.iadd, 840, 0, 0, 0, 0) := fr fe_L_law_22 0 rfl
theorem i_L_law_840 : fetch 0 840 = some (.iaload, 841, 0, 0, 0, 0) := fr fe_L_law_22 1 rfl
theorem i_L_law_841 : fetch 0 841 = some (.invokevirtual 96, 844, 184, 0, 0, 1447) := fr fe_L_law_22 2 rfl
theorem i_L_law_844 : fetch 0 844 = some (.if_icmp .eq 929, 847, 0, 0, 0, 0) := fr fe_L_law_22 3 rfl
theorem i_L_law_847 : fetch 0 847 = some (.iconst 0, 848, 0, 0, 0, 0) := fr fe_L_law_22 4 rfl
theorem i_L_law_848 : fetch 0 848 = some (.ireturn, 849, 0, 0, 0, 0) := fr fe_L_law_22 5 rfl
theorem i_L_law_849 : fetch 0 849 = some (.aload_n 1, 850, 0, 0, 0, 0) := fr fe_L_law_22 6 rfl
theorem i_L_law_850 : fetch 0 850 = some (.aload_n 0, 851, 0, 0, 0, 0) := fr fe_L_law_22 7 rfl
theorem i_L_law_851 : fetch 0 851 = some (.iload_n 3, 852, 0, 0, 0, 0) := fr fe_L_law_22 8 rfl
theorem i_L_law_852 : fetch 0 852 = some (.iconst 1, 853, 0, 0, 0, 0) := fr fe_L_law_22 9 rfl
theorem i_L_law_853 : fetch 0 853 = some (.iadd, 854, 0, 0, 0, 0) := fr fe_L_law_22 10 rfl
theorem i_L_law_854 : fetch 0 854 = some (.iaload, 855, 0, 0, 0, 0) := fr fe_L_law_22 11 rfl
theorem i_L_law_855 : fetch 0 855 = some (.aload_n 0, 856, 0, 0, 0, 0) := fr fe_L_law_22 12 rfl
theorem i_L_law_856 : fetch 0 856 = some (.iload_n 3, 857, 0, 0, 0, 0) := fr fe_L_law_22 13 rfl
theorem i_L_law_857 : fetch 0 857 = some (.iconst 2, 858, 0, 0, 0, 0) := fr fe_L_law_22 14 rfl
theorem i_L_law_858 : fetch 0 858 = some (.iadd, 859, 0, 0, 0, 0) := fr fe_L_law_22 15 rfl
theorem i_L_law_859 : fetch 0 859 = some (.iaload, 860, 0, 0, 0, 0) := fr fe_L_law_22 16 rfl
theorem i_L_law_860 : fetch 0 860 = some (.aload_n 0, 861, 0, 0, 0, 0) := fr fe_L_law_22 17 rfl
theorem i_L_law_861 : fetch 0 861 = some (.iload_n 3, 862, 0, 0, 0, 0) := fr fe_L_law_22 18 rfl
theorem i_L_law_862 : fetch 0 862 = some (.iconst 3, 863, 0, 0, 0, 0) := fr fe_L_law_22 19 rfl
theorem i_L_law_863 : fetch 0 863 = some (.iadd, 864, 0, 0, 0, 0) := fr fe_L_law_22 20 rfl
theorem i_L_law_864 : fetch 0 864 = some (.iaload, 865, 0, 0, 0, 0) := fr fe_L_law_22 21 rfl
theorem i_L_law_865 : fetch 0 865 = some (.invokevirtual 97, 868, 86, 0, 0, 835) := fr fe_L_law_22 22 rfl
theorem i_L_law_868 : fetch 0 868 = some (.aload_n 2, 869, 0, 0, 0, 0) := fr fe_L_law_22 23 rfl
theorem i_L_law_869 : fetch 0 869 = some (.aload_n 0, 870, 0, 0, 0, 0) := fr fe_L_law_22 24 rfl
theorem i_L_law_870 : fetch 0 870 = some (.iload_n 3, 871, 0, 0, 0, 0) := fr fe_L_law_23 0 rfl
theorem i_L_law_871 : fetch 0 871 = some (.iconst 1, 872, 0, 0, 0, 0) := fr fe_L_law_23 1 rfl
theorem i_L_law_872 : fetch 0 872 = some (.iadd, 873, 0, 0, 0, 0) := fr fe_L_law_23 2 rfl
theorem i_L_law_873 : fetch 0 873 = some (.iaload, 874, 0, 0, 0, 0) := fr fe_L_law_23 3 rfl
theorem i_L_law_874 : fetch 0 874 = some (.aload_n 0, 875, 0, 0, 0, 0) := fr fe_L_law_23 4 rfl
theorem i_L_law_875 : fetch 0 875 = some (.iload_n 3, 876, 0, 0, 0, 0) := fr fe_L_law_23 5 rfl
theorem i_L_law_876 : fetch 0 876 = some (.iconst 2, 877, 0, 0, 0, 0) := fr fe_L_law_23 6 rfl
theorem i_L_law_877 : fetch 0 877 = some (.iadd, 878, 0, 0, 0, 0) := fr fe_L_law_23 7 rfl
theorem i_L_law_878 : fetch 0 878 = some (.iaload, 879, 0, 0, 0, 0) := fr fe_L_law_23 8 rfl
theorem i_L_law_879 : fetch 0 879 = some (.aload_n 0, 880, 0, 0, 0, 0) := fr fe_L_law_23 9 rfl
theorem i_L_law_880 : fetch 0 880 = some (.iload_n 3, 881, 0, 0, 0, 0) := fr fe_L_law_23 10 rfl
theorem i_L_law_881 : fetch 0 881 = some (.iconst 3, 882, 0, 0, 0, 0) := fr fe_L_law_23 11 rfl
theorem i_L_law_882 : fetch 0 882 = some (.iadd, 883, 0, 0, 0, 0) := fr fe_L_law_23 12 rfl
theorem i_L_law_883 : fetch 0 883 = some (.iaload, 884, 0, 0, 0, 0) := fr fe_L_law_23 13 rfl
theorem i_L_law_884 : fetch 0 884 = some (.invokevirtual 100, 887, 187, 0, 0, 1451) := fr fe_L_law_23 14 rfl
theorem i_L_law_887 : fetch 0 887 = some (.if_icmp .eq 886, 890, 0, 0, 0, 0) := fr fe_L_law_23 15 rfl
theorem i_L_law_890 : fetch 0 890 = some (.iconst 0, 891, 0, 0, 0, 0) := fr fe_L_law_23 16 rfl
theorem i_L_law_891 : fetch 0 891 = some (.ireturn, 892, 0, 0, 0, 0) := fr fe_L_law_23 17 rfl
theorem i_L_law_892 : fetch 0 892 = some (.aload_n 1, 893, 0, 0, 0, 0) := fr fe_L_law_23 18 rfl
theorem i_L_law_893 : fetch 0 893 = some (.aload_n 0, 894, 0, 0, 0, 0) := fr fe_L_law_23 19 rfl
theorem i_L_law_894 : fetch 0 894 = some (.iload_n 3, 895, 0, 0, 0, 0) := fr fe_L_law_23 20 rfl
theorem i_L_law_895 : fetch 0 895 = some (.iconst 1, 896, 0, 0, 0, 0) := fr fe_L_law_23 21 rfl
theorem i_L_law_896 : fetch 0 896 = some (.iadd, 897, 0, 0, 0, 0) := fr fe_L_law_23 22 rfl
theorem i_L_law_897 : fetch 0 897 = some (.iaload, 898, 0, 0, 0, 0) := fr fe_L_law_23 23 rfl
theorem i_L_law_898 : fetch 0 898 = some (.aload_n 0, 899, 0, 0, 0, 0) := fr fe_L_law_23 24 rfl
theorem i_L_law_899 : fetch 0 899 = some (.iload_n 3, 900, 0, 0, 0, 0) := fr fe_L_law_24 0 rfl
theorem i_L_law_900 : fetch 0 900 = some (.iconst 2, 901, 0, 0, 0, 0) := fr fe_L_law_24 1 rfl
theorem i_L_law_901 : fetch 0 901 = some (.iadd, 902, 0, 0, 0, 0) := fr fe_L_law_24 2 rfl
theorem i_L_law_902 : fetch 0 902 = some (.iaload, 903, 0, 0, 0, 0) := fr fe_L_law_24 3 rfl
theorem i_L_law_903 : fetch 0 903 = some (.invokevirtual 101, 906, 87, 0, 0, 850) := fr fe_L_law_24 4 rfl
theorem i_L_law_906 : fetch 0 906 = some (.aload_n 2, 907, 0, 0, 0, 0) := fr fe_L_law_24 5 rfl
theorem i_L_law_907 : fetch 0 907 = some (.aload_n 0, 908, 0, 0, 0, 0) := fr fe_L_law_24 6 rfl
theorem i_L_law_908 : fetch 0 908 = some (.iload_n 3, 909, 0, 0, 0, 0) := fr fe_L_law_24 7 rfl
theorem i_L_law_909 : fetch 0 909 = some (.iconst 1, 910, 0, 0, 0, 0) := fr fe_L_law_24 8 rfl
theorem i_L_law_910 : fetch 0 910 = some (.iadd, 911, 0, 0, 0, 0) := fr fe_L_law_24 9 rfl
theorem i_L_law_911 : fetch 0 911 = some (.iaload, 912, 0, 0, 0, 0) := fr fe_L_law_24 10 rfl
theorem i_L_law_912 : fetch 0 912 = some (.aload_n 0, 913, 0, 0, 0, 0) := fr fe_L_law_24 11 rfl
theorem i_L_law_913 : fetch 0 913 = some (.iload_n 3, 914, 0, 0, 0, 0) := fr fe_L_law_24 12 rfl
theorem i_L_law_914 : fetch 0 914 = some (.iconst 2, 915, 0, 0, 0, 0) := fr fe_L_law_24 13 rfl
theorem i_L_law_915 : fetch 0 915 = some (.iadd, 916, 0, 0, 0, 0) := fr fe_L_law_24 14 rfl
theorem i_L_law_916 : fetch 0 916 = some (.iaload, 917, 0, 0, 0, 0) := fr fe_L_law_24 15 rfl
theorem i_L_law_917 : fetch 0 917 = some (.invokevirtual 104, 920, 188, 0, 0, 1463) := fr fe_L_law_24 16 rfl
theorem i_L_law_920 : fetch 0 920 = some (.if_icmp .eq 853, 923, 0, 0, 0, 0) := fr fe_L_law_24 17 rfl
theorem i_L_law_923 : fetch 0 923 = some (.iconst 0, 924, 0, 0, 0, 0) := fr fe_L_law_24 18 rfl
theorem i_L_law_924 : fetch 0 924 = some (.ireturn, 925, 0, 0, 0, 0) := fr fe_L_law_24 19 rfl
theorem i_L_law_925 : fetch 0 925 = some (.aload_n 1, 926, 0, 0, 0, 0) := fr fe_L_law_24 20 rfl
theorem i_L_law_926 : fetch 0 926 = some (.aload_n 0, 927, 0, 0, 0, 0) := fr fe_L_law_24 21 rfl
theorem i_L_law_927 : fetch 0 927 = some (.iload_n 3, 928, 0, 0, 0, 0) := fr fe_L_law_24 22 rfl
theorem i_L_law_928 : fetch 0 928 = some (.iconst 1, 929, 0, 0, 0, 0) := fr fe_L_law_24 23 rfl
theorem i_L_law_929 : fetch 0 929 = some (.iadd, 930, 0, 0, 0, 0) := fr fe_L_law_24 24 rfl
theorem i_L_law_930 : fetch 0 930 = some (.iaload, 931, 0, 0, 0, 0) := fr fe_L_law_25 0 rfl
theorem i_L_law_931 : fetch 0 931 = some (.aload_n 0, 932, 0, 0, 0, 0) := fr fe_L_law_25 1 rfl
theorem i_L_law_932 : fetch 0 932 = some (.iload_n 3, 933, 0, 0, 0, 0) := fr fe_L_law_25 2 rfl
theorem i_L_law_933 : fetch 0 933 = some (.iconst 2, 934, 0, 0, 0, 0) := fr fe_L_law_25 3 rfl
theorem i_L_law_934 : fetch 0 934 = some (.iadd, 935, 0, 0, 0, 0) := fr fe_L_law_25 4 rfl
theorem i_L_law_935 : fetch 0 935 = some (.iaload, 936, 0, 0, 0, 0) := fr fe_L_law_25 5 rfl
theorem i_L_law_936 : fetch 0 936 = some (.aload_n 0, 937, 0, 0, 0, 0) := fr fe_L_law_25 6 rfl
theorem i_L_law_937 : fetch 0 937 = some (.iload_n 3, 938, 0, 0, 0, 0) := fr fe_L_law_25 7 rfl
theorem i_L_law_938 : fetch 0 938 = some (.iconst 3, 939, 0, 0, 0, 0) := fr fe_L_law_25 8 rfl
theorem i_L_law_939 : fetch 0 939 = some (.iadd, 940, 0, 0, 0, 0) := fr fe_L_law_25 9 rfl
theorem i_L_law_940 : fetch 0 940 = some (.iaload, 941, 0, 0, 0, 0) := fr fe_L_law_25 10 rfl
theorem i_L_law_941 : fetch 0 941 = some (.invokevirtual 105, 944, 88, 0, 0, 868) := fr fe_L_law_25 11 rfl
theorem i_L_law_944 : fetch 0 944 = some (.aload_n 2, 945, 0, 0, 0, 0) := fr fe_L_law_25 12 rfl
theorem i_L_law_945 : fetch 0 945 = some (.aload_n 0, 946, 0, 0, 0, 0) := fr fe_L_law_25 13 rfl
theorem i_L_law_946 : fetch 0 946 = some (.iload_n 3, 947, 0, 0, 0, 0) := fr fe_L_law_25 14 rfl
theorem i_L_law_947 : fetch 0 947 = some (.iconst 1, 948, 0, 0, 0, 0) := fr fe_L_law_25 15 rfl
theorem i_L_law_948 : fetch 0 948 = some (.iadd, 949, 0, 0, 0, 0) := fr fe_L_law_25 16 rfl
theorem i_L_law_949 : fetch 0 949 = some (.iaload, 950, 0, 0, 0, 0) := fr fe_L_law_25 17 rfl
theorem i_L_law_950 : fetch 0 950 = some (.aload_n 0, 951, 0, 0, 0, 0) := fr fe_L_law_25 18 rfl
theorem i_L_law_951 : fetch 0 951 = some (.iload_n 3, 952, 0, 0, 0, 0) := fr fe_L_law_25 19 rfl
theorem i_L_law_952 : fetch 0 952 = some (.iconst 2, 953, 0, 0, 0, 0) := fr fe_L_law_25 20 rfl
theorem i_L_law_953 : fetch 0 953 = some (.iadd, 954, 0, 0, 0, 0) := fr fe_L_law_25 21 rfl
theorem i_L_law_954 : fetch 0 954 = some (.iaload, 955, 0, 0, 0, 0) := fr fe_L_law_25 22 rfl
theorem i_L_law_955 : fetch 0 955 = some (.aload_n 0, 956, 0, 0, 0, 0) := fr fe_L_law_25 23 rfl
theorem i_L_law_956 : fetch 0 956 = some (.iload_n 3, 957, 0, 0, 0, 0) := fr fe_L_law_25 24 rfl
theorem i_L_law_957 : fetch 0 957 = some (.iconst 3, 958, 0, 0, 0, 0) := fr fe_L_law_26 0 rfl
theorem i_L_law_958 : fetch 0 958 = some (.iadd, 959, 0, 0, 0, 0) := fr fe_L_law_26 1 rfl
theorem i_L_law_959 : fetch 0 959 = some (.iaload, 960, 0, 0, 0, 0) := fr fe_L_law_26 2 rfl
theorem i_L_law_960 : fetch 0 960 = some (.invokevirtual 108, 963, 189, 0, 0, 1467) := fr fe_L_law_26 3 rfl
theorem i_L_law_963 : fetch 0 963 = some (.if_icmp .eq 810, 966, 0, 0, 0, 0) := fr fe_L_law_26 4 rfl
theorem i_L_law_966 : fetch 0 966 = some (.iconst 0, 967, 0, 0, 0, 0) := fr fe_L_law_26 5 rfl
theorem i_L_law_967 : fetch 0 967 = some (.ireturn, 968, 0, 0, 0, 0) := fr fe_L_law_26 6 rfl
theorem i_L_law_968 : fetch 0 968 = some (.aload_n 1, 969, 0, 0, 0, 0) := fr fe_L_law_26 7 rfl
theorem i_L_law_969 : fetch 0 969 = some (.aload_n 0, 970, 0, 0, 0, 0) := fr fe_L_law_26 8 rfl
theorem i_L_law_970 : fetch 0 970 = some (.iload_n 3, 971, 0, 0, 0, 0) := fr fe_L_law_26 9 rfl
theorem i_L_law_971 : fetch 0 971 = some (.iconst 1, 972, 0, 0, 0, 0) := fr fe_L_law_26 10 rfl
theorem i_L_law_972 : fetch 0 972 = some (.iadd, 973, 0, 0, 0, 0) := fr fe_L_law_26 11 rfl
theorem i_L_law_973 : fetch 0 973 = some (.iaload, 974, 0, 0, 0, 0) := fr fe_L_law_26 12 rfl
theorem i_L_law_974 : fetch 0 974 = some (.aload_n 0, 975, 0, 0, 0, 0) := fr fe_L_law_26 13 rfl
theorem i_L_law_975 : fetch 0 975 = some (.iload_n 3, 976, 0, 0, 0, 0) := fr fe_L_law_26 14 rfl
theorem i_L_law_976 : fetch 0 976 = some (.iconst 2, 977, 0, 0, 0, 0) := fr fe_L_law_26 15 rfl
theorem i_L_law_977 : fetch 0 977 = some (.iadd, 978, 0, 0, 0, 0) := fr fe_L_law_26 16 rfl
theorem i_L_law_978 : fetch 0 978 = some (.iaload, 979, 0, 0, 0, 0) := fr fe_L_law_26 17 rfl
theorem i_L_law_979 : fetch 0 979 = some (.invokevirtual 109, 982, 89, 0, 0, 882) := fr fe_L_law_26 18 rfl
theorem i_L_law_982 : fetch 0 982 = some (.aload_n 2, 983, 0, 0, 0, 0) := fr fe_L_law_26 19 rfl
theorem i_L_law_983 : fetch 0 983 = some (.aload_n 0, 984, 0, 0, 0, 0) := fr fe_L_law_26 20 rfl
theorem i_L_law_984 : fetch 0 984 = some (.iload_n 3, 985, 0, 0, 0, 0) := fr fe_L_law_26 21 rfl
theorem i_L_law_985 : fetch 0 985 = some (.iconst 1, 986, 0, 0, 0, 0) := fr fe_L_law_26 22 rfl
theorem i_L_law_986 : fetch 0 986 = some (.iadd, 987, 0, 0, 0, 0) := fr fe_L_law_26 23 rfl
theorem i_L_law_987 : fetch 0 987 = some (.iaload, 988, 0, 0, 0, 0) := fr fe_L_law_26 24 rfl
theorem i_L_law_988 : fetch 0 988 = some (.aload_n 0, 989, 0, 0, 0, 0) := fr fe_L_law_27 0 rfl
theorem i_L_law_989 : fetch 0 989 = some (.iload_n 3, 990, 0, 0, 0, 0) := fr fe_L_law_27 1 rfl
theorem i_L_law_990 : fetch 0 990 = some (.iconst 2, 991, 0, 0, 0, 0) := fr fe_L_law_27 2 rfl
theorem i_L_law_991 : fetch 0 991 = some (.iadd, 992, 0, 0, 0, 0) := fr fe_L_law_27 3 rfl
theorem i_L_law_992 : fetch 0 992 = some (.iaload, 993, 0, 0, 0, 0) := fr fe_L_law_27 4 rfl
theorem i_L_law_993 : fetch 0 993 = some (.invokevirtual 112, 996, 190, 0, 0, 1471) := fr fe_L_law_27 5 rfl
theorem i_L_law_996 : fetch 0 996 = some (.if_icmp .eq 777, 999, 0, 0, 0, 0) := fr fe_L_law_27 6 rfl
theorem i_L_law_999 : fetch 0 999 = some (.iconst 0, 1000, 0, 0, 0, 0) := fr fe_L_law_27 7 rfl
theorem i_L_law_1000 : fetch 0 1000 = some (.ireturn, 1001, 0, 0, 0, 0) := fr fe_L_law_27 8 rfl
theorem i_L_law_1001 : fetch 0 1001 = some (.aload_n 1, 1002, 0, 0, 0, 0) := fr fe_L_law_27 9 rfl
theorem i_L_law_1002 : fetch 0 1002 = some (.aload_n 0, 1003, 0, 0, 0, 0) := fr fe_L_law_27 10 rfl
theorem i_L_law_1003 : fetch 0 1003 = some (.iload_n 3, 1004, 0, 0, 0, 0) := fr fe_L_law_27 11 rfl
theorem i_L_law_1004 : fetch 0 1004 = some (.iconst 1, 1005, 0, 0, 0, 0) := fr fe_L_law_27 12 rfl
theorem i_L_law_1005 : fetch 0 1005 = some (.iadd, 1006, 0, 0, 0, 0) := fr fe_L_law_27 13 rfl
theorem i_L_law_1006 : fetch 0 1006 = some (.iaload, 1007, 0, 0, 0, 0) := fr fe_L_law_27 14 rfl
theorem i_L_law_1007 : fetch 0 1007 = some (.aload_n 0, 1008, 0, 0, 0, 0) := fr fe_L_law_27 15 rfl
theorem i_L_law_1008 : fetch 0 1008 = some (.iload_n 3, 1009, 0, 0, 0, 0) := fr fe_L_law_27 16 rfl
theorem i_L_law_1009 : fetch 0 1009 = some (.iconst 2, 1010, 0, 0, 0, 0) := fr fe_L_law_27 17 rfl
theorem i_L_law_1010 : fetch 0 1010 = some (.iadd, 1011, 0, 0, 0, 0) := fr fe_L_law_27 18 rfl
theorem i_L_law_1011 : fetch 0 1011 = some (.iaload, 1012, 0, 0, 0, 0) := fr fe_L_law_27 19 rfl
theorem i_L_law_1012 : fetch 0 1012 = some (.invokevirtual 113, 1015, 90, 0, 0, 886) := fr fe_L_law_27 20 rfl
theorem i_L_law_1015 : fetch 0 1015 = some (.aload_n 2, 1016, 0, 0, 0, 0) := fr fe_L_law_27 21 rfl
theorem i_L_law_1016 : fetch 0 1016 = some (.aload_n 0, 1017, 0, 0, 0, 0) := fr fe_L_law_27 22 rfl
theorem i_L_law_1017 : fetch 0 1017 = some (.iload_n 3, 1018, 0, 0, 0, 0) := fr fe_L_law_27 23 rfl
theorem i_L_law_1018 : fetch 0 1018 = some (.iconst 1, 1019, 0, 0, 0, 0) := fr fe_L_law_27 24 rfl
theorem i_L_law_1019 : fetch 0 1019 = some (.iadd, 1020, 0, 0, 0, 0) := fr fe_L_law_28 0 rfl
theorem i_L_law_1020 : fetch 0 1020 = some (.iaload, 1021, 0, 0, 0, 0) := fr fe_L_law_28 1 rfl
theorem i_L_law_1021 : fetch 0 1021 = some (.aload_n 0, 1022, 0, 0, 0, 0) := fr fe_L_law_28 2 rfl
theorem i_L_law_1022 : fetch 0 1022 = some (.iload_n 3, 1023, 0, 0, 0, 0) := fr fe_L_law_28 3 rfl
theorem i_L_law_1023 : fetch 0 1023 = some (.iconst 2, 1024, 0, 0, 0, 0) := fr fe_L_law_28 4 rfl
theorem i_L_law_1024 : fetch 0 1024 = some (.iadd, 1025, 0, 0, 0, 0) := fr fe_L_law_28 5 rfl
theorem i_L_law_1025 : fetch 0 1025 = some (.iaload, 1026, 0, 0, 0, 0) := fr fe_L_law_28 6 rfl
theorem i_L_law_1026 : fetch 0 1026 = some (.invokevirtual 116, 1029, 191, 0, 0, 1475) := fr fe_L_law_28 7 rfl
theorem i_L_law_1029 : fetch 0 1029 = some (.if_icmp .eq 744, 1032, 0, 0, 0, 0) := fr fe_L_law_28 8 rfl
theorem i_L_law_1032 : fetch 0 1032 = some (.iconst 0, 1033, 0, 0, 0, 0) := fr fe_L_law_28 9 rfl
theorem i_L_law_1033 : fetch 0 1033 = some (.ireturn, 1034, 0, 0, 0, 0) := fr fe_L_law_28 10 rfl
theorem i_L_law_1034 : fetch 0 1034 = some (.aload_n 1, 1035, 0, 0, 0, 0) := fr fe_L_law_28 11 rfl
theorem i_L_law_1035 : fetch 0 1035 = some (.aload_n 0, 1036, 0, 0, 0, 0) := fr fe_L_law_28 12 rfl
theorem i_L_law_1036 : fetch 0 1036 = some (.iload_n 3, 1037, 0, 0, 0, 0) := fr fe_L_law_28 13 rfl
theorem i_L_law_1037 : fetch 0 1037 = some (.iconst 1, 1038, 0, 0, 0, 0) := fr fe_L_law_28 14 rfl
theorem i_L_law_1038 : fetch 0 1038 = some (.iadd, 1039, 0, 0, 0, 0) := fr fe_L_law_28 15 rfl
theorem i_L_law_1039 : fetch 0 1039 = some (.iaload, 1040, 0, 0, 0, 0) := fr fe_L_law_28 16 rfl
theorem i_L_law_1040 : fetch 0 1040 = some (.aload_n 0, 1041, 0, 0, 0, 0) := fr fe_L_law_28 17 rfl
theorem i_L_law_1041 : fetch 0 1041 = some (.iload_n 3, 1042, 0, 0, 0, 0) := fr fe_L_law_28 18 rfl
theorem i_L_law_1042 : fetch 0 1042 = some (.iconst 2, 1043, 0, 0, 0, 0) := fr fe_L_law_28 19 rfl
theorem i_L_law_1043 : fetch 0 1043 = some (.iadd, 1044, 0, 0, 0, 0) := fr fe_L_law_28 20 rfl
theorem i_L_law_1044 : fetch 0 1044 = some (.iaload, 1045, 0, 0, 0, 0) := fr fe_L_law_28 21 rfl
theorem i_L_law_1045 : fetch 0 1045 = some (.invokevirtual 117, 1048, 91, 0, 0, 890) := fr fe_L_law_28 22 rfl
theorem i_L_law_1048 : fetch 0 1048 = some (.aload_n 2, 1049, 0, 0, 0, 0) := fr fe_L_law_28 23 rfl
theorem i_L_law_1049 : fetch 0 1049 = some (.aload_n 0, 1050, 0, 0, 0, 0) := fr fe_L_law_28 24 rfl
theorem i_L_law_1050 : fetch 0 1050 = some (.iload_n 3, 1051, 0, 0, 0, 0) := fr fe_L_law_29 0 rfl
theorem i_L_law_1051 : fetch 0 1051 = some (.iconst 1, 1052, 0, 0, 0, 0) := fr fe_L_law_29 1 rfl
theorem i_L_law_1052 : fetch 0 1052 = some (.iadd, 1053, 0, 0, 0, 0) := fr fe_L_law_29 2 rfl
theorem i_L_law_1053 : fetch 0 1053 = some (.iaload, 1054, 0, 0, 0, 0) := fr fe_L_law_29 3 rfl
theorem i_L_law_1054 : fetch 0 1054 = some (.aload_n 0, 1055, 0, 0, 0, 0) := fr fe_L_law_29 4 rfl
theorem i_L_law_1055 : fetch 0 1055 = some (.iload_n 3, 1056, 0, 0, 0, 0) := fr fe_L_law_29 5 rfl
theorem i_L_law_1056 : fetch 0 1056 = some (.iconst 2, 1057, 0, 0, 0, 0) := fr fe_L_law_29 6 rfl
theorem i_L_law_1057 : fetch 0 1057 = some (.iadd, 1058, 0, 0, 0, 0) := fr fe_L_law_29 7 rfl
theorem i_L_law_1058 : fetch 0 1058 = some (.iaload, 1059, 0, 0, 0, 0) := fr fe_L_law_29 8 rfl
theorem i_L_law_1059 : fetch 0 1059 = some (.invokevirtual 120, 1062, 192, 0, 0, 1479) := fr fe_L_law_29 9 rfl
theorem i_L_law_1062 : fetch 0 1062 = some (.if_icmp .eq 711, 1065, 0, 0, 0, 0) := fr fe_L_law_29 10 rfl
theorem i_L_law_1065 : fetch 0 1065 = some (.iconst 0, 1066, 0, 0, 0, 0) := fr fe_L_law_29 11 rfl
theorem i_L_law_1066 : fetch 0 1066 = some (.ireturn, 1067, 0, 0, 0, 0) := fr fe_L_law_29 12 rfl
theorem i_L_law_1067 : fetch 0 1067 = some (.aload_n 1, 1068, 0, 0, 0, 0) := fr fe_L_law_29 13 rfl
theorem i_L_law_1068 : fetch 0 1068 = some (.aload_n 0, 1069, 0, 0, 0, 0) := fr fe_L_law_29 14 rfl
theorem i_L_law_1069 : fetch 0 1069 = some (.iload_n 3, 1070, 0, 0, 0, 0) := fr fe_L_law_29 15 rfl
theorem i_L_law_1070 : fetch 0 1070 = some (.iconst 1, 1071, 0, 0, 0, 0) := fr fe_L_law_29 16 rfl
theorem i_L_law_1071 : fetch 0 1071 = some (.iadd, 1072, 0, 0, 0, 0) := fr fe_L_law_29 17 rfl
theorem i_L_law_1072 : fetch 0 1072 = some (.iaload, 1073, 0, 0, 0, 0) := fr fe_L_law_29 18 rfl
theorem i_L_law_1073 : fetch 0 1073 = some (.aload_n 0, 1074, 0, 0, 0, 0) := fr fe_L_law_29 19 rfl
theorem i_L_law_1074 : fetch 0 1074 = some (.iload_n 3, 1075, 0, 0, 0, 0) := fr fe_L_law_29 20 rfl
theorem i_L_law_1075 : fetch 0 1075 = some (.iconst 2, 1076, 0, 0, 0, 0) := fr fe_L_law_29 21 rfl
theorem i_L_law_1076 : fetch 0 1076 = some (.iadd, 1077, 0, 0, 0, 0) := fr fe_L_law_29 22 rfl
theorem i_L_law_1077 : fetch 0 1077 = some (.iaload, 1078, 0, 0, 0, 0) := fr fe_L_law_29 23 rfl
theorem i_L_law_1078 : fetch 0 1078 = some (.aload_n 0, 1079, 0, 0, 0, 0) := fr fe_L_law_29 24 rfl
theorem i_L_law_1079 : fetch 0 1079 = some (.iload_n 3, 1080, 0, 0, 0, 0) := fr fe_L_law_30 0 rfl
theorem i_L_law_1080 : fetch 0 1080 = some (.iconst 3, 1081, 0, 0, 0, 0) := fr fe_L_law_30 1 rfl
theorem i_L_law_1081 : fetch 0 1081 = some (.iadd, 1082, 0, 0, 0, 0) := fr fe_L_law_30 2 rfl
theorem i_L_law_1082 : fetch 0 1082 = some (.iaload, 1083, 0, 0, 0, 0) := fr fe_L_law_30 3 rfl
theorem i_L_law_1083 : fetch 0 1083 = some (.invokevirtual 121, 1086, 92, 0, 0, 897) := fr fe_L_law_30 4 rfl
theorem i_L_law_1086 : fetch 0 1086 = some (.aload_n 2, 1087, 0, 0, 0, 0) := fr fe_L_law_30 5 rfl
theorem i_L_law_1087 : fetch 0 1087 = some (.aload_n 0, 1088, 0, 0, 0, 0) := fr fe_L_law_30 6 rfl
theorem i_L_law_1088 : fetch 0 1088 = some (.iload_n 3, 1089, 0, 0, 0, 0) := fr fe_L_law_30 7 rfl
theorem i_L_law_1089 : fetch 0 1089 = some (.iconst 1, 1090, 0, 0, 0, 0) := fr fe_L_law_30 8 rfl
theorem i_L_law_1090 : fetch 0 1090 = some (.iadd, 1091, 0, 0, 0, 0) := fr fe_L_law_30 9 rfl
theorem i_L_law_1091 : fetch 0 1091 = some (.iaload, 1092, 0, 0, 0, 0) := fr fe_L_law_30 10 rfl
theorem i_L_law_1092 : fetch 0 1092 = some (.aload_n 0, 1093, 0, 0, 0, 0) := fr fe_L_law_30 11 rfl
theorem i_L_law_1093 : fetch 0 1093 = some (.iload_n 3, 1094, 0, 0, 0, 0) := fr fe_L_law_30 12 rfl
theorem i_L_law_1094 : fetch 0 1094 = some (.iconst 2, 1095, 0, 0, 0, 0) := fr fe_L_law_30 13 rfl
theorem i_L_law_1095 : fetch 0 1095 = some (.iadd, 1096, 0, 0, 0, 0) := fr fe_L_law_30 14 rfl
theorem i_L_law_1096 : fetch 0 1096 = some (.iaload, 1097, 0, 0, 0, 0) := fr fe_L_law_30 15 rfl
theorem i_L_law_1097 : fetch 0 1097 = some (.aload_n 0, 1098, 0, 0, 0, 0) := fr fe_L_law_30 16 rfl
theorem i_L_law_1098 : fetch 0 1098 = some (.iload_n 3, 1099, 0, 0, 0, 0) := fr fe_L_law_30 17 rfl
theorem i_L_law_1099 : fetch 0 1099 = some (.iconst 3, 1100, 0, 0, 0, 0) := fr fe_L_law_30 18 rfl
theorem i_L_law_1100 : fetch 0 1100 = some (.iadd, 1101, 0, 0, 0, 0) := fr fe_L_law_30 19 rfl
theorem i_L_law_1101 : fetch 0 1101 = some (.iaload, 1102, 0, 0, 0, 0) := fr fe_L_law_30 20 rfl
theorem i_L_law_1102 : fetch 0 1102 = some (.invokevirtual 124, 1105, 194, 0, 0, 1486) := fr fe_L_law_30 21 rfl
theorem i_L_law_1105 : fetch 0 1105 = some (.if_icmp .eq 668, 1108, 0, 0, 0, 0) := fr fe_L_law_30 22 rfl
theorem i_L_law_1108 : fetch 0 1108 = some (.iconst 0, 1109, 0, 0, 0, 0) := fr fe_L_law_30 23 rfl
theorem i_L_law_1109 : fetch 0 1109 = some (.ireturn, 1110, 0, 0, 0, 0) := fr fe_L_law_30 24 rfl
theorem i_L_law_1110 : fetch 0 1110 = some (.aload_n 1, 1111, 0, 0, 0, 0) := fr fe_L_law_31 0 rfl
theorem i_L_law_1111 : fetch 0 1111 = some (.aload_n 0, 1112, 0, 0, 0, 0) := fr fe_L_law_31 1 rfl
theorem i_L_law_1112 : fetch 0 1112 = some (.iload_n 3, 1113, 0, 0, 0, 0) := fr fe_L_law_31 2 rfl
theorem i_L_law_1113 : fetch 0 1113 = some (.iconst 1, 1114, 0, 0, 0, 0) := fr fe_L_law_31 3 rfl
theorem i_L_law_1114 : fetch 0 1114 = some (.iadd, 1115, 0, 0, 0, 0) := fr fe_L_law_31 4 rfl
theorem i_L_law_1115 : fetch 0 1115 = some (.iaload, 1116, 0, 0, 0, 0) := fr fe_L_law_31 5 rfl
theorem i_L_law_1116 : fetch 0 1116 = some (.invokevirtual 125, 1119, 93, 0, 0, 905) := fr fe_L_law_31 6 rfl
theorem i_L_law_1119 : fetch 0 1119 = some (.aload_n 2, 1120, 0, 0, 0, 0) := fr fe_L_law_31 7 rfl
theorem i_L_law_1120 : fetch 0 1120 = some (.aload_n 0, 1121, 0, 0, 0, 0) := fr fe_L_law_31 8 rfl
theorem i_L_law_1121 : fetch 0 1121 = some (.iload_n 3, 1122, 0, 0, 0, 0) := fr fe_L_law_31 9 rfl
theorem i_L_law_1122 : fetch 0 1122 = some (.iconst 1, 1123, 0, 0, 0, 0) := fr fe_L_law_31 10 rfl
theorem i_L_law_1123 : fetch 0 1123 = some (.iadd, 1124, 0, 0, 0, 0) := fr fe_L_law_31 11 rfl
theorem i_L_law_1124 : fetch 0 1124 = some (.iaload, 1125, 0, 0, 0, 0) := fr fe_L_law_31 12 rfl
theorem i_L_law_1125 : fetch 0 1125 = some (.invokevirtual 128, 1128, 195, 0, 0, 1494) := fr fe_L_law_31 13 rfl
theorem i_L_law_1128 : fetch 0 1128 = some (.if_icmp .eq 645, 1131, 0, 0, 0, 0) := fr fe_L_law_31 14 rfl
theorem i_L_law_1131 : fetch 0 1131 = some (.iconst 0, 1132, 0, 0, 0, 0) := fr fe_L_law_31 15 rfl
theorem i_L_law_1132 : fetch 0 1132 = some (.ireturn, 1133, 0, 0, 0, 0) := fr fe_L_law_31 16 rfl
theorem i_L_law_1133 : fetch 0 1133 = some (.aload_n 1, 1134, 0, 0, 0, 0) := fr fe_L_law_31 17 rfl
theorem i_L_law_1134 : fetch 0 1134 = some (.aload_n 0, 1135, 0, 0, 0, 0) := fr fe_L_law_31 18 rfl
theorem i_L_law_1135 : fetch 0 1135 = some (.iload_n 3, 1136, 0, 0, 0, 0) := fr fe_L_law_31 19 rfl
theorem i_L_law_1136 : fetch 0 1136 = some (.iconst 1, 1137, 0, 0, 0, 0) := fr fe_L_law_31 20 rfl
theorem i_L_law_1137 : fetch 0 1137 = some (.iadd, 1138, 0, 0, 0, 0) := fr fe_L_law_31 21 rfl
theorem i_L_law_1138 : fetch 0 1138 = some (.iaload, 1139, 0, 0, 0, 0) := fr fe_L_law_31 22 rfl
theorem i_L_law_1139 : fetch 0 1139 = some (.aload_n 0, 1140, 0, 0, 0, 0) := fr fe_L_law_31 23 rfl
theorem i_L_law_1140 : fetch 0 1140 = some (.iload_n 3, 1141, 0, 0, 0, 0) := fr fe_L_law_31 24 rfl
theorem i_L_law_1141 : fetch 0 1141 = some (.iconst 2, 1142, 0, 0, 0, 0) := fr fe_L_law_32 0 rfl
theorem i_L_law_1142 : fetch 0 1142 = some (.iadd, 1143, 0, 0, 0, 0) := fr fe_L_law_32 1 rfl
theorem i_L_law_1143 : fetch 0 1143 = some (.iaload, 1144, 0, 0, 0, 0) := fr fe_L_law_32 2 rfl
theorem i_L_law_1144 : fetch 0 1144 = some (.invokevirtual 129, 1147, 94, 0, 0, 909) := fr fe_L_law_32 3 rfl
theorem i_L_law_1147 : fetch 0 1147 = some (.aload_n 2, 1148, 0, 0, 0, 0) := fr fe_L_law_32 4 rfl
theorem i_L_law_1148 : fetch 0 1148 = some (.aload_n 0, 1149, 0, 0, 0, 0) := fr fe_L_law_32 5 rfl
theorem i_L_law_1149 : fetch 0 1149 = some (.iload_n 3, 1150, 0, 0, 0, 0) := fr fe_L_law_32 6 rfl
theorem i_L_law_1150 : fetch 0 1150 = some (.iconst 1, 1151, 0, 0, 0, 0) := fr fe_L_law_32 7 rfl
theorem i_L_law_1151 : fetch 0 1151 = some (.iadd, 1152, 0, 0, 0, 0) := fr fe_L_law_32 8 rfl
theorem i_L_law_1152 : fetch 0 1152 = some (.iaload, 1153, 0, 0, 0, 0) := fr fe_L_law_32 9 rfl
theorem i_L_law_1153 : fetch 0 1153 = some (.aload_n 0, 1154, 0, 0, 0, 0) := fr fe_L_law_32 10 rfl
theorem i_L_law_1154 : fetch 0 1154 = some (.iload_n 3, 1155, 0, 0, 0, 0) := fr fe_L_law_32 11 rfl
theorem i_L_law_1155 : fetch 0 1155 = some (.iconst 2, 1156, 0, 0, 0, 0) := fr fe_L_law_32 12 rfl
theorem i_L_law_1156 : fetch 0 1156 = some (.iadd, 1157, 0, 0, 0, 0) := fr fe_L_law_32 13 rfl
theorem i_L_law_1157 : fetch 0 1157 = some (.iaload, 1158, 0, 0, 0, 0) := fr fe_L_law_32 14 rfl
theorem i_L_law_1158 : fetch 0 1158 = some (.invokevirtual 132, 1161, 199, 0, 0, 1498) := fr fe_L_law_32 15 rfl
theorem i_L_law_1161 : fetch 0 1161 = some (.if_icmp .eq 612, 1164, 0, 0, 0, 0) := fr fe_L_law_32 16 rfl
theorem i_L_law_1164 : fetch 0 1164 = some (.iconst 0, 1165, 0, 0, 0, 0) := fr fe_L_law_32 17 rfl
theorem i_L_law_1165 : fetch 0 1165 = some (.ireturn, 1166, 0, 0, 0, 0) := fr fe_L_law_32 18 rfl
theorem i_L_law_1166 : fetch 0 1166 = some (.aload_n 1, 1167, 0, 0, 0, 0) := fr fe_L_law_32 19 rfl
theorem i_L_law_1167 : fetch 0 1167 = some (.aload_n 0, 1168, 0, 0, 0, 0) := fr fe_L_law_32 20 rfl
theorem i_L_law_1168 : fetch 0 1168 = some (.iload_n 3, 1169, 0, 0, 0, 0) := fr fe_L_law_32 21 rfl
theorem i_L_law_1169 : fetch 0 1169 = some (.iconst 1, 1170, 0, 0, 0, 0) := fr fe_L_law_32 22 rfl
theorem i_L_law_1170 : fetch 0 1170 = some (.iadd, 1171, 0, 0, 0, 0) := fr fe_L_law_32 23 rfl
theorem i_L_law_1171 : fetch 0 1171 = some (.iaload, 1172, 0, 0, 0, 0) := fr fe_L_law_32 24 rfl
theorem i_L_law_1172 : fetch 0 1172 = some (.aload_n 0, 1173, 0, 0, 0, 0) := fr fe_L_law_33 0 rfl
theorem i_L_law_1173 : fetch 0 1173 = some (.iload_n 3, 1174, 0, 0, 0, 0) := fr fe_L_law_33 1 rfl
theorem i_L_law_1174 : fetch 0 1174 = some (.iconst 2, 1175, 0, 0, 0, 0) := fr fe_L_law_33 2 rfl
theorem i_L_law_1175 : fetch 0 1175 = some (.iadd, 1176, 0, 0, 0, 0) := fr fe_L_law_33 3 rfl
theorem i_L_law_1176 : fetch 0 1176 = some (.iaload, 1177, 0, 0, 0, 0) := fr fe_L_law_33 4 rfl
theorem i_L_law_1177 : fetch 0 1177 = some (.aload_n 0, 1178, 0, 0, 0, 0) := fr fe_L_law_33 5 rfl
theorem i_L_law_1178 : fetch 0 1178 = some (.iload_n 3, 1179, 0, 0, 0, 0) := fr fe_L_law_33 6 rfl
theorem i_L_law_1179 : fetch 0 1179 = some (.iconst 3, 1180, 0, 0, 0, 0) := fr fe_L_law_33 7 rfl
theorem i_L_law_1180 : fetch 0 1180 = some (.iadd, 1181, 0, 0, 0, 0) := fr fe_L_law_33 8 rfl
theorem i_L_law_1181 : fetch 0 1181 = some (.iaload, 1182, 0, 0, 0, 0) := fr fe_L_law_33 9 rfl
theorem i_L_law_1182 : fetch 0 1182 = some (.invokevirtual 133, 1185, 95, 0, 0, 919) := fr fe_L_law_33 10 rfl
theorem i_L_law_1185 : fetch 0 1185 = some (.aload_n 2, 1186, 0, 0, 0, 0) := fr fe_L_law_33 11 rfl
theorem i_L_law_1186 : fetch 0 1186 = some (.aload_n 0, 1187, 0, 0, 0, 0) := fr fe_L_law_33 12 rfl
theorem i_L_law_1187 : fetch 0 1187 = some (.iload_n 3, 1188, 0, 0, 0, 0) := fr fe_L_law_33 13 rfl
theorem i_L_law_1188 : fetch 0 1188 = some (.iconst 1, 1189, 0, 0, 0, 0) := fr fe_L_law_33 14 rfl
theorem i_L_law_1189 : fetch 0 1189 = some (.iadd, 1190, 0, 0, 0, 0) := fr fe_L_law_33 15 rfl
theorem i_L_law_1190 : fetch 0 1190 = some (.iaload, 1191, 0, 0, 0, 0) := fr fe_L_law_33 16 rfl
theorem i_L_law_1191 : fetch 0 1191 = some (.aload_n 0, 1192, 0, 0, 0, 0) := fr fe_L_law_33 17 rfl
theorem i_L_law_1192 : fetch 0 1192 = some (.iload_n 3, 1193, 0, 0, 0, 0) := fr fe_L_law_33 18 rfl
theorem i_L_law_1193 : fetch 0 1193 = some (.iconst 2, 1194, 0, 0, 0, 0) := fr fe_L_law_33 19 rfl
theorem i_L_law_1194 : fetch 0 1194 = some (.iadd, 1195, 0, 0, 0, 0) := fr fe_L_law_33 20 rfl
theorem i_L_law_1195 : fetch 0 1195 = some (.iaload, 1196, 0, 0, 0, 0) := fr fe_L_law_33 21 rfl
theorem i_L_law_1196 : fetch 0 1196 = some (.aload_n 0, 1197, 0, 0, 0, 0) := fr fe_L_law_33 22 rfl
theorem i_L_law_1197 : fetch 0 1197 = some (.iload_n 3, 1198, 0, 0, 0, 0) := fr fe_L_law_33 23 rfl
theorem i_L_law_1198 : fetch 0 1198 = some (.iconst 3, 1199, 0, 0, 0, 0) := fr fe_L_law_33 24 rfl
theorem i_L_law_1199 : fetch 0 1199 = some (.iadd, 1200, 0, 0, 0, 0) := fr fe_L_law_34 0 rfl
theorem i_L_law_1200 : fetch 0 1200 = some (.iaload, 1201, 0, 0, 0, 0) := fr fe_L_law_34 1 rfl
theorem i_L_law_1201 : fetch 0 1201 = some (.invokevirtual 136, 1204, 200, 0, 0, 1511) := fr fe_L_law_34 2 rfl
theorem i_L_law_1204 : fetch 0 1204 = some (.if_icmp .eq 569, 1207, 0, 0, 0, 0) := fr fe_L_law_34 3 rfl
theorem i_L_law_1207 : fetch 0 1207 = some (.iconst 0, 1208, 0, 0, 0, 0) := fr fe_L_law_34 4 rfl
theorem i_L_law_1208 : fetch 0 1208 = some (.ireturn, 1209, 0, 0, 0, 0) := fr fe_L_law_34 5 rfl
theorem i_L_law_1209 : fetch 0 1209 = some (.aload_n 1, 1210, 0, 0, 0, 0) := fr fe_L_law_34 6 rfl
theorem i_L_law_1210 : fetch 0 1210 = some (.aload_n 0, 1211, 0, 0, 0, 0) := fr fe_L_law_34 7 rfl
theorem i_L_law_1211 : fetch 0 1211 = some (.iload_n 3, 1212, 0, 0, 0, 0) := fr fe_L_law_34 8 rfl
theorem i_L_law_1212 : fetch 0 1212 = some (.iconst 1, 1213, 0, 0, 0, 0) := fr fe_L_law_34 9 rfl
theorem i_L_law_1213 : fetch 0 1213 = some (.iadd, 1214, 0, 0, 0, 0) := fr fe_L_law_34 10 rfl
theorem i_L_law_1214 : fetch 0 1214 = some (.iaload, 1215, 0, 0, 0, 0) := fr fe_L_law_34 11 rfl
theorem i_L_law_1215 : fetch 0 1215 = some (.aload_n 0, 1216, 0, 0, 0, 0) := fr fe_L_law_34 12 rfl
theorem i_L_law_1216 : fetch 0 1216 = some (.iload_n 3, 1217, 0, 0, 0, 0) := fr fe_L_law_34 13 rfl
theorem i_L_law_1217 : fetch 0 1217 = some (.iconst 2, 1218, 0, 0, 0, 0) := fr fe_L_law_34 14 rfl
theorem i_L_law_1218 : fetch 0 1218 = some (.iadd, 1219, 0, 0, 0, 0) := fr fe_L_law_34 15 rfl
theorem i_L_law_1219 : fetch 0 1219 = some (.iaload, 1220, 0, 0, 0, 0) := fr fe_L_law_34 16 rfl
theorem i_L_law_1220 : fetch 0 1220 = some (.aload_n 0, 1221, 0, 0, 0, 0) := fr fe_L_law_34 17 rfl
theorem i_L_law_1221 : fetch 0 1221 = some (.iload_n 3, 1222, 0, 0, 0, 0) := fr fe_L_law_34 18 rfl
theorem i_L_law_1222 : fetch 0 1222 = some (.iconst 3, 1223, 0, 0, 0, 0) := fr fe_L_law_34 19 rfl
theorem i_L_law_1223 : fetch 0 1223 = some (.iadd, 1224, 0, 0, 0, 0) := fr fe_L_law_34 20 rfl
theorem i_L_law_1224 : fetch 0 1224 = some (.iaload, 1225, 0, 0, 0, 0) := fr fe_L_law_34 21 rfl
theorem i_L_law_1225 : fetch 0 1225 = some (.invokevirtual 137, 1228, 96, 0, 0, 923) := fr fe_L_law_34 22 rfl
theorem i_L_law_1228 : fetch 0 1228 = some (.aload_n 2, 1229, 0, 0, 0, 0) := fr fe_L_law_34 23 rfl
theorem i_L_law_1229 : fetch 0 1229 = some (.aload_n 0, 1230, 0, 0, 0, 0) := fr fe_L_law_34 24 rfl
theorem i_L_law_1230 : fetch 0 1230 = some (.iload_n 3, 1231, 0, 0, 0, 0) := fr fe_L_law_35 0 rfl
theorem i_L_law_1231 : fetch 0 1231 = some (.iconst 1, 1232, 0, 0, 0, 0) := fr fe_L_law_35 1 rfl
theorem i_L_law_1232 : fetch 0 1232 = some (.iadd, 1233, 0, 0, 0, 0) := fr fe_L_law_35 2 rfl
theorem i_L_law_1233 : fetch 0 1233 = some (.iaload, 1234, 0, 0, 0, 0) := fr fe_L_law_35 3 rfl
theorem i_L_law_1234 : fetch 0 1234 = some (.aload_n 0, 1235, 0, 0, 0, 0) := fr fe_L_law_35 4 rfl
theorem i_L_law_1235 : fetch 0 1235 = some (.iload_n 3, 1236, 0, 0, 0, 0) := fr fe_L_law_35 5 rfl
theorem i_L_law_1236 : fetch 0 1236 = some (.iconst 2, 1237, 0, 0, 0, 0) := fr fe_L_law_35 6 rfl
theorem i_L_law_1237 : fetch 0 1237 = some (.iadd, 1238, 0, 0, 0, 0) := fr fe_L_law_35 7 rfl
theorem i_L_law_1238 : fetch 0 1238 = some (.iaload, 1239, 0, 0, 0, 0) := fr fe_L_law_35 8 rfl
theorem i_L_law_1239 : fetch 0 1239 = some (.aload_n 0, 1240, 0, 0, 0, 0) := fr fe_L_law_35 9 rfl
theorem i_L_law_1240 : fetch 0 1240 = some (.iload_n 3, 1241, 0, 0, 0, 0) := fr fe_L_law_35 10 rfl
theorem i_L_law_1241 : fetch 0 1241 = some (.iconst 3, 1242, 0, 0, 0, 0) := fr fe_L_law_35 11 rfl
theorem i_L_law_1242 : fetch 0 1242 = some (.iadd, 1243, 0, 0, 0, 0) := fr fe_L_law_35 12 rfl
theorem i_L_law_1243 : fetch 0 1243 = some (.iaload, 1244, 0, 0, 0, 0) := fr fe_L_law_35 13 rfl
theorem i_L_law_1244 : fetch 0 1244 = some (.invokevirtual 140, 1247, 201, 0, 0, 1515) := fr fe_L_law_35 14 rfl
theorem i_L_law_1247 : fetch 0 1247 = some (.if_icmp .eq 526, 1250, 0, 0, 0, 0) := fr fe_L_law_35 15 rfl
theorem i_L_law_1250 : fetch 0 1250 = some (.iconst 0, 1251, 0, 0, 0, 0) := fr fe_L_law_35 16 rfl
theorem i_L_law_1251 : fetch 0 1251 = some (.ireturn, 1252, 0, 0, 0, 0) := fr fe_L_law_35 17 rfl
theorem i_L_law_1252 : fetch 0 1252 = some (.aload_n 1, 1253, 0, 0, 0, 0) := fr fe_L_law_35 18 rfl
theorem i_L_law_1253 : fetch 0 1253 = some (.aload_n 0, 1254, 0, 0, 0, 0) := fr fe_L_law_35 19 rfl
theorem i_L_law_1254 : fetch 0 1254 = some (.iload_n 3, 1255, 0, 0, 0, 0) := fr fe_L_law_35 20 rfl
theorem i_L_law_1255 : fetch 0 1255 = some (.iconst 1, 1256, 0, 0, 0, 0) := fr fe_L_law_35 21 rfl
theorem i_L_law_1256 : fetch 0 1256 = some (.iadd, 1257, 0, 0, 0, 0) := fr fe_L_law_35 22 rfl
theorem i_L_law_1257 : fetch 0 1257 = some (.iaload, 1258, 0, 0, 0, 0) := fr fe_L_law_35 23 rfl
theorem i_L_law_1258 : fetch 0 1258 = some (.invokevirtual 141, 1261, 97, 0, 0, 927) := fr fe_L_law_35 24 rfl
theorem i_L_law_1261 : fetch 0 1261 = some (.aload_n 2, 1262, 0, 0, 0, 0) := fr fe_L_law_36 0 rfl
theorem i_L_law_1262 : fetch 0 1262 = some (.aload_n 0, 1263, 0, 0, 0, 0) := fr fe_L_law_36 1 rfl
theorem i_L_law_1263 : fetch 0 1263 = some (.iload_n 3, 1264, 0, 0, 0, 0) := fr fe_L_law_36 2 rfl
theorem i_L_law_1264 : fetch 0 1264 = some (.iconst 1, 1265, 0, 0, 0, 0) := fr fe_L_law_36 3 rfl
theorem i_L_law_1265 : fetch 0 1265 = some (.iadd, 1266, 0, 0, 0, 0) := fr fe_L_law_36 4 rfl
theorem i_L_law_1266 : fetch 0 1266 = some (.iaload, 1267, 0, 0, 0, 0) := fr fe_L_law_36 5 rfl
theorem i_L_law_1267 : fetch 0 1267 = some (.invokevirtual 144, 1270, 202, 0, 0, 1519) := fr fe_L_law_36 6 rfl
theorem i_L_law_1270 : fetch 0 1270 = some (.if_icmp .eq 503, 1273, 0, 0, 0, 0) := fr fe_L_law_36 7 rfl
theorem i_L_law_1273 : fetch 0 1273 = some (.iconst 0, 1274, 0, 0, 0, 0) := fr fe_L_law_36 8 rfl
theorem i_L_law_1274 : fetch 0 1274 = some (.ireturn, 1275, 0, 0, 0, 0) := fr fe_L_law_36 9 rfl
theorem i_L_law_1275 : fetch 0 1275 = some (.aload_n 1, 1276, 0, 0, 0, 0) := fr fe_L_law_36 10 rfl
theorem i_L_law_1276 : fetch 0 1276 = some (.aload_n 0, 1277, 0, 0, 0, 0) := fr fe_L_law_36 11 rfl
theorem i_L_law_1277 : fetch 0 1277 = some (.iload_n 3, 1278, 0, 0, 0, 0) := fr fe_L_law_36 12 rfl
theorem i_L_law_1278 : fetch 0 1278 = some (.iconst 1, 1279, 0, 0, 0, 0) := fr fe_L_law_36 13 rfl
theorem i_L_law_1279 : fetch 0 1279 = some (.iadd, 1280, 0, 0, 0, 0) := fr fe_L_law_36 14 rfl
theorem i_L_law_1280 : fetch 0 1280 = some (.iaload, 1281, 0, 0, 0, 0) := fr fe_L_law_36 15 rfl
theorem i_L_law_1281 : fetch 0 1281 = some (.aload_n 0, 1282, 0, 0, 0, 0) := fr fe_L_law_36 16 rfl
theorem i_L_law_1282 : fetch 0 1282 = some (.iload_n 3, 1283, 0, 0, 0, 0) := fr fe_L_law_36 17 rfl
theorem i_L_law_1283 : fetch 0 1283 = some (.iconst 2, 1284, 0, 0, 0, 0) := fr fe_L_law_36 18 rfl
theorem i_L_law_1284 : fetch 0 1284 = some (.iadd, 1285, 0, 0, 0, 0) := fr fe_L_law_36 19 rfl
theorem i_L_law_1285 : fetch 0 1285 = some (.iaload, 1286, 0, 0, 0, 0) := fr fe_L_law_36 20 rfl
theorem i_L_law_1286 : fetch 0 1286 = some (.aload_n 0, 1287, 0, 0, 0, 0) := fr fe_L_law_36 21 rfl
theorem i_L_law_1287 : fetch 0 1287 = some (.iload_n 3, 1288, 0, 0, 0, 0) := fr fe_L_law_36 22 rfl
theorem i_L_law_1288 : fetch 0 1288 = some (.iconst 3, 1289, 0, 0, 0, 0) := fr fe_L_law_36 23 rfl
theorem i_L_law_1289 : fetch 0 1289 = some (.iadd, 1290, 0, 0, 0, 0) := fr fe_L_law_36 24 rfl
theorem i_L_law_1290 : fetch 0 1290 = some (.iaload, 1291, 0, 0, 0, 0) := fr fe_L_law_37 0 rfl
theorem i_L_law_1291 : fetch 0 1291 = some (.invokevirtual 145, 1294, 98, 0, 0, 931) := fr fe_L_law_37 1 rfl
theorem i_L_law_1294 : fetch 0 1294 = some (.aload_n 2, 1295, 0, 0, 0, 0) := fr fe_L_law_37 2 rfl
theorem i_L_law_1295 : fetch 0 1295 = some (.aload_n 0, 1296, 0, 0, 0, 0) := fr fe_L_law_37 3 rfl
theorem i_L_law_1296 : fetch 0 1296 = some (.iload_n 3, 1297, 0, 0, 0, 0) := fr fe_L_law_37 4 rfl
theorem i_L_law_1297 : fetch 0 1297 = some (.iconst 1, 1298, 0, 0, 0, 0) := fr fe_L_law_37 5 rfl
theorem i_L_law_1298 : fetch 0 1298 = some (.iadd, 1299, 0, 0, 0, 0) := fr fe_L_law_37 6 rfl
theorem i_L_law_1299 : fetch 0 1299 = some (.iaload, 1300, 0, 0, 0, 0) := fr fe_L_law_37 7 rfl
theorem i_L_law_1300 : fetch 0 1300 = some (.aload_n 0, 1301, 0, 0, 0, 0) := fr fe_L_law_37 8 rfl
theorem i_L_law_1301 : fetch 0 1301 = some (.iload_n 3, 1302, 0, 0, 0, 0) := fr fe_L_law_37 9 rfl
theorem i_L_law_1302 : fetch 0 1302 = some (.iconst 2, 1303, 0, 0, 0, 0) := fr fe_L_law_37 10 rfl
theorem i_L_law_1303 : fetch 0 1303 = some (.iadd, 1304, 0, 0, 0, 0) := fr fe_L_law_37 11 rfl
theorem i_L_law_1304 : fetch 0 1304 = some (.iaload, 1305, 0, 0, 0, 0) := fr fe_L_law_37 12 rfl
theorem i_L_law_1305 : fetch 0 1305 = some (.aload_n 0, 1306, 0, 0, 0, 0) := fr fe_L_law_37 13 rfl
theorem i_L_law_1306 : fetch 0 1306 = some (.iload_n 3, 1307, 0, 0, 0, 0) := fr fe_L_law_37 14 rfl
theorem i_L_law_1307 : fetch 0 1307 = some (.iconst 3, 1308, 0, 0, 0, 0) := fr fe_L_law_37 15 rfl
theorem i_L_law_1308 : fetch 0 1308 = some (.iadd, 1309, 0, 0, 0, 0) := fr fe_L_law_37 16 rfl
theorem i_L_law_1309 : fetch 0 1309 = some (.iaload, 1310, 0, 0, 0, 0) := fr fe_L_law_37 17 rfl
theorem i_L_law_1310 : fetch 0 1310 = some (.invokevirtual 148, 1313, 203, 0, 0, 1523) := fr fe_L_law_37 18 rfl
theorem i_L_law_1313 : fetch 0 1313 = some (.if_icmp .eq 460, 1316, 0, 0, 0, 0) := fr fe_L_law_37 19 rfl
theorem i_L_law_1316 : fetch 0 1316 = some (.iconst 0, 1317, 0, 0, 0, 0) := fr fe_L_law_37 20 rfl
theorem i_L_law_1317 : fetch 0 1317 = some (.ireturn, 1318, 0, 0, 0, 0) := fr fe_L_law_37 21 rfl
theorem i_L_law_1318 : fetch 0 1318 = some (.aload_n 1, 1319, 0, 0, 0, 0) := fr fe_L_law_37 22 rfl
theorem i_L_law_1319 : fetch 0 1319 = some (.aload_n 0, 1320, 0, 0, 0, 0) := fr fe_L_law_37 23 rfl
theorem i_L_law_1320 : fetch 0 1320 = some (.iload_n 3, 1321, 0, 0, 0, 0) := fr fe_L_law_37 24 rfl
theorem i_L_law_1321 : fetch 0 1321 = some (.iconst 1, 1322, 0, 0, 0, 0) := fr fe_L_law_38 0 rfl
theorem i_L_law_1322 : fetch 0 1322 = some (.iadd, 1323, 0, 0, 0, 0) := fr fe_L_law_38 1 rfl
theorem i_L_law_1323 : fetch 0 1323 = some (.iaload, 1324, 0, 0, 0, 0) := fr fe_L_law_38 2 rfl
theorem i_L_law_1324 : fetch 0 1324 = some (.aload_n 0, 1325, 0, 0, 0, 0) := fr fe_L_law_38 3 rfl
theorem i_L_law_1325 : fetch 0 1325 = some (.iload_n 3, 1326, 0, 0, 0, 0) := fr fe_L_law_38 4 rfl
theorem i_L_law_1326 : fetch 0 1326 = some (.iconst 2, 1327, 0, 0, 0, 0) := fr fe_L_law_38 5 rfl
theorem i_L_law_1327 : fetch 0 1327 = some (.iadd, 1328, 0, 0, 0, 0) := fr fe_L_law_38 6 rfl
theorem i_L_law_1328 : fetch 0 1328 = some (.iaload, 1329, 0, 0, 0, 0) := fr fe_L_law_38 7 rfl
theorem i_L_law_1329 : fetch 0 1329 = some (.aload_n 0, 1330, 0, 0, 0, 0) := fr fe_L_law_38 8 rfl
theorem i_L_law_1330 : fetch 0 1330 = some (.iload_n 3, 1331, 0, 0, 0, 0) := fr fe_L_law_38 9 rfl
theorem i_L_law_1331 : fetch 0 1331 = some (.iconst 3, 1332, 0, 0, 0, 0) := fr fe_L_law_38 10 rfl
theorem i_L_law_1332 : fetch 0 1332 = some (.iadd, 1333, 0, 0, 0, 0) := fr fe_L_law_38 11 rfl
theorem i_L_law_1333 : fetch 0 1333 = some (.iaload, 1334, 0, 0, 0, 0) := fr fe_L_law_38 12 rfl
theorem i_L_law_1334 : fetch 0 1334 = some (.invokevirtual 149, 1337, 99, 0, 0, 943) := fr fe_L_law_38 13 rfl
theorem i_L_law_1337 : fetch 0 1337 = some (.aload_n 2, 1338, 0, 0, 0, 0) := fr fe_L_law_38 14 rfl
theorem i_L_law_1338 : fetch 0 1338 = some (.aload_n 0, 1339, 0, 0, 0, 0) := fr fe_L_law_38 15 rfl
theorem i_L_law_1339 : fetch 0 1339 = some (.iload_n 3, 1340, 0, 0, 0, 0) := fr fe_L_law_38 16 rfl
theorem i_L_law_1340 : fetch 0 1340 = some (.iconst 1, 1341, 0, 0, 0, 0) := fr fe_L_law_38 17 rfl
theorem i_L_law_1341 : fetch 0 1341 = some (.iadd, 1342, 0, 0, 0, 0) := fr fe_L_law_38 18 rfl
theorem i_L_law_1342 : fetch 0 1342 = some (.iaload, 1343, 0, 0, 0, 0) := fr fe_L_law_38 19 rfl
theorem i_L_law_1343 : fetch 0 1343 = some (.aload_n 0, 1344, 0, 0, 0, 0) := fr fe_L_law_38 20 rfl
theorem i_L_law_1344 : fetch 0 1344 = some (.iload_n 3, 1345, 0, 0, 0, 0) := fr fe_L_law_38 21 rfl
theorem i_L_law_1345 : fetch 0 1345 = some (.iconst 2, 1346, 0, 0, 0, 0) := fr fe_L_law_38 22 rfl
theorem i_L_law_1346 : fetch 0 1346 = some (.iadd, 1347, 0, 0, 0, 0) := fr fe_L_law_38 23 rfl
theorem i_L_law_1347 : fetch 0 1347 = some (.iaload, 1348, 0, 0, 0, 0) := fr fe_L_law_38 24 rfl
theorem i_L_law_1348 : fetch 0 1348 = some (.aload_n 0, 1349, 0, 0, 0, 0) := fr fe_L_law_39 0 rfl
theorem i_L_law_1349 : fetch 0 1349 = some (.iload_n 3, 1350, 0, 0, 0, 0) := fr fe_L_law_39 1 rfl
theorem i_L_law_1350 : fetch 0 1350 = some (.iconst 3, 1351, 0, 0, 0, 0) := fr fe_L_law_39 2 rfl
theorem i_L_law_1351 : fetch 0 1351 = some (.iadd, 1352, 0, 0, 0, 0) := fr fe_L_law_39 3 rfl
theorem i_L_law_1352 : fetch 0 1352 = some (.iaload, 1353, 0, 0, 0, 0) := fr fe_L_law_39 4 rfl
theorem i_L_law_1353 : fetch 0 1353 = some (.invokevirtual 153, 1356, 206, 0, 0, 1528) := fr fe_L_law_39 5 rfl
theorem i_L_law_1356 : fetch 0 1356 = some (.lcmp, 1357, 0, 0, 0, 0) := fr fe_L_law_39 6 rfl
theorem i_L_law_1357 : fetch 0 1357 = some (.ifCond .eq 416, 1360, 0, 0, 0, 0) := fr fe_L_law_39 7 rfl
theorem i_L_law_1360 : fetch 0 1360 = some (.iconst 0, 1361, 0, 0, 0, 0) := fr fe_L_law_39 8 rfl
theorem i_L_law_1361 : fetch 0 1361 = some (.ireturn, 1362, 0, 0, 0, 0) := fr fe_L_law_39 9 rfl
theorem i_L_law_1362 : fetch 0 1362 = some (.aload_n 1, 1363, 0, 0, 0, 0) := fr fe_L_law_39 10 rfl
theorem i_L_law_1363 : fetch 0 1363 = some (.aload_n 0, 1364, 0, 0, 0, 0) := fr fe_L_law_39 11 rfl
theorem i_L_law_1364 : fetch 0 1364 = some (.iload_n 3, 1365, 0, 0, 0, 0) := fr fe_L_law_39 12 rfl
theorem i_L_law_1365 : fetch 0 1365 = some (.iconst 1, 1366, 0, 0, 0, 0) := fr fe_L_law_39 13 rfl
theorem i_L_law_1366 : fetch 0 1366 = some (.iadd, 1367, 0, 0, 0, 0) := fr fe_L_law_39 14 rfl
theorem i_L_law_1367 : fetch 0 1367 = some (.iaload, 1368, 0, 0, 0, 0) := fr fe_L_law_39 15 rfl
theorem i_L_law_1368 : fetch 0 1368 = some (.aload_n 0, 1369, 0, 0, 0, 0) := fr fe_L_law_39 16 rfl
theorem i_L_law_1369 : fetch 0 1369 = some (.iload_n 3, 1370, 0, 0, 0, 0) := fr fe_L_law_39 17 rfl
theorem i_L_law_1370 : fetch 0 1370 = some (.iconst 2, 1371, 0, 0, 0, 0) := fr fe_L_law_39 18 rfl
theorem i_L_law_1371 : fetch 0 1371 = some (.iadd, 1372, 0, 0, 0, 0) := fr fe_L_law_39 19 rfl
theorem i_L_law_1372 : fetch 0 1372 = some (.iaload, 1373, 0, 0, 0, 0) := fr fe_L_law_39 20 rfl
theorem i_L_law_1373 : fetch 0 1373 = some (.aload_n 0, 1374, 0, 0, 0, 0) := fr fe_L_law_39 21 rfl
theorem i_L_law_1374 : fetch 0 1374 = some (.iload_n 3, 1375, 0, 0, 0, 0) := fr fe_L_law_39 22 rfl
theorem i_L_law_1375 : fetch 0 1375 = some (.iconst 3, 1376, 0, 0, 0, 0) := fr fe_L_law_39 23 rfl
theorem i_L_law_1376 : fetch 0 1376 = some (.iadd, 1377, 0, 0, 0, 0) := fr fe_L_law_39 24 rfl
theorem i_L_law_1377 : fetch 0 1377 = some (.iaload, 1378, 0, 0, 0, 0) := fr fe_L_law_40 0 rfl
theorem i_L_law_1378 : fetch 0 1378 = some (.aload_n 0, 1379, 0, 0, 0, 0) := fr fe_L_law_40 1 rfl
theorem i_L_law_1379 : fetch 0 1379 = some (.iload_n 3, 1380, 0, 0, 0, 0) := fr fe_L_law_40 2 rfl
theorem i_L_law_1380 : fetch 0 1380 = some (.iconst 4, 1381, 0, 0, 0, 0) := fr fe_L_law_40 3 rfl
theorem i_L_law_1381 : fetch 0 1381 = some (.iadd, 1382, 0, 0, 0, 0) := fr fe_L_law_40 4 rfl
theorem i_L_law_1382 : fetch 0 1382 = some (.iaload, 1383, 0, 0, 0, 0) := fr fe_L_law_40 5 rfl
theorem i_L_law_1383 : fetch 0 1383 = some (.invokevirtual 154, 1386, 100, 0, 0, 952) := fr fe_L_law_40 6 rfl
theorem i_L_law_1386 : fetch 0 1386 = some (.aload_n 2, 1387, 0, 0, 0, 0) := fr fe_L_law_40 7 rfl
theorem i_L_law_1387 : fetch 0 1387 = some (.aload_n 0, 1388, 0, 0, 0, 0) := fr fe_L_law_40 8 rfl
theorem i_L_law_1388 : fetch 0 1388 = some (.iload_n 3, 1389, 0, 0, 0, 0) := fr fe_L_law_40 9 rfl
theorem i_L_law_1389 : fetch 0 1389 = some (.iconst 1, 1390, 0, 0, 0, 0) := fr fe_L_law_40 10 rfl
theorem i_L_law_1390 : fetch 0 1390 = some (.iadd, 1391, 0, 0, 0, 0) := fr fe_L_law_40 11 rfl
theorem i_L_law_1391 : fetch 0 1391 = some (.iaload, 1392, 0, 0, 0, 0) := fr fe_L_law_40 12 rfl
theorem i_L_law_1392 : fetch 0 1392 = some (.aload_n 0, 1393, 0, 0, 0, 0) := fr fe_L_law_40 13 rfl
theorem i_L_law_1393 : fetch 0 1393 = some (.iload_n 3, 1394, 0, 0, 0, 0) := fr fe_L_law_40 14 rfl
theorem i_L_law_1394 : fetch 0 1394 = some (.iconst 2, 1395, 0, 0, 0, 0) := fr fe_L_law_40 15 rfl
theorem i_L_law_1395 : fetch 0 1395 = some (.iadd, 1396, 0, 0, 0, 0) := fr fe_L_law_40 16 rfl
theorem i_L_law_1396 : fetch 0 1396 = some (.iaload, 1397, 0, 0, 0, 0) := fr fe_L_law_40 17 rfl
theorem i_L_law_1397 : fetch 0 1397 = some (.aload_n 0, 1398, 0, 0, 0, 0) := fr fe_L_law_40 18 rfl
theorem i_L_law_1398 : fetch 0 1398 = some (.iload_n 3, 1399, 0, 0, 0, 0) := fr fe_L_law_40 19 rfl
theorem i_L_law_1399 : fetch 0 1399 = some (.iconst 3, 1400, 0, 0, 0, 0) := fr fe_L_law_40 20 rfl
theorem i_L_law_1400 : fetch 0 1400 = some (.iadd, 1401, 0, 0, 0, 0) := fr fe_L_law_40 21 rfl
theorem i_L_law_1401 : fetch 0 1401 = some (.iaload, 1402, 0, 0, 0, 0) := fr fe_L_law_40 22 rfl
theorem i_L_law_1402 : fetch 0 1402 = some (.aload_n 0, 1403, 0, 0, 0, 0) := fr fe_L_law_40 23 rfl
theorem i_L_law_1403 : fetch 0 1403 = some (.iload_n 3, 1404, 0, 0, 0, 0) := fr fe_L_law_40 24 rfl
theorem i_L_law_1404 : fetch 0 1404 = some (.iconst 4, 1405, 0, 0, 0, 0) := fr fe_L_law_41 0 rfl
theorem i_L_law_1405 : fetch 0 1405 = some (.iadd, 1406, 0, 0, 0, 0) := fr fe_L_law_41 1 rfl
theorem i_L_law_1406 : fetch 0 1406 = some (.iaload, 1407, 0, 0, 0, 0) := fr fe_L_law_41 2 rfl
theorem i_L_law_1407 : fetch 0 1407 = some (.invokevirtual 158, 1410, 208, 0, 0, 1539) := fr fe_L_law_41 3 rfl
theorem i_L_law_1410 : fetch 0 1410 = some (.lcmp, 1411, 0, 0, 0, 0) := fr fe_L_law_41 4 rfl
theorem i_L_law_1411 : fetch 0 1411 = some (.ifCond .eq 362, 1414, 0, 0, 0, 0) := fr fe_L_law_41 5 rfl
theorem i_L_law_1414 : fetch 0 1414 = some (.iconst 0, 1415, 0, 0, 0, 0) := fr fe_L_law_41 6 rfl
theorem i_L_law_1415 : fetch 0 1415 = some (.ireturn, 1416, 0, 0, 0, 0) := fr fe_L_law_41 7 rfl
theorem i_L_law_1416 : fetch 0 1416 = some (.aload_n 1, 1417, 0, 0, 0, 0) := fr fe_L_law_41 8 rfl
theorem i_L_law_1417 : fetch 0 1417 = some (.aload_n 0, 1418, 0, 0, 0, 0) := fr fe_L_law_41 9 rfl
theorem i_L_law_1418 : fetch 0 1418 = some (.iload_n 3, 1419, 0, 0, 0, 0) := fr fe_L_law_41 10 rfl
theorem i_L_law_1419 : fetch 0 1419 = some (.iconst 1, 1420, 0, 0, 0, 0) := fr fe_L_law_41 11 rfl
theorem i_L_law_1420 : fetch 0 1420 = some (.iadd, 1421, 0, 0, 0, 0) := fr fe_L_law_41 12 rfl
theorem i_L_law_1421 : fetch 0 1421 = some (.iaload, 1422, 0, 0, 0, 0) := fr fe_L_law_41 13 rfl
theorem i_L_law_1422 : fetch 0 1422 = some (.aload_n 0, 1423, 0, 0, 0, 0) := fr fe_L_law_41 14 rfl
theorem i_L_law_1423 : fetch 0 1423 = some (.iload_n 3, 1424, 0, 0, 0, 0) := fr fe_L_law_41 15 rfl
theorem i_L_law_1424 : fetch 0 1424 = some (.iconst 2, 1425, 0, 0, 0, 0) := fr fe_L_law_41 16 rfl
theorem i_L_law_1425 : fetch 0 1425 = some (.iadd, 1426, 0, 0, 0, 0) := fr fe_L_law_41 17 rfl
theorem i_L_law_1426 : fetch 0 1426 = some (.iaload, 1427, 0, 0, 0, 0) := fr fe_L_law_41 18 rfl
theorem i_L_law_1427 : fetch 0 1427 = some (.aload_n 0, 1428, 0, 0, 0, 0) := fr fe_L_law_41 19 rfl
theorem i_L_law_1428 : fetch 0 1428 = some (.iload_n 3, 1429, 0, 0, 0, 0) := fr fe_L_law_41 20 rfl
theorem i_L_law_1429 : fetch 0 1429 = some (.iconst 3, 1430, 0, 0, 0, 0) := fr fe_L_law_41 21 rfl
theorem i_L_law_1430 : fetch 0 1430 = some (.iadd, 1431, 0, 0, 0, 0) := fr fe_L_law_41 22 rfl
theorem i_L_law_1431 : fetch 0 1431 = some (.iaload, 1432, 0, 0, 0, 0) := fr fe_L_law_41 23 rfl
theorem i_L_law_1432 : fetch 0 1432 = some (.invokevirtual 159, 1435, 101, 0, 0, 962) := fr fe_L_law_41 24 rfl
theorem i_L_law_1435 : fetch 0 1435 = some (.aload_n 2, 1436, 0, 0, 0, 0) := fr fe_L_law_42 0 rfl
theorem i_L_law_1436 : fetch 0 1436 = some (.aload_n 0, 1437, 0, 0, 0, 0) := fr fe_L_law_42 1 rfl
theorem i_L_law_1437 : fetch 0 1437 = some (.iload_n 3, 1438, 0, 0, 0, 0) := fr fe_L_law_42 2 rfl
theorem i_L_law_1438 : fetch 0 1438 = some (.iconst 1, 1439, 0, 0, 0, 0) := fr fe_L_law_42 3 rfl
theorem i_L_law_1439 : fetch 0 1439 = some (.iadd, 1440, 0, 0, 0, 0) := fr fe_L_law_42 4 rfl
theorem i_L_law_1440 : fetch 0 1440 = some (.iaload, 1441, 0, 0, 0, 0) := fr fe_L_law_42 5 rfl
theorem i_L_law_1441 : fetch 0 1441 = some (.aload_n 0, 1442, 0, 0, 0, 0) := fr fe_L_law_42 6 rfl
theorem i_L_law_1442 : fetch 0 1442 = some (.iload_n 3, 1443, 0, 0, 0, 0) := fr fe_L_law_42 7 rfl
theorem i_L_law_1443 : fetch 0 1443 = some (.iconst 2, 1444, 0, 0, 0, 0) := fr fe_L_law_42 8 rfl
theorem i_L_law_1444 : fetch 0 1444 = some (.iadd, 1445, 0, 0, 0, 0) := fr fe_L_law_42 9 rfl
theorem i_L_law_1445 : fetch 0 1445 = some (.iaload, 1446, 0, 0, 0, 0) := fr fe_L_law_42 10 rfl
theorem i_L_law_1446 : fetch 0 1446 = some (.aload_n 0, 1447, 0, 0, 0, 0) := fr fe_L_law_42 11 rfl
theorem i_L_law_1447 : fetch 0 1447 = some (.iload_n 3, 1448, 0, 0, 0, 0) := fr fe_L_law_42 12 rfl
theorem i_L_law_1448 : fetch 0 1448 = some (.iconst 3, 1449, 0, 0, 0, 0) := fr fe_L_law_42 13 rfl
theorem i_L_law_1449 : fetch 0 1449 = some (.iadd, 1450, 0, 0, 0, 0) := fr fe_L_law_42 14 rfl
theorem i_L_law_1450 : fetch 0 1450 = some (.iaload, 1451, 0, 0, 0, 0) := fr fe_L_law_42 15 rfl
theorem i_L_law_1451 : fetch 0 1451 = some (.invokevirtual 162, 1454, 209, 0, 0, 1546) := fr fe_L_law_42 16 rfl
theorem i_L_law_1454 : fetch 0 1454 = some (.if_icmp .eq 319, 1457, 0, 0, 0, 0) := fr fe_L_law_42 17 rfl
theorem i_L_law_1457 : fetch 0 1457 = some (.iconst 0, 1458, 0, 0, 0, 0) := fr fe_L_law_42 18 rfl
theorem i_L_law_1458 : fetch 0 1458 = some (.ireturn, 1459, 0, 0, 0, 0) := fr fe_L_law_42 19 rfl
theorem i_L_law_1459 : fetch 0 1459 = some (.aload_n 1, 1460, 0, 0, 0, 0) := fr fe_L_law_42 20 rfl
theorem i_L_law_1460 : fetch 0 1460 = some (.aload_n 0, 1461, 0, 0, 0, 0) := fr fe_L_law_42 21 rfl
theorem i_L_law_1461 : fetch 0 1461 = some (.iload_n 3, 1462, 0, 0, 0, 0) := fr fe_L_law_42 22 rfl
theorem i_L_law_1462 : fetch 0 1462 = some (.iconst 1, 1463, 0, 0, 0, 0) := fr fe_L_law_42 23 rfl
theorem i_L_law_1463 : fetch 0 1463 = some (.iadd, 1464, 0, 0, 0, 0) := fr fe_L_law_42 24 rfl
theorem i_L_law_1464 : fetch 0 1464 = some (.iaload, 1465, 0, 0, 0, 0) := fr fe_L_law_43 0 rfl
theorem i_L_law_1465 : fetch 0 1465 = some (.aload_n 0, 1466, 0, 0, 0, 0) := fr fe_L_law_43 1 rfl
theorem i_L_law_1466 : fetch 0 1466 = some (.iload_n 3, 1467, 0, 0, 0, 0) := fr fe_L_law_43 2 rfl
theorem i_L_law_1467 : fetch 0 1467 = some (.iconst 2, 1468, 0, 0, 0, 0) := fr fe_L_law_43 3 rfl
theorem i_L_law_1468 : fetch 0 1468 = some (.iadd, 1469, 0, 0, 0, 0) := fr fe_L_law_43 4 rfl
theorem i_L_law_1469 : fetch 0 1469 = some (.iaload, 1470, 0, 0, 0, 0) := fr fe_L_law_43 5 rfl
theorem i_L_law_1470 : fetch 0 1470 = some (.aload_n 0, 1471, 0, 0, 0, 0) := fr fe_L_law_43 6 rfl
theorem i_L_law_1471 : fetch 0 1471 = some (.iload_n 3, 1472, 0, 0, 0, 0) := fr fe_L_law_43 7 rfl
theorem i_L_law_1472 : fetch 0 1472 = some (.iconst 3, 1473, 0, 0, 0, 0) := fr fe_L_law_43 8 rfl
theorem i_L_law_1473 : fetch 0 1473 = some (.iadd, 1474, 0, 0, 0, 0) := fr fe_L_law_43 9 rfl
theorem i_L_law_1474 : fetch 0 1474 = some (.iaload, 1475, 0, 0, 0, 0) := fr fe_L_law_43 10 rfl
theorem i_L_law_1475 : fetch 0 1475 = some (.aload_n 0, 1476, 0, 0, 0, 0) := fr fe_L_law_43 11 rfl
theorem i_L_law_1476 : fetch 0 1476 = some (.iload_n 3, 1477, 0, 0, 0, 0) := fr fe_L_law_43 12 rfl
theorem i_L_law_1477 : fetch 0 1477 = some (.iconst 4, 1478, 0, 0, 0, 0) := fr fe_L_law_43 13 rfl
theorem i_L_law_1478 : fetch 0 1478 = some (.iadd, 1479, 0, 0, 0, 0) := fr fe_L_law_43 14 rfl
theorem i_L_law_1479 : fetch 0 1479 = some (.iaload, 1480, 0, 0, 0, 0) := fr fe_L_law_43 15 rfl
theorem i_L_law_1480 : fetch 0 1480 = some (.invokevirtual 163, 1483, 102, 0, 0, 966) := fr fe_L_law_43 16 rfl
theorem i_L_law_1483 : fetch 0 1483 = some (.aload_n 2, 1484, 0, 0, 0, 0) := fr fe_L_law_43 17 rfl
theorem i_L_law_1484 : fetch 0 1484 = some (.aload_n 0, 1485, 0, 0, 0, 0) := fr fe_L_law_43 18 rfl
theorem i_L_law_1485 : fetch 0 1485 = some (.iload_n 3, 1486, 0, 0, 0, 0) := fr fe_L_law_43 19 rfl
theorem i_L_law_1486 : fetch 0 1486 = some (.iconst 1, 1487, 0, 0, 0, 0) := fr fe_L_law_43 20 rfl
theorem i_L_law_1487 : fetch 0 1487 = some (.iadd, 1488, 0, 0, 0, 0) := fr fe_L_law_43 21 rfl
theorem i_L_law_1488 : fetch 0 1488 = some (.iaload, 1489, 0, 0, 0, 0) := fr fe_L_law_43 22 rfl
theorem i_L_law_1489 : fetch 0 1489 = some (.aload_n 0, 1490, 0, 0, 0, 0) := fr fe_L_law_43 23 rfl
theorem i_L_law_1490 : fetch 0 1490 = some (.iload_n 3, 1491, 0, 0, 0, 0) := fr fe_L_law_43 24 rfl
theorem i_L_law_1491 : fetch 0 1491 = some (.iconst 2, 1492, 0, 0, 0, 0) := fr fe_L_law_44 0 rfl
theorem i_L_law_1492 : fetch 0 1492 = some (.iadd, 1493, 0, 0, 0, 0) := fr fe_L_law_44 1 rfl
theorem i_L_law_1493 : fetch 0 1493 = some (.iaload, 1494, 0, 0, 0, 0) := fr fe_L_law_44 2 rfl
theorem i_L_law_1494 : fetch 0 1494 = some (.aload_n 0, 1495, 0, 0, 0, 0) := fr fe_L_law_44 3 rfl
theorem i_L_law_1495 : fetch 0 1495 = some (.iload_n 3, 1496, 0, 0, 0, 0) := fr fe_L_law_44 4 rfl
theorem i_L_law_1496 : fetch 0 1496 = some (.iconst 3, 1497, 0, 0, 0, 0) := fr fe_L_law_44 5 rfl
theorem i_L_law_1497 : fetch 0 1497 = some (.iadd, 1498, 0, 0, 0, 0) := fr fe_L_law_44 6 rfl
theorem i_L_law_1498 : fetch 0 1498 = some (.iaload, 1499, 0, 0, 0, 0) := fr fe_L_law_44 7 rfl
theorem i_L_law_1499 : fetch 0 1499 = some (.aload_n 0, 1500, 0, 0, 0, 0) := fr fe_L_law_44 8 rfl
theorem i_L_law_1500 : fetch 0 1500 = some (.iload_n 3, 1501, 0, 0, 0, 0) := fr fe_L_law_44 9 rfl
theorem i_L_law_1501 : fetch 0 1501 = some (.iconst 4, 1502, 0, 0, 0, 0) := fr fe_L_law_44 10 rfl
theorem i_L_law_1502 : fetch 0 1502 = some (.iadd, 1503, 0, 0, 0, 0) := fr fe_L_law_44 11 rfl
theorem i_L_law_1503 : fetch 0 1503 = some (.iaload, 1504, 0, 0, 0, 0) := fr fe_L_law_44 12 rfl
theorem i_L_law_1504 : fetch 0 1504 = some (.invokevirtual 167, 1507, 210, 0, 0, 1550) := fr fe_L_law_44 13 rfl
theorem i_L_law_1507 : fetch 0 1507 = some (.if_icmp .eq 266, 1510, 0, 0, 0, 0) := fr fe_L_law_44 14 rfl
theorem i_L_law_1510 : fetch 0 1510 = some (.iconst 0, 1511, 0, 0, 0, 0) := fr fe_L_law_44 15 rfl
theorem i_L_law_1511 : fetch 0 1511 = some (.ireturn, 1512, 0, 0, 0, 0) := fr fe_L_law_44 16 rfl
theorem i_L_law_1512 : fetch 0 1512 = some (.aload_n 1, 1513, 0, 0, 0, 0) := fr fe_L_law_44 17 rfl
theorem i_L_law_1513 : fetch 0 1513 = some (.invokevirtual 168, 1516, 103, 0, 0, 970) := fr fe_L_law_44 18 rfl
theorem i_L_law_1516 : fetch 0 1516 = some (.aload_n 2, 1517, 0, 0, 0, 0) := fr fe_L_law_44 19 rfl
theorem i_L_law_1517 : fetch 0 1517 = some (.invokevirtual 171, 1520, 211, 0, 0, 1554) := fr fe_L_law_44 20 rfl
theorem i_L_law_1520 : fetch 0 1520 = some (.if_icmp .eq 253, 1523, 0, 0, 0, 0) := fr fe_L_law_44 21 rfl
theorem i_L_law_1523 : fetch 0 1523 = some (.iconst 0, 1524, 0, 0, 0, 0) := fr fe_L_law_44 22 rfl
theorem i_L_law_1524 : fetch 0 1524 = some (.ireturn, 1525, 0, 0, 0, 0) := fr fe_L_law_44 23 rfl
theorem i_L_law_1525 : fetch 0 1525 = some (.aload_n 1, 1526, 0, 0, 0, 0) := fr fe_L_law_44 24 rfl
theorem i_L_law_1526 : fetch 0 1526 = some (.invokevirtual 172, 1529, 104, 0, 0, 974) := fr fe_L_law_45 0 rfl
theorem i_L_law_1529 : fetch 0 1529 = some (.aload_n 2, 1530, 0, 0, 0, 0) := fr fe_L_law_45 1 rfl
theorem i_L_law_1530 : fetch 0 1530 = some (.invokevirtual 175, 1533, 212, 0, 0, 1558) := fr fe_L_law_45 2 rfl
theorem i_L_law_1533 : fetch 0 1533 = some (.if_icmp .eq 240, 1536, 0, 0, 0, 0) := fr fe_L_law_45 3 rfl
theorem i_L_law_1536 : fetch 0 1536 = some (.iconst 0, 1537, 0, 0, 0, 0) := fr fe_L_law_45 4 rfl
theorem i_L_law_1537 : fetch 0 1537 = some (.ireturn, 1538, 0, 0, 0, 0) := fr fe_L_law_45 5 rfl
theorem i_L_law_1538 : fetch 0 1538 = some (.aload_n 1, 1539, 0, 0, 0, 0) := fr fe_L_law_45 6 rfl
theorem i_L_law_1539 : fetch 0 1539 = some (.aload_n 0, 1540, 0, 0, 0, 0) := fr fe_L_law_45 7 rfl
theorem i_L_law_1540 : fetch 0 1540 = some (.iload_n 3, 1541, 0, 0, 0, 0) := fr fe_L_law_45 8 rfl
theorem i_L_law_1541 : fetch 0 1541 = some (.iconst 1, 1542, 0, 0, 0, 0) := fr fe_L_law_45 9 rfl
theorem i_L_law_1542 : fetch 0 1542 = some (.iadd, 1543, 0, 0, 0, 0) := fr fe_L_law_45 10 rfl
theorem i_L_law_1543 : fetch 0 1543 = some (.iaload, 1544, 0, 0, 0, 0) := fr fe_L_law_45 11 rfl
theorem i_L_law_1544 : fetch 0 1544 = some (.aload_n 0, 1545, 0, 0, 0, 0) := fr fe_L_law_45 12 rfl
theorem i_L_law_1545 : fetch 0 1545 = some (.iload_n 3, 1546, 0, 0, 0, 0) := fr fe_L_law_45 13 rfl
theorem i_L_law_1546 : fetch 0 1546 = some (.iconst 2, 1547, 0, 0, 0, 0) := fr fe_L_law_45 14 rfl
theorem i_L_law_1547 : fetch 0 1547 = some (.iadd, 1548, 0, 0, 0, 0) := fr fe_L_law_45 15 rfl
theorem i_L_law_1548 : fetch 0 1548 = some (.iaload, 1549, 0, 0, 0, 0) := fr fe_L_law_45 16 rfl
theorem i_L_law_1549 : fetch 0 1549 = some (.aload_n 0, 1550, 0, 0, 0, 0) := fr fe_L_law_45 17 rfl
theorem i_L_law_1550 : fetch 0 1550 = some (.iload_n 3, 1551, 0, 0, 0, 0) := fr fe_L_law_45 18 rfl
theorem i_L_law_1551 : fetch 0 1551 = some (.iconst 3, 1552, 0, 0, 0, 0) := fr fe_L_law_45 19 rfl
theorem i_L_law_1552 : fetch 0 1552 = some (.iadd, 1553, 0, 0, 0, 0) := fr fe_L_law_45 20 rfl
theorem i_L_law_1553 : fetch 0 1553 = some (.iaload, 1554, 0, 0, 0, 0) := fr fe_L_law_45 21 rfl
theorem i_L_law_1554 : fetch 0 1554 = some (.invokevirtual 176, 1557, 105, 0, 0, 978) := fr fe_L_law_45 22 rfl
theorem i_L_law_1557 : fetch 0 1557 = some (.aload_n 2, 1558, 0, 0, 0, 0) := fr fe_L_law_45 23 rfl
theorem i_L_law_1558 : fetch 0 1558 = some (.aload_n 0, 1559, 0, 0, 0, 0) := fr fe_L_law_45 24 rfl
theorem i_L_law_1559 : fetch 0 1559 = some (.iload_n 3, 1560, 0, 0, 0, 0) := fr fe_L_law_46 0 rfl
theorem i_L_law_1560 : fetch 0 1560 = some (.iconst 1, 1561, 0, 0, 0, 0) := fr fe_L_law_46 1 rfl
theorem i_L_law_1561 : fetch 0 1561 = some (.iadd, 1562, 0, 0, 0, 0) := fr fe_L_law_46 2 rfl
theorem i_L_law_1562 : fetch 0 1562 = some (.iaload, 1563, 0, 0, 0, 0) := fr fe_L_law_46 3 rfl
theorem i_L_law_1563 : fetch 0 1563 = some (.aload_n 0, 1564, 0, 0, 0, 0) := fr fe_L_law_46 4 rfl
theorem i_L_law_1564 : fetch 0 1564 = some (.iload_n 3, 1565, 0, 0, 0, 0) := fr fe_L_law_46 5 rfl
theorem i_L_law_1565 : fetch 0 1565 = some (.iconst 2, 1566, 0, 0, 0, 0) := fr fe_L_law_46 6 rfl
theorem i_L_law_1566 : fetch 0 1566 = some (.iadd, 1567, 0, 0, 0, 0) := fr fe_L_law_46 7 rfl
theorem i_L_law_1567 : fetch 0 1567 = some (.iaload, 1568, 0, 0, 0, 0) := fr fe_L_law_46 8 rfl
theorem i_L_law_1568 : fetch 0 1568 = some (.aload_n 0, 1569, 0, 0, 0, 0) := fr fe_L_law_46 9 rfl
theorem i_L_law_1569 : fetch 0 1569 = some (.iload_n 3, 1570, 0, 0, 0, 0) := fr fe_L_law_46 10 rfl
theorem i_L_law_1570 : fetch 0 1570 = some (.iconst 3, 1571, 0, 0, 0, 0) := fr fe_L_law_46 11 rfl
theorem i_L_law_1571 : fetch 0 1571 = some (.iadd, 1572, 0, 0, 0, 0) := fr fe_L_law_46 12 rfl
theorem i_L_law_1572 : fetch 0 1572 = some (.iaload, 1573, 0, 0, 0, 0) := fr fe_L_law_46 13 rfl
theorem i_L_law_1573 : fetch 0 1573 = some (.invokevirtual 179, 1576, 213, 0, 0, 1562) := fr fe_L_law_46 14 rfl
theorem i_L_law_1576 : fetch 0 1576 = some (.if_icmp .eq 197, 1579, 0, 0, 0, 0) := fr fe_L_law_46 15 rfl
theorem i_L_law_1579 : fetch 0 1579 = some (.iconst 0, 1580, 0, 0, 0, 0) := fr fe_L_law_46 16 rfl
theorem i_L_law_1580 : fetch 0 1580 = some (.ireturn, 1581, 0, 0, 0, 0) := fr fe_L_law_46 17 rfl
theorem i_L_law_1581 : fetch 0 1581 = some (.aload_n 1, 1582, 0, 0, 0, 0) := fr fe_L_law_46 18 rfl
theorem i_L_law_1582 : fetch 0 1582 = some (.aload_n 0, 1583, 0, 0, 0, 0) := fr fe_L_law_46 19 rfl
theorem i_L_law_1583 : fetch 0 1583 = some (.iload_n 3, 1584, 0, 0, 0, 0) := fr fe_L_law_46 20 rfl
theorem i_L_law_1584 : fetch 0 1584 = some (.iconst 1, 1585, 0, 0, 0, 0) := fr fe_L_law_46 21 rfl
theorem i_L_law_1585 : fetch 0 1585 = some (.iadd, 1586, 0, 0, 0, 0) := fr fe_L_law_46 22 rfl
theorem i_L_law_1586 : fetch 0 1586 = some (.iaload, 1587, 0, 0, 0, 0) := fr fe_L_law_46 23 rfl
theorem i_L_law_1587 : fetch 0 1587 = some (.aload_n 0, 1588, 0, 0, 0, 0) := fr fe_L_law_46 24 rfl
theorem i_L_law_1588 : fetch 0 1588 = some (.iload_n 3, 1589, 0, 0, 0, 0) := fr fe_L_law_47 0 rfl
theorem i_L_law_1589 : fetch 0 1589 = some (.iconst 2, 1590, 0, 0, 0, 0) := fr fe_L_law_47 1 rfl
theorem i_L_law_1590 : fetch 0 1590 = some (.iadd, 1591, 0, 0, 0, 0) := fr fe_L_law_47 2 rfl
theorem i_L_law_1591 : fetch 0 1591 = some (.iaload, 1592, 0, 0, 0, 0) := fr fe_L_law_47 3 rfl
theorem i_L_law_1592 : fetch 0 1592 = some (.aload_n 0, 1593, 0, 0, 0, 0) := fr fe_L_law_47 4 rfl
theorem i_L_law_1593 : fetch 0 1593 = some (.iload_n 3, 1594, 0, 0, 0, 0) := fr fe_L_law_47 5 rfl
theorem i_L_law_1594 : fetch 0 1594 = some (.iconst 3, 1595, 0, 0, 0, 0) := fr fe_L_law_47 6 rfl
theorem i_L_law_1595 : fetch 0 1595 = some (.iadd, 1596, 0, 0, 0, 0) := fr fe_L_law_47 7 rfl
theorem i_L_law_1596 : fetch 0 1596 = some (.iaload, 1597, 0, 0, 0, 0) := fr fe_L_law_47 8 rfl
theorem i_L_law_1597 : fetch 0 1597 = some (.invokevirtual 180, 1600, 106, 0, 0, 982) := fr fe_L_law_47 9 rfl
theorem i_L_law_1600 : fetch 0 1600 = some (.aload_n 2, 1601, 0, 0, 0, 0) := fr fe_L_law_47 10 rfl
theorem i_L_law_1601 : fetch 0 1601 = some (.aload_n 0, 1602, 0, 0, 0, 0) := fr fe_L_law_47 11 rfl
theorem i_L_law_1602 : fetch 0 1602 = some (.iload_n 3, 1603, 0, 0, 0, 0) := fr fe_L_law_47 12 rfl
theorem i_L_law_1603 : fetch 0 1603 = some (.iconst 1, 1604, 0, 0, 0, 0) := fr fe_L_law_47 13 rfl
theorem i_L_law_1604 : fetch 0 1604 = some (.iadd, 1605, 0, 0, 0, 0) := fr fe_L_law_47 14 rfl
theorem i_L_law_1605 : fetch 0 1605 = some (.iaload, 1606, 0, 0, 0, 0) := fr fe_L_law_47 15 rfl
theorem i_L_law_1606 : fetch 0 1606 = some (.aload_n 0, 1607, 0, 0, 0, 0) := fr fe_L_law_47 16 rfl
theorem i_L_law_1607 : fetch 0 1607 = some (.iload_n 3, 1608, 0, 0, 0, 0) := fr fe_L_law_47 17 rfl
theorem i_L_law_1608 : fetch 0 1608 = some (.iconst 2, 1609, 0, 0, 0, 0) := fr fe_L_law_47 18 rfl
theorem i_L_law_1609 : fetch 0 1609 = some (.iadd, 1610, 0, 0, 0, 0) := fr fe_L_law_47 19 rfl
theorem i_L_law_1610 : fetch 0 1610 = some (.iaload, 1611, 0, 0, 0, 0) := fr fe_L_law_47 20 rfl
theorem i_L_law_1611 : fetch 0 1611 = some (.aload_n 0, 1612, 0, 0, 0, 0) := fr fe_L_law_47 21 rfl
theorem i_L_law_1612 : fetch 0 1612 = some (.iload_n 3, 1613, 0, 0, 0, 0) := fr fe_L_law_47 22 rfl
theorem i_L_law_1613 : fetch 0 1613 = some (.iconst 3, 1614, 0, 0, 0, 0) := fr fe_L_law_47 23 rfl
theorem i_L_law_1614 : fetch 0 1614 = some (.iadd, 1615, 0, 0, 0, 0) := fr fe_L_law_47 24 rfl
theorem i_L_law_1615 : fetch 0 1615 = some (.iaload, 1616, 0, 0, 0, 0) := fr fe_L_law_48 0 rfl
theorem i_L_law_1616 : fetch 0 1616 = some (.invokevirtual 183, 1619, 214, 0, 0, 1566) := fr fe_L_law_48 1 rfl
theorem i_L_law_1619 : fetch 0 1619 = some (.if_icmp .eq 154, 1622, 0, 0, 0, 0) := fr fe_L_law_48 2 rfl
theorem i_L_law_1622 : fetch 0 1622 = some (.iconst 0, 1623, 0, 0, 0, 0) := fr fe_L_law_48 3 rfl
theorem i_L_law_1623 : fetch 0 1623 = some (.ireturn, 1624, 0, 0, 0, 0) := fr fe_L_law_48 4 rfl
theorem i_L_law_1624 : fetch 0 1624 = some (.aload_n 1, 1625, 0, 0, 0, 0) := fr fe_L_law_48 5 rfl
theorem i_L_law_1625 : fetch 0 1625 = some (.aload_n 0, 1626, 0, 0, 0, 0) := fr fe_L_law_48 6 rfl
theorem i_L_law_1626 : fetch 0 1626 = some (.iload_n 3, 1627, 0, 0, 0, 0) := fr fe_L_law_48 7 rfl
theorem i_L_law_1627 : fetch 0 1627 = some (.iconst 1, 1628, 0, 0, 0, 0) := fr fe_L_law_48 8 rfl
theorem i_L_law_1628 : fetch 0 1628 = some (.iadd, 1629, 0, 0, 0, 0) := fr fe_L_law_48 9 rfl
theorem i_L_law_1629 : fetch 0 1629 = some (.iaload, 1630, 0, 0, 0, 0) := fr fe_L_law_48 10 rfl
theorem i_L_law_1630 : fetch 0 1630 = some (.aload_n 0, 1631, 0, 0, 0, 0) := fr fe_L_law_48 11 rfl
theorem i_L_law_1631 : fetch 0 1631 = some (.iload_n 3, 1632, 0, 0, 0, 0) := fr fe_L_law_48 12 rfl
theorem i_L_law_1632 : fetch 0 1632 = some (.iconst 2, 1633, 0, 0, 0, 0) := fr fe_L_law_48 13 rfl
theorem i_L_law_1633 : fetch 0 1633 = some (.iadd, 1634, 0, 0, 0, 0) := fr fe_L_law_48 14 rfl
theorem i_L_law_1634 : fetch 0 1634 = some (.iaload, 1635, 0, 0, 0, 0) := fr fe_L_law_48 15 rfl
theorem i_L_law_1635 : fetch 0 1635 = some (.aload_n 0, 1636, 0, 0, 0, 0) := fr fe_L_law_48 16 rfl
theorem i_L_law_1636 : fetch 0 1636 = some (.iload_n 3, 1637, 0, 0, 0, 0) := fr fe_L_law_48 17 rfl
theorem i_L_law_1637 : fetch 0 1637 = some (.iconst 3, 1638, 0, 0, 0, 0) := fr fe_L_law_48 18 rfl
theorem i_L_law_1638 : fetch 0 1638 = some (.iadd, 1639, 0, 0, 0, 0) := fr fe_L_law_48 19 rfl
theorem i_L_law_1639 : fetch 0 1639 = some (.iaload, 1640, 0, 0, 0, 0) := fr fe_L_law_48 20 rfl
theorem i_L_law_1640 : fetch 0 1640 = some (.aload_n 0, 1641, 0, 0, 0, 0) := fr fe_L_law_48 21 rfl
theorem i_L_law_1641 : fetch 0 1641 = some (.iload_n 3, 1642, 0, 0, 0, 0) := fr fe_L_law_48 22 rfl
theorem i_L_law_1642 : fetch 0 1642 = some (.iconst 4, 1643, 0, 0, 0, 0) := fr fe_L_law_48 23 rfl
theorem i_L_law_1643 : fetch 0 1643 = some (.iadd, 1644, 0, 0, 0, 0) := fr fe_L_law_48 24 rfl
theorem i_L_law_1644 : fetch 0 1644 = some (.iaload, 1645, 0, 0, 0, 0) := fr fe_L_law_49 0 rfl
theorem i_L_law_1645 : fetch 0 1645 = some (.aload_n 0, 1646, 0, 0, 0, 0) := fr fe_L_law_49 1 rfl
theorem i_L_law_1646 : fetch 0 1646 = some (.iload_n 3, 1647, 0, 0, 0, 0) := fr fe_L_law_49 2 rfl
theorem i_L_law_1647 : fetch 0 1647 = some (.iconst 5, 1648, 0, 0, 0, 0) := fr fe_L_law_49 3 rfl
theorem i_L_law_1648 : fetch 0 1648 = some (.iadd, 1649, 0, 0, 0, 0) := fr fe_L_law_49 4 rfl
theorem i_L_law_1649 : fetch 0 1649 = some (.iaload, 1650, 0, 0, 0, 0) := fr fe_L_law_49 5 rfl
theorem i_L_law_1650 : fetch 0 1650 = some (.invokevirtual 184, 1653, 107, 0, 0, 987) := fr fe_L_law_49 6 rfl
theorem i_L_law_1653 : fetch 0 1653 = some (.aload_n 2, 1654, 0, 0, 0, 0) := fr fe_L_law_49 7 rfl
theorem i_L_law_1654 : fetch 0 1654 = some (.aload_n 0, 1655, 0, 0, 0, 0) := fr fe_L_law_49 8 rfl
theorem i_L_law_1655 : fetch 0 1655 = some (.iload_n 3, 1656, 0, 0, 0, 0) := fr fe_L_law_49 9 rfl
theorem i_L_law_1656 : fetch 0 1656 = some (.iconst 1, 1657, 0, 0, 0, 0) := fr fe_L_law_49 10 rfl
theorem i_L_law_1657 : fetch 0 1657 = some (.iadd, 1658, 0, 0, 0, 0) := fr fe_L_law_49 11 rfl
theorem i_L_law_1658 : fetch 0 1658 = some (.iaload, 1659, 0, 0, 0, 0) := fr fe_L_law_49 12 rfl
theorem i_L_law_1659 : fetch 0 1659 = some (.aload_n 0, 1660, 0, 0, 0, 0) := fr fe_L_law_49 13 rfl
theorem i_L_law_1660 : fetch 0 1660 = some (.iload_n 3, 1661, 0, 0, 0, 0) := fr fe_L_law_49 14 rfl
theorem i_L_law_1661 : fetch 0 1661 = some (.iconst 2, 1662, 0, 0, 0, 0) := fr fe_L_law_49 15 rfl
theorem i_L_law_1662 : fetch 0 1662 = some (.iadd, 1663, 0, 0, 0, 0) := fr fe_L_law_49 16 rfl
theorem i_L_law_1663 : fetch 0 1663 = some (.iaload, 1664, 0, 0, 0, 0) := fr fe_L_law_49 17 rfl
theorem i_L_law_1664 : fetch 0 1664 = some (.aload_n 0, 1665, 0, 0, 0, 0) := fr fe_L_law_49 18 rfl
theorem i_L_law_1665 : fetch 0 1665 = some (.iload_n 3, 1666, 0, 0, 0, 0) := fr fe_L_law_49 19 rfl
theorem i_L_law_1666 : fetch 0 1666 = some (.iconst 3, 1667, 0, 0, 0, 0) := fr fe_L_law_49 20 rfl
theorem i_L_law_1667 : fetch 0 1667 = some (.iadd, 1668, 0, 0, 0, 0) := fr fe_L_law_49 21 rfl
theorem i_L_law_1668 : fetch 0 1668 = some (.iaload, 1669, 0, 0, 0, 0) := fr fe_L_law_49 22 rfl
theorem i_L_law_1669 : fetch 0 1669 = some (.aload_n 0, 1670, 0, 0, 0, 0) := fr fe_L_law_49 23 rfl
theorem i_L_law_1670 : fetch 0 1670 = some (.iload_n 3, 1671, 0, 0, 0, 0) := fr fe_L_law_49 24 rfl
theorem i_L_law_1671 : fetch 0 1671 = some (.iconst 4, 1672, 0, 0, 0, 0) := fr fe_L_law_50 0 rfl
theorem i_L_law_1672 : fetch 0 1672 = some (.iadd, 1673, 0, 0, 0, 0) := fr fe_L_law_50 1 rfl
theorem i_L_law_1673 : fetch 0 1673 = some (.iaload, 1674, 0, 0, 0, 0) := fr fe_L_law_50 2 rfl
theorem i_L_law_1674 : fetch 0 1674 = some (.aload_n 0, 1675, 0, 0, 0, 0) := fr fe_L_law_50 3 rfl
theorem i_L_law_1675 : fetch 0 1675 = some (.iload_n 3, 1676, 0, 0, 0, 0) := fr fe_L_law_50 4 rfl
theorem i_L_law_1676 : fetch 0 1676 = some (.iconst 5, 1677, 0, 0, 0, 0) := fr fe_L_law_50 5 rfl
theorem i_L_law_1677 : fetch 0 1677 = some (.iadd, 1678, 0, 0, 0, 0) := fr fe_L_law_50 6 rfl
theorem i_L_law_1678 : fetch 0 1678 = some (.iaload, 1679, 0, 0, 0, 0) := fr fe_L_law_50 7 rfl
theorem i_L_law_1679 : fetch 0 1679 = some (.invokevirtual 188, 1682, 215, 0, 0, 1570) := fr fe_L_law_50 8 rfl
theorem i_L_law_1682 : fetch 0 1682 = some (.if_icmp .eq 91, 1685, 0, 0, 0, 0) := fr fe_L_law_50 9 rfl
theorem i_L_law_1685 : fetch 0 1685 = some (.iconst 0, 1686, 0, 0, 0, 0) := fr fe_L_law_50 10 rfl
theorem i_L_law_1686 : fetch 0 1686 = some (.ireturn, 1687, 0, 0, 0, 0) := fr fe_L_law_50 11 rfl
theorem i_L_law_1687 : fetch 0 1687 = some (.aload_n 1, 1688, 0, 0, 0, 0) := fr fe_L_law_50 12 rfl
theorem i_L_law_1688 : fetch 0 1688 = some (.aload_n 0, 1689, 0, 0, 0, 0) := fr fe_L_law_50 13 rfl
theorem i_L_law_1689 : fetch 0 1689 = some (.iload_n 3, 1690, 0, 0, 0, 0) := fr fe_L_law_50 14 rfl
theorem i_L_law_1690 : fetch 0 1690 = some (.iconst 1, 1691, 0, 0, 0, 0) := fr fe_L_law_50 15 rfl
theorem i_L_law_1691 : fetch 0 1691 = some (.iadd, 1692, 0, 0, 0, 0) := fr fe_L_law_50 16 rfl
theorem i_L_law_1692 : fetch 0 1692 = some (.iaload, 1693, 0, 0, 0, 0) := fr fe_L_law_50 17 rfl
theorem i_L_law_1693 : fetch 0 1693 = some (.aload_n 0, 1694, 0, 0, 0, 0) := fr fe_L_law_50 18 rfl
theorem i_L_law_1694 : fetch 0 1694 = some (.iload_n 3, 1695, 0, 0, 0, 0) := fr fe_L_law_50 19 rfl
theorem i_L_law_1695 : fetch 0 1695 = some (.iconst 2, 1696, 0, 0, 0, 0) := fr fe_L_law_50 20 rfl
theorem i_L_law_1696 : fetch 0 1696 = some (.iadd, 1697, 0, 0, 0, 0) := fr fe_L_law_50 21 rfl
theorem i_L_law_1697 : fetch 0 1697 = some (.iaload, 1698, 0, 0, 0, 0) := fr fe_L_law_50 22 rfl
theorem i_L_law_1698 : fetch 0 1698 = some (.aload_n 0, 1699, 0, 0, 0, 0) := fr fe_L_law_50 23 rfl
theorem i_L_law_1699 : fetch 0 1699 = some (.iload_n 3, 1700, 0, 0, 0, 0) := fr fe_L_law_50 24 rfl
theorem i_L_law_1700 : fetch 0 1700 = some (.iconst 3, 1701, 0, 0, 0, 0) := fr fe_L_law_51 0 rfl
theorem i_L_law_1701 : fetch 0 1701 = some (.iadd, 1702, 0, 0, 0, 0) := fr fe_L_law_51 1 rfl
theorem i_L_law_1702 : fetch 0 1702 = some (.iaload, 1703, 0, 0, 0, 0) := fr fe_L_law_51 2 rfl
theorem i_L_law_1703 : fetch 0 1703 = some (.aload_n 0, 1704, 0, 0, 0, 0) := fr fe_L_law_51 3 rfl
theorem i_L_law_1704 : fetch 0 1704 = some (.iload_n 3, 1705, 0, 0, 0, 0) := fr fe_L_law_51 4 rfl
theorem i_L_law_1705 : fetch 0 1705 = some (.iconst 4, 1706, 0, 0, 0, 0) := fr fe_L_law_51 5 rfl
theorem i_L_law_1706 : fetch 0 1706 = some (.iadd, 1707, 0, 0, 0, 0) := fr fe_L_law_51 6 rfl
theorem i_L_law_1707 : fetch 0 1707 = some (.iaload, 1708, 0, 0, 0, 0) := fr fe_L_law_51 7 rfl
theorem i_L_law_1708 : fetch 0 1708 = some (.invokevirtual 189, 1711, 108, 0, 0, 991) := fr fe_L_law_51 8 rfl
theorem i_L_law_1711 : fetch 0 1711 = some (.aload_n 2, 1712, 0, 0, 0, 0) := fr fe_L_law_51 9 rfl
theorem i_L_law_1712 : fetch 0 1712 = some (.aload_n 0, 1713, 0, 0, 0, 0) := fr fe_L_law_51 10 rfl
theorem i_L_law_1713 : fetch 0 1713 = some (.iload_n 3, 1714, 0, 0, 0, 0) := fr fe_L_law_51 11 rfl
theorem i_L_law_1714 : fetch 0 1714 = some (.iconst 1, 1715, 0, 0, 0, 0) := fr fe_L_law_51 12 rfl
theorem i_L_law_1715 : fetch 0 1715 = some (.iadd, 1716, 0, 0, 0, 0) := fr fe_L_law_51 13 rfl
theorem i_L_law_1716 : fetch 0 1716 = some (.iaload, 1717, 0, 0, 0, 0) := fr fe_L_law_51 14 rfl
theorem i_L_law_1717 : fetch 0 1717 = some (.aload_n 0, 1718, 0, 0, 0, 0) := fr fe_L_law_51 15 rfl
theorem i_L_law_1718 : fetch 0 1718 = some (.iload_n 3, 1719, 0, 0, 0, 0) := fr fe_L_law_51 16 rfl
theorem i_L_law_1719 : fetch 0 1719 = some (.iconst 2, 1720, 0, 0, 0, 0) := fr fe_L_law_51 17 rfl
theorem i_L_law_1720 : fetch 0 1720 = some (.iadd, 1721, 0, 0, 0, 0) := fr fe_L_law_51 18 rfl
theorem i_L_law_1721 : fetch 0 1721 = some (.iaload, 1722, 0, 0, 0, 0) := fr fe_L_law_51 19 rfl
theorem i_L_law_1722 : fetch 0 1722 = some (.aload_n 0, 1723, 0, 0, 0, 0) := fr fe_L_law_51 20 rfl
theorem i_L_law_1723 : fetch 0 1723 = some (.iload_n 3, 1724, 0, 0, 0, 0) := fr fe_L_law_51 21 rfl
theorem i_L_law_1724 : fetch 0 1724 = some (.iconst 3, 1725, 0, 0, 0, 0) := fr fe_L_law_51 22 rfl
theorem i_L_law_1725 : fetch 0 1725 = some (.iadd, 1726, 0, 0, 0, 0) := fr fe_L_law_51 23 rfl
theorem i_L_law_1726 : fetch 0 1726 = some (.iaload, 1727, 0, 0, 0, 0) := fr fe_L_law_51 24 rfl
theorem i_L_law_1727 : fetch 0 1727 = some (.aload_n 0, 1728, 0, 0, 0, 0) := fr fe_L_law_52 0 rfl
theorem i_L_law_1728 : fetch 0 1728 = some (.iload_n 3, 1729, 0, 0, 0, 0) := fr fe_L_law_52 1 rfl
theorem i_L_law_1729 : fetch 0 1729 = some (.iconst 4, 1730, 0, 0, 0, 0) := fr fe_L_law_52 2 rfl
theorem i_L_law_1730 : fetch 0 1730 = some (.iadd, 1731, 0, 0, 0, 0) := fr fe_L_law_52 3 rfl
theorem i_L_law_1731 : fetch 0 1731 = some (.iaload, 1732, 0, 0, 0, 0) := fr fe_L_law_52 4 rfl
theorem i_L_law_1732 : fetch 0 1732 = some (.invokevirtual 192, 1735, 216, 0, 0, 1574) := fr fe_L_law_52 5 rfl
theorem i_L_law_1735 : fetch 0 1735 = some (.if_icmp .eq 38, 1738, 0, 0, 0, 0) := fr fe_L_law_52 6 rfl
theorem i_L_law_1738 : fetch 0 1738 = some (.iconst 0, 1739, 0, 0, 0, 0) := fr fe_L_law_52 7 rfl
theorem i_L_law_1739 : fetch 0 1739 = some (.ireturn, 1740, 0, 0, 0, 0) := fr fe_L_law_52 8 rfl
theorem i_L_law_1740 : fetch 0 1740 = some (.aload_n 1, 1741, 0, 0, 0, 0) := fr fe_L_law_52 9 rfl
theorem i_L_law_1741 : fetch 0 1741 = some (.aload_n 0, 1742, 0, 0, 0, 0) := fr fe_L_law_52 10 rfl
theorem i_L_law_1742 : fetch 0 1742 = some (.iload_n 3, 1743, 0, 0, 0, 0) := fr fe_L_law_52 11 rfl
theorem i_L_law_1743 : fetch 0 1743 = some (.iconst 1, 1744, 0, 0, 0, 0) := fr fe_L_law_52 12 rfl
theorem i_L_law_1744 : fetch 0 1744 = some (.iadd, 1745, 0, 0, 0, 0) := fr fe_L_law_52 13 rfl
theorem i_L_law_1745 : fetch 0 1745 = some (.iaload, 1746, 0, 0, 0, 0) := fr fe_L_law_52 14 rfl
theorem i_L_law_1746 : fetch 0 1746 = some (.aload_n 0, 1747, 0, 0, 0, 0) := fr fe_L_law_52 15 rfl
theorem i_L_law_1747 : fetch 0 1747 = some (.iload_n 3, 1748, 0, 0, 0, 0) := fr fe_L_law_52 16 rfl
theorem i_L_law_1748 : fetch 0 1748 = some (.iconst 2, 1749, 0, 0, 0, 0) := fr fe_L_law_52 17 rfl
theorem i_L_law_1749 : fetch 0 1749 = some (.iadd, 1750, 0, 0, 0, 0) := fr fe_L_law_52 18 rfl
theorem i_L_law_1750 : fetch 0 1750 = some (.iaload, 1751, 0, 0, 0, 0) := fr fe_L_law_52 19 rfl
theorem i_L_law_1751 : fetch 0 1751 = some (.invokevirtual 193, 1754, 109, 0, 0, 996) := fr fe_L_law_52 20 rfl
theorem i_L_law_1754 : fetch 0 1754 = some (.aload_n 2, 1755, 0, 0, 0, 0) := fr fe_L_law_52 21 rfl
theorem i_L_law_1755 : fetch 0 1755 = some (.aload_n 0, 1756, 0, 0, 0, 0) := fr fe_L_law_52 22 rfl
theorem i_L_law_1756 : fetch 0 1756 = some (.iload_n 3, 1757, 0, 0, 0, 0) := fr fe_L_law_52 23 rfl
theorem i_L_law_1757 : fetch 0 1757 = some (.iconst 1, 1758, 0, 0, 0, 0) := fr fe_L_law_52 24 rfl
theorem i_L_law_1758 : fetch 0 1758 = some (.iadd, 1759, 0, 0, 0, 0) := fr fe_L_law_53 0 rfl
theorem i_L_law_1759 : fetch 0 1759 = some (.iaload, 1760, 0, 0, 0, 0) := fr fe_L_law_53 1 rfl
theorem i_L_law_1760 : fetch 0 1760 = some (.aload_n 0, 1761, 0, 0, 0, 0) := fr fe_L_law_53 2 rfl
theorem i_L_law_1761 : fetch 0 1761 = some (.iload_n 3, 1762, 0, 0, 0, 0) := fr fe_L_law_53 3 rfl
theorem i_L_law_1762 : fetch 0 1762 = some (.iconst 2, 1763, 0, 0, 0, 0) := fr fe_L_law_53 4 rfl
theorem i_L_law_1763 : fetch 0 1763 = some (.iadd, 1764, 0, 0, 0, 0) := fr fe_L_law_53 5 rfl
theorem i_L_law_1764 : fetch 0 1764 = some (.iaload, 1765, 0, 0, 0, 0) := fr fe_L_law_53 6 rfl
theorem i_L_law_1765 : fetch 0 1765 = some (.invokevirtual 196, 1768, 218, 0, 0, 1579) := fr fe_L_law_53 7 rfl
theorem i_L_law_1768 : fetch 0 1768 = some (.if_icmp .eq 5, 1771, 0, 0, 0, 0) := fr fe_L_law_53 8 rfl
theorem i_L_law_1771 : fetch 0 1771 = some (.iconst 0, 1772, 0, 0, 0, 0) := fr fe_L_law_53 9 rfl
theorem i_L_law_1772 : fetch 0 1772 = some (.ireturn, 1773, 0, 0, 0, 0) := fr fe_L_law_53 10 rfl
theorem i_L_law_1773 : fetch 0 1773 = some (.iinc 3 6, 1776, 0, 0, 0, 0) := fr fe_L_law_53 11 rfl
theorem i_L_law_1776 : fetch 0 1776 = some (.goto (-1758), 1779, 0, 0, 0, 0) := fr fe_L_law_53 12 rfl
theorem i_L_law_1779 : fetch 0 1779 = some (.iconst 1, 1780, 0, 0, 0, 0) := fr fe_L_law_53 13 rfl
theorem i_L_law_1780 : fetch 0 1780 = some (.ireturn, 1781, 0, 0, 0, 0) := fr fe_L_law_53 14 rfl
