theorem i_X0_init_0 : fetch 1 0 = some (.aload_n 0, 1, 0, 0, 0, 0) := fr fe_X0_init_1 0 rfl
theorem i_X0_init_1 : fetch 1 1 = some (.invokespecial 3, 4, 1000, 0, 0, 94) := fr fe_X0_init_1 1 rfl
theorem i_X0_init_4 : fetch 1 4 = some (.aload_n 0, 5, 0, 0, 0, 0) := fr fe_X0_init_1 2 rfl
theorem i_X0_init_5 : fetch 1 5 = some (.bipush 12, 7, 0, 0, 0, 0) := fr fe_X0_init_1 3 rfl
theorem i_X0_init_7 : fetch 1 7 = some (.newarray .int, 9, 9, 0, 0, 0) := fr fe_X0_init_1 4 rfl
theorem i_X0_init_9 : fetch 1 9 = some (.putfield 9, 12, 0, 0, 0, 96) := fr fe_X0_init_1 5 rfl
theorem i_X0_init_12 : fetch 1 12 = some (.aload_n 0, 13, 0, 0, 0, 0) := fr fe_X0_init_1 6 rfl
theorem i_X0_init_13 : fetch 1 13 = some (.bipush 12, 15, 0, 0, 0, 0) := fr fe_X0_init_1 7 rfl
theorem i_X0_init_15 : fetch 1 15 = some (.newarray .int, 17, 9, 0, 0, 0) := fr fe_X0_init_1 8 rfl
theorem i_X0_init_17 : fetch 1 17 = some (.putfield 15, 20, 0, 1, 0, 99) := fr fe_X0_init_1 9 rfl
theorem i_X0_init_20 : fetch 1 20 = some (.aload_n 0, 21, 0, 0, 0, 0) := fr fe_X0_init_1 10 rfl
theorem i_X0_init_21 : fetch 1 21 = some (.iconst 3, 22, 0, 0, 0, 0) := fr fe_X0_init_1 11 rfl
theorem i_X0_init_22 : fetch 1 22 = some (.newarray .int, 24, 9, 0, 0, 0) := fr fe_X0_init_1 12 rfl
theorem i_X0_init_24 : fetch 1 24 = some (.dup, 25, 0, 0, 0, 0) := fr fe_X0_init_1 13 rfl
theorem i_X0_init_25 : fetch 1 25 = some (.iconst 0, 26, 0, 0, 0, 0) := fr fe_X0_init_1 14 rfl
theorem i_X0_init_26 : fetch 1 26 = some (.iconst 5, 27, 0, 0, 0, 0) := fr fe_X0_init_1 15 rfl
theorem i_X0_init_27 : fetch 1 27 = some (.iastore, 28, 0, 0, 0, 0) := fr fe_X0_init_1 16 rfl
theorem i_X0_init_28 : fetch 1 28 = some (.dup, 29, 0, 0, 0, 0) := fr fe_X0_init_1 17 rfl
theorem i_X0_init_29 : fetch 1 29 = some (.iconst 1, 30, 0, 0, 0, 0) := fr fe_X0_init_1 18 rfl
theorem i_X0_init_30 : fetch 1 30 = some (.iconst 2, 31, 0, 0, 0, 0) := fr fe_X0_init_1 19 rfl
theorem i_X0_init_31 : fetch 1 31 = some (.iastore, 32, 0, 0, 0, 0) := fr fe_X0_init_1 20 rfl
theorem i_X0_init_32 : fetch 1 32 = some (.dup, 33, 0, 0, 0, 0) := fr fe_X0_init_1 21 rfl
theorem i_X0_init_33 : fetch 1 33 = some (.iconst 2, 34, 0, 0, 0, 0) := fr fe_X0_init_1 22 rfl
theorem i_X0_init_34 : fetch 1 34 = some (.iconst 5, 35, 0, 0, 0, 0) := fr fe_X0_init_1 23 rfl
theorem i_X0_init_35 : fetch 1 35 = some (.iastore, 36, 0, 0, 0, 0) := fr fe_X0_init_1 24 rfl
theorem i_X0_init_36 : fetch 1 36 = some (.putfield 18, 39, 0, 2, 0, 102) := fr fe_X0_init_2 0 rfl
theorem i_X0_init_39 : fetch 1 39 = some (.aload_n 0, 40, 0, 0, 0, 0) := fr fe_X0_init_2 1 rfl
theorem i_X0_init_40 : fetch 1 40 = some (.iconst 0, 41, 0, 0, 0, 0) := fr fe_X0_init_2 2 rfl
theorem i_X0_init_41 : fetch 1 41 = some (.putfield 21, 44, 0, 3, 0, 104) := fr fe_X0_init_2 3 rfl
theorem i_X0_init_44 : fetch 1 44 = some (.iconst 0, 45, 0, 0, 0, 0) := fr fe_X0_init_2 4 rfl
theorem i_X0_init_45 : fetch 1 45 = some (.istore_n 1, 46, 0, 0, 0, 0) := fr fe_X0_init_2 5 rfl
theorem i_X0_init_46 : fetch 1 46 = some (.iload_n 1, 47, 0, 0, 0, 0) := fr fe_X0_init_2 6 rfl
theorem i_X0_init_47 : fetch 1 47 = some (.bipush 12, 49, 0, 0, 0, 0) := fr fe_X0_init_2 7 rfl
theorem i_X0_init_49 : fetch 1 49 = some (.if_icmp .ge 25, 52, 0, 0, 0, 0) := fr fe_X0_init_2 8 rfl
theorem i_X0_init_52 : fetch 1 52 = some (.aload_n 0, 53, 0, 0, 0, 0) := fr fe_X0_init_2 9 rfl
theorem i_X0_init_53 : fetch 1 53 = some (.getfield 9, 56, 0, 0, 0, 96) := fr fe_X0_init_2 10 rfl
theorem i_X0_init_56 : fetch 1 56 = some (.iload_n 1, 57, 0, 0, 0, 0) := fr fe_X0_init_2 11 rfl
theorem i_X0_init_57 : fetch 1 57 = some (.ldc 25, 59, 0, 0, 60000, 95) := fr fe_X0_init_2 12 rfl
theorem i_X0_init_59 : fetch 1 59 = some (.iastore, 60, 0, 0, 0, 0) := fr fe_X0_init_2 13 rfl
theorem i_X0_init_60 : fetch 1 60 = some (.aload_n 0, 61, 0, 0, 0, 0) := fr fe_X0_init_2 14 rfl
theorem i_X0_init_61 : fetch 1 61 = some (.getfield 15, 64, 0, 1, 0, 99) := fr fe_X0_init_2 15 rfl
theorem i_X0_init_64 : fetch 1 64 = some (.iload_n 1, 65, 0, 0, 0, 0) := fr fe_X0_init_2 16 rfl
theorem i_X0_init_65 : fetch 1 65 = some (.bipush 100, 67, 0, 0, 0, 0) := fr fe_X0_init_2 17 rfl
theorem i_X0_init_67 : fetch 1 67 = some (.iastore, 68, 0, 0, 0, 0) := fr fe_X0_init_2 18 rfl
theorem i_X0_init_68 : fetch 1 68 = some (.iinc 1 1, 71, 0, 0, 0, 0) := fr fe_X0_init_2 19 rfl
theorem i_X0_init_71 : fetch 1 71 = some (.goto (-25), 74, 0, 0, 0, 0) := fr fe_X0_init_2 20 rfl
theorem i_X0_init_74 : fetch 1 74 = some (.return_, 75, 0, 0, 0, 0) := fr fe_X0_init_2 21 rfl
theorem i_X0_become_0 : fetch 2 0 = some (.aload_n 1, 1, 0, 0, 0, 0) := fr fe_X0_become 0 rfl
theorem i_X0_become_1 : fetch 2 1 = some (.getfield 9, 4, 0, 0, 0, 96) := fr fe_X0_become 1 rfl
theorem i_X0_become_4 : fetch 2 4 = some (.iconst 0, 5, 0, 0, 0, 0) := fr fe_X0_become 2 rfl
theorem i_X0_become_5 : fetch 2 5 = some (.aload_n 0, 6, 0, 0, 0, 0) := fr fe_X0_become 3 rfl
theorem i_X0_become_6 : fetch 2 6 = some (.getfield 9, 9, 0, 0, 0, 96) := fr fe_X0_become 4 rfl
theorem i_X0_become_9 : fetch 2 9 = some (.iconst 0, 10, 0, 0, 0, 0) := fr fe_X0_become 5 rfl
theorem i_X0_become_10 : fetch 2 10 = some (.bipush 12, 12, 0, 0, 0, 0) := fr fe_X0_become 6 rfl
theorem i_X0_become_12 : fetch 2 12 = some (.invokestatic 26, 15, 1001, 0, 0, 876) := fr fe_X0_become 7 rfl
theorem i_X0_become_15 : fetch 2 15 = some (.aload_n 1, 16, 0, 0, 0, 0) := fr fe_X0_become 8 rfl
theorem i_X0_become_16 : fetch 2 16 = some (.getfield 15, 19, 0, 1, 0, 99) := fr fe_X0_become 9 rfl
theorem i_X0_become_19 : fetch 2 19 = some (.iconst 0, 20, 0, 0, 0, 0) := fr fe_X0_become 10 rfl
theorem i_X0_become_20 : fetch 2 20 = some (.aload_n 0, 21, 0, 0, 0, 0) := fr fe_X0_become 11 rfl
theorem i_X0_become_21 : fetch 2 21 = some (.getfield 15, 24, 0, 1, 0, 99) := fr fe_X0_become 12 rfl
theorem i_X0_become_24 : fetch 2 24 = some (.iconst 0, 25, 0, 0, 0, 0) := fr fe_X0_become 13 rfl
theorem i_X0_become_25 : fetch 2 25 = some (.bipush 12, 27, 0, 0, 0, 0) := fr fe_X0_become 14 rfl
theorem i_X0_become_27 : fetch 2 27 = some (.invokestatic 26, 30, 1001, 0, 0, 876) := fr fe_X0_become 15 rfl
theorem i_X0_become_30 : fetch 2 30 = some (.aload_n 1, 31, 0, 0, 0, 0) := fr fe_X0_become 16 rfl
theorem i_X0_become_31 : fetch 2 31 = some (.getfield 18, 34, 0, 2, 0, 102) := fr fe_X0_become 17 rfl
theorem i_X0_become_34 : fetch 2 34 = some (.iconst 0, 35, 0, 0, 0, 0) := fr fe_X0_become 18 rfl
theorem i_X0_become_35 : fetch 2 35 = some (.aload_n 0, 36, 0, 0, 0, 0) := fr fe_X0_become 19 rfl
theorem i_X0_become_36 : fetch 2 36 = some (.getfield 18, 39, 0, 2, 0, 102) := fr fe_X0_become 20 rfl
theorem i_X0_become_39 : fetch 2 39 = some (.iconst 0, 40, 0, 0, 0, 0) := fr fe_X0_become 21 rfl
theorem i_X0_become_40 : fetch 2 40 = some (.iconst 3, 41, 0, 0, 0, 0) := fr fe_X0_become 22 rfl
theorem i_X0_become_41 : fetch 2 41 = some (.invokestatic 26, 44, 1001, 0, 0, 876) := fr fe_X0_become 23 rfl
theorem i_X0_become_44 : fetch 2 44 = some (.aload_n 0, 45, 0, 0, 0, 0) := fr fe_X0_become 24 rfl
theorem i_X0_become_45 : fetch 2 45 = some (.aload_n 1, 46, 0, 0, 0, 0) := fr fe_X0_become 25 rfl
theorem i_X0_become_46 : fetch 2 46 = some (.getfield 21, 49, 0, 3, 0, 104) := fr fe_X0_become 26 rfl
theorem i_X0_become_49 : fetch 2 49 = some (.putfield 21, 52, 0, 3, 0, 104) := fr fe_X0_become 27 rfl
theorem i_X0_become_52 : fetch 2 52 = some (.return_, 53, 0, 0, 0, 0) := fr fe_X0_become 28 rfl
theorem i_X1_init_0 : fetch 3 0 = some (.aload_n 0, 1, 0, 0, 0, 0) := fr fe_X1_init 0 rfl
theorem i_X1_init_1 : fetch 3 1 = some (.invokespecial 3, 4, 1000, 0, 0, 211) := fr fe_X1_init 1 rfl
theorem i_X1_init_4 : fetch 3 4 = some (.aload_n 0, 5, 0, 0, 0, 0) := fr fe_X1_init 2 rfl
theorem i_X1_init_5 : fetch 3 5 = some (.bipush 6, 7, 0, 0, 0, 0) := fr fe_X1_init 3 rfl
theorem i_X1_init_7 : fetch 3 7 = some (.newarray .int, 9, 9, 0, 0, 0) := fr fe_X1_init 4 rfl
theorem i_X1_init_9 : fetch 3 9 = some (.putfield 11, 12, 1, 0, 0, 212) := fr fe_X1_init 5 rfl
theorem i_X1_init_12 : fetch 3 12 = some (.aload_n 0, 13, 0, 0, 0, 0) := fr fe_X1_init 6 rfl
theorem i_X1_init_13 : fetch 3 13 = some (.iconst 0, 14, 0, 0, 0, 0) := fr fe_X1_init 7 rfl
theorem i_X1_init_14 : fetch 3 14 = some (.putfield 17, 17, 1, 2, 0, 215) := fr fe_X1_init 8 rfl
theorem i_X1_init_17 : fetch 3 17 = some (.aload_n 0, 18, 0, 0, 0, 0) := fr fe_X1_init 9 rfl
theorem i_X1_init_18 : fetch 3 18 = some (.iconst 0, 19, 0, 0, 0, 0) := fr fe_X1_init 10 rfl
theorem i_X1_init_19 : fetch 3 19 = some (.putfield 21, 22, 1, 3, 0, 217) := fr fe_X1_init 11 rfl
theorem i_X1_init_22 : fetch 3 22 = some (.aload_n 0, 23, 0, 0, 0, 0) := fr fe_X1_init 12 rfl
theorem i_X1_init_23 : fetch 3 23 = some (.iconst 0, 24, 0, 0, 0, 0) := fr fe_X1_init 13 rfl
theorem i_X1_init_24 : fetch 3 24 = some (.putfield 24, 27, 1, 4, 0, 220) := fr fe_X1_init 14 rfl
theorem i_X1_init_27 : fetch 3 27 = some (.aload_n 0, 28, 0, 0, 0, 0) := fr fe_X1_init 15 rfl
theorem i_X1_init_28 : fetch 3 28 = some (.lconst 1, 29, 0, 0, 0, 0) := fr fe_X1_init 16 rfl
theorem i_X1_init_29 : fetch 3 29 = some (.putfield 28, 32, 1, 5, 0, 221) := fr fe_X1_init 17 rfl
theorem i_X1_init_32 : fetch 3 32 = some (.aload_n 0, 33, 0, 0, 0, 0) := fr fe_X1_init 18 rfl
theorem i_X1_init_33 : fetch 3 33 = some (.aload_n 1, 34, 0, 0, 0, 0) := fr fe_X1_init 19 rfl
theorem i_X1_init_34 : fetch 3 34 = some (.putfield 32, 37, 1, 1, 0, 213) := fr fe_X1_init 20 rfl
theorem i_X1_init_37 : fetch 3 37 = some (.return_, 38, 0, 0, 0, 0) := fr fe_X1_init 21 rfl
theorem i_X1_wander_0 : fetch 4 0 = some (.aload_n 0, 1, 0, 0, 0, 0) := fr fe_X1_wander 0 rfl
theorem i_X1_wander_1 : fetch 4 1 = some (.iload_n 1, 2, 0, 0, 0, 0) := fr fe_X1_wander 1 rfl
theorem i_X1_wander_2 : fetch 4 2 = some (.iconst (-1), 3, 0, 0, 0, 0) := fr fe_X1_wander 2 rfl
theorem i_X1_wander_3 : fetch 4 3 = some (.if_icmp .eq 7, 6, 0, 0, 0, 0) := fr fe_X1_wander 3 rfl
theorem i_X1_wander_6 : fetch 4 6 = some (.iconst 1, 7, 0, 0, 0, 0) := fr fe_X1_wander 4 rfl
theorem i_X1_wander_7 : fetch 4 7 = some (.goto 4, 10, 0, 0, 0, 0) := fr fe_X1_wander 5 rfl
theorem i_X1_wander_10 : fetch 4 10 = some (.iconst 0, 11, 0, 0, 0, 0) := fr fe_X1_wander 6 rfl
theorem i_X1_wander_11 : fetch 4 11 = some (.putfield 24, 14, 1, 4, 0, 220) := fr fe_X1_wander 7 rfl
theorem i_X1_wander_14 : fetch 4 14 = some (.aload_n 0, 15, 0, 0, 0, 0) := fr fe_X1_wander 8 rfl
theorem i_X1_wander_15 : fetch 4 15 = some (.iload_n 1, 16, 0, 0, 0, 0) := fr fe_X1_wander 9 rfl
theorem i_X1_wander_16 : fetch 4 16 = some (.i2l, 17, 0, 0, 0, 0) := fr fe_X1_wander 10 rfl
theorem i_X1_wander_17 : fetch 4 17 = some (.lconst 1, 18, 0, 0, 0, 0) := fr fe_X1_wander 11 rfl
theorem i_X1_wander_18 : fetch 4 18 = some (.ladd, 19, 0, 0, 0, 0) := fr fe_X1_wander 12 rfl
theorem i_X1_wander_19 : fetch 4 19 = some (.putfield 28, 22, 1, 5, 0, 221) := fr fe_X1_wander 13 rfl
theorem i_X1_wander_22 : fetch 4 22 = some (.return_, 23, 0, 0, 0, 0) := fr fe_X1_wander 14 rfl
theorem i_X3_thick_0 : fetch 39 0 = some (.iload_n 1, 1, 0, 0, 0, 0) := fr fe_X3_thick 0 rfl
theorem i_X3_thick_1 : fetch 39 1 = some (.ifCond .lt 34, 4, 0, 0, 0, 0) := fr fe_X3_thick 1 rfl
theorem i_X3_thick_4 : fetch 39 4 = some (.iload_n 1, 5, 0, 0, 0, 0) := fr fe_X3_thick 2 rfl
theorem i_X3_thick_5 : fetch 39 5 = some (.bipush 12, 7, 0, 0, 0, 0) := fr fe_X3_thick 3 rfl
theorem i_X3_thick_7 : fetch 39 7 = some (.if_icmp .ge 28, 10, 0, 0, 0, 0) := fr fe_X3_thick 4 rfl
theorem i_X3_thick_10 : fetch 39 10 = some (.aload_n 0, 11, 0, 0, 0, 0) := fr fe_X3_thick 5 rfl
theorem i_X3_thick_11 : fetch 39 11 = some (.getfield 15, 14, 3, 1, 0, 243) := fr fe_X3_thick 6 rfl
theorem i_X3_thick_14 : fetch 39 14 = some (.iload_n 1, 15, 0, 0, 0, 0) := fr fe_X3_thick 7 rfl
theorem i_X3_thick_15 : fetch 39 15 = some (.iaload, 16, 0, 0, 0, 0) := fr fe_X3_thick 8 rfl
theorem i_X3_thick_16 : fetch 39 16 = some (.ifCond .le 19, 19, 0, 0, 0, 0) := fr fe_X3_thick 9 rfl
theorem i_X3_thick_19 : fetch 39 19 = some (.aload_n 0, 20, 0, 0, 0, 0) := fr fe_X3_thick 10 rfl
theorem i_X3_thick_20 : fetch 39 20 = some (.getfield 9, 23, 3, 0, 0, 242) := fr fe_X3_thick 11 rfl
theorem i_X3_thick_23 : fetch 39 23 = some (.iload_n 1, 24, 0, 0, 0, 0) := fr fe_X3_thick 12 rfl
theorem i_X3_thick_24 : fetch 39 24 = some (.iaload, 25, 0, 0, 0, 0) := fr fe_X3_thick 13 rfl
theorem i_X3_thick_25 : fetch 39 25 = some (.aload_n 0, 26, 0, 0, 0, 0) := fr fe_X3_thick 14 rfl
theorem i_X3_thick_26 : fetch 39 26 = some (.getfield 15, 29, 3, 1, 0, 243) := fr fe_X3_thick 15 rfl
theorem i_X3_thick_29 : fetch 39 29 = some (.iload_n 1, 30, 0, 0, 0, 0) := fr fe_X3_thick 16 rfl
theorem i_X3_thick_30 : fetch 39 30 = some (.iaload, 31, 0, 0, 0, 0) := fr fe_X3_thick 17 rfl
theorem i_X3_thick_31 : fetch 39 31 = some (.idiv, 32, 0, 0, 0, 0) := fr fe_X3_thick 18 rfl
theorem i_X3_thick_32 : fetch 39 32 = some (.goto 4, 35, 0, 0, 0, 0) := fr fe_X3_thick 19 rfl
theorem i_X3_thick_35 : fetch 39 35 = some (.iconst 0, 36, 0, 0, 0, 0) := fr fe_X3_thick 20 rfl
theorem i_X3_thick_36 : fetch 39 36 = some (.ireturn, 37, 0, 0, 0, 0) := fr fe_X3_thick 21 rfl
theorem i_X6_joined_0 : fetch 65 0 = some (.iload_n 0, 1, 0, 0, 0, 0) := fr fe_X6_joined_1 0 rfl
theorem i_X6_joined_1 : fetch 65 1 = some (.tableswitch 101 (-17) (-11) #[97, 93, 82, 71, 101, 57, 43], 44, 0, 0, 0, 0) := fr fe_X6_joined_1 1 rfl
theorem i_X6_joined_44 : fetch 65 44 = some (.iload_n 1, 45, 0, 0, 0, 0) := fr fe_X6_joined_1 2 rfl
theorem i_X6_joined_45 : fetch 65 45 = some (.ifCond .ne 7, 48, 0, 0, 0, 0) := fr fe_X6_joined_1 3 rfl
theorem i_X6_joined_48 : fetch 65 48 = some (.iload_n 2, 49, 0, 0, 0, 0) := fr fe_X6_joined_1 4 rfl
theorem i_X6_joined_49 : fetch 65 49 = some (.ifCond .eq 7, 52, 0, 0, 0, 0) := fr fe_X6_joined_1 5 rfl
theorem i_X6_joined_52 : fetch 65 52 = some (.iconst 1, 53, 0, 0, 0, 0) := fr fe_X6_joined_1 6 rfl
theorem i_X6_joined_53 : fetch 65 53 = some (.goto 4, 56, 0, 0, 0, 0) := fr fe_X6_joined_1 7 rfl
theorem i_X6_joined_56 : fetch 65 56 = some (.iconst 0, 57, 0, 0, 0, 0) := fr fe_X6_joined_1 8 rfl
theorem i_X6_joined_57 : fetch 65 57 = some (.ireturn, 58, 0, 0, 0, 0) := fr fe_X6_joined_1 9 rfl
theorem i_X6_joined_58 : fetch 65 58 = some (.iload_n 1, 59, 0, 0, 0, 0) := fr fe_X6_joined_1 10 rfl
theorem i_X6_joined_59 : fetch 65 59 = some (.ifCond .eq 11, 62, 0, 0, 0, 0) := fr fe_X6_joined_1 11 rfl
theorem i_X6_joined_62 : fetch 65 62 = some (.iload_n 2, 63, 0, 0, 0, 0) := fr fe_X6_joined_1 12 rfl
theorem i_X6_joined_63 : fetch 65 63 = some (.ifCond .eq 7, 66, 0, 0, 0, 0) := fr fe_X6_joined_1 13 rfl
theorem i_X6_joined_66 : fetch 65 66 = some (.iconst 1, 67, 0, 0, 0, 0) := fr fe_X6_joined_1 14 rfl
theorem i_X6_joined_67 : fetch 65 67 = some (.goto 4, 70, 0, 0, 0, 0) := fr fe_X6_joined_1 15 rfl
theorem i_X6_joined_70 : fetch 65 70 = some (.iconst 0, 71, 0, 0, 0, 0) := fr fe_X6_joined_1 16 rfl
theorem i_X6_joined_71 : fetch 65 71 = some (.ireturn, 72, 0, 0, 0, 0) := fr fe_X6_joined_1 17 rfl
theorem i_X6_joined_72 : fetch 65 72 = some (.iload_n 1, 73, 0, 0, 0, 0) := fr fe_X6_joined_1 18 rfl
theorem i_X6_joined_73 : fetch 65 73 = some (.iload_n 2, 74, 0, 0, 0, 0) := fr fe_X6_joined_1 19 rfl
theorem i_X6_joined_74 : fetch 65 74 = some (.if_icmp .ge 7, 77, 0, 0, 0, 0) := fr fe_X6_joined_1 20 rfl
theorem i_X6_joined_77 : fetch 65 77 = some (.iconst 1, 78, 0, 0, 0, 0) := fr fe_X6_joined_1 21 rfl
theorem i_X6_joined_78 : fetch 65 78 = some (.goto 4, 81, 0, 0, 0, 0) := fr fe_X6_joined_1 22 rfl
theorem i_X6_joined_81 : fetch 65 81 = some (.iconst 0, 82, 0, 0, 0, 0) := fr fe_X6_joined_1 23 rfl
theorem i_X6_joined_82 : fetch 65 82 = some (.ireturn, 83, 0, 0, 0, 0) := fr fe_X6_joined_1 24 rfl
theorem i_X6_joined_83 : fetch 65 83 = some (.iload_n 1, 84, 0, 0, 0, 0) := fr fe_X6_joined_2 0 rfl
theorem i_X6_joined_84 : fetch 65 84 = some (.iload_n 2, 85, 0, 0, 0, 0) := fr fe_X6_joined_2 1 rfl
theorem i_X6_joined_85 : fetch 65 85 = some (.if_icmp .ne 7, 88, 0, 0, 0, 0) := fr fe_X6_joined_2 2 rfl
theorem i_X6_joined_88 : fetch 65 88 = some (.iconst 1, 89, 0, 0, 0, 0) := fr fe_X6_joined_2 3 rfl
theorem i_X6_joined_89 : fetch 65 89 = some (.goto 4, 92, 0, 0, 0, 0) := fr fe_X6_joined_2 4 rfl
theorem i_X6_joined_92 : fetch 65 92 = some (.iconst 0, 93, 0, 0, 0, 0) := fr fe_X6_joined_2 5 rfl
theorem i_X6_joined_93 : fetch 65 93 = some (.ireturn, 94, 0, 0, 0, 0) := fr fe_X6_joined_2 6 rfl
theorem i_X6_joined_94 : fetch 65 94 = some (.iload_n 1, 95, 0, 0, 0, 0) := fr fe_X6_joined_2 7 rfl
theorem i_X6_joined_95 : fetch 65 95 = some (.iload_n 2, 96, 0, 0, 0, 0) := fr fe_X6_joined_2 8 rfl
theorem i_X6_joined_96 : fetch 65 96 = some (.iadd, 97, 0, 0, 0, 0) := fr fe_X6_joined_2 9 rfl
theorem i_X6_joined_97 : fetch 65 97 = some (.ireturn, 98, 0, 0, 0, 0) := fr fe_X6_joined_2 10 rfl
theorem i_X6_joined_98 : fetch 65 98 = some (.iload_n 1, 99, 0, 0, 0, 0) := fr fe_X6_joined_2 11 rfl
theorem i_X6_joined_99 : fetch 65 99 = some (.iload_n 2, 100, 0, 0, 0, 0) := fr fe_X6_joined_2 12 rfl
theorem i_X6_joined_100 : fetch 65 100 = some (.isub, 101, 0, 0, 0, 0) := fr fe_X6_joined_2 13 rfl
theorem i_X6_joined_101 : fetch 65 101 = some (.ireturn, 102, 0, 0, 0, 0) := fr fe_X6_joined_2 14 rfl
theorem i_X6_joined_102 : fetch 65 102 = some (.iload_n 1, 103, 0, 0, 0, 0) := fr fe_X6_joined_2 15 rfl
theorem i_X6_joined_103 : fetch 65 103 = some (.iload_n 2, 104, 0, 0, 0, 0) := fr fe_X6_joined_2 16 rfl
theorem i_X6_joined_104 : fetch 65 104 = some (.imul, 105, 0, 0, 0, 0) := fr fe_X6_joined_2 17 rfl
theorem i_X6_joined_105 : fetch 65 105 = some (.ireturn, 106, 0, 0, 0, 0) := fr fe_X6_joined_2 18 rfl
theorem i_X6_named_0 : fetch 64 0 = some (.iconst (-1), 1, 0, 0, 0, 0) := fr fe_X6_named 0 rfl
theorem i_X6_named_1 : fetch 64 1 = some (.iload_n 0, 2, 0, 0, 0, 0) := fr fe_X6_named 1 rfl
theorem i_X6_named_2 : fetch 64 2 = some (.isub, 3, 0, 0, 0, 0) := fr fe_X6_named 2 rfl
theorem i_X6_named_3 : fetch 64 3 = some (.istore_n 2, 4, 0, 0, 0, 0) := fr fe_X6_named 3 rfl
theorem i_X6_named_4 : fetch 64 4 = some (.iload_n 2, 5, 0, 0, 0, 0) := fr fe_X6_named 4 rfl
theorem i_X6_named_5 : fetch 64 5 = some (.ifCond .lt 15, 8, 0, 0, 0, 0) := fr fe_X6_named 5 rfl
theorem i_X6_named_8 : fetch 64 8 = some (.iload_n 2, 9, 0, 0, 0, 0) := fr fe_X6_named 6 rfl
theorem i_X6_named_9 : fetch 64 9 = some (.aload_n 1, 10, 0, 0, 0, 0) := fr fe_X6_named 7 rfl
theorem i_X6_named_10 : fetch 64 10 = some (.arraylength, 11, 0, 0, 0, 0) := fr fe_X6_named 8 rfl
theorem i_X6_named_11 : fetch 64 11 = some (.if_icmp .ge 9, 14, 0, 0, 0, 0) := fr fe_X6_named 9 rfl
theorem i_X6_named_14 : fetch 64 14 = some (.aload_n 1, 15, 0, 0, 0, 0) := fr fe_X6_named 10 rfl
theorem i_X6_named_15 : fetch 64 15 = some (.iload_n 2, 16, 0, 0, 0, 0) := fr fe_X6_named 11 rfl
theorem i_X6_named_16 : fetch 64 16 = some (.iaload, 17, 0, 0, 0, 0) := fr fe_X6_named 12 rfl
theorem i_X6_named_17 : fetch 64 17 = some (.goto 4, 20, 0, 0, 0, 0) := fr fe_X6_named 13 rfl
theorem i_X6_named_20 : fetch 64 20 = some (.iconst 0, 21, 0, 0, 0, 0) := fr fe_X6_named 14 rfl
theorem i_X6_named_21 : fetch 64 21 = some (.ireturn, 22, 0, 0, 0, 0) := fr fe_X6_named 15 rfl
theorem i_X7_within_0 : fetch 110 0 = some (.iload_n 0, 1, 0, 0, 0, 0) := fr fe_X7_within 0 rfl
theorem i_X7_within_1 : fetch 110 1 = some (.iload_n 1, 2, 0, 0, 0, 0) := fr fe_X7_within 1 rfl
theorem i_X7_within_2 : fetch 110 2 = some (.if_icmp .lt 12, 5, 0, 0, 0, 0) := fr fe_X7_within 2 rfl
theorem i_X7_within_5 : fetch 110 5 = some (.iload_n 0, 6, 0, 0, 0, 0) := fr fe_X7_within 3 rfl
theorem i_X7_within_6 : fetch 110 6 = some (.iload_n 2, 7, 0, 0, 0, 0) := fr fe_X7_within 4 rfl
theorem i_X7_within_7 : fetch 110 7 = some (.if_icmp .gt 7, 10, 0, 0, 0, 0) := fr fe_X7_within 5 rfl
theorem i_X7_within_10 : fetch 110 10 = some (.iconst 1, 11, 0, 0, 0, 0) := fr fe_X7_within 6 rfl
theorem i_X7_within_11 : fetch 110 11 = some (.goto 4, 14, 0, 0, 0, 0) := fr fe_X7_within 7 rfl
theorem i_X7_within_14 : fetch 110 14 = some (.iconst 0, 15, 0, 0, 0, 0) := fr fe_X7_within 8 rfl
theorem i_X7_within_15 : fetch 110 15 = some (.ireturn, 16, 0, 0, 0, 0) := fr fe_X7_within 9 rfl
theorem i_X6_value_0 : fetch 63 0 = some (.iload_n 1, 1, 0, 0, 0, 0) := fr fe_X6_value_1 0 rfl
theorem i_X6_value_1 : fetch 63 1 = some (.iconst 0, 2, 0, 0, 0, 0) := fr fe_X6_value_1 1 rfl
theorem i_X6_value_2 : fetch 63 2 = some (.iconst 2, 3, 0, 0, 0, 0) := fr fe_X6_value_1 2 rfl
theorem i_X6_value_3 : fetch 63 3 = some (.invokestatic 25, 6, 110, 1, 0, 498) := fr fe_X6_value_1 3 rfl
theorem i_X6_value_6 : fetch 63 6 = some (.ifCond .ne 5, 9, 0, 0, 0, 0) := fr fe_X6_value_1 4 rfl
theorem i_X6_value_9 : fetch 63 9 = some (.iconst 0, 10, 0, 0, 0, 0) := fr fe_X6_value_1 5 rfl
theorem i_X6_value_10 : fetch 63 10 = some (.ireturn, 11, 0, 0, 0, 0) := fr fe_X6_value_1 6 rfl
theorem i_X6_value_11 : fetch 63 11 = some (.iconst (-1), 12, 0, 0, 0, 0) := fr fe_X6_value_1 7 rfl
theorem i_X6_value_12 : fetch 63 12 = some (.istore_n 3, 13, 0, 0, 0, 0) := fr fe_X6_value_1 8 rfl
theorem i_X6_value_13 : fetch 63 13 = some (.iload_n 1, 14, 0, 0, 0, 0) := fr fe_X6_value_1 9 rfl
theorem i_X6_value_14 : fetch 63 14 = some (.ifCond .ne 7, 17, 0, 0, 0, 0) := fr fe_X6_value_1 10 rfl
theorem i_X6_value_17 : fetch 63 17 = some (.iconst 0, 18, 0, 0, 0, 0) := fr fe_X6_value_1 11 rfl
theorem i_X6_value_18 : fetch 63 18 = some (.goto 11, 21, 0, 0, 0, 0) := fr fe_X6_value_1 12 rfl
theorem i_X6_value_21 : fetch 63 21 = some (.aload_n 0, 22, 0, 0, 0, 0) := fr fe_X6_value_1 13 rfl
theorem i_X6_value_22 : fetch 63 22 = some (.getfield 15, 25, 6, 1, 0, 175) := fr fe_X6_value_1 14 rfl
theorem i_X6_value_25 : fetch 63 25 = some (.iload_n 1, 26, 0, 0, 0, 0) := fr fe_X6_value_1 15 rfl
theorem i_X6_value_26 : fetch 63 26 = some (.iconst 1, 27, 0, 0, 0, 0) := fr fe_X6_value_1 16 rfl
theorem i_X6_value_27 : fetch 63 27 = some (.isub, 28, 0, 0, 0, 0) := fr fe_X6_value_1 17 rfl
theorem i_X6_value_28 : fetch 63 28 = some (.iaload, 29, 0, 0, 0, 0) := fr fe_X6_value_1 18 rfl
theorem i_X6_value_29 : fetch 63 29 = some (.istore 4, 31, 0, 0, 0, 0) := fr fe_X6_value_1 19 rfl
theorem i_X6_value_31 : fetch 63 31 = some (.iload 4, 33, 0, 0, 0, 0) := fr fe_X6_value_1 20 rfl
theorem i_X6_value_33 : fetch 63 33 = some (.aload_n 0, 34, 0, 0, 0, 0) := fr fe_X6_value_1 21 rfl
theorem i_X6_value_34 : fetch 63 34 = some (.getfield 15, 37, 6, 1, 0, 175) := fr fe_X6_value_1 22 rfl
theorem i_X6_value_37 : fetch 63 37 = some (.iload_n 1, 38, 0, 0, 0, 0) := fr fe_X6_value_1 23 rfl
theorem i_X6_value_38 : fetch 63 38 = some (.iaload, 39, 0, 0, 0, 0) := fr fe_X6_value_1 24 rfl
theorem i_X6_value_39 : fetch 63 39 = some (.if_icmp .ge 164, 42, 0, 0, 0, 0) := fr fe_X6_value_2 0 rfl
theorem i_X6_value_42 : fetch 63 42 = some (.iload 4, 44, 0, 0, 0, 0) := fr fe_X6_value_2 1 rfl
theorem i_X6_value_44 : fetch 63 44 = some (.sipush 160, 47, 0, 0, 0, 0) := fr fe_X6_value_2 2 rfl
theorem i_X6_value_47 : fetch 63 47 = some (.if_icmp .ge 156, 50, 0, 0, 0, 0) := fr fe_X6_value_2 3 rfl
theorem i_X6_value_50 : fetch 63 50 = some (.aload_n 0, 51, 0, 0, 0, 0) := fr fe_X6_value_2 4 rfl
theorem i_X6_value_51 : fetch 63 51 = some (.getfield 9, 54, 6, 0, 0, 174) := fr fe_X6_value_2 5 rfl
theorem i_X6_value_54 : fetch 63 54 = some (.iload 4, 56, 0, 0, 0, 0) := fr fe_X6_value_2 6 rfl
theorem i_X6_value_56 : fetch 63 56 = some (.iaload, 57, 0, 0, 0, 0) := fr fe_X6_value_2 7 rfl
theorem i_X6_value_57 : fetch 63 57 = some (.istore 5, 59, 0, 0, 0, 0) := fr fe_X6_value_2 8 rfl
theorem i_X6_value_59 : fetch 63 59 = some (.iload 5, 61, 0, 0, 0, 0) := fr fe_X6_value_2 9 rfl
theorem i_X6_value_61 : fetch 63 61 = some (.bipush (-11), 63, 0, 0, 0, 0) := fr fe_X6_value_2 10 rfl
theorem i_X6_value_63 : fetch 63 63 = some (.if_icmp .le 39, 66, 0, 0, 0, 0) := fr fe_X6_value_2 11 rfl
theorem i_X6_value_66 : fetch 63 66 = some (.iinc 3 1, 69, 0, 0, 0, 0) := fr fe_X6_value_2 12 rfl
theorem i_X6_value_69 : fetch 63 69 = some (.iload_n 3, 70, 0, 0, 0, 0) := fr fe_X6_value_2 13 rfl
theorem i_X6_value_70 : fetch 63 70 = some (.bipush 40, 72, 0, 0, 0, 0) := fr fe_X6_value_2 14 rfl
theorem i_X6_value_72 : fetch 63 72 = some (.if_icmp .lt 5, 75, 0, 0, 0, 0) := fr fe_X6_value_2 15 rfl
theorem i_X6_value_75 : fetch 63 75 = some (.iconst 0, 76, 0, 0, 0, 0) := fr fe_X6_value_2 16 rfl
theorem i_X6_value_76 : fetch 63 76 = some (.ireturn, 77, 0, 0, 0, 0) := fr fe_X6_value_2 17 rfl
theorem i_X6_value_77 : fetch 63 77 = some (.aload_n 0, 78, 0, 0, 0, 0) := fr fe_X6_value_2 18 rfl
theorem i_X6_value_78 : fetch 63 78 = some (.getfield 18, 81, 6, 2, 0, 176) := fr fe_X6_value_2 19 rfl
theorem i_X6_value_81 : fetch 63 81 = some (.iload_n 3, 82, 0, 0, 0, 0) := fr fe_X6_value_2 20 rfl
theorem i_X6_value_82 : fetch 63 82 = some (.iload 5, 84, 0, 0, 0, 0) := fr fe_X6_value_2 21 rfl
theorem i_X6_value_84 : fetch 63 84 = some (.ifCond .lt 8, 87, 0, 0, 0, 0) := fr fe_X6_value_2 22 rfl
theorem i_X6_value_87 : fetch 63 87 = some (.iload 5, 89, 0, 0, 0, 0) := fr fe_X6_value_2 23 rfl
theorem i_X6_value_89 : fetch 63 89 = some (.goto 9, 92, 0, 0, 0, 0) := fr fe_X6_value_2 24 rfl
theorem i_X6_value_92 : fetch 63 92 = some (.iload 5, 94, 0, 0, 0, 0) := fr fe_X6_value_3 0 rfl
theorem i_X6_value_94 : fetch 63 94 = some (.aload_n 2, 95, 0, 0, 0, 0) := fr fe_X6_value_3 1 rfl
theorem i_X6_value_95 : fetch 63 95 = some (.invokestatic 29, 98, 64, 0, 0, 672) := fr fe_X6_value_3 2 rfl
theorem i_X6_value_98 : fetch 63 98 = some (.iastore, 99, 0, 0, 0, 0) := fr fe_X6_value_3 3 rfl
theorem i_X6_value_99 : fetch 63 99 = some (.goto 98, 102, 0, 0, 0, 0) := fr fe_X6_value_3 4 rfl
theorem i_X6_value_102 : fetch 63 102 = some (.iload 5, 104, 0, 0, 0, 0) := fr fe_X6_value_3 5 rfl
theorem i_X6_value_104 : fetch 63 104 = some (.bipush (-13), 106, 0, 0, 0, 0) := fr fe_X6_value_3 6 rfl
theorem i_X6_value_106 : fetch 63 106 = some (.if_icmp .eq 10, 109, 0, 0, 0, 0) := fr fe_X6_value_3 7 rfl
theorem i_X6_value_109 : fetch 63 109 = some (.iload 5, 111, 0, 0, 0, 0) := fr fe_X6_value_3 8 rfl
theorem i_X6_value_111 : fetch 63 111 = some (.bipush (-19), 113, 0, 0, 0, 0) := fr fe_X6_value_3 9 rfl
theorem i_X6_value_113 : fetch 63 113 = some (.if_icmp .ne 49, 116, 0, 0, 0, 0) := fr fe_X6_value_3 10 rfl
theorem i_X6_value_116 : fetch 63 116 = some (.iload_n 3, 117, 0, 0, 0, 0) := fr fe_X6_value_3 11 rfl
theorem i_X6_value_117 : fetch 63 117 = some (.ifCond .ge 5, 120, 0, 0, 0, 0) := fr fe_X6_value_3 12 rfl
theorem i_X6_value_120 : fetch 63 120 = some (.iconst 0, 121, 0, 0, 0, 0) := fr fe_X6_value_3 13 rfl
theorem i_X6_value_121 : fetch 63 121 = some (.ireturn, 122, 0, 0, 0, 0) := fr fe_X6_value_3 14 rfl
theorem i_X6_value_122 : fetch 63 122 = some (.aload_n 0, 123, 0, 0, 0, 0) := fr fe_X6_value_3 15 rfl
theorem i_X6_value_123 : fetch 63 123 = some (.getfield 18, 126, 6, 2, 0, 176) := fr fe_X6_value_3 16 rfl
theorem i_X6_value_126 : fetch 63 126 = some (.iload_n 3, 127, 0, 0, 0, 0) := fr fe_X6_value_3 17 rfl
theorem i_X6_value_127 : fetch 63 127 = some (.iload 5, 129, 0, 0, 0, 0) := fr fe_X6_value_3 18 rfl
theorem i_X6_value_129 : fetch 63 129 = some (.bipush (-19), 131, 0, 0, 0, 0) := fr fe_X6_value_3 19 rfl
theorem i_X6_value_131 : fetch 63 131 = some (.if_icmp .ne 13, 134, 0, 0, 0, 0) := fr fe_X6_value_3 20 rfl
theorem i_X6_value_134 : fetch 63 134 = some (.aload_n 0, 135, 0, 0, 0, 0) := fr fe_X6_value_3 21 rfl
theorem i_X6_value_135 : fetch 63 135 = some (.getfield 18, 138, 6, 2, 0, 176) := fr fe_X6_value_3 22 rfl
theorem i_X6_value_138 : fetch 63 138 = some (.iload_n 3, 139, 0, 0, 0, 0) := fr fe_X6_value_3 23 rfl
theorem i_X6_value_139 : fetch 63 139 = some (.iaload, 140, 0, 0, 0, 0) := fr fe_X6_value_3 24 rfl
theorem i_X6_value_140 : fetch 63 140 = some (.ineg, 141, 0, 0, 0, 0) := fr fe_X6_value_4 0 rfl
theorem i_X6_value_141 : fetch 63 141 = some (.goto 17, 144, 0, 0, 0, 0) := fr fe_X6_value_4 1 rfl
theorem i_X6_value_144 : fetch 63 144 = some (.aload_n 0, 145, 0, 0, 0, 0) := fr fe_X6_value_4 2 rfl
theorem i_X6_value_145 : fetch 63 145 = some (.getfield 18, 148, 6, 2, 0, 176) := fr fe_X6_value_4 3 rfl
theorem i_X6_value_148 : fetch 63 148 = some (.iload_n 3, 149, 0, 0, 0, 0) := fr fe_X6_value_4 4 rfl
theorem i_X6_value_149 : fetch 63 149 = some (.iaload, 150, 0, 0, 0, 0) := fr fe_X6_value_4 5 rfl
theorem i_X6_value_150 : fetch 63 150 = some (.ifCond .ne 7, 153, 0, 0, 0, 0) := fr fe_X6_value_4 6 rfl
theorem i_X6_value_153 : fetch 63 153 = some (.iconst 1, 154, 0, 0, 0, 0) := fr fe_X6_value_4 7 rfl
theorem i_X6_value_154 : fetch 63 154 = some (.goto 4, 157, 0, 0, 0, 0) := fr fe_X6_value_4 8 rfl
theorem i_X6_value_157 : fetch 63 157 = some (.iconst 0, 158, 0, 0, 0, 0) := fr fe_X6_value_4 9 rfl
theorem i_X6_value_158 : fetch 63 158 = some (.iastore, 159, 0, 0, 0, 0) := fr fe_X6_value_4 10 rfl
theorem i_X6_value_159 : fetch 63 159 = some (.goto 38, 162, 0, 0, 0, 0) := fr fe_X6_value_4 11 rfl
theorem i_X6_value_162 : fetch 63 162 = some (.iload_n 3, 163, 0, 0, 0, 0) := fr fe_X6_value_4 12 rfl
theorem i_X6_value_163 : fetch 63 163 = some (.iconst 1, 164, 0, 0, 0, 0) := fr fe_X6_value_4 13 rfl
theorem i_X6_value_164 : fetch 63 164 = some (.if_icmp .ge 5, 167, 0, 0, 0, 0) := fr fe_X6_value_4 14 rfl
theorem i_X6_value_167 : fetch 63 167 = some (.iconst 0, 168, 0, 0, 0, 0) := fr fe_X6_value_4 15 rfl
theorem i_X6_value_168 : fetch 63 168 = some (.ireturn, 169, 0, 0, 0, 0) := fr fe_X6_value_4 16 rfl
theorem i_X6_value_169 : fetch 63 169 = some (.iinc 3 (-1), 172, 0, 0, 0, 0) := fr fe_X6_value_4 17 rfl
theorem i_X6_value_172 : fetch 63 172 = some (.aload_n 0, 173, 0, 0, 0, 0) := fr fe_X6_value_4 18 rfl
theorem i_X6_value_173 : fetch 63 173 = some (.getfield 18, 176, 6, 2, 0, 176) := fr fe_X6_value_4 19 rfl
theorem i_X6_value_176 : fetch 63 176 = some (.iload_n 3, 177, 0, 0, 0, 0) := fr fe_X6_value_4 20 rfl
theorem i_X6_value_177 : fetch 63 177 = some (.iload 5, 179, 0, 0, 0, 0) := fr fe_X6_value_4 21 rfl
theorem i_X6_value_179 : fetch 63 179 = some (.aload_n 0, 180, 0, 0, 0, 0) := fr fe_X6_value_4 22 rfl
theorem i_X6_value_180 : fetch 63 180 = some (.getfield 18, 183, 6, 2, 0, 176) := fr fe_X6_value_4 23 rfl
theorem i_X6_value_183 : fetch 63 183 = some (.iload_n 3, 184, 0, 0, 0, 0) := fr fe_X6_value_4 24 rfl
theorem i_X6_value_184 : fetch 63 184 = some (.iaload, 185, 0, 0, 0, 0) := fr fe_X6_value_5 0 rfl
theorem i_X6_value_185 : fetch 63 185 = some (.aload_n 0, 186, 0, 0, 0, 0) := fr fe_X6_value_5 1 rfl
theorem i_X6_value_186 : fetch 63 186 = some (.getfield 18, 189, 6, 2, 0, 176) := fr fe_X6_value_5 2 rfl
theorem i_X6_value_189 : fetch 63 189 = some (.iload_n 3, 190, 0, 0, 0, 0) := fr fe_X6_value_5 3 rfl
theorem i_X6_value_190 : fetch 63 190 = some (.iconst 1, 191, 0, 0, 0, 0) := fr fe_X6_value_5 4 rfl
theorem i_X6_value_191 : fetch 63 191 = some (.iadd, 192, 0, 0, 0, 0) := fr fe_X6_value_5 5 rfl
theorem i_X6_value_192 : fetch 63 192 = some (.iaload, 193, 0, 0, 0, 0) := fr fe_X6_value_5 6 rfl
theorem i_X6_value_193 : fetch 63 193 = some (.invokestatic 33, 196, 65, 0, 0, 675) := fr fe_X6_value_5 7 rfl
theorem i_X6_value_196 : fetch 63 196 = some (.iastore, 197, 0, 0, 0, 0) := fr fe_X6_value_5 8 rfl
theorem i_X6_value_197 : fetch 63 197 = some (.iinc 4 1, 200, 0, 0, 0, 0) := fr fe_X6_value_5 9 rfl
theorem i_X6_value_200 : fetch 63 200 = some (.goto (-169), 203, 0, 0, 0, 0) := fr fe_X6_value_5 10 rfl
theorem i_X6_value_203 : fetch 63 203 = some (.iload_n 3, 204, 0, 0, 0, 0) := fr fe_X6_value_5 11 rfl
theorem i_X6_value_204 : fetch 63 204 = some (.ifCond .ge 7, 207, 0, 0, 0, 0) := fr fe_X6_value_5 12 rfl
theorem i_X6_value_207 : fetch 63 207 = some (.iconst 0, 208, 0, 0, 0, 0) := fr fe_X6_value_5 13 rfl
theorem i_X6_value_208 : fetch 63 208 = some (.goto 9, 211, 0, 0, 0, 0) := fr fe_X6_value_5 14 rfl
theorem i_X6_value_211 : fetch 63 211 = some (.aload_n 0, 212, 0, 0, 0, 0) := fr fe_X6_value_5 15 rfl
theorem i_X6_value_212 : fetch 63 212 = some (.getfield 18, 215, 6, 2, 0, 176) := fr fe_X6_value_5 16 rfl
theorem i_X6_value_215 : fetch 63 215 = some (.iload_n 3, 216, 0, 0, 0, 0) := fr fe_X6_value_5 17 rfl
theorem i_X6_value_216 : fetch 63 216 = some (.iaload, 217, 0, 0, 0, 0) := fr fe_X6_value_5 18 rfl
theorem i_X6_value_217 : fetch 63 217 = some (.ireturn, 218, 0, 0, 0, 0) := fr fe_X6_value_5 19 rfl
theorem i_X1_says_0 : fetch 8 0 = some (.aload_n 0, 1, 0, 0, 0, 0) := fr fe_X1_says_1 0 rfl
theorem i_X1_says_1 : fetch 8 1 = some (.getfield 11, 4, 1, 0, 0, 212) := fr fe_X1_says_1 1 rfl
theorem i_X1_says_4 : fetch 8 4 = some (.iconst 0, 5, 0, 0, 0, 0) := fr fe_X1_says_1 2 rfl
theorem i_X1_says_5 : fetch 8 5 = some (.aload_n 0, 6, 0, 0, 0, 0) := fr fe_X1_says_1 3 rfl
theorem i_X1_says_6 : fetch 8 6 = some (.getfield 17, 9, 1, 2, 0, 215) := fr fe_X1_says_1 4 rfl
theorem i_X1_says_9 : fetch 8 9 = some (.iastore, 10, 0, 0, 0, 0) := fr fe_X1_says_1 5 rfl
theorem i_X1_says_10 : fetch 8 10 = some (.aload_n 0, 11, 0, 0, 0, 0) := fr fe_X1_says_1 6 rfl
theorem i_X1_says_11 : fetch 8 11 = some (.getfield 11, 14, 1, 0, 0, 212) := fr fe_X1_says_1 7 rfl
theorem i_X1_says_14 : fetch 8 14 = some (.iconst 1, 15, 0, 0, 0, 0) := fr fe_X1_says_1 8 rfl
theorem i_X1_says_15 : fetch 8 15 = some (.aload_n 2, 16, 0, 0, 0, 0) := fr fe_X1_says_1 9 rfl
theorem i_X1_says_16 : fetch 8 16 = some (.iload_n 3, 17, 0, 0, 0, 0) := fr fe_X1_says_1 10 rfl
theorem i_X1_says_17 : fetch 8 17 = some (.invokevirtual 64, 20, 39, 0, 0, 664) := fr fe_X1_says_1 11 rfl
theorem i_X1_says_20 : fetch 8 20 = some (.iastore, 21, 0, 0, 0, 0) := fr fe_X1_says_1 12 rfl
theorem i_X1_says_21 : fetch 8 21 = some (.aload_n 0, 22, 0, 0, 0, 0) := fr fe_X1_says_1 13 rfl
theorem i_X1_says_22 : fetch 8 22 = some (.getfield 11, 25, 1, 0, 0, 212) := fr fe_X1_says_1 14 rfl
theorem i_X1_says_25 : fetch 8 25 = some (.iconst 2, 26, 0, 0, 0, 0) := fr fe_X1_says_1 15 rfl
theorem i_X1_says_26 : fetch 8 26 = some (.aload_n 2, 27, 0, 0, 0, 0) := fr fe_X1_says_1 16 rfl
theorem i_X1_says_27 : fetch 8 27 = some (.getfield 70, 30, 3, 2, 0, 246) := fr fe_X1_says_1 17 rfl
theorem i_X1_says_30 : fetch 8 30 = some (.iload_n 3, 31, 0, 0, 0, 0) := fr fe_X1_says_1 18 rfl
theorem i_X1_says_31 : fetch 8 31 = some (.iaload, 32, 0, 0, 0, 0) := fr fe_X1_says_1 19 rfl
theorem i_X1_says_32 : fetch 8 32 = some (.iastore, 33, 0, 0, 0, 0) := fr fe_X1_says_1 20 rfl
theorem i_X1_says_33 : fetch 8 33 = some (.aload_n 0, 34, 0, 0, 0, 0) := fr fe_X1_says_1 21 rfl
theorem i_X1_says_34 : fetch 8 34 = some (.getfield 11, 37, 1, 0, 0, 212) := fr fe_X1_says_1 22 rfl
theorem i_X1_says_37 : fetch 8 37 = some (.iconst 3, 38, 0, 0, 0, 0) := fr fe_X1_says_1 23 rfl
theorem i_X1_says_38 : fetch 8 38 = some (.iload 4, 40, 0, 0, 0, 0) := fr fe_X1_says_1 24 rfl
theorem i_X1_says_40 : fetch 8 40 = some (.iastore, 41, 0, 0, 0, 0) := fr fe_X1_says_2 0 rfl
theorem i_X1_says_41 : fetch 8 41 = some (.aload_n 0, 42, 0, 0, 0, 0) := fr fe_X1_says_2 1 rfl
theorem i_X1_says_42 : fetch 8 42 = some (.getfield 11, 45, 1, 0, 0, 212) := fr fe_X1_says_2 2 rfl
theorem i_X1_says_45 : fetch 8 45 = some (.iconst 4, 46, 0, 0, 0, 0) := fr fe_X1_says_2 3 rfl
theorem i_X1_says_46 : fetch 8 46 = some (.aload_n 2, 47, 0, 0, 0, 0) := fr fe_X1_says_2 4 rfl
theorem i_X1_says_47 : fetch 8 47 = some (.getfield 73, 50, 3, 7, 0, 253) := fr fe_X1_says_2 5 rfl
theorem i_X1_says_50 : fetch 8 50 = some (.iastore, 51, 0, 0, 0, 0) := fr fe_X1_says_2 6 rfl
theorem i_X1_says_51 : fetch 8 51 = some (.aload_n 0, 52, 0, 0, 0, 0) := fr fe_X1_says_2 7 rfl
theorem i_X1_says_52 : fetch 8 52 = some (.getfield 11, 55, 1, 0, 0, 212) := fr fe_X1_says_2 8 rfl
theorem i_X1_says_55 : fetch 8 55 = some (.iconst 5, 56, 0, 0, 0, 0) := fr fe_X1_says_2 9 rfl
theorem i_X1_says_56 : fetch 8 56 = some (.aload_n 2, 57, 0, 0, 0, 0) := fr fe_X1_says_2 10 rfl
theorem i_X1_says_57 : fetch 8 57 = some (.getfield 76, 60, 3, 8, 0, 256) := fr fe_X1_says_2 11 rfl
theorem i_X1_says_60 : fetch 8 60 = some (.iastore, 61, 0, 0, 0, 0) := fr fe_X1_says_2 12 rfl
theorem i_X1_says_61 : fetch 8 61 = some (.aload_n 0, 62, 0, 0, 0, 0) := fr fe_X1_says_2 13 rfl
theorem i_X1_says_62 : fetch 8 62 = some (.getfield 32, 65, 1, 1, 0, 213) := fr fe_X1_says_2 14 rfl
theorem i_X1_says_65 : fetch 8 65 = some (.iload_n 1, 66, 0, 0, 0, 0) := fr fe_X1_says_2 15 rfl
theorem i_X1_says_66 : fetch 8 66 = some (.aload_n 0, 67, 0, 0, 0, 0) := fr fe_X1_says_2 16 rfl
theorem i_X1_says_67 : fetch 8 67 = some (.getfield 11, 70, 1, 0, 0, 212) := fr fe_X1_says_2 17 rfl
theorem i_X1_says_70 : fetch 8 70 = some (.invokevirtual 79, 73, 63, 0, 0, 668) := fr fe_X1_says_2 18 rfl
theorem i_X1_says_73 : fetch 8 73 = some (.ireturn, 74, 0, 0, 0, 0) := fr fe_X1_says_2 19 rfl
theorem i_X1_ease_0 : fetch 5 0 = some (.aload_n 0, 1, 0, 0, 0, 0) := fr fe_X1_ease_1 0 rfl
theorem i_X1_ease_1 : fetch 5 1 = some (.iconst 0, 2, 0, 0, 0, 0) := fr fe_X1_ease_1 1 rfl
theorem i_X1_ease_2 : fetch 5 2 = some (.aload_n 1, 3, 0, 0, 0, 0) := fr fe_X1_ease_1 2 rfl
theorem i_X1_ease_3 : fetch 5 3 = some (.iload_n 2, 4, 0, 0, 0, 0) := fr fe_X1_ease_1 3 rfl
theorem i_X1_ease_4 : fetch 5 4 = some (.iload_n 3, 5, 0, 0, 0, 0) := fr fe_X1_ease_1 4 rfl
theorem i_X1_ease_5 : fetch 5 5 = some (.invokevirtual 36, 8, 8, 0, 0, 660) := fr fe_X1_ease_1 5 rfl
theorem i_X1_ease_8 : fetch 5 8 = some (.i2l, 9, 0, 0, 0, 0) := fr fe_X1_ease_1 6 rfl
theorem i_X1_ease_9 : fetch 5 9 = some (.lstore 4, 11, 0, 0, 0, 0) := fr fe_X1_ease_1 7 rfl
theorem i_X1_ease_11 : fetch 5 11 = some (.aload_n 0, 12, 0, 0, 0, 0) := fr fe_X1_ease_1 8 rfl
theorem i_X1_ease_12 : fetch 5 12 = some (.getfield 24, 15, 1, 4, 0, 220) := fr fe_X1_ease_1 9 rfl
theorem i_X1_ease_15 : fetch 5 15 = some (.ifCond .eq 36, 18, 0, 0, 0, 0) := fr fe_X1_ease_1 10 rfl
theorem i_X1_ease_18 : fetch 5 18 = some (.aload_n 0, 19, 0, 0, 0, 0) := fr fe_X1_ease_1 11 rfl
theorem i_X1_ease_19 : fetch 5 19 = some (.aload_n 0, 20, 0, 0, 0, 0) := fr fe_X1_ease_1 12 rfl
theorem i_X1_ease_20 : fetch 5 20 = some (.getfield 28, 23, 1, 5, 0, 221) := fr fe_X1_ease_1 13 rfl
theorem i_X1_ease_23 : fetch 5 23 = some (.ldc2_w 40, 26, 0, 0, 48271, 678) := fr fe_X1_ease_1 14 rfl
theorem i_X1_ease_26 : fetch 5 26 = some (.lmul, 27, 0, 0, 0, 0) := fr fe_X1_ease_1 15 rfl
theorem i_X1_ease_27 : fetch 5 27 = some (.ldc2_w 42, 30, 0, 0, 2147483647, 679) := fr fe_X1_ease_1 16 rfl
theorem i_X1_ease_30 : fetch 5 30 = some (.lrem, 31, 0, 0, 0, 0) := fr fe_X1_ease_1 17 rfl
theorem i_X1_ease_31 : fetch 5 31 = some (.putfield 28, 34, 1, 5, 0, 221) := fr fe_X1_ease_1 18 rfl
theorem i_X1_ease_34 : fetch 5 34 = some (.lload 4, 36, 0, 0, 0, 0) := fr fe_X1_ease_1 19 rfl
theorem i_X1_ease_36 : fetch 5 36 = some (.aload_n 0, 37, 0, 0, 0, 0) := fr fe_X1_ease_1 20 rfl
theorem i_X1_ease_37 : fetch 5 37 = some (.getfield 28, 40, 1, 5, 0, 221) := fr fe_X1_ease_1 21 rfl
theorem i_X1_ease_40 : fetch 5 40 = some (.ldc2_w 44, 43, 0, 0, 5, 680) := fr fe_X1_ease_1 22 rfl
theorem i_X1_ease_43 : fetch 5 43 = some (.lrem, 44, 0, 0, 0, 0) := fr fe_X1_ease_1 23 rfl
theorem i_X1_ease_44 : fetch 5 44 = some (.ldc2_w 46, 47, 0, 0, 2, 681) := fr fe_X1_ease_1 24 rfl
theorem i_X1_ease_47 : fetch 5 47 = some (.lsub, 48, 0, 0, 0, 0) := fr fe_X1_ease_2 0 rfl
theorem i_X1_ease_48 : fetch 5 48 = some (.ladd, 49, 0, 0, 0, 0) := fr fe_X1_ease_2 1 rfl
theorem i_X1_ease_49 : fetch 5 49 = some (.lstore 4, 51, 0, 0, 0, 0) := fr fe_X1_ease_2 2 rfl
theorem i_X1_ease_51 : fetch 5 51 = some (.lconst 1, 52, 0, 0, 0, 0) := fr fe_X1_ease_2 3 rfl
theorem i_X1_ease_52 : fetch 5 52 = some (.ldc2_w 48, 55, 0, 0, 99, 682) := fr fe_X1_ease_2 4 rfl
theorem i_X1_ease_55 : fetch 5 55 = some (.lload 4, 57, 0, 0, 0, 0) := fr fe_X1_ease_2 5 rfl
theorem i_X1_ease_57 : fetch 5 57 = some (.invokestatic 50, 60, 1006, 0, 0, 683) := fr fe_X1_ease_2 6 rfl
theorem i_X1_ease_60 : fetch 5 60 = some (.invokestatic 56, 63, 1004, 0, 0, 686) := fr fe_X1_ease_2 7 rfl
theorem i_X1_ease_63 : fetch 5 63 = some (.l2i, 64, 0, 0, 0, 0) := fr fe_X1_ease_2 8 rfl
theorem i_X1_ease_64 : fetch 5 64 = some (.ireturn, 65, 0, 0, 0, 0) := fr fe_X1_ease_2 9 rfl
theorem i_X1_tears_0 : fetch 6 0 = some (.iconst 0, 1, 0, 0, 0, 0) := fr fe_X1_tears 0 rfl
theorem i_X1_tears_1 : fetch 6 1 = some (.bipush 100, 3, 0, 0, 0, 0) := fr fe_X1_tears 1 rfl
theorem i_X1_tears_3 : fetch 6 3 = some (.aload_n 0, 4, 0, 0, 0, 0) := fr fe_X1_tears 2 rfl
theorem i_X1_tears_4 : fetch 6 4 = some (.iconst 1, 5, 0, 0, 0, 0) := fr fe_X1_tears 3 rfl
theorem i_X1_tears_5 : fetch 6 5 = some (.aload_n 1, 6, 0, 0, 0, 0) := fr fe_X1_tears 4 rfl
theorem i_X1_tears_6 : fetch 6 6 = some (.iload_n 2, 7, 0, 0, 0, 0) := fr fe_X1_tears 5 rfl
theorem i_X1_tears_7 : fetch 6 7 = some (.iload_n 3, 8, 0, 0, 0, 0) := fr fe_X1_tears 6 rfl
theorem i_X1_tears_8 : fetch 6 8 = some (.invokevirtual 36, 11, 8, 0, 0, 660) := fr fe_X1_tears 7 rfl
theorem i_X1_tears_11 : fetch 6 11 = some (.invokestatic 59, 14, 1005, 0, 0, 703) := fr fe_X1_tears 8 rfl
theorem i_X1_tears_14 : fetch 6 14 = some (.invokestatic 62, 17, 1003, 0, 0, 704) := fr fe_X1_tears 9 rfl
theorem i_X1_tears_17 : fetch 6 17 = some (.ireturn, 18, 0, 0, 0, 0) := fr fe_X1_tears 10 rfl
theorem i_X1_sticks_0 : fetch 7 0 = some (.iconst 0, 1, 0, 0, 0, 0) := fr fe_X1_sticks 0 rfl
theorem i_X1_sticks_1 : fetch 7 1 = some (.bipush 100, 3, 0, 0, 0, 0) := fr fe_X1_sticks 1 rfl
theorem i_X1_sticks_3 : fetch 7 3 = some (.aload_n 0, 4, 0, 0, 0, 0) := fr fe_X1_sticks 2 rfl
theorem i_X1_sticks_4 : fetch 7 4 = some (.iconst 2, 5, 0, 0, 0, 0) := fr fe_X1_sticks 3 rfl
theorem i_X1_sticks_5 : fetch 7 5 = some (.aload_n 1, 6, 0, 0, 0, 0) := fr fe_X1_sticks 4 rfl
theorem i_X1_sticks_6 : fetch 7 6 = some (.iconst 0, 7, 0, 0, 0, 0) := fr fe_X1_sticks 5 rfl
theorem i_X1_sticks_7 : fetch 7 7 = some (.iconst 0, 8, 0, 0, 0, 0) := fr fe_X1_sticks 6 rfl
theorem i_X1_sticks_8 : fetch 7 8 = some (.invokevirtual 36, 11, 8, 0, 0, 660) := fr fe_X1_sticks 7 rfl
theorem i_X1_sticks_11 : fetch 7 11 = some (.invokestatic 59, 14, 1005, 0, 0, 703) := fr fe_X1_sticks 8 rfl
theorem i_X1_sticks_14 : fetch 7 14 = some (.invokestatic 62, 17, 1003, 0, 0, 704) := fr fe_X1_sticks 9 rfl
theorem i_X1_sticks_17 : fetch 7 17 = some (.ireturn, 18, 0, 0, 0, 0) := fr fe_X1_sticks 10 rfl
theorem i_X2_init_0 : fetch 9 0 = some (.aload_n 0, 1, 0, 0, 0, 0) := fr fe_X2_init 0 rfl
theorem i_X2_init_1 : fetch 9 1 = some (.invokespecial 3, 4, 1000, 0, 0, 125) := fr fe_X2_init 1 rfl
theorem i_X2_init_4 : fetch 9 4 = some (.aload_n 0, 5, 0, 0, 0, 0) := fr fe_X2_init 2 rfl
theorem i_X2_init_5 : fetch 9 5 = some (.sipush 160, 8, 0, 0, 0, 0) := fr fe_X2_init 3 rfl
theorem i_X2_init_8 : fetch 9 8 = some (.newarray .int, 10, 9, 0, 0, 0) := fr fe_X2_init 4 rfl
theorem i_X2_init_10 : fetch 9 10 = some (.putfield 9, 13, 2, 0, 0, 126) := fr fe_X2_init 5 rfl
theorem i_X2_init_13 : fetch 9 13 = some (.aload_n 0, 14, 0, 0, 0, 0) := fr fe_X2_init 6 rfl
theorem i_X2_init_14 : fetch 9 14 = some (.iconst 0, 15, 0, 0, 0, 0) := fr fe_X2_init 7 rfl
theorem i_X2_init_15 : fetch 9 15 = some (.putfield 15, 18, 2, 1, 0, 127) := fr fe_X2_init 8 rfl
theorem i_X2_init_18 : fetch 9 18 = some (.aload_n 0, 19, 0, 0, 0, 0) := fr fe_X2_init 9 rfl
theorem i_X2_init_19 : fetch 9 19 = some (.iconst 0, 20, 0, 0, 0, 0) := fr fe_X2_init 10 rfl
theorem i_X2_init_20 : fetch 9 20 = some (.putfield 19, 23, 2, 2, 0, 129) := fr fe_X2_init 11 rfl
theorem i_X2_init_23 : fetch 9 23 = some (.aload_n 0, 24, 0, 0, 0, 0) := fr fe_X2_init 12 rfl
theorem i_X2_init_24 : fetch 9 24 = some (.iconst 0, 25, 0, 0, 0, 0) := fr fe_X2_init 13 rfl
theorem i_X2_init_25 : fetch 9 25 = some (.putfield 22, 28, 2, 3, 0, 130) := fr fe_X2_init 14 rfl
theorem i_X2_init_28 : fetch 9 28 = some (.aload_n 0, 29, 0, 0, 0, 0) := fr fe_X2_init 15 rfl
theorem i_X2_init_29 : fetch 9 29 = some (.iconst 0, 30, 0, 0, 0, 0) := fr fe_X2_init 16 rfl
theorem i_X2_init_30 : fetch 9 30 = some (.putfield 25, 33, 2, 4, 0, 131) := fr fe_X2_init 17 rfl
theorem i_X2_init_33 : fetch 9 33 = some (.aload_n 0, 34, 0, 0, 0, 0) := fr fe_X2_init 18 rfl
theorem i_X2_init_34 : fetch 9 34 = some (.iconst 0, 35, 0, 0, 0, 0) := fr fe_X2_init 19 rfl
theorem i_X2_init_35 : fetch 9 35 = some (.putfield 28, 38, 2, 5, 0, 132) := fr fe_X2_init 20 rfl
theorem i_X2_init_38 : fetch 9 38 = some (.return_, 39, 0, 0, 0, 0) := fr fe_X2_init 21 rfl
theorem i_X2_add_0 : fetch 10 0 = some (.aload_n 0, 1, 0, 0, 0, 0) := fr fe_X2_add 0 rfl
theorem i_X2_add_1 : fetch 10 1 = some (.getfield 15, 4, 2, 1, 0, 127) := fr fe_X2_add 1 rfl
theorem i_X2_add_4 : fetch 10 4 = some (.sipush 160, 7, 0, 0, 0, 0) := fr fe_X2_add 2 rfl
theorem i_X2_add_7 : fetch 10 7 = some (.if_icmp .ge 23, 10, 0, 0, 0, 0) := fr fe_X2_add 3 rfl
theorem i_X2_add_10 : fetch 10 10 = some (.aload_n 0, 11, 0, 0, 0, 0) := fr fe_X2_add 4 rfl
theorem i_X2_add_11 : fetch 10 11 = some (.getfield 9, 14, 2, 0, 0, 126) := fr fe_X2_add 5 rfl
theorem i_X2_add_14 : fetch 10 14 = some (.aload_n 0, 15, 0, 0, 0, 0) := fr fe_X2_add 6 rfl
theorem i_X2_add_15 : fetch 10 15 = some (.getfield 15, 18, 2, 1, 0, 127) := fr fe_X2_add 7 rfl
theorem i_X2_add_18 : fetch 10 18 = some (.iload_n 1, 19, 0, 0, 0, 0) := fr fe_X2_add 8 rfl
theorem i_X2_add_19 : fetch 10 19 = some (.iastore, 20, 0, 0, 0, 0) := fr fe_X2_add 9 rfl
theorem i_X2_add_20 : fetch 10 20 = some (.aload_n 0, 21, 0, 0, 0, 0) := fr fe_X2_add 10 rfl
theorem i_X2_add_21 : fetch 10 21 = some (.dup, 22, 0, 0, 0, 0) := fr fe_X2_add 11 rfl
theorem i_X2_add_22 : fetch 10 22 = some (.getfield 15, 25, 2, 1, 0, 127) := fr fe_X2_add 12 rfl
theorem i_X2_add_25 : fetch 10 25 = some (.iconst 1, 26, 0, 0, 0, 0) := fr fe_X2_add 13 rfl
theorem i_X2_add_26 : fetch 10 26 = some (.iadd, 27, 0, 0, 0, 0) := fr fe_X2_add 14 rfl
theorem i_X2_add_27 : fetch 10 27 = some (.putfield 15, 30, 2, 1, 0, 127) := fr fe_X2_add 15 rfl
theorem i_X2_add_30 : fetch 10 30 = some (.return_, 31, 0, 0, 0, 0) := fr fe_X2_add 16 rfl
theorem i_X2_empty_0 : fetch 11 0 = some (.aload_n 0, 1, 0, 0, 0, 0) := fr fe_X2_empty 0 rfl
theorem i_X2_empty_1 : fetch 11 1 = some (.iconst 0, 2, 0, 0, 0, 0) := fr fe_X2_empty 1 rfl
theorem i_X2_empty_2 : fetch 11 2 = some (.putfield 15, 5, 2, 1, 0, 127) := fr fe_X2_empty 2 rfl
theorem i_X2_empty_5 : fetch 11 5 = some (.return_, 6, 0, 0, 0, 0) := fr fe_X2_empty 3 rfl
theorem i_J0_isLatin1_aae02_0 : fetch 224 0 = some (.getstatic 38, 3, 1, 0, 0, 299) := fr fe_J0_isLatin1_aae02 0 rfl
theorem i_J0_isLatin1_aae02_3 : fetch 224 3 = some (.ifCond .eq 14, 6, 0, 0, 0, 0) := fr fe_J0_isLatin1_aae02 1 rfl
theorem i_J0_isLatin1_aae02_6 : fetch 224 6 = some (.aload_n 0, 7, 0, 0, 0, 0) := fr fe_J0_isLatin1_aae02 2 rfl
theorem i_J0_isLatin1_aae02_7 : fetch 224 7 = some (.getfield 15, 10, 20, 1, 0, 1604) := fr fe_J0_isLatin1_aae02 3 rfl
theorem i_J0_isLatin1_aae02_10 : fetch 224 10 = some (.ifCond .ne 7, 13, 0, 0, 0, 0) := fr fe_J0_isLatin1_aae02 4 rfl
theorem i_J0_isLatin1_aae02_13 : fetch 224 13 = some (.iconst 1, 14, 0, 0, 0, 0) := fr fe_J0_isLatin1_aae02 5 rfl
theorem i_J0_isLatin1_aae02_14 : fetch 224 14 = some (.goto 4, 17, 0, 0, 0, 0) := fr fe_J0_isLatin1_aae02 6 rfl
theorem i_J0_isLatin1_aae02_17 : fetch 224 17 = some (.iconst 0, 18, 0, 0, 0, 0) := fr fe_J0_isLatin1_aae02 7 rfl
theorem i_J0_isLatin1_aae02_18 : fetch 224 18 = some (.ireturn, 19, 0, 0, 0, 0) := fr fe_J0_isLatin1_aae02 8 rfl
theorem i_J0_coder_7d493_0 : fetch 223 0 = some (.getstatic 38, 3, 1, 0, 0, 299) := fr fe_J0_coder_7d493 0 rfl
theorem i_J0_coder_7d493_3 : fetch 223 3 = some (.ifCond .eq 10, 6, 0, 0, 0, 0) := fr fe_J0_coder_7d493 1 rfl
theorem i_J0_coder_7d493_6 : fetch 223 6 = some (.aload_n 0, 7, 0, 0, 0, 0) := fr fe_J0_coder_7d493 2 rfl
theorem i_J0_coder_7d493_7 : fetch 223 7 = some (.getfield 15, 10, 20, 1, 0, 1604) := fr fe_J0_coder_7d493 3 rfl
theorem i_J0_coder_7d493_10 : fetch 223 10 = some (.goto 4, 13, 0, 0, 0, 0) := fr fe_J0_coder_7d493 4 rfl
theorem i_J0_coder_7d493_13 : fetch 223 13 = some (.iconst 1, 14, 0, 0, 0, 0) := fr fe_J0_coder_7d493 5 rfl
theorem i_J0_coder_7d493_14 : fetch 223 14 = some (.ireturn, 15, 0, 0, 0, 0) := fr fe_J0_coder_7d493 6 rfl
theorem i_J0_length_8abf5_0 : fetch 219 0 = some (.aload_n 0, 1, 0, 0, 0, 0) := fr fe_J0_length_8abf5 0 rfl
theorem i_J0_length_8abf5_1 : fetch 219 1 = some (.getfield 9, 4, 20, 0, 0, 1603) := fr fe_J0_length_8abf5 1 rfl
theorem i_J0_length_8abf5_4 : fetch 219 4 = some (.arraylength, 5, 0, 0, 0, 0) := fr fe_J0_length_8abf5 2 rfl
theorem i_J0_length_8abf5_5 : fetch 219 5 = some (.aload_n 0, 6, 0, 0, 0, 0) := fr fe_J0_length_8abf5 3 rfl
theorem i_J0_length_8abf5_6 : fetch 219 6 = some (.invokevirtual 335, 9, 223, 0, 0, 295) := fr fe_J0_length_8abf5 4 rfl
theorem i_J0_length_8abf5_9 : fetch 219 9 = some (.ishr, 10, 0, 0, 0, 0) := fr fe_J0_length_8abf5 5 rfl
theorem i_J0_length_8abf5_10 : fetch 219 10 = some (.ireturn, 11, 0, 0, 0, 0) := fr fe_J0_length_8abf5 6 rfl
theorem i_J1_canEncode_9a6ad_0 : fetch 227 0 = some (.iload_n 0, 1, 0, 0, 0, 0) := fr fe_J1_canEncode_9a6ad 0 rfl
theorem i_J1_canEncode_9a6ad_1 : fetch 227 1 = some (.ifCond .lt 14, 4, 0, 0, 0, 0) := fr fe_J1_canEncode_9a6ad 1 rfl
theorem i_J1_canEncode_9a6ad_4 : fetch 227 4 = some (.iload_n 0, 5, 0, 0, 0, 0) := fr fe_J1_canEncode_9a6ad 2 rfl
theorem i_J1_canEncode_9a6ad_5 : fetch 227 5 = some (.sipush 255, 8, 0, 0, 0, 0) := fr fe_J1_canEncode_9a6ad 3 rfl
theorem i_J1_canEncode_9a6ad_8 : fetch 227 8 = some (.if_icmp .gt 7, 11, 0, 0, 0, 0) := fr fe_J1_canEncode_9a6ad 4 rfl
theorem i_J1_canEncode_9a6ad_11 : fetch 227 11 = some (.iconst 1, 12, 0, 0, 0, 0) := fr fe_J1_canEncode_9a6ad 5 rfl
theorem i_J1_canEncode_9a6ad_12 : fetch 227 12 = some (.goto 4, 15, 0, 0, 0, 0) := fr fe_J1_canEncode_9a6ad 6 rfl
theorem i_J1_canEncode_9a6ad_15 : fetch 227 15 = some (.iconst 0, 16, 0, 0, 0, 0) := fr fe_J1_canEncode_9a6ad 7 rfl
theorem i_J1_canEncode_9a6ad_16 : fetch 227 16 = some (.ireturn, 17, 0, 0, 0, 0) := fr fe_J1_canEncode_9a6ad 8 rfl
theorem i_J1_indexOfChar_4cfef_0 : fetch 229 0 = some (.iload_n 1, 1, 0, 0, 0, 0) := fr fe_J1_indexOfChar_4cfef 0 rfl
theorem i_J1_indexOfChar_4cfef_1 : fetch 229 1 = some (.i2b, 2, 0, 0, 0, 0) := fr fe_J1_indexOfChar_4cfef 1 rfl
theorem i_J1_indexOfChar_4cfef_2 : fetch 229 2 = some (.istore 4, 4, 0, 0, 0, 0) := fr fe_J1_indexOfChar_4cfef 2 rfl
theorem i_J1_indexOfChar_4cfef_4 : fetch 229 4 = some (.iload_n 2, 5, 0, 0, 0, 0) := fr fe_J1_indexOfChar_4cfef 3 rfl
theorem i_J1_indexOfChar_4cfef_5 : fetch 229 5 = some (.istore 5, 7, 0, 0, 0, 0) := fr fe_J1_indexOfChar_4cfef 4 rfl
theorem i_J1_indexOfChar_4cfef_7 : fetch 229 7 = some (.iload 5, 9, 0, 0, 0, 0) := fr fe_J1_indexOfChar_4cfef 5 rfl
theorem i_J1_indexOfChar_4cfef_9 : fetch 229 9 = some (.iload_n 3, 10, 0, 0, 0, 0) := fr fe_J1_indexOfChar_4cfef 6 rfl
theorem i_J1_indexOfChar_4cfef_10 : fetch 229 10 = some (.if_icmp .ge 21, 13, 0, 0, 0, 0) := fr fe_J1_indexOfChar_4cfef 7 rfl
theorem i_J1_indexOfChar_4cfef_13 : fetch 229 13 = some (.aload_n 0, 14, 0, 0, 0, 0) := fr fe_J1_indexOfChar_4cfef 8 rfl
theorem i_J1_indexOfChar_4cfef_14 : fetch 229 14 = some (.iload 5, 16, 0, 0, 0, 0) := fr fe_J1_indexOfChar_4cfef 9 rfl
theorem i_J1_indexOfChar_4cfef_16 : fetch 229 16 = some (.baload, 17, 0, 0, 0, 0) := fr fe_J1_indexOfChar_4cfef 10 rfl
theorem i_J1_indexOfChar_4cfef_17 : fetch 229 17 = some (.iload 4, 19, 0, 0, 0, 0) := fr fe_J1_indexOfChar_4cfef 11 rfl
theorem i_J1_indexOfChar_4cfef_19 : fetch 229 19 = some (.if_icmp .ne 6, 22, 0, 0, 0, 0) := fr fe_J1_indexOfChar_4cfef 12 rfl
theorem i_J1_indexOfChar_4cfef_22 : fetch 229 22 = some (.iload 5, 24, 0, 0, 0, 0) := fr fe_J1_indexOfChar_4cfef 13 rfl
theorem i_J1_indexOfChar_4cfef_24 : fetch 229 24 = some (.ireturn, 25, 0, 0, 0, 0) := fr fe_J1_indexOfChar_4cfef 14 rfl
theorem i_J1_indexOfChar_4cfef_25 : fetch 229 25 = some (.iinc 5 1, 28, 0, 0, 0, 0) := fr fe_J1_indexOfChar_4cfef 15 rfl
theorem i_J1_indexOfChar_4cfef_28 : fetch 229 28 = some (.goto (-21), 31, 0, 0, 0, 0) := fr fe_J1_indexOfChar_4cfef 16 rfl
theorem i_J1_indexOfChar_4cfef_31 : fetch 229 31 = some (.iconst (-1), 32, 0, 0, 0, 0) := fr fe_J1_indexOfChar_4cfef 17 rfl
theorem i_J1_indexOfChar_4cfef_32 : fetch 229 32 = some (.ireturn, 33, 0, 0, 0, 0) := fr fe_J1_indexOfChar_4cfef 18 rfl
theorem i_J1_indexOf_4cfef_0 : fetch 228 0 = some (.iload_n 1, 1, 0, 0, 0, 0) := fr fe_J1_indexOf_4cfef 0 rfl
theorem i_J1_indexOf_4cfef_1 : fetch 228 1 = some (.invokestatic 88, 4, 227, 0, 0, 412) := fr fe_J1_indexOf_4cfef 1 rfl
theorem i_J1_indexOf_4cfef_4 : fetch 228 4 = some (.ifCond .ne 5, 7, 0, 0, 0, 0) := fr fe_J1_indexOf_4cfef 2 rfl
theorem i_J1_indexOf_4cfef_7 : fetch 228 7 = some (.iconst (-1), 8, 0, 0, 0, 0) := fr fe_J1_indexOf_4cfef 3 rfl
theorem i_J1_indexOf_4cfef_8 : fetch 228 8 = some (.ireturn, 9, 0, 0, 0, 0) := fr fe_J1_indexOf_4cfef 4 rfl
theorem i_J1_indexOf_4cfef_9 : fetch 228 9 = some (.iload_n 2, 10, 0, 0, 0, 0) := fr fe_J1_indexOf_4cfef 5 rfl
theorem i_J1_indexOf_4cfef_10 : fetch 228 10 = some (.iconst 0, 11, 0, 0, 0, 0) := fr fe_J1_indexOf_4cfef 6 rfl
theorem i_J1_indexOf_4cfef_11 : fetch 228 11 = some (.invokestatic 92, 14, 1003, 0, 0, 415) := fr fe_J1_indexOf_4cfef 7 rfl
theorem i_J1_indexOf_4cfef_14 : fetch 228 14 = some (.istore_n 2, 15, 0, 0, 0, 0) := fr fe_J1_indexOf_4cfef 8 rfl
theorem i_J1_indexOf_4cfef_15 : fetch 228 15 = some (.iload_n 3, 16, 0, 0, 0, 0) := fr fe_J1_indexOf_4cfef 9 rfl
theorem i_J1_indexOf_4cfef_16 : fetch 228 16 = some (.aload_n 0, 17, 0, 0, 0, 0) := fr fe_J1_indexOf_4cfef 10 rfl
theorem i_J1_indexOf_4cfef_17 : fetch 228 17 = some (.arraylength, 18, 0, 0, 0, 0) := fr fe_J1_indexOf_4cfef 11 rfl
theorem i_J1_indexOf_4cfef_18 : fetch 228 18 = some (.invokestatic 38, 21, 1005, 0, 0, 418) := fr fe_J1_indexOf_4cfef 12 rfl
theorem i_J1_indexOf_4cfef_21 : fetch 228 21 = some (.istore_n 3, 22, 0, 0, 0, 0) := fr fe_J1_indexOf_4cfef 13 rfl
theorem i_J1_indexOf_4cfef_22 : fetch 228 22 = some (.iload_n 2, 23, 0, 0, 0, 0) := fr fe_J1_indexOf_4cfef 14 rfl
theorem i_J1_indexOf_4cfef_23 : fetch 228 23 = some (.iload_n 3, 24, 0, 0, 0, 0) := fr fe_J1_indexOf_4cfef 15 rfl
theorem i_J1_indexOf_4cfef_24 : fetch 228 24 = some (.if_icmp .lt 5, 27, 0, 0, 0, 0) := fr fe_J1_indexOf_4cfef 16 rfl
theorem i_J1_indexOf_4cfef_27 : fetch 228 27 = some (.iconst (-1), 28, 0, 0, 0, 0) := fr fe_J1_indexOf_4cfef 17 rfl
theorem i_J1_indexOf_4cfef_28 : fetch 228 28 = some (.ireturn, 29, 0, 0, 0, 0) := fr fe_J1_indexOf_4cfef 18 rfl
theorem i_J1_indexOf_4cfef_29 : fetch 228 29 = some (.aload_n 0, 30, 0, 0, 0, 0) := fr fe_J1_indexOf_4cfef 19 rfl
theorem i_J1_indexOf_4cfef_30 : fetch 228 30 = some (.iload_n 1, 31, 0, 0, 0, 0) := fr fe_J1_indexOf_4cfef 20 rfl
theorem i_J1_indexOf_4cfef_31 : fetch 228 31 = some (.iload_n 2, 32, 0, 0, 0, 0) := fr fe_J1_indexOf_4cfef 21 rfl
theorem i_J1_indexOf_4cfef_32 : fetch 228 32 = some (.iload_n 3, 33, 0, 0, 0, 0) := fr fe_J1_indexOf_4cfef 22 rfl
theorem i_J1_indexOf_4cfef_33 : fetch 228 33 = some (.invokestatic 95, 36, 229, 0, 0, 421) := fr fe_J1_indexOf_4cfef 23 rfl
theorem i_J1_indexOf_4cfef_36 : fetch 228 36 = some (.ireturn, 37, 0, 0, 0, 0) := fr fe_J1_indexOf_4cfef 24 rfl
theorem i_J0_indexOf_7cf53_0 : fetch 222 0 = some (.aload_n 0, 1, 0, 0, 0, 0) := fr fe_J0_indexOf_7cf53 0 rfl
theorem i_J0_indexOf_7cf53_1 : fetch 222 1 = some (.invokevirtual 492, 4, 224, 0, 0, 321) := fr fe_J0_indexOf_7cf53 1 rfl
theorem i_J0_indexOf_7cf53_4 : fetch 222 4 = some (.ifCond .eq 19, 7, 0, 0, 0, 0) := fr fe_J0_indexOf_7cf53 2 rfl
theorem i_J0_indexOf_7cf53_7 : fetch 222 7 = some (.aload_n 0, 8, 0, 0, 0, 0) := fr fe_J0_indexOf_7cf53 3 rfl
theorem i_J0_indexOf_7cf53_8 : fetch 222 8 = some (.getfield 9, 11, 20, 0, 0, 1603) := fr fe_J0_indexOf_7cf53 4 rfl
theorem i_J0_indexOf_7cf53_11 : fetch 222 11 = some (.iload_n 1, 12, 0, 0, 0, 0) := fr fe_J0_indexOf_7cf53 5 rfl
theorem i_J0_indexOf_7cf53_12 : fetch 222 12 = some (.iload_n 2, 13, 0, 0, 0, 0) := fr fe_J0_indexOf_7cf53 6 rfl
theorem i_J0_indexOf_7cf53_13 : fetch 222 13 = some (.aload_n 0, 14, 0, 0, 0, 0) := fr fe_J0_indexOf_7cf53 7 rfl
theorem i_J0_indexOf_7cf53_14 : fetch 222 14 = some (.invokevirtual 505, 17, 219, 0, 0, 408) := fr fe_J0_indexOf_7cf53 8 rfl
theorem i_J0_indexOf_7cf53_17 : fetch 222 17 = some (.invokestatic 637, 20, 228, 0, 0, 409) := fr fe_J0_indexOf_7cf53 9 rfl
theorem i_J0_indexOf_7cf53_20 : fetch 222 20 = some (.goto 16, 23, 0, 0, 0, 0) := fr fe_J0_indexOf_7cf53 10 rfl
theorem i_J0_indexOf_7cf53_23 : fetch 222 23 = some (.aload_n 0, 24, 0, 0, 0, 0) := fr fe_J0_indexOf_7cf53 11 rfl
theorem i_J0_indexOf_7cf53_24 : fetch 222 24 = some (.getfield 9, 27, 20, 0, 0, 1603) := fr fe_J0_indexOf_7cf53 12 rfl
theorem i_J0_indexOf_7cf53_27 : fetch 222 27 = some (.iload_n 1, 28, 0, 0, 0, 0) := fr fe_J0_indexOf_7cf53 13 rfl
theorem i_J0_indexOf_7cf53_28 : fetch 222 28 = some (.iload_n 2, 29, 0, 0, 0, 0) := fr fe_J0_indexOf_7cf53 14 rfl
theorem i_J0_indexOf_7cf53_29 : fetch 222 29 = some (.aload_n 0, 30, 0, 0, 0, 0) := fr fe_J0_indexOf_7cf53 15 rfl
theorem i_J0_indexOf_7cf53_30 : fetch 222 30 = some (.invokevirtual 505, 33, 219, 0, 0, 408) := fr fe_J0_indexOf_7cf53 16 rfl
theorem i_J0_indexOf_7cf53_36 : fetch 222 36 = some (.ireturn, 37, 0, 0, 0, 0) := fr fe_J0_indexOf_7cf53 17 rfl
theorem i_J0_indexOf_0f7a4_0 : fetch 221 0 = some (.aload_n 0, 1, 0, 0, 0, 0) := fr fe_J0_indexOf_0f7a4 0 rfl
theorem i_J0_indexOf_0f7a4_1 : fetch 221 1 = some (.iload_n 1, 2, 0, 0, 0, 0) := fr fe_J0_indexOf_0f7a4 1 rfl
theorem i_J0_indexOf_0f7a4_2 : fetch 221 2 = some (.iconst 0, 3, 0, 0, 0, 0) := fr fe_J0_indexOf_0f7a4 2 rfl
theorem i_J0_indexOf_0f7a4_3 : fetch 221 3 = some (.invokevirtual 633, 6, 222, 0, 0, 404) := fr fe_J0_indexOf_0f7a4 3 rfl
theorem i_J0_indexOf_0f7a4_6 : fetch 221 6 = some (.ireturn, 7, 0, 0, 0, 0) := fr fe_J0_indexOf_0f7a4 4 rfl
theorem i_X2_byteAt_0 : fetch 21 0 = some (.iload_n 1, 1, 0, 0, 0, 0) := fr fe_X2_byteAt 0 rfl
theorem i_X2_byteAt_1 : fetch 21 1 = some (.ifCond .lt 27, 4, 0, 0, 0, 0) := fr fe_X2_byteAt 1 rfl
theorem i_X2_byteAt_4 : fetch 21 4 = some (.iload_n 1, 5, 0, 0, 0, 0) := fr fe_X2_byteAt 2 rfl
theorem i_X2_byteAt_5 : fetch 21 5 = some (.aload_n 0, 6, 0, 0, 0, 0) := fr fe_X2_byteAt 3 rfl
theorem i_X2_byteAt_6 : fetch 21 6 = some (.getfield 15, 9, 2, 1, 0, 127) := fr fe_X2_byteAt 4 rfl
theorem i_X2_byteAt_9 : fetch 21 9 = some (.if_icmp .ge 19, 12, 0, 0, 0, 0) := fr fe_X2_byteAt 5 rfl
theorem i_X2_byteAt_12 : fetch 21 12 = some (.iload_n 1, 13, 0, 0, 0, 0) := fr fe_X2_byteAt 6 rfl
theorem i_X2_byteAt_13 : fetch 21 13 = some (.sipush 160, 16, 0, 0, 0, 0) := fr fe_X2_byteAt 7 rfl
theorem i_X2_byteAt_16 : fetch 21 16 = some (.if_icmp .ge 12, 19, 0, 0, 0, 0) := fr fe_X2_byteAt 8 rfl
theorem i_X2_byteAt_19 : fetch 21 19 = some (.aload_n 0, 20, 0, 0, 0, 0) := fr fe_X2_byteAt 9 rfl
theorem i_X2_byteAt_20 : fetch 21 20 = some (.getfield 9, 23, 2, 0, 0, 126) := fr fe_X2_byteAt 10 rfl
theorem i_X2_byteAt_23 : fetch 21 23 = some (.iload_n 1, 24, 0, 0, 0, 0) := fr fe_X2_byteAt 11 rfl
theorem i_X2_byteAt_24 : fetch 21 24 = some (.iaload, 25, 0, 0, 0, 0) := fr fe_X2_byteAt 12 rfl
theorem i_X2_byteAt_25 : fetch 21 25 = some (.goto 4, 28, 0, 0, 0, 0) := fr fe_X2_byteAt 13 rfl
theorem i_X2_byteAt_28 : fetch 21 28 = some (.iconst (-1), 29, 0, 0, 0, 0) := fr fe_X2_byteAt 14 rfl
theorem i_X2_byteAt_29 : fetch 21 29 = some (.ireturn, 30, 0, 0, 0, 0) := fr fe_X2_byteAt 15 rfl
theorem i_X2_isDigit_0 : fetch 23 0 = some (.iload_n 0, 1, 0, 0, 0, 0) := fr fe_X2_isDigit 0 rfl
theorem i_X2_isDigit_1 : fetch 23 1 = some (.bipush 48, 3, 0, 0, 0, 0) := fr fe_X2_isDigit 1 rfl
theorem i_X2_isDigit_3 : fetch 23 3 = some (.bipush 57, 5, 0, 0, 0, 0) := fr fe_X2_isDigit 2 rfl
theorem i_X2_isDigit_5 : fetch 23 5 = some (.invokestatic 95, 8, 110, 1, 0, 378) := fr fe_X2_isDigit 3 rfl
theorem i_X2_isDigit_8 : fetch 23 8 = some (.ireturn, 9, 0, 0, 0, 0) := fr fe_X2_isDigit 4 rfl
theorem i_X2_isLetter_0 : fetch 22 0 = some (.iload_n 0, 1, 0, 0, 0, 0) := fr fe_X2_isLetter 0 rfl
theorem i_X2_isLetter_1 : fetch 22 1 = some (.bipush 97, 3, 0, 0, 0, 0) := fr fe_X2_isLetter 1 rfl
theorem i_X2_isLetter_3 : fetch 22 3 = some (.bipush 122, 5, 0, 0, 0, 0) := fr fe_X2_isLetter 2 rfl
theorem i_X2_isLetter_5 : fetch 22 5 = some (.invokestatic 95, 8, 110, 1, 0, 378) := fr fe_X2_isLetter 3 rfl
theorem i_X2_isLetter_8 : fetch 22 8 = some (.ireturn, 9, 0, 0, 0, 0) := fr fe_X2_isLetter 4 rfl
theorem i_X2_readNumber_0 : fetch 24 0 = some (.iconst 0, 1, 0, 0, 0, 0) := fr fe_X2_readNumber_1 0 rfl
theorem i_X2_readNumber_1 : fetch 24 1 = some (.istore_n 1, 2, 0, 0, 0, 0) := fr fe_X2_readNumber_1 1 rfl
theorem i_X2_readNumber_2 : fetch 24 2 = some (.iconst 0, 3, 0, 0, 0, 0) := fr fe_X2_readNumber_1 2 rfl
theorem i_X2_readNumber_3 : fetch 24 3 = some (.istore_n 2, 4, 0, 0, 0, 0) := fr fe_X2_readNumber_1 3 rfl
theorem i_X2_readNumber_4 : fetch 24 4 = some (.iload_n 2, 5, 0, 0, 0, 0) := fr fe_X2_readNumber_1 4 rfl
theorem i_X2_readNumber_5 : fetch 24 5 = some (.sipush 160, 8, 0, 0, 0, 0) := fr fe_X2_readNumber_1 5 rfl
theorem i_X2_readNumber_8 : fetch 24 8 = some (.if_icmp .ge 59, 11, 0, 0, 0, 0) := fr fe_X2_readNumber_1 6 rfl
theorem i_X2_readNumber_11 : fetch 24 11 = some (.aload_n 0, 12, 0, 0, 0, 0) := fr fe_X2_readNumber_1 7 rfl
theorem i_X2_readNumber_12 : fetch 24 12 = some (.aload_n 0, 13, 0, 0, 0, 0) := fr fe_X2_readNumber_1 8 rfl
theorem i_X2_readNumber_13 : fetch 24 13 = some (.getfield 19, 16, 2, 2, 0, 129) := fr fe_X2_readNumber_1 9 rfl
theorem i_X2_readNumber_16 : fetch 24 16 = some (.invokevirtual 72, 19, 21, 0, 0, 371) := fr fe_X2_readNumber_1 10 rfl
theorem i_X2_readNumber_19 : fetch 24 19 = some (.invokestatic 82, 22, 23, 0, 0, 392) := fr fe_X2_readNumber_1 11 rfl
theorem i_X2_readNumber_22 : fetch 24 22 = some (.ifCond .eq 45, 25, 0, 0, 0, 0) := fr fe_X2_readNumber_1 12 rfl
theorem i_X2_readNumber_25 : fetch 24 25 = some (.iload_n 2, 26, 0, 0, 0, 0) := fr fe_X2_readNumber_1 13 rfl
theorem i_X2_readNumber_26 : fetch 24 26 = some (.iconst 4, 27, 0, 0, 0, 0) := fr fe_X2_readNumber_1 14 rfl
theorem i_X2_readNumber_27 : fetch 24 27 = some (.if_icmp .ge 22, 30, 0, 0, 0, 0) := fr fe_X2_readNumber_1 15 rfl
theorem i_X2_readNumber_30 : fetch 24 30 = some (.iload_n 1, 31, 0, 0, 0, 0) := fr fe_X2_readNumber_1 16 rfl
theorem i_X2_readNumber_31 : fetch 24 31 = some (.bipush 10, 33, 0, 0, 0, 0) := fr fe_X2_readNumber_1 17 rfl
theorem i_X2_readNumber_33 : fetch 24 33 = some (.imul, 34, 0, 0, 0, 0) := fr fe_X2_readNumber_1 18 rfl
theorem i_X2_readNumber_34 : fetch 24 34 = some (.aload_n 0, 35, 0, 0, 0, 0) := fr fe_X2_readNumber_1 19 rfl
theorem i_X2_readNumber_35 : fetch 24 35 = some (.aload_n 0, 36, 0, 0, 0, 0) := fr fe_X2_readNumber_1 20 rfl
theorem i_X2_readNumber_36 : fetch 24 36 = some (.getfield 19, 39, 2, 2, 0, 129) := fr fe_X2_readNumber_1 21 rfl
theorem i_X2_readNumber_39 : fetch 24 39 = some (.invokevirtual 72, 42, 21, 0, 0, 371) := fr fe_X2_readNumber_1 22 rfl
theorem i_X2_readNumber_42 : fetch 24 42 = some (.iadd, 43, 0, 0, 0, 0) := fr fe_X2_readNumber_1 23 rfl
theorem i_X2_readNumber_43 : fetch 24 43 = some (.bipush 48, 45, 0, 0, 0, 0) := fr fe_X2_readNumber_1 24 rfl
theorem i_X2_readNumber_45 : fetch 24 45 = some (.isub, 46, 0, 0, 0, 0) := fr fe_X2_readNumber_2 0 rfl
theorem i_X2_readNumber_46 : fetch 24 46 = some (.goto 4, 49, 0, 0, 0, 0) := fr fe_X2_readNumber_2 1 rfl
theorem i_X2_readNumber_49 : fetch 24 49 = some (.iload_n 1, 50, 0, 0, 0, 0) := fr fe_X2_readNumber_2 2 rfl
theorem i_X2_readNumber_50 : fetch 24 50 = some (.istore_n 1, 51, 0, 0, 0, 0) := fr fe_X2_readNumber_2 3 rfl
theorem i_X2_readNumber_51 : fetch 24 51 = some (.aload_n 0, 52, 0, 0, 0, 0) := fr fe_X2_readNumber_2 4 rfl
theorem i_X2_readNumber_52 : fetch 24 52 = some (.dup, 53, 0, 0, 0, 0) := fr fe_X2_readNumber_2 5 rfl
theorem i_X2_readNumber_53 : fetch 24 53 = some (.getfield 19, 56, 2, 2, 0, 129) := fr fe_X2_readNumber_2 6 rfl
theorem i_X2_readNumber_56 : fetch 24 56 = some (.iconst 1, 57, 0, 0, 0, 0) := fr fe_X2_readNumber_2 7 rfl
theorem i_X2_readNumber_57 : fetch 24 57 = some (.iadd, 58, 0, 0, 0, 0) := fr fe_X2_readNumber_2 8 rfl
theorem i_X2_readNumber_58 : fetch 24 58 = some (.putfield 19, 61, 2, 2, 0, 129) := fr fe_X2_readNumber_2 9 rfl
theorem i_X2_readNumber_61 : fetch 24 61 = some (.iinc 2 1, 64, 0, 0, 0, 0) := fr fe_X2_readNumber_2 10 rfl
theorem i_X2_readNumber_64 : fetch 24 64 = some (.goto (-60), 67, 0, 0, 0, 0) := fr fe_X2_readNumber_2 11 rfl
theorem i_X2_readNumber_67 : fetch 24 67 = some (.aload_n 0, 68, 0, 0, 0, 0) := fr fe_X2_readNumber_2 12 rfl
theorem i_X2_readNumber_68 : fetch 24 68 = some (.aload_n 0, 69, 0, 0, 0, 0) := fr fe_X2_readNumber_2 13 rfl
theorem i_X2_readNumber_69 : fetch 24 69 = some (.getfield 19, 72, 2, 2, 0, 129) := fr fe_X2_readNumber_2 14 rfl
theorem i_X2_readNumber_72 : fetch 24 72 = some (.aload_n 0, 73, 0, 0, 0, 0) := fr fe_X2_readNumber_2 15 rfl
theorem i_X2_readNumber_73 : fetch 24 73 = some (.getfield 25, 76, 2, 4, 0, 131) := fr fe_X2_readNumber_2 16 rfl
theorem i_X2_readNumber_76 : fetch 24 76 = some (.isub, 77, 0, 0, 0, 0) := fr fe_X2_readNumber_2 17 rfl
theorem i_X2_readNumber_77 : fetch 24 77 = some (.iconst 4, 78, 0, 0, 0, 0) := fr fe_X2_readNumber_2 18 rfl
theorem i_X2_readNumber_78 : fetch 24 78 = some (.if_icmp .le 7, 81, 0, 0, 0, 0) := fr fe_X2_readNumber_2 19 rfl
theorem i_X2_readNumber_81 : fetch 24 81 = some (.iconst 1, 82, 0, 0, 0, 0) := fr fe_X2_readNumber_2 20 rfl
theorem i_X2_readNumber_82 : fetch 24 82 = some (.goto 4, 85, 0, 0, 0, 0) := fr fe_X2_readNumber_2 21 rfl
theorem i_X2_readNumber_85 : fetch 24 85 = some (.iconst 2, 86, 0, 0, 0, 0) := fr fe_X2_readNumber_2 22 rfl
theorem i_X2_readNumber_86 : fetch 24 86 = some (.putfield 22, 89, 2, 3, 0, 130) := fr fe_X2_readNumber_2 23 rfl
theorem i_X2_readNumber_89 : fetch 24 89 = some (.aload_n 0, 90, 0, 0, 0, 0) := fr fe_X2_readNumber_2 24 rfl
theorem i_X2_readNumber_90 : fetch 24 90 = some (.iload_n 1, 91, 0, 0, 0, 0) := fr fe_X2_readNumber_3 0 rfl
theorem i_X2_readNumber_91 : fetch 24 91 = some (.putfield 28, 94, 2, 5, 0, 132) := fr fe_X2_readNumber_3 1 rfl
theorem i_X2_readNumber_94 : fetch 24 94 = some (.return_, 95, 0, 0, 0, 0) := fr fe_X2_readNumber_3 2 rfl
theorem i_J3_checkIndex_8e157_0 : fetch 230 0 = some (.iload_n 0, 1, 0, 0, 0, 0) := fr fe_J3_checkIndex_8e157 0 rfl
theorem i_J3_checkIndex_8e157_1 : fetch 230 1 = some (.ifCond .lt 8, 4, 0, 0, 0, 0) := fr fe_J3_checkIndex_8e157 1 rfl
theorem i_J3_checkIndex_8e157_4 : fetch 230 4 = some (.iload_n 0, 5, 0, 0, 0, 0) := fr fe_J3_checkIndex_8e157 2 rfl
theorem i_J3_checkIndex_8e157_5 : fetch 230 5 = some (.iload_n 1, 6, 0, 0, 0, 0) := fr fe_J3_checkIndex_8e157 3 rfl
theorem i_J3_checkIndex_8e157_6 : fetch 230 6 = some (.if_icmp .lt 10, 9, 0, 0, 0, 0) := fr fe_J3_checkIndex_8e157 4 rfl
theorem i_J3_checkIndex_8e157_9 : fetch 230 9 = some (.aload_n 2, 10, 0, 0, 0, 0) := fr fe_J3_checkIndex_8e157 5 rfl
theorem i_J3_checkIndex_8e157_10 : fetch 230 10 = some (.iload_n 0, 11, 0, 0, 0, 0) := fr fe_J3_checkIndex_8e157 6 rfl
theorem i_J3_checkIndex_8e157_11 : fetch 230 11 = some (.iload_n 1, 12, 0, 0, 0, 0) := fr fe_J3_checkIndex_8e157 7 rfl
theorem i_J3_checkIndex_8e157_16 : fetch 230 16 = some (.iload_n 0, 17, 0, 0, 0, 0) := fr fe_J3_checkIndex_8e157 8 rfl
theorem i_J3_checkIndex_8e157_17 : fetch 230 17 = some (.ireturn, 18, 0, 0, 0, 0) := fr fe_J3_checkIndex_8e157 9 rfl
theorem i_J0_checkIndex_df160_0 : fetch 225 0 = some (.iload_n 0, 1, 0, 0, 0, 0) := fr fe_J0_checkIndex_df160 0 rfl
theorem i_J0_checkIndex_df160_1 : fetch 225 1 = some (.iload_n 1, 2, 0, 0, 0, 0) := fr fe_J0_checkIndex_df160 1 rfl
theorem i_J0_checkIndex_df160_2 : fetch 225 2 = some (.getstatic 1053, 5, 2, 0, 0, 331) := fr fe_J0_checkIndex_df160 2 rfl
theorem i_J0_checkIndex_df160_5 : fetch 225 5 = some (.invokestatic 1059, 8, 230, 0, 0, 333) := fr fe_J0_checkIndex_df160 3 rfl
theorem i_J0_checkIndex_df160_8 : fetch 225 8 = some (.pop, 9, 0, 0, 0, 0) := fr fe_J0_checkIndex_df160 4 rfl
theorem i_J0_checkIndex_df160_9 : fetch 225 9 = some (.return_, 10, 0, 0, 0, 0) := fr fe_J0_checkIndex_df160 5 rfl
theorem i_J1_charAt_3b067_0 : fetch 226 0 = some (.iload_n 1, 1, 0, 0, 0, 0) := fr fe_J1_charAt_3b067 0 rfl
theorem i_J1_charAt_3b067_1 : fetch 226 1 = some (.aload_n 0, 2, 0, 0, 0, 0) := fr fe_J1_charAt_3b067 1 rfl
theorem i_J1_charAt_3b067_2 : fetch 226 2 = some (.arraylength, 3, 0, 0, 0, 0) := fr fe_J1_charAt_3b067 2 rfl
theorem i_J1_charAt_3b067_3 : fetch 226 3 = some (.invokestatic 9, 6, 225, 0, 0, 328) := fr fe_J1_charAt_3b067 3 rfl
theorem i_J1_charAt_3b067_6 : fetch 226 6 = some (.aload_n 0, 7, 0, 0, 0, 0) := fr fe_J1_charAt_3b067 4 rfl
theorem i_J1_charAt_3b067_7 : fetch 226 7 = some (.iload_n 1, 8, 0, 0, 0, 0) := fr fe_J1_charAt_3b067 5 rfl
theorem i_J1_charAt_3b067_8 : fetch 226 8 = some (.baload, 9, 0, 0, 0, 0) := fr fe_J1_charAt_3b067 6 rfl
theorem i_J1_charAt_3b067_9 : fetch 226 9 = some (.sipush 255, 12, 0, 0, 0, 0) := fr fe_J1_charAt_3b067 7 rfl
theorem i_J1_charAt_3b067_12 : fetch 226 12 = some (.iand, 13, 0, 0, 0, 0) := fr fe_J1_charAt_3b067 8 rfl
theorem i_J1_charAt_3b067_13 : fetch 226 13 = some (.i2c, 14, 0, 0, 0, 0) := fr fe_J1_charAt_3b067 9 rfl
theorem i_J1_charAt_3b067_14 : fetch 226 14 = some (.ireturn, 15, 0, 0, 0, 0) := fr fe_J1_charAt_3b067 10 rfl
theorem i_J0_charAt_5068e_0 : fetch 220 0 = some (.aload_n 0, 1, 0, 0, 0, 0) := fr fe_J0_charAt_5068e 0 rfl
theorem i_J0_charAt_5068e_1 : fetch 220 1 = some (.invokevirtual 492, 4, 224, 0, 0, 321) := fr fe_J0_charAt_5068e 1 rfl
theorem i_J0_charAt_5068e_4 : fetch 220 4 = some (.ifCond .eq 12, 7, 0, 0, 0, 0) := fr fe_J0_charAt_5068e 2 rfl
theorem i_J0_charAt_5068e_7 : fetch 220 7 = some (.aload_n 0, 8, 0, 0, 0, 0) := fr fe_J0_charAt_5068e 3 rfl
theorem i_J0_charAt_5068e_8 : fetch 220 8 = some (.getfield 9, 11, 20, 0, 0, 1603) := fr fe_J0_charAt_5068e 4 rfl
theorem i_J0_charAt_5068e_11 : fetch 220 11 = some (.iload_n 1, 12, 0, 0, 0, 0) := fr fe_J0_charAt_5068e 5 rfl
theorem i_J0_charAt_5068e_12 : fetch 220 12 = some (.invokestatic 495, 15, 226, 0, 0, 325) := fr fe_J0_charAt_5068e 6 rfl
theorem i_J0_charAt_5068e_15 : fetch 220 15 = some (.ireturn, 16, 0, 0, 0, 0) := fr fe_J0_charAt_5068e 7 rfl
theorem i_J0_charAt_5068e_16 : fetch 220 16 = some (.aload_n 0, 17, 0, 0, 0, 0) := fr fe_J0_charAt_5068e 8 rfl
theorem i_J0_charAt_5068e_17 : fetch 220 17 = some (.getfield 9, 20, 20, 0, 0, 1603) := fr fe_J0_charAt_5068e 9 rfl
theorem i_J0_charAt_5068e_20 : fetch 220 20 = some (.iload_n 1, 21, 0, 0, 0, 0) := fr fe_J0_charAt_5068e 10 rfl
theorem i_X2_isWord_0 : fetch 26 0 = some (.aload_n 0, 1, 0, 0, 0, 0) := fr fe_X2_isWord_1 0 rfl
theorem i_X2_isWord_1 : fetch 26 1 = some (.getfield 19, 4, 2, 2, 0, 129) := fr fe_X2_isWord_1 1 rfl
theorem i_X2_isWord_4 : fetch 26 4 = some (.aload_n 0, 5, 0, 0, 0, 0) := fr fe_X2_isWord_1 2 rfl
theorem i_X2_isWord_5 : fetch 26 5 = some (.getfield 25, 8, 2, 4, 0, 131) := fr fe_X2_isWord_1 3 rfl
theorem i_X2_isWord_8 : fetch 26 8 = some (.isub, 9, 0, 0, 0, 0) := fr fe_X2_isWord_1 4 rfl
theorem i_X2_isWord_9 : fetch 26 9 = some (.bipush 6, 11, 0, 0, 0, 0) := fr fe_X2_isWord_1 5 rfl
theorem i_X2_isWord_11 : fetch 26 11 = some (.if_icmp .le 5, 14, 0, 0, 0, 0) := fr fe_X2_isWord_1 6 rfl
theorem i_X2_isWord_14 : fetch 26 14 = some (.iconst 0, 15, 0, 0, 0, 0) := fr fe_X2_isWord_1 7 rfl
theorem i_X2_isWord_15 : fetch 26 15 = some (.ireturn, 16, 0, 0, 0, 0) := fr fe_X2_isWord_1 8 rfl
theorem i_X2_isWord_16 : fetch 26 16 = some (.iconst 0, 17, 0, 0, 0, 0) := fr fe_X2_isWord_1 9 rfl
theorem i_X2_isWord_17 : fetch 26 17 = some (.istore_n 2, 18, 0, 0, 0, 0) := fr fe_X2_isWord_1 10 rfl
theorem i_X2_isWord_18 : fetch 26 18 = some (.iload_n 2, 19, 0, 0, 0, 0) := fr fe_X2_isWord_1 11 rfl
theorem i_X2_isWord_19 : fetch 26 19 = some (.bipush 6, 21, 0, 0, 0, 0) := fr fe_X2_isWord_1 12 rfl
theorem i_X2_isWord_21 : fetch 26 21 = some (.if_icmp .ge 74, 24, 0, 0, 0, 0) := fr fe_X2_isWord_1 13 rfl
theorem i_X2_isWord_24 : fetch 26 24 = some (.aload_n 0, 25, 0, 0, 0, 0) := fr fe_X2_isWord_1 14 rfl
theorem i_X2_isWord_25 : fetch 26 25 = some (.getfield 25, 28, 2, 4, 0, 131) := fr fe_X2_isWord_1 15 rfl
theorem i_X2_isWord_28 : fetch 26 28 = some (.iload_n 2, 29, 0, 0, 0, 0) := fr fe_X2_isWord_1 16 rfl
theorem i_X2_isWord_29 : fetch 26 29 = some (.iadd, 30, 0, 0, 0, 0) := fr fe_X2_isWord_1 17 rfl
theorem i_X2_isWord_30 : fetch 26 30 = some (.aload_n 0, 31, 0, 0, 0, 0) := fr fe_X2_isWord_1 18 rfl
theorem i_X2_isWord_31 : fetch 26 31 = some (.getfield 19, 34, 2, 2, 0, 129) := fr fe_X2_isWord_1 19 rfl
theorem i_X2_isWord_34 : fetch 26 34 = some (.if_icmp .ge 16, 37, 0, 0, 0, 0) := fr fe_X2_isWord_1 20 rfl
theorem i_X2_isWord_37 : fetch 26 37 = some (.aload_n 0, 38, 0, 0, 0, 0) := fr fe_X2_isWord_1 21 rfl
theorem i_X2_isWord_38 : fetch 26 38 = some (.aload_n 0, 39, 0, 0, 0, 0) := fr fe_X2_isWord_1 22 rfl
theorem i_X2_isWord_39 : fetch 26 39 = some (.getfield 25, 42, 2, 4, 0, 131) := fr fe_X2_isWord_1 23 rfl
theorem i_X2_isWord_42 : fetch 26 42 = some (.iload_n 2, 43, 0, 0, 0, 0) := fr fe_X2_isWord_1 24 rfl
theorem i_X2_isWord_43 : fetch 26 43 = some (.iadd, 44, 0, 0, 0, 0) := fr fe_X2_isWord_2 0 rfl
theorem i_X2_isWord_44 : fetch 26 44 = some (.invokevirtual 72, 47, 21, 0, 0, 371) := fr fe_X2_isWord_2 1 rfl
theorem i_X2_isWord_47 : fetch 26 47 = some (.goto 5, 50, 0, 0, 0, 0) := fr fe_X2_isWord_2 2 rfl
theorem i_X2_isWord_50 : fetch 26 50 = some (.bipush 32, 52, 0, 0, 0, 0) := fr fe_X2_isWord_2 3 rfl
theorem i_X2_isWord_52 : fetch 26 52 = some (.istore_n 3, 53, 0, 0, 0, 0) := fr fe_X2_isWord_2 4 rfl
theorem i_X2_isWord_53 : fetch 26 53 = some (.iload_n 1, 54, 0, 0, 0, 0) := fr fe_X2_isWord_2 5 rfl
theorem i_X2_isWord_54 : fetch 26 54 = some (.bipush 6, 56, 0, 0, 0, 0) := fr fe_X2_isWord_2 6 rfl
theorem i_X2_isWord_56 : fetch 26 56 = some (.imul, 57, 0, 0, 0, 0) := fr fe_X2_isWord_2 7 rfl
theorem i_X2_isWord_57 : fetch 26 57 = some (.iload_n 2, 58, 0, 0, 0, 0) := fr fe_X2_isWord_2 8 rfl
theorem i_X2_isWord_58 : fetch 26 58 = some (.iadd, 59, 0, 0, 0, 0) := fr fe_X2_isWord_2 9 rfl
theorem i_X2_isWord_59 : fetch 26 59 = some (.istore 4, 61, 0, 0, 0, 0) := fr fe_X2_isWord_2 10 rfl
theorem i_X2_isWord_61 : fetch 26 61 = some (.iload 4, 63, 0, 0, 0, 0) := fr fe_X2_isWord_2 11 rfl
theorem i_X2_isWord_63 : fetch 26 63 = some (.ifCond .lt 24, 66, 0, 0, 0, 0) := fr fe_X2_isWord_2 12 rfl
theorem i_X2_isWord_66 : fetch 26 66 = some (.iload 4, 68, 0, 0, 0, 0) := fr fe_X2_isWord_2 13 rfl
theorem i_X2_isWord_68 : fetch 26 68 = some (.ldc 102, 70, 2, 0, 0, 0) := fr fe_X2_isWord_2 14 rfl
theorem i_X2_isWord_70 : fetch 26 70 = some (.invokevirtual 104, 73, 219, 0, 0, 390) := fr fe_X2_isWord_2 15 rfl
theorem i_X2_isWord_73 : fetch 26 73 = some (.if_icmp .ge 14, 76, 0, 0, 0, 0) := fr fe_X2_isWord_2 16 rfl
theorem i_X2_isWord_76 : fetch 26 76 = some (.ldc 102, 78, 2, 0, 0, 0) := fr fe_X2_isWord_2 17 rfl
theorem i_X2_isWord_78 : fetch 26 78 = some (.iload 4, 80, 0, 0, 0, 0) := fr fe_X2_isWord_2 18 rfl
theorem i_X2_isWord_80 : fetch 26 80 = some (.invokevirtual 108, 83, 220, 0, 0, 391) := fr fe_X2_isWord_2 19 rfl
theorem i_X2_isWord_83 : fetch 26 83 = some (.iload_n 3, 84, 0, 0, 0, 0) := fr fe_X2_isWord_2 20 rfl
theorem i_X2_isWord_84 : fetch 26 84 = some (.if_icmp .eq 5, 87, 0, 0, 0, 0) := fr fe_X2_isWord_2 21 rfl
theorem i_X2_isWord_87 : fetch 26 87 = some (.iconst 0, 88, 0, 0, 0, 0) := fr fe_X2_isWord_2 22 rfl
theorem i_X2_isWord_88 : fetch 26 88 = some (.ireturn, 89, 0, 0, 0, 0) := fr fe_X2_isWord_2 23 rfl
theorem i_X2_isWord_89 : fetch 26 89 = some (.iinc 2 1, 92, 0, 0, 0, 0) := fr fe_X2_isWord_2 24 rfl
theorem i_X2_isWord_92 : fetch 26 92 = some (.goto (-74), 95, 0, 0, 0, 0) := fr fe_X2_isWord_3 0 rfl
theorem i_X2_isWord_95 : fetch 26 95 = some (.iconst 1, 96, 0, 0, 0, 0) := fr fe_X2_isWord_3 1 rfl
theorem i_X2_isWord_96 : fetch 26 96 = some (.ireturn, 97, 0, 0, 0, 0) := fr fe_X2_isWord_3 2 rfl
theorem i_X2_readWord_0 : fetch 25 0 = some (.iconst 0, 1, 0, 0, 0, 0) := fr fe_X2_readWord_1 0 rfl
theorem i_X2_readWord_1 : fetch 25 1 = some (.istore_n 1, 2, 0, 0, 0, 0) := fr fe_X2_readWord_1 1 rfl
theorem i_X2_readWord_2 : fetch 25 2 = some (.iload_n 1, 3, 0, 0, 0, 0) := fr fe_X2_readWord_1 2 rfl
theorem i_X2_readWord_3 : fetch 25 3 = some (.sipush 160, 6, 0, 0, 0, 0) := fr fe_X2_readWord_1 3 rfl
theorem i_X2_readWord_6 : fetch 25 6 = some (.if_icmp .ge 33, 9, 0, 0, 0, 0) := fr fe_X2_readWord_1 4 rfl
theorem i_X2_readWord_9 : fetch 25 9 = some (.aload_n 0, 10, 0, 0, 0, 0) := fr fe_X2_readWord_1 5 rfl
theorem i_X2_readWord_10 : fetch 25 10 = some (.aload_n 0, 11, 0, 0, 0, 0) := fr fe_X2_readWord_1 6 rfl
theorem i_X2_readWord_11 : fetch 25 11 = some (.getfield 19, 14, 2, 2, 0, 129) := fr fe_X2_readWord_1 7 rfl
theorem i_X2_readWord_14 : fetch 25 14 = some (.invokevirtual 72, 17, 21, 0, 0, 371) := fr fe_X2_readWord_1 8 rfl
theorem i_X2_readWord_17 : fetch 25 17 = some (.invokestatic 75, 20, 22, 0, 0, 375) := fr fe_X2_readWord_1 9 rfl
theorem i_X2_readWord_20 : fetch 25 20 = some (.ifCond .eq 19, 23, 0, 0, 0, 0) := fr fe_X2_readWord_1 10 rfl
theorem i_X2_readWord_23 : fetch 25 23 = some (.aload_n 0, 24, 0, 0, 0, 0) := fr fe_X2_readWord_1 11 rfl
theorem i_X2_readWord_24 : fetch 25 24 = some (.dup, 25, 0, 0, 0, 0) := fr fe_X2_readWord_1 12 rfl
theorem i_X2_readWord_25 : fetch 25 25 = some (.getfield 19, 28, 2, 2, 0, 129) := fr fe_X2_readWord_1 13 rfl
theorem i_X2_readWord_28 : fetch 25 28 = some (.iconst 1, 29, 0, 0, 0, 0) := fr fe_X2_readWord_1 14 rfl
theorem i_X2_readWord_29 : fetch 25 29 = some (.iadd, 30, 0, 0, 0, 0) := fr fe_X2_readWord_1 15 rfl
theorem i_X2_readWord_30 : fetch 25 30 = some (.putfield 19, 33, 2, 2, 0, 129) := fr fe_X2_readWord_1 16 rfl
theorem i_X2_readWord_33 : fetch 25 33 = some (.iinc 1 1, 36, 0, 0, 0, 0) := fr fe_X2_readWord_1 17 rfl
theorem i_X2_readWord_36 : fetch 25 36 = some (.goto (-34), 39, 0, 0, 0, 0) := fr fe_X2_readWord_1 18 rfl
theorem i_X2_readWord_39 : fetch 25 39 = some (.aload_n 0, 40, 0, 0, 0, 0) := fr fe_X2_readWord_1 19 rfl
theorem i_X2_readWord_40 : fetch 25 40 = some (.iconst 1, 41, 0, 0, 0, 0) := fr fe_X2_readWord_1 20 rfl
theorem i_X2_readWord_41 : fetch 25 41 = some (.putfield 22, 44, 2, 3, 0, 130) := fr fe_X2_readWord_1 21 rfl
theorem i_X2_readWord_44 : fetch 25 44 = some (.iconst 0, 45, 0, 0, 0, 0) := fr fe_X2_readWord_1 22 rfl
theorem i_X2_readWord_45 : fetch 25 45 = some (.istore_n 1, 46, 0, 0, 0, 0) := fr fe_X2_readWord_1 23 rfl
theorem i_X2_readWord_46 : fetch 25 46 = some (.iload_n 1, 47, 0, 0, 0, 0) := fr fe_X2_readWord_1 24 rfl
theorem i_X2_readWord_47 : fetch 25 47 = some (.bipush 12, 49, 0, 0, 0, 0) := fr fe_X2_readWord_2 0 rfl
theorem i_X2_readWord_49 : fetch 25 49 = some (.if_icmp .ge 51, 52, 0, 0, 0, 0) := fr fe_X2_readWord_2 1 rfl
theorem i_X2_readWord_52 : fetch 25 52 = some (.aload_n 0, 53, 0, 0, 0, 0) := fr fe_X2_readWord_2 2 rfl
theorem i_X2_readWord_53 : fetch 25 53 = some (.getfield 22, 56, 2, 3, 0, 130) := fr fe_X2_readWord_2 3 rfl
theorem i_X2_readWord_56 : fetch 25 56 = some (.iconst 1, 57, 0, 0, 0, 0) := fr fe_X2_readWord_2 4 rfl
theorem i_X2_readWord_57 : fetch 25 57 = some (.if_icmp .ne 43, 60, 0, 0, 0, 0) := fr fe_X2_readWord_2 5 rfl
theorem i_X2_readWord_60 : fetch 25 60 = some (.aload_n 0, 61, 0, 0, 0, 0) := fr fe_X2_readWord_2 6 rfl
theorem i_X2_readWord_61 : fetch 25 61 = some (.iload_n 1, 62, 0, 0, 0, 0) := fr fe_X2_readWord_2 7 rfl
theorem i_X2_readWord_62 : fetch 25 62 = some (.invokevirtual 99, 65, 26, 0, 0, 385) := fr fe_X2_readWord_2 8 rfl
theorem i_X2_readWord_65 : fetch 25 65 = some (.ifCond .eq 29, 68, 0, 0, 0, 0) := fr fe_X2_readWord_2 9 rfl
theorem i_X2_readWord_68 : fetch 25 68 = some (.aload_n 0, 69, 0, 0, 0, 0) := fr fe_X2_readWord_2 10 rfl
theorem i_X2_readWord_69 : fetch 25 69 = some (.iload_n 1, 70, 0, 0, 0, 0) := fr fe_X2_readWord_2 11 rfl
theorem i_X2_readWord_70 : fetch 25 70 = some (.bipush 6, 72, 0, 0, 0, 0) := fr fe_X2_readWord_2 12 rfl
theorem i_X2_readWord_72 : fetch 25 72 = some (.if_icmp .ge 10, 75, 0, 0, 0, 0) := fr fe_X2_readWord_2 13 rfl
theorem i_X2_readWord_75 : fetch 25 75 = some (.bipush 10, 77, 0, 0, 0, 0) := fr fe_X2_readWord_2 14 rfl
theorem i_X2_readWord_77 : fetch 25 77 = some (.iload_n 1, 78, 0, 0, 0, 0) := fr fe_X2_readWord_2 15 rfl
theorem i_X2_readWord_78 : fetch 25 78 = some (.iadd, 79, 0, 0, 0, 0) := fr fe_X2_readWord_2 16 rfl
theorem i_X2_readWord_79 : fetch 25 79 = some (.goto 4, 82, 0, 0, 0, 0) := fr fe_X2_readWord_2 17 rfl
theorem i_X2_readWord_82 : fetch 25 82 = some (.iconst 3, 83, 0, 0, 0, 0) := fr fe_X2_readWord_2 18 rfl
theorem i_X2_readWord_83 : fetch 25 83 = some (.putfield 22, 86, 2, 3, 0, 130) := fr fe_X2_readWord_2 19 rfl
theorem i_X2_readWord_86 : fetch 25 86 = some (.aload_n 0, 87, 0, 0, 0, 0) := fr fe_X2_readWord_2 20 rfl
theorem i_X2_readWord_87 : fetch 25 87 = some (.iload_n 1, 88, 0, 0, 0, 0) := fr fe_X2_readWord_2 21 rfl
theorem i_X2_readWord_88 : fetch 25 88 = some (.bipush 6, 90, 0, 0, 0, 0) := fr fe_X2_readWord_2 22 rfl
theorem i_X2_readWord_90 : fetch 25 90 = some (.isub, 91, 0, 0, 0, 0) := fr fe_X2_readWord_2 23 rfl
theorem i_X2_readWord_91 : fetch 25 91 = some (.putfield 28, 94, 2, 5, 0, 132) := fr fe_X2_readWord_2 24 rfl
theorem i_X2_readWord_94 : fetch 25 94 = some (.iinc 1 1, 97, 0, 0, 0, 0) := fr fe_X2_readWord_3 0 rfl
theorem i_X2_readWord_97 : fetch 25 97 = some (.goto (-51), 100, 0, 0, 0, 0) := fr fe_X2_readWord_3 1 rfl
theorem i_X2_readWord_100 : fetch 25 100 = some (.return_, 101, 0, 0, 0, 0) := fr fe_X2_readWord_3 2 rfl
theorem i_X2_advance_0 : fetch 20 0 = some (.iconst 0, 1, 0, 0, 0, 0) := fr fe_X2_advance_1 0 rfl
theorem i_X2_advance_1 : fetch 20 1 = some (.istore_n 1, 2, 0, 0, 0, 0) := fr fe_X2_advance_1 1 rfl
theorem i_X2_advance_2 : fetch 20 2 = some (.iload_n 1, 3, 0, 0, 0, 0) := fr fe_X2_advance_1 2 rfl
theorem i_X2_advance_3 : fetch 20 3 = some (.sipush 160, 6, 0, 0, 0, 0) := fr fe_X2_advance_1 3 rfl
theorem i_X2_advance_6 : fetch 20 6 = some (.if_icmp .ge 45, 9, 0, 0, 0, 0) := fr fe_X2_advance_1 4 rfl
theorem i_X2_advance_9 : fetch 20 9 = some (.aload_n 0, 10, 0, 0, 0, 0) := fr fe_X2_advance_1 5 rfl
theorem i_X2_advance_10 : fetch 20 10 = some (.aload_n 0, 11, 0, 0, 0, 0) := fr fe_X2_advance_1 6 rfl
theorem i_X2_advance_11 : fetch 20 11 = some (.getfield 19, 14, 2, 2, 0, 129) := fr fe_X2_advance_1 7 rfl
theorem i_X2_advance_14 : fetch 20 14 = some (.invokevirtual 72, 17, 21, 0, 0, 371) := fr fe_X2_advance_1 8 rfl
theorem i_X2_advance_17 : fetch 20 17 = some (.bipush 32, 19, 0, 0, 0, 0) := fr fe_X2_advance_1 9 rfl
theorem i_X2_advance_19 : fetch 20 19 = some (.if_icmp .eq 16, 22, 0, 0, 0, 0) := fr fe_X2_advance_1 10 rfl
theorem i_X2_advance_22 : fetch 20 22 = some (.aload_n 0, 23, 0, 0, 0, 0) := fr fe_X2_advance_1 11 rfl
theorem i_X2_advance_23 : fetch 20 23 = some (.aload_n 0, 24, 0, 0, 0, 0) := fr fe_X2_advance_1 12 rfl
theorem i_X2_advance_24 : fetch 20 24 = some (.getfield 19, 27, 2, 2, 0, 129) := fr fe_X2_advance_1 13 rfl
theorem i_X2_advance_27 : fetch 20 27 = some (.invokevirtual 72, 30, 21, 0, 0, 371) := fr fe_X2_advance_1 14 rfl
theorem i_X2_advance_30 : fetch 20 30 = some (.bipush 10, 32, 0, 0, 0, 0) := fr fe_X2_advance_1 15 rfl
theorem i_X2_advance_32 : fetch 20 32 = some (.if_icmp .ne 19, 35, 0, 0, 0, 0) := fr fe_X2_advance_1 16 rfl
theorem i_X2_advance_35 : fetch 20 35 = some (.aload_n 0, 36, 0, 0, 0, 0) := fr fe_X2_advance_1 17 rfl
theorem i_X2_advance_36 : fetch 20 36 = some (.dup, 37, 0, 0, 0, 0) := fr fe_X2_advance_1 18 rfl
theorem i_X2_advance_37 : fetch 20 37 = some (.getfield 19, 40, 2, 2, 0, 129) := fr fe_X2_advance_1 19 rfl
theorem i_X2_advance_40 : fetch 20 40 = some (.iconst 1, 41, 0, 0, 0, 0) := fr fe_X2_advance_1 20 rfl
theorem i_X2_advance_41 : fetch 20 41 = some (.iadd, 42, 0, 0, 0, 0) := fr fe_X2_advance_1 21 rfl
theorem i_X2_advance_42 : fetch 20 42 = some (.putfield 19, 45, 2, 2, 0, 129) := fr fe_X2_advance_1 22 rfl
theorem i_X2_advance_45 : fetch 20 45 = some (.iinc 1 1, 48, 0, 0, 0, 0) := fr fe_X2_advance_1 23 rfl
theorem i_X2_advance_48 : fetch 20 48 = some (.goto (-46), 51, 0, 0, 0, 0) := fr fe_X2_advance_1 24 rfl
theorem i_X2_advance_51 : fetch 20 51 = some (.aload_n 0, 52, 0, 0, 0, 0) := fr fe_X2_advance_2 0 rfl
theorem i_X2_advance_52 : fetch 20 52 = some (.aload_n 0, 53, 0, 0, 0, 0) := fr fe_X2_advance_2 1 rfl
theorem i_X2_advance_53 : fetch 20 53 = some (.getfield 19, 56, 2, 2, 0, 129) := fr fe_X2_advance_2 2 rfl
theorem i_X2_advance_56 : fetch 20 56 = some (.putfield 25, 59, 2, 4, 0, 131) := fr fe_X2_advance_2 3 rfl
theorem i_X2_advance_59 : fetch 20 59 = some (.aload_n 0, 60, 0, 0, 0, 0) := fr fe_X2_advance_2 4 rfl
theorem i_X2_advance_60 : fetch 20 60 = some (.aload_n 0, 61, 0, 0, 0, 0) := fr fe_X2_advance_2 5 rfl
theorem i_X2_advance_61 : fetch 20 61 = some (.getfield 19, 64, 2, 2, 0, 129) := fr fe_X2_advance_2 6 rfl
theorem i_X2_advance_64 : fetch 20 64 = some (.invokevirtual 72, 67, 21, 0, 0, 371) := fr fe_X2_advance_2 7 rfl
theorem i_X2_advance_67 : fetch 20 67 = some (.istore_n 1, 68, 0, 0, 0, 0) := fr fe_X2_advance_2 8 rfl
theorem i_X2_advance_68 : fetch 20 68 = some (.iload_n 1, 69, 0, 0, 0, 0) := fr fe_X2_advance_2 9 rfl
theorem i_X2_advance_69 : fetch 20 69 = some (.iconst (-1), 70, 0, 0, 0, 0) := fr fe_X2_advance_2 10 rfl
theorem i_X2_advance_70 : fetch 20 70 = some (.if_icmp .ne 11, 73, 0, 0, 0, 0) := fr fe_X2_advance_2 11 rfl
theorem i_X2_advance_73 : fetch 20 73 = some (.aload_n 0, 74, 0, 0, 0, 0) := fr fe_X2_advance_2 12 rfl
theorem i_X2_advance_74 : fetch 20 74 = some (.iconst 0, 75, 0, 0, 0, 0) := fr fe_X2_advance_2 13 rfl
theorem i_X2_advance_75 : fetch 20 75 = some (.putfield 22, 78, 2, 3, 0, 130) := fr fe_X2_advance_2 14 rfl
theorem i_X2_advance_78 : fetch 20 78 = some (.goto 60, 81, 0, 0, 0, 0) := fr fe_X2_advance_2 15 rfl
theorem i_X2_advance_81 : fetch 20 81 = some (.iload_n 1, 82, 0, 0, 0, 0) := fr fe_X2_advance_2 16 rfl
theorem i_X2_advance_82 : fetch 20 82 = some (.invokestatic 75, 85, 22, 0, 0, 375) := fr fe_X2_advance_2 17 rfl
theorem i_X2_advance_85 : fetch 20 85 = some (.ifCond .eq 10, 88, 0, 0, 0, 0) := fr fe_X2_advance_2 18 rfl
theorem i_X2_advance_88 : fetch 20 88 = some (.aload_n 0, 89, 0, 0, 0, 0) := fr fe_X2_advance_2 19 rfl
theorem i_X2_advance_89 : fetch 20 89 = some (.invokevirtual 79, 92, 25, 0, 0, 381) := fr fe_X2_advance_2 20 rfl
theorem i_X2_advance_92 : fetch 20 92 = some (.goto 46, 95, 0, 0, 0, 0) := fr fe_X2_advance_2 21 rfl
theorem i_X2_advance_95 : fetch 20 95 = some (.iload_n 1, 96, 0, 0, 0, 0) := fr fe_X2_advance_2 22 rfl
theorem i_X2_advance_96 : fetch 20 96 = some (.invokestatic 82, 99, 23, 0, 0, 392) := fr fe_X2_advance_2 23 rfl
theorem i_X2_advance_99 : fetch 20 99 = some (.ifCond .eq 10, 102, 0, 0, 0, 0) := fr fe_X2_advance_2 24 rfl
theorem i_X2_advance_102 : fetch 20 102 = some (.aload_n 0, 103, 0, 0, 0, 0) := fr fe_X2_advance_3 0 rfl
theorem i_X2_advance_103 : fetch 20 103 = some (.invokevirtual 85, 106, 24, 0, 0, 395) := fr fe_X2_advance_3 1 rfl
theorem i_X2_advance_106 : fetch 20 106 = some (.goto 32, 109, 0, 0, 0, 0) := fr fe_X2_advance_3 2 rfl
theorem i_X2_advance_109 : fetch 20 109 = some (.aload_n 0, 110, 0, 0, 0, 0) := fr fe_X2_advance_3 3 rfl
theorem i_X2_advance_110 : fetch 20 110 = some (.dup, 111, 0, 0, 0, 0) := fr fe_X2_advance_3 4 rfl
theorem i_X2_advance_111 : fetch 20 111 = some (.getfield 19, 114, 2, 2, 0, 129) := fr fe_X2_advance_3 5 rfl
theorem i_X2_advance_114 : fetch 20 114 = some (.iconst 1, 115, 0, 0, 0, 0) := fr fe_X2_advance_3 6 rfl
theorem i_X2_advance_115 : fetch 20 115 = some (.iadd, 116, 0, 0, 0, 0) := fr fe_X2_advance_3 7 rfl
theorem i_X2_advance_116 : fetch 20 116 = some (.putfield 19, 119, 2, 2, 0, 129) := fr fe_X2_advance_3 8 rfl
theorem i_X2_advance_119 : fetch 20 119 = some (.aload_n 0, 120, 0, 0, 0, 0) := fr fe_X2_advance_3 9 rfl
theorem i_X2_advance_120 : fetch 20 120 = some (.ldc 88, 122, 3, 0, 0, 0) := fr fe_X2_advance_3 10 rfl
theorem i_X2_advance_122 : fetch 20 122 = some (.iload_n 1, 123, 0, 0, 0, 0) := fr fe_X2_advance_3 11 rfl
theorem i_X2_advance_123 : fetch 20 123 = some (.i2c, 124, 0, 0, 0, 0) := fr fe_X2_advance_3 12 rfl
theorem i_X2_advance_124 : fetch 20 124 = some (.invokevirtual 90, 127, 221, 0, 0, 400) := fr fe_X2_advance_3 13 rfl
theorem i_X2_advance_127 : fetch 20 127 = some (.ifCond .lt 7, 130, 0, 0, 0, 0) := fr fe_X2_advance_3 14 rfl
theorem i_X2_advance_130 : fetch 20 130 = some (.iload_n 1, 131, 0, 0, 0, 0) := fr fe_X2_advance_3 15 rfl
theorem i_X2_advance_131 : fetch 20 131 = some (.goto 4, 134, 0, 0, 0, 0) := fr fe_X2_advance_3 16 rfl
theorem i_X2_advance_134 : fetch 20 134 = some (.iconst 1, 135, 0, 0, 0, 0) := fr fe_X2_advance_3 17 rfl
theorem i_X2_advance_135 : fetch 20 135 = some (.putfield 22, 138, 2, 3, 0, 130) := fr fe_X2_advance_3 18 rfl
theorem i_X2_advance_138 : fetch 20 138 = some (.return_, 139, 0, 0, 0, 0) := fr fe_X2_advance_3 19 rfl
theorem i_X6_add_0 : fetch 61 0 = some (.aload_n 0, 1, 0, 0, 0, 0) := fr fe_X6_add 0 rfl
theorem i_X6_add_1 : fetch 61 1 = some (.getfield 21, 4, 6, 3, 0, 177) := fr fe_X6_add 1 rfl
theorem i_X6_add_4 : fetch 61 4 = some (.sipush 160, 7, 0, 0, 0, 0) := fr fe_X6_add 2 rfl
theorem i_X6_add_7 : fetch 61 7 = some (.if_icmp .ge 23, 10, 0, 0, 0, 0) := fr fe_X6_add 3 rfl
theorem i_X6_add_10 : fetch 61 10 = some (.aload_n 0, 11, 0, 0, 0, 0) := fr fe_X6_add 4 rfl
theorem i_X6_add_11 : fetch 61 11 = some (.getfield 9, 14, 6, 0, 0, 174) := fr fe_X6_add 5 rfl
theorem i_X6_add_14 : fetch 61 14 = some (.aload_n 0, 15, 0, 0, 0, 0) := fr fe_X6_add 6 rfl
theorem i_X6_add_15 : fetch 61 15 = some (.getfield 21, 18, 6, 3, 0, 177) := fr fe_X6_add 7 rfl
theorem i_X6_add_18 : fetch 61 18 = some (.iload_n 1, 19, 0, 0, 0, 0) := fr fe_X6_add 8 rfl
theorem i_X6_add_19 : fetch 61 19 = some (.iastore, 20, 0, 0, 0, 0) := fr fe_X6_add 9 rfl
theorem i_X6_add_20 : fetch 61 20 = some (.aload_n 0, 21, 0, 0, 0, 0) := fr fe_X6_add 10 rfl
theorem i_X6_add_21 : fetch 61 21 = some (.dup, 22, 0, 0, 0, 0) := fr fe_X6_add 11 rfl
theorem i_X6_add_22 : fetch 61 22 = some (.getfield 21, 25, 6, 3, 0, 177) := fr fe_X6_add 12 rfl
theorem i_X6_add_25 : fetch 61 25 = some (.iconst 1, 26, 0, 0, 0, 0) := fr fe_X6_add 13 rfl
theorem i_X6_add_26 : fetch 61 26 = some (.iadd, 27, 0, 0, 0, 0) := fr fe_X6_add 14 rfl
theorem i_X6_add_27 : fetch 61 27 = some (.putfield 21, 30, 6, 3, 0, 177) := fr fe_X6_add 15 rfl
theorem i_X6_add_30 : fetch 61 30 = some (.return_, 31, 0, 0, 0, 0) := fr fe_X6_add 16 rfl
theorem i_X6_nameCode_0 : fetch 60 0 = some (.iconst (-1), 1, 0, 0, 0, 0) := fr fe_X6_nameCode 0 rfl
theorem i_X6_nameCode_1 : fetch 60 1 = some (.iload_n 0, 2, 0, 0, 0, 0) := fr fe_X6_nameCode 1 rfl
theorem i_X6_nameCode_2 : fetch 60 2 = some (.isub, 3, 0, 0, 0, 0) := fr fe_X6_nameCode 2 rfl
theorem i_X6_nameCode_3 : fetch 60 3 = some (.ireturn, 4, 0, 0, 0, 0) := fr fe_X6_nameCode 3 rfl
theorem i_X2_readOne_0 : fetch 19 0 = some (.aload_n 0, 1, 0, 0, 0, 0) := fr fe_X2_readOne_1 0 rfl
theorem i_X2_readOne_1 : fetch 19 1 = some (.getfield 22, 4, 2, 3, 0, 130) := fr fe_X2_readOne_1 1 rfl
theorem i_X2_readOne_4 : fetch 19 4 = some (.iconst 2, 5, 0, 0, 0, 0) := fr fe_X2_readOne_1 2 rfl
theorem i_X2_readOne_5 : fetch 19 5 = some (.if_icmp .eq 11, 8, 0, 0, 0, 0) := fr fe_X2_readOne_1 3 rfl
theorem i_X2_readOne_8 : fetch 19 8 = some (.aload_n 0, 9, 0, 0, 0, 0) := fr fe_X2_readOne_1 4 rfl
theorem i_X2_readOne_9 : fetch 19 9 = some (.getfield 22, 12, 2, 3, 0, 130) := fr fe_X2_readOne_1 5 rfl
theorem i_X2_readOne_12 : fetch 19 12 = some (.iconst 3, 13, 0, 0, 0, 0) := fr fe_X2_readOne_1 6 rfl
theorem i_X2_readOne_13 : fetch 19 13 = some (.if_icmp .ne 35, 16, 0, 0, 0, 0) := fr fe_X2_readOne_1 7 rfl
theorem i_X2_readOne_16 : fetch 19 16 = some (.aload_n 1, 17, 0, 0, 0, 0) := fr fe_X2_readOne_1 8 rfl
theorem i_X2_readOne_17 : fetch 19 17 = some (.aload_n 0, 18, 0, 0, 0, 0) := fr fe_X2_readOne_1 9 rfl
theorem i_X2_readOne_18 : fetch 19 18 = some (.getfield 22, 21, 2, 3, 0, 130) := fr fe_X2_readOne_1 10 rfl
theorem i_X2_readOne_21 : fetch 19 21 = some (.iconst 2, 22, 0, 0, 0, 0) := fr fe_X2_readOne_1 11 rfl
theorem i_X2_readOne_22 : fetch 19 22 = some (.if_icmp .ne 10, 25, 0, 0, 0, 0) := fr fe_X2_readOne_1 12 rfl
theorem i_X2_readOne_25 : fetch 19 25 = some (.aload_n 0, 26, 0, 0, 0, 0) := fr fe_X2_readOne_1 13 rfl
theorem i_X2_readOne_26 : fetch 19 26 = some (.getfield 28, 29, 2, 5, 0, 132) := fr fe_X2_readOne_1 14 rfl
theorem i_X2_readOne_29 : fetch 19 29 = some (.goto 10, 32, 0, 0, 0, 0) := fr fe_X2_readOne_1 15 rfl
theorem i_X2_readOne_32 : fetch 19 32 = some (.aload_n 0, 33, 0, 0, 0, 0) := fr fe_X2_readOne_1 16 rfl
theorem i_X2_readOne_33 : fetch 19 33 = some (.getfield 28, 36, 2, 5, 0, 132) := fr fe_X2_readOne_1 17 rfl
theorem i_X2_readOne_36 : fetch 19 36 = some (.invokestatic 68, 39, 60, 0, 0, 487) := fr fe_X2_readOne_1 18 rfl
theorem i_X2_readOne_39 : fetch 19 39 = some (.invokevirtual 50, 42, 61, 0, 0, 490) := fr fe_X2_readOne_1 19 rfl
theorem i_X2_readOne_42 : fetch 19 42 = some (.aload_n 0, 43, 0, 0, 0, 0) := fr fe_X2_readOne_1 20 rfl
theorem i_X2_readOne_43 : fetch 19 43 = some (.invokevirtual 36, 46, 20, 0, 0, 367) := fr fe_X2_readOne_1 21 rfl
theorem i_X2_readOne_46 : fetch 19 46 = some (.iconst 1, 47, 0, 0, 0, 0) := fr fe_X2_readOne_1 22 rfl
theorem i_X2_readOne_47 : fetch 19 47 = some (.ireturn, 48, 0, 0, 0, 0) := fr fe_X2_readOne_1 23 rfl
theorem i_X2_readOne_48 : fetch 19 48 = some (.aload_n 0, 49, 0, 0, 0, 0) := fr fe_X2_readOne_1 24 rfl
theorem i_X2_readOne_49 : fetch 19 49 = some (.getfield 22, 52, 2, 3, 0, 130) := fr fe_X2_readOne_2 0 rfl
theorem i_X2_readOne_52 : fetch 19 52 = some (.bipush 45, 54, 0, 0, 0, 0) := fr fe_X2_readOne_2 1 rfl
theorem i_X2_readOne_54 : fetch 19 54 = some (.if_icmp .eq 12, 57, 0, 0, 0, 0) := fr fe_X2_readOne_2 2 rfl
theorem i_X2_readOne_57 : fetch 19 57 = some (.aload_n 0, 58, 0, 0, 0, 0) := fr fe_X2_readOne_2 3 rfl
theorem i_X2_readOne_58 : fetch 19 58 = some (.getfield 22, 61, 2, 3, 0, 130) := fr fe_X2_readOne_2 4 rfl
theorem i_X2_readOne_61 : fetch 19 61 = some (.bipush 40, 63, 0, 0, 0, 0) := fr fe_X2_readOne_2 5 rfl
theorem i_X2_readOne_63 : fetch 19 63 = some (.if_icmp .ne 8, 66, 0, 0, 0, 0) := fr fe_X2_readOne_2 6 rfl
theorem i_X2_readOne_66 : fetch 19 66 = some (.iload_n 2, 67, 0, 0, 0, 0) := fr fe_X2_readOne_2 7 rfl
theorem i_X2_readOne_67 : fetch 19 67 = some (.iconst 5, 68, 0, 0, 0, 0) := fr fe_X2_readOne_2 8 rfl
theorem i_X2_readOne_68 : fetch 19 68 = some (.if_icmp .lt 5, 71, 0, 0, 0, 0) := fr fe_X2_readOne_2 9 rfl
theorem i_X2_readOne_71 : fetch 19 71 = some (.iconst 0, 72, 0, 0, 0, 0) := fr fe_X2_readOne_2 10 rfl
theorem i_X2_readOne_72 : fetch 19 72 = some (.ireturn, 73, 0, 0, 0, 0) := fr fe_X2_readOne_2 11 rfl
theorem i_X2_readOne_73 : fetch 19 73 = some (.aload_n 0, 74, 0, 0, 0, 0) := fr fe_X2_readOne_2 12 rfl
theorem i_X2_readOne_74 : fetch 19 74 = some (.getfield 22, 77, 2, 3, 0, 130) := fr fe_X2_readOne_2 13 rfl
theorem i_X2_readOne_77 : fetch 19 77 = some (.bipush 45, 79, 0, 0, 0, 0) := fr fe_X2_readOne_2 14 rfl
theorem i_X2_readOne_79 : fetch 19 79 = some (.if_icmp .ne 7, 82, 0, 0, 0, 0) := fr fe_X2_readOne_2 15 rfl
theorem i_X2_readOne_82 : fetch 19 82 = some (.iconst 1, 83, 0, 0, 0, 0) := fr fe_X2_readOne_2 16 rfl
theorem i_X2_readOne_83 : fetch 19 83 = some (.goto 4, 86, 0, 0, 0, 0) := fr fe_X2_readOne_2 17 rfl
theorem i_X2_readOne_86 : fetch 19 86 = some (.iconst 0, 87, 0, 0, 0, 0) := fr fe_X2_readOne_2 18 rfl
theorem i_X2_readOne_87 : fetch 19 87 = some (.istore_n 3, 88, 0, 0, 0, 0) := fr fe_X2_readOne_2 19 rfl
theorem i_X2_readOne_88 : fetch 19 88 = some (.aload_n 0, 89, 0, 0, 0, 0) := fr fe_X2_readOne_2 20 rfl
theorem i_X2_readOne_89 : fetch 19 89 = some (.invokevirtual 36, 92, 20, 0, 0, 367) := fr fe_X2_readOne_2 21 rfl
theorem i_X2_readOne_92 : fetch 19 92 = some (.iload_n 3, 93, 0, 0, 0, 0) := fr fe_X2_readOne_2 22 rfl
theorem i_X2_readOne_93 : fetch 19 93 = some (.ifCond .eq 24, 96, 0, 0, 0, 0) := fr fe_X2_readOne_2 23 rfl
theorem i_X2_readOne_96 : fetch 19 96 = some (.aload_n 0, 97, 0, 0, 0, 0) := fr fe_X2_readOne_2 24 rfl
theorem i_X2_readOne_97 : fetch 19 97 = some (.aload_n 1, 98, 0, 0, 0, 0) := fr fe_X2_readOne_3 0 rfl
theorem i_X2_readOne_98 : fetch 19 98 = some (.iload_n 2, 99, 0, 0, 0, 0) := fr fe_X2_readOne_3 1 rfl
theorem i_X2_readOne_99 : fetch 19 99 = some (.iconst 1, 100, 0, 0, 0, 0) := fr fe_X2_readOne_3 2 rfl
theorem i_X2_readOne_100 : fetch 19 100 = some (.iadd, 101, 0, 0, 0, 0) := fr fe_X2_readOne_3 3 rfl
theorem i_X2_readOne_101 : fetch 19 101 = some (.invokevirtual 65, 104, 19, 0, 0, 483) := fr fe_X2_readOne_3 4 rfl
theorem i_X2_readOne_104 : fetch 19 104 = some (.ifCond .ne 5, 107, 0, 0, 0, 0) := fr fe_X2_readOne_3 5 rfl
theorem i_X2_readOne_107 : fetch 19 107 = some (.iconst 0, 108, 0, 0, 0, 0) := fr fe_X2_readOne_3 6 rfl
theorem i_X2_readOne_108 : fetch 19 108 = some (.ireturn, 109, 0, 0, 0, 0) := fr fe_X2_readOne_3 7 rfl
theorem i_X2_readOne_109 : fetch 19 109 = some (.aload_n 1, 110, 0, 0, 0, 0) := fr fe_X2_readOne_3 8 rfl
theorem i_X2_readOne_110 : fetch 19 110 = some (.bipush (-19), 112, 0, 0, 0, 0) := fr fe_X2_readOne_3 9 rfl
theorem i_X2_readOne_112 : fetch 19 112 = some (.invokevirtual 50, 115, 61, 0, 0, 490) := fr fe_X2_readOne_3 10 rfl
theorem i_X2_readOne_115 : fetch 19 115 = some (.iconst 1, 116, 0, 0, 0, 0) := fr fe_X2_readOne_3 11 rfl
theorem i_X2_readOne_116 : fetch 19 116 = some (.ireturn, 117, 0, 0, 0, 0) := fr fe_X2_readOne_3 12 rfl
theorem i_X2_readOne_117 : fetch 19 117 = some (.aload_n 0, 118, 0, 0, 0, 0) := fr fe_X2_readOne_3 13 rfl
theorem i_X2_readOne_118 : fetch 19 118 = some (.aload_n 1, 119, 0, 0, 0, 0) := fr fe_X2_readOne_3 14 rfl
theorem i_X2_readOne_119 : fetch 19 119 = some (.iload_n 2, 120, 0, 0, 0, 0) := fr fe_X2_readOne_3 15 rfl
theorem i_X2_readOne_120 : fetch 19 120 = some (.iconst 1, 121, 0, 0, 0, 0) := fr fe_X2_readOne_3 16 rfl
theorem i_X2_readOne_121 : fetch 19 121 = some (.iadd, 122, 0, 0, 0, 0) := fr fe_X2_readOne_3 17 rfl
theorem i_X2_readOne_122 : fetch 19 122 = some (.invokevirtual 39, 125, 13, 0, 0, 459) := fr fe_X2_readOne_3 18 rfl
theorem i_X2_readOne_125 : fetch 19 125 = some (.ifCond .eq 12, 128, 0, 0, 0, 0) := fr fe_X2_readOne_3 19 rfl
theorem i_X2_readOne_128 : fetch 19 128 = some (.aload_n 0, 129, 0, 0, 0, 0) := fr fe_X2_readOne_3 20 rfl
theorem i_X2_readOne_129 : fetch 19 129 = some (.getfield 22, 132, 2, 3, 0, 130) := fr fe_X2_readOne_3 21 rfl
theorem i_X2_readOne_132 : fetch 19 132 = some (.bipush 41, 134, 0, 0, 0, 0) := fr fe_X2_readOne_3 22 rfl
theorem i_X2_readOne_134 : fetch 19 134 = some (.if_icmp .eq 5, 137, 0, 0, 0, 0) := fr fe_X2_readOne_3 23 rfl
theorem i_X2_readOne_137 : fetch 19 137 = some (.iconst 0, 138, 0, 0, 0, 0) := fr fe_X2_readOne_3 24 rfl
theorem i_X2_readOne_138 : fetch 19 138 = some (.ireturn, 139, 0, 0, 0, 0) := fr fe_X2_readOne_4 0 rfl
theorem i_X2_readOne_139 : fetch 19 139 = some (.aload_n 0, 140, 0, 0, 0, 0) := fr fe_X2_readOne_4 1 rfl
theorem i_X2_readOne_140 : fetch 19 140 = some (.invokevirtual 36, 143, 20, 0, 0, 367) := fr fe_X2_readOne_4 2 rfl
theorem i_X2_readOne_143 : fetch 19 143 = some (.iconst 1, 144, 0, 0, 0, 0) := fr fe_X2_readOne_4 3 rfl
theorem i_X2_readOne_144 : fetch 19 144 = some (.ireturn, 145, 0, 0, 0, 0) := fr fe_X2_readOne_4 4 rfl
theorem i_X2_readProduct_0 : fetch 18 0 = some (.aload_n 0, 1, 0, 0, 0, 0) := fr fe_X2_readProduct_1 0 rfl
theorem i_X2_readProduct_1 : fetch 18 1 = some (.aload_n 1, 2, 0, 0, 0, 0) := fr fe_X2_readProduct_1 1 rfl
theorem i_X2_readProduct_2 : fetch 18 2 = some (.iload_n 2, 3, 0, 0, 0, 0) := fr fe_X2_readProduct_1 2 rfl
theorem i_X2_readProduct_3 : fetch 18 3 = some (.invokevirtual 65, 6, 19, 0, 0, 483) := fr fe_X2_readProduct_1 3 rfl
theorem i_X2_readProduct_6 : fetch 18 6 = some (.ifCond .ne 5, 9, 0, 0, 0, 0) := fr fe_X2_readProduct_1 4 rfl
theorem i_X2_readProduct_9 : fetch 18 9 = some (.iconst 0, 10, 0, 0, 0, 0) := fr fe_X2_readProduct_1 5 rfl
theorem i_X2_readProduct_10 : fetch 18 10 = some (.ireturn, 11, 0, 0, 0, 0) := fr fe_X2_readProduct_1 6 rfl
theorem i_X2_readProduct_11 : fetch 18 11 = some (.iconst 0, 12, 0, 0, 0, 0) := fr fe_X2_readProduct_1 7 rfl
theorem i_X2_readProduct_12 : fetch 18 12 = some (.istore_n 3, 13, 0, 0, 0, 0) := fr fe_X2_readProduct_1 8 rfl
theorem i_X2_readProduct_13 : fetch 18 13 = some (.iload_n 3, 14, 0, 0, 0, 0) := fr fe_X2_readProduct_1 9 rfl
theorem i_X2_readProduct_14 : fetch 18 14 = some (.sipush 160, 17, 0, 0, 0, 0) := fr fe_X2_readProduct_1 10 rfl
theorem i_X2_readProduct_17 : fetch 18 17 = some (.if_icmp .ge 39, 20, 0, 0, 0, 0) := fr fe_X2_readProduct_1 11 rfl
theorem i_X2_readProduct_20 : fetch 18 20 = some (.aload_n 0, 21, 0, 0, 0, 0) := fr fe_X2_readProduct_1 12 rfl
theorem i_X2_readProduct_21 : fetch 18 21 = some (.getfield 22, 24, 2, 3, 0, 130) := fr fe_X2_readProduct_1 13 rfl
theorem i_X2_readProduct_24 : fetch 18 24 = some (.bipush 42, 26, 0, 0, 0, 0) := fr fe_X2_readProduct_1 14 rfl
theorem i_X2_readProduct_26 : fetch 18 26 = some (.if_icmp .ne 30, 29, 0, 0, 0, 0) := fr fe_X2_readProduct_1 15 rfl
theorem i_X2_readProduct_29 : fetch 18 29 = some (.aload_n 0, 30, 0, 0, 0, 0) := fr fe_X2_readProduct_1 16 rfl
theorem i_X2_readProduct_30 : fetch 18 30 = some (.invokevirtual 36, 33, 20, 0, 0, 367) := fr fe_X2_readProduct_1 17 rfl
theorem i_X2_readProduct_33 : fetch 18 33 = some (.aload_n 0, 34, 0, 0, 0, 0) := fr fe_X2_readProduct_1 18 rfl
theorem i_X2_readProduct_34 : fetch 18 34 = some (.aload_n 1, 35, 0, 0, 0, 0) := fr fe_X2_readProduct_1 19 rfl
theorem i_X2_readProduct_35 : fetch 18 35 = some (.iload_n 2, 36, 0, 0, 0, 0) := fr fe_X2_readProduct_1 20 rfl
theorem i_X2_readProduct_36 : fetch 18 36 = some (.invokevirtual 65, 39, 19, 0, 0, 483) := fr fe_X2_readProduct_1 21 rfl
theorem i_X2_readProduct_39 : fetch 18 39 = some (.ifCond .ne 5, 42, 0, 0, 0, 0) := fr fe_X2_readProduct_1 22 rfl
theorem i_X2_readProduct_42 : fetch 18 42 = some (.iconst 0, 43, 0, 0, 0, 0) := fr fe_X2_readProduct_1 23 rfl
theorem i_X2_readProduct_43 : fetch 18 43 = some (.ireturn, 44, 0, 0, 0, 0) := fr fe_X2_readProduct_1 24 rfl
theorem i_X2_readProduct_44 : fetch 18 44 = some (.aload_n 1, 45, 0, 0, 0, 0) := fr fe_X2_readProduct_2 0 rfl
theorem i_X2_readProduct_45 : fetch 18 45 = some (.bipush (-18), 47, 0, 0, 0, 0) := fr fe_X2_readProduct_2 1 rfl
theorem i_X2_readProduct_47 : fetch 18 47 = some (.invokevirtual 50, 50, 61, 0, 0, 490) := fr fe_X2_readProduct_2 2 rfl
theorem i_X2_readProduct_50 : fetch 18 50 = some (.iinc 3 1, 53, 0, 0, 0, 0) := fr fe_X2_readProduct_2 3 rfl
theorem i_X2_readProduct_53 : fetch 18 53 = some (.goto (-40), 56, 0, 0, 0, 0) := fr fe_X2_readProduct_2 4 rfl
theorem i_X2_readProduct_56 : fetch 18 56 = some (.iconst 1, 57, 0, 0, 0, 0) := fr fe_X2_readProduct_2 5 rfl
theorem i_X2_readProduct_57 : fetch 18 57 = some (.ireturn, 58, 0, 0, 0, 0) := fr fe_X2_readProduct_2 6 rfl
theorem i_X2_readSum_0 : fetch 17 0 = some (.aload_n 0, 1, 0, 0, 0, 0) := fr fe_X2_readSum_1 0 rfl
theorem i_X2_readSum_1 : fetch 17 1 = some (.aload_n 1, 2, 0, 0, 0, 0) := fr fe_X2_readSum_1 1 rfl
theorem i_X2_readSum_2 : fetch 17 2 = some (.iload_n 2, 3, 0, 0, 0, 0) := fr fe_X2_readSum_1 2 rfl
theorem i_X2_readSum_3 : fetch 17 3 = some (.invokevirtual 62, 6, 18, 0, 0, 479) := fr fe_X2_readSum_1 3 rfl
theorem i_X2_readSum_6 : fetch 17 6 = some (.ifCond .ne 5, 9, 0, 0, 0, 0) := fr fe_X2_readSum_1 4 rfl
theorem i_X2_readSum_9 : fetch 17 9 = some (.iconst 0, 10, 0, 0, 0, 0) := fr fe_X2_readSum_1 5 rfl
theorem i_X2_readSum_10 : fetch 17 10 = some (.ireturn, 11, 0, 0, 0, 0) := fr fe_X2_readSum_1 6 rfl
theorem i_X2_readSum_11 : fetch 17 11 = some (.iconst 0, 12, 0, 0, 0, 0) := fr fe_X2_readSum_1 7 rfl
theorem i_X2_readSum_12 : fetch 17 12 = some (.istore_n 3, 13, 0, 0, 0, 0) := fr fe_X2_readSum_1 8 rfl
theorem i_X2_readSum_13 : fetch 17 13 = some (.iload_n 3, 14, 0, 0, 0, 0) := fr fe_X2_readSum_1 9 rfl
theorem i_X2_readSum_14 : fetch 17 14 = some (.sipush 160, 17, 0, 0, 0, 0) := fr fe_X2_readSum_1 10 rfl
theorem i_X2_readSum_17 : fetch 17 17 = some (.if_icmp .ge 66, 20, 0, 0, 0, 0) := fr fe_X2_readSum_1 11 rfl
theorem i_X2_readSum_20 : fetch 17 20 = some (.aload_n 0, 21, 0, 0, 0, 0) := fr fe_X2_readSum_1 12 rfl
theorem i_X2_readSum_21 : fetch 17 21 = some (.getfield 22, 24, 2, 3, 0, 130) := fr fe_X2_readSum_1 13 rfl
theorem i_X2_readSum_24 : fetch 17 24 = some (.bipush 43, 26, 0, 0, 0, 0) := fr fe_X2_readSum_1 14 rfl
theorem i_X2_readSum_26 : fetch 17 26 = some (.if_icmp .eq 12, 29, 0, 0, 0, 0) := fr fe_X2_readSum_1 15 rfl
theorem i_X2_readSum_29 : fetch 17 29 = some (.aload_n 0, 30, 0, 0, 0, 0) := fr fe_X2_readSum_1 16 rfl
theorem i_X2_readSum_30 : fetch 17 30 = some (.getfield 22, 33, 2, 3, 0, 130) := fr fe_X2_readSum_1 17 rfl
theorem i_X2_readSum_33 : fetch 17 33 = some (.bipush 45, 35, 0, 0, 0, 0) := fr fe_X2_readSum_1 18 rfl
theorem i_X2_readSum_35 : fetch 17 35 = some (.if_icmp .ne 48, 38, 0, 0, 0, 0) := fr fe_X2_readSum_1 19 rfl
theorem i_X2_readSum_38 : fetch 17 38 = some (.aload_n 0, 39, 0, 0, 0, 0) := fr fe_X2_readSum_1 20 rfl
theorem i_X2_readSum_39 : fetch 17 39 = some (.getfield 22, 42, 2, 3, 0, 130) := fr fe_X2_readSum_1 21 rfl
theorem i_X2_readSum_42 : fetch 17 42 = some (.bipush 43, 44, 0, 0, 0, 0) := fr fe_X2_readSum_1 22 rfl
theorem i_X2_readSum_44 : fetch 17 44 = some (.if_icmp .ne 8, 47, 0, 0, 0, 0) := fr fe_X2_readSum_1 23 rfl
theorem i_X2_readSum_47 : fetch 17 47 = some (.bipush (-16), 49, 0, 0, 0, 0) := fr fe_X2_readSum_1 24 rfl
theorem i_X2_readSum_49 : fetch 17 49 = some (.goto 5, 52, 0, 0, 0, 0) := fr fe_X2_readSum_2 0 rfl
theorem i_X2_readSum_52 : fetch 17 52 = some (.bipush (-17), 54, 0, 0, 0, 0) := fr fe_X2_readSum_2 1 rfl
theorem i_X2_readSum_54 : fetch 17 54 = some (.istore 4, 56, 0, 0, 0, 0) := fr fe_X2_readSum_2 2 rfl
theorem i_X2_readSum_56 : fetch 17 56 = some (.aload_n 0, 57, 0, 0, 0, 0) := fr fe_X2_readSum_2 3 rfl
theorem i_X2_readSum_57 : fetch 17 57 = some (.invokevirtual 36, 60, 20, 0, 0, 367) := fr fe_X2_readSum_2 4 rfl
theorem i_X2_readSum_60 : fetch 17 60 = some (.aload_n 0, 61, 0, 0, 0, 0) := fr fe_X2_readSum_2 5 rfl
theorem i_X2_readSum_61 : fetch 17 61 = some (.aload_n 1, 62, 0, 0, 0, 0) := fr fe_X2_readSum_2 6 rfl
theorem i_X2_readSum_62 : fetch 17 62 = some (.iload_n 2, 63, 0, 0, 0, 0) := fr fe_X2_readSum_2 7 rfl
theorem i_X2_readSum_63 : fetch 17 63 = some (.invokevirtual 62, 66, 18, 0, 0, 479) := fr fe_X2_readSum_2 8 rfl
theorem i_X2_readSum_66 : fetch 17 66 = some (.ifCond .ne 5, 69, 0, 0, 0, 0) := fr fe_X2_readSum_2 9 rfl
theorem i_X2_readSum_69 : fetch 17 69 = some (.iconst 0, 70, 0, 0, 0, 0) := fr fe_X2_readSum_2 10 rfl
theorem i_X2_readSum_70 : fetch 17 70 = some (.ireturn, 71, 0, 0, 0, 0) := fr fe_X2_readSum_2 11 rfl
theorem i_X2_readSum_71 : fetch 17 71 = some (.aload_n 1, 72, 0, 0, 0, 0) := fr fe_X2_readSum_2 12 rfl
theorem i_X2_readSum_72 : fetch 17 72 = some (.iload 4, 74, 0, 0, 0, 0) := fr fe_X2_readSum_2 13 rfl
theorem i_X2_readSum_74 : fetch 17 74 = some (.invokevirtual 50, 77, 61, 0, 0, 490) := fr fe_X2_readSum_2 14 rfl
theorem i_X2_readSum_77 : fetch 17 77 = some (.iinc 3 1, 80, 0, 0, 0, 0) := fr fe_X2_readSum_2 15 rfl
theorem i_X2_readSum_80 : fetch 17 80 = some (.goto (-67), 83, 0, 0, 0, 0) := fr fe_X2_readSum_2 16 rfl
theorem i_X2_readSum_83 : fetch 17 83 = some (.iconst 1, 84, 0, 0, 0, 0) := fr fe_X2_readSum_2 17 rfl
theorem i_X2_readSum_84 : fetch 17 84 = some (.ireturn, 85, 0, 0, 0, 0) := fr fe_X2_readSum_2 18 rfl
theorem i_X2_readCompared_0 : fetch 16 0 = some (.aload_n 0, 1, 0, 0, 0, 0) := fr fe_X2_readCompared_1 0 rfl
theorem i_X2_readCompared_1 : fetch 16 1 = some (.aload_n 1, 2, 0, 0, 0, 0) := fr fe_X2_readCompared_1 1 rfl
theorem i_X2_readCompared_2 : fetch 16 2 = some (.iload_n 2, 3, 0, 0, 0, 0) := fr fe_X2_readCompared_1 2 rfl
theorem i_X2_readCompared_3 : fetch 16 3 = some (.invokevirtual 59, 6, 17, 0, 0, 475) := fr fe_X2_readCompared_1 3 rfl
theorem i_X2_readCompared_6 : fetch 16 6 = some (.ifCond .ne 5, 9, 0, 0, 0, 0) := fr fe_X2_readCompared_1 4 rfl
theorem i_X2_readCompared_9 : fetch 16 9 = some (.iconst 0, 10, 0, 0, 0, 0) := fr fe_X2_readCompared_1 5 rfl
theorem i_X2_readCompared_10 : fetch 16 10 = some (.ireturn, 11, 0, 0, 0, 0) := fr fe_X2_readCompared_1 6 rfl
theorem i_X2_readCompared_11 : fetch 16 11 = some (.aload_n 0, 12, 0, 0, 0, 0) := fr fe_X2_readCompared_1 7 rfl
theorem i_X2_readCompared_12 : fetch 16 12 = some (.getfield 22, 15, 2, 3, 0, 130) := fr fe_X2_readCompared_1 8 rfl
theorem i_X2_readCompared_15 : fetch 16 15 = some (.bipush 60, 17, 0, 0, 0, 0) := fr fe_X2_readCompared_1 9 rfl
theorem i_X2_readCompared_17 : fetch 16 17 = some (.if_icmp .eq 14, 20, 0, 0, 0, 0) := fr fe_X2_readCompared_1 10 rfl
theorem i_X2_readCompared_20 : fetch 16 20 = some (.aload_n 0, 21, 0, 0, 0, 0) := fr fe_X2_readCompared_1 11 rfl
theorem i_X2_readCompared_21 : fetch 16 21 = some (.getfield 22, 24, 2, 3, 0, 130) := fr fe_X2_readCompared_1 12 rfl
theorem i_X2_readCompared_24 : fetch 16 24 = some (.bipush 61, 26, 0, 0, 0, 0) := fr fe_X2_readCompared_1 13 rfl
theorem i_X2_readCompared_26 : fetch 16 26 = some (.if_icmp .eq 5, 29, 0, 0, 0, 0) := fr fe_X2_readCompared_1 14 rfl
theorem i_X2_readCompared_29 : fetch 16 29 = some (.iconst 1, 30, 0, 0, 0, 0) := fr fe_X2_readCompared_1 15 rfl
theorem i_X2_readCompared_30 : fetch 16 30 = some (.ireturn, 31, 0, 0, 0, 0) := fr fe_X2_readCompared_1 16 rfl
theorem i_X2_readCompared_31 : fetch 16 31 = some (.aload_n 0, 32, 0, 0, 0, 0) := fr fe_X2_readCompared_1 17 rfl
theorem i_X2_readCompared_32 : fetch 16 32 = some (.getfield 22, 35, 2, 3, 0, 130) := fr fe_X2_readCompared_1 18 rfl
theorem i_X2_readCompared_35 : fetch 16 35 = some (.bipush 60, 37, 0, 0, 0, 0) := fr fe_X2_readCompared_1 19 rfl
theorem i_X2_readCompared_37 : fetch 16 37 = some (.if_icmp .ne 8, 40, 0, 0, 0, 0) := fr fe_X2_readCompared_1 20 rfl
theorem i_X2_readCompared_40 : fetch 16 40 = some (.bipush (-14), 42, 0, 0, 0, 0) := fr fe_X2_readCompared_1 21 rfl
theorem i_X2_readCompared_42 : fetch 16 42 = some (.goto 5, 45, 0, 0, 0, 0) := fr fe_X2_readCompared_1 22 rfl
theorem i_X2_readCompared_45 : fetch 16 45 = some (.bipush (-15), 47, 0, 0, 0, 0) := fr fe_X2_readCompared_1 23 rfl
theorem i_X2_readCompared_47 : fetch 16 47 = some (.istore_n 3, 48, 0, 0, 0, 0) := fr fe_X2_readCompared_1 24 rfl
theorem i_X2_readCompared_48 : fetch 16 48 = some (.aload_n 0, 49, 0, 0, 0, 0) := fr fe_X2_readCompared_2 0 rfl
theorem i_X2_readCompared_49 : fetch 16 49 = some (.invokevirtual 36, 52, 20, 0, 0, 367) := fr fe_X2_readCompared_2 1 rfl
theorem i_X2_readCompared_52 : fetch 16 52 = some (.aload_n 0, 53, 0, 0, 0, 0) := fr fe_X2_readCompared_2 2 rfl
theorem i_X2_readCompared_53 : fetch 16 53 = some (.aload_n 1, 54, 0, 0, 0, 0) := fr fe_X2_readCompared_2 3 rfl
theorem i_X2_readCompared_54 : fetch 16 54 = some (.iload_n 2, 55, 0, 0, 0, 0) := fr fe_X2_readCompared_2 4 rfl
theorem i_X2_readCompared_55 : fetch 16 55 = some (.invokevirtual 59, 58, 17, 0, 0, 475) := fr fe_X2_readCompared_2 5 rfl
theorem i_X2_readCompared_58 : fetch 16 58 = some (.ifCond .ne 5, 61, 0, 0, 0, 0) := fr fe_X2_readCompared_2 6 rfl
theorem i_X2_readCompared_61 : fetch 16 61 = some (.iconst 0, 62, 0, 0, 0, 0) := fr fe_X2_readCompared_2 7 rfl
theorem i_X2_readCompared_62 : fetch 16 62 = some (.ireturn, 63, 0, 0, 0, 0) := fr fe_X2_readCompared_2 8 rfl
theorem i_X2_readCompared_63 : fetch 16 63 = some (.aload_n 1, 64, 0, 0, 0, 0) := fr fe_X2_readCompared_2 9 rfl
theorem i_X2_readCompared_64 : fetch 16 64 = some (.iload_n 3, 65, 0, 0, 0, 0) := fr fe_X2_readCompared_2 10 rfl
theorem i_X2_readCompared_65 : fetch 16 65 = some (.invokevirtual 50, 68, 61, 0, 0, 490) := fr fe_X2_readCompared_2 11 rfl
theorem i_X2_readCompared_68 : fetch 16 68 = some (.iconst 1, 69, 0, 0, 0, 0) := fr fe_X2_readCompared_2 12 rfl
theorem i_X2_readCompared_69 : fetch 16 69 = some (.ireturn, 70, 0, 0, 0, 0) := fr fe_X2_readCompared_2 13 rfl
theorem i_X2_readNot_0 : fetch 15 0 = some (.aload_n 0, 1, 0, 0, 0, 0) := fr fe_X2_readNot 0 rfl
theorem i_X2_readNot_1 : fetch 15 1 = some (.getfield 22, 4, 2, 3, 0, 130) := fr fe_X2_readNot 1 rfl
theorem i_X2_readNot_4 : fetch 15 4 = some (.bipush 15, 6, 0, 0, 0, 0) := fr fe_X2_readNot 2 rfl
theorem i_X2_readNot_6 : fetch 15 6 = some (.if_icmp .eq 10, 9, 0, 0, 0, 0) := fr fe_X2_readNot 3 rfl
theorem i_X2_readNot_9 : fetch 15 9 = some (.aload_n 0, 10, 0, 0, 0, 0) := fr fe_X2_readNot 4 rfl
theorem i_X2_readNot_10 : fetch 15 10 = some (.aload_n 1, 11, 0, 0, 0, 0) := fr fe_X2_readNot 5 rfl
theorem i_X2_readNot_11 : fetch 15 11 = some (.iload_n 2, 12, 0, 0, 0, 0) := fr fe_X2_readNot 6 rfl
theorem i_X2_readNot_12 : fetch 15 12 = some (.invokevirtual 56, 15, 16, 0, 0, 471) := fr fe_X2_readNot 7 rfl
theorem i_X2_readNot_15 : fetch 15 15 = some (.ireturn, 16, 0, 0, 0, 0) := fr fe_X2_readNot 8 rfl
theorem i_X2_readNot_16 : fetch 15 16 = some (.iload_n 2, 17, 0, 0, 0, 0) := fr fe_X2_readNot 9 rfl
theorem i_X2_readNot_17 : fetch 15 17 = some (.iconst 5, 18, 0, 0, 0, 0) := fr fe_X2_readNot 10 rfl
theorem i_X2_readNot_18 : fetch 15 18 = some (.if_icmp .lt 5, 21, 0, 0, 0, 0) := fr fe_X2_readNot 11 rfl
theorem i_X2_readNot_21 : fetch 15 21 = some (.iconst 0, 22, 0, 0, 0, 0) := fr fe_X2_readNot 12 rfl
theorem i_X2_readNot_22 : fetch 15 22 = some (.ireturn, 23, 0, 0, 0, 0) := fr fe_X2_readNot 13 rfl
theorem i_X2_readNot_23 : fetch 15 23 = some (.aload_n 0, 24, 0, 0, 0, 0) := fr fe_X2_readNot 14 rfl
theorem i_X2_readNot_24 : fetch 15 24 = some (.invokevirtual 36, 27, 20, 0, 0, 367) := fr fe_X2_readNot 15 rfl
theorem i_X2_readNot_27 : fetch 15 27 = some (.aload_n 0, 28, 0, 0, 0, 0) := fr fe_X2_readNot 16 rfl
theorem i_X2_readNot_28 : fetch 15 28 = some (.aload_n 1, 29, 0, 0, 0, 0) := fr fe_X2_readNot 17 rfl
theorem i_X2_readNot_29 : fetch 15 29 = some (.iload_n 2, 30, 0, 0, 0, 0) := fr fe_X2_readNot 18 rfl
theorem i_X2_readNot_30 : fetch 15 30 = some (.iconst 1, 31, 0, 0, 0, 0) := fr fe_X2_readNot 19 rfl
theorem i_X2_readNot_31 : fetch 15 31 = some (.iadd, 32, 0, 0, 0, 0) := fr fe_X2_readNot 20 rfl
theorem i_X2_readNot_32 : fetch 15 32 = some (.invokevirtual 53, 35, 15, 0, 0, 467) := fr fe_X2_readNot 21 rfl
theorem i_X2_readNot_35 : fetch 15 35 = some (.ifCond .ne 5, 38, 0, 0, 0, 0) := fr fe_X2_readNot 22 rfl
theorem i_X2_readNot_38 : fetch 15 38 = some (.iconst 0, 39, 0, 0, 0, 0) := fr fe_X2_readNot 23 rfl
theorem i_X2_readNot_39 : fetch 15 39 = some (.ireturn, 40, 0, 0, 0, 0) := fr fe_X2_readNot 24 rfl
theorem i_X2_readNot_40 : fetch 15 40 = some (.aload_n 1, 41, 0, 0, 0, 0) := fr fe_X2_readNot 25 rfl
theorem i_X2_readNot_41 : fetch 15 41 = some (.bipush (-13), 43, 0, 0, 0, 0) := fr fe_X2_readNot 26 rfl
theorem i_X2_readNot_43 : fetch 15 43 = some (.invokevirtual 50, 46, 61, 0, 0, 490) := fr fe_X2_readNot 27 rfl
theorem i_X2_readNot_46 : fetch 15 46 = some (.iconst 1, 47, 0, 0, 0, 0) := fr fe_X2_readNot 28 rfl
theorem i_X2_readNot_47 : fetch 15 47 = some (.ireturn, 48, 0, 0, 0, 0) := fr fe_X2_readNot 29 rfl
theorem i_X2_readBoth_0 : fetch 14 0 = some (.aload_n 0, 1, 0, 0, 0, 0) := fr fe_X2_readBoth_1 0 rfl
theorem i_X2_readBoth_1 : fetch 14 1 = some (.aload_n 1, 2, 0, 0, 0, 0) := fr fe_X2_readBoth_1 1 rfl
theorem i_X2_readBoth_2 : fetch 14 2 = some (.iload_n 2, 3, 0, 0, 0, 0) := fr fe_X2_readBoth_1 2 rfl
theorem i_X2_readBoth_3 : fetch 14 3 = some (.invokevirtual 53, 6, 15, 0, 0, 467) := fr fe_X2_readBoth_1 3 rfl
theorem i_X2_readBoth_6 : fetch 14 6 = some (.ifCond .ne 5, 9, 0, 0, 0, 0) := fr fe_X2_readBoth_1 4 rfl
theorem i_X2_readBoth_9 : fetch 14 9 = some (.iconst 0, 10, 0, 0, 0, 0) := fr fe_X2_readBoth_1 5 rfl
theorem i_X2_readBoth_10 : fetch 14 10 = some (.ireturn, 11, 0, 0, 0, 0) := fr fe_X2_readBoth_1 6 rfl
theorem i_X2_readBoth_11 : fetch 14 11 = some (.iconst 0, 12, 0, 0, 0, 0) := fr fe_X2_readBoth_1 7 rfl
theorem i_X2_readBoth_12 : fetch 14 12 = some (.istore_n 3, 13, 0, 0, 0, 0) := fr fe_X2_readBoth_1 8 rfl
theorem i_X2_readBoth_13 : fetch 14 13 = some (.iload_n 3, 14, 0, 0, 0, 0) := fr fe_X2_readBoth_1 9 rfl
theorem i_X2_readBoth_14 : fetch 14 14 = some (.sipush 160, 17, 0, 0, 0, 0) := fr fe_X2_readBoth_1 10 rfl
theorem i_X2_readBoth_17 : fetch 14 17 = some (.if_icmp .ge 39, 20, 0, 0, 0, 0) := fr fe_X2_readBoth_1 11 rfl
theorem i_X2_readBoth_20 : fetch 14 20 = some (.aload_n 0, 21, 0, 0, 0, 0) := fr fe_X2_readBoth_1 12 rfl
theorem i_X2_readBoth_21 : fetch 14 21 = some (.getfield 22, 24, 2, 3, 0, 130) := fr fe_X2_readBoth_1 13 rfl
theorem i_X2_readBoth_24 : fetch 14 24 = some (.bipush 14, 26, 0, 0, 0, 0) := fr fe_X2_readBoth_1 14 rfl
theorem i_X2_readBoth_26 : fetch 14 26 = some (.if_icmp .ne 30, 29, 0, 0, 0, 0) := fr fe_X2_readBoth_1 15 rfl
theorem i_X2_readBoth_29 : fetch 14 29 = some (.aload_n 0, 30, 0, 0, 0, 0) := fr fe_X2_readBoth_1 16 rfl
theorem i_X2_readBoth_30 : fetch 14 30 = some (.invokevirtual 36, 33, 20, 0, 0, 367) := fr fe_X2_readBoth_1 17 rfl
theorem i_X2_readBoth_33 : fetch 14 33 = some (.aload_n 0, 34, 0, 0, 0, 0) := fr fe_X2_readBoth_1 18 rfl
theorem i_X2_readBoth_34 : fetch 14 34 = some (.aload_n 1, 35, 0, 0, 0, 0) := fr fe_X2_readBoth_1 19 rfl
theorem i_X2_readBoth_35 : fetch 14 35 = some (.iload_n 2, 36, 0, 0, 0, 0) := fr fe_X2_readBoth_1 20 rfl
theorem i_X2_readBoth_36 : fetch 14 36 = some (.invokevirtual 53, 39, 15, 0, 0, 467) := fr fe_X2_readBoth_1 21 rfl
theorem i_X2_readBoth_39 : fetch 14 39 = some (.ifCond .ne 5, 42, 0, 0, 0, 0) := fr fe_X2_readBoth_1 22 rfl
theorem i_X2_readBoth_42 : fetch 14 42 = some (.iconst 0, 43, 0, 0, 0, 0) := fr fe_X2_readBoth_1 23 rfl
theorem i_X2_readBoth_43 : fetch 14 43 = some (.ireturn, 44, 0, 0, 0, 0) := fr fe_X2_readBoth_1 24 rfl
theorem i_X2_readBoth_44 : fetch 14 44 = some (.aload_n 1, 45, 0, 0, 0, 0) := fr fe_X2_readBoth_2 0 rfl
theorem i_X2_readBoth_45 : fetch 14 45 = some (.bipush (-12), 47, 0, 0, 0, 0) := fr fe_X2_readBoth_2 1 rfl
theorem i_X2_readBoth_47 : fetch 14 47 = some (.invokevirtual 50, 50, 61, 0, 0, 490) := fr fe_X2_readBoth_2 2 rfl
theorem i_X2_readBoth_50 : fetch 14 50 = some (.iinc 3 1, 53, 0, 0, 0, 0) := fr fe_X2_readBoth_2 3 rfl
theorem i_X2_readBoth_53 : fetch 14 53 = some (.goto (-40), 56, 0, 0, 0, 0) := fr fe_X2_readBoth_2 4 rfl
theorem i_X2_readBoth_56 : fetch 14 56 = some (.iconst 1, 57, 0, 0, 0, 0) := fr fe_X2_readBoth_2 5 rfl
theorem i_X2_readBoth_57 : fetch 14 57 = some (.ireturn, 58, 0, 0, 0, 0) := fr fe_X2_readBoth_2 6 rfl
theorem i_X2_readEither_0 : fetch 13 0 = some (.aload_n 0, 1, 0, 0, 0, 0) := fr fe_X2_readEither_1 0 rfl
theorem i_X2_readEither_1 : fetch 13 1 = some (.aload_n 1, 2, 0, 0, 0, 0) := fr fe_X2_readEither_1 1 rfl
theorem i_X2_readEither_2 : fetch 13 2 = some (.iload_n 2, 3, 0, 0, 0, 0) := fr fe_X2_readEither_1 2 rfl
theorem i_X2_readEither_3 : fetch 13 3 = some (.invokevirtual 47, 6, 14, 0, 0, 463) := fr fe_X2_readEither_1 3 rfl
theorem i_X2_readEither_6 : fetch 13 6 = some (.ifCond .ne 5, 9, 0, 0, 0, 0) := fr fe_X2_readEither_1 4 rfl
theorem i_X2_readEither_9 : fetch 13 9 = some (.iconst 0, 10, 0, 0, 0, 0) := fr fe_X2_readEither_1 5 rfl
theorem i_X2_readEither_10 : fetch 13 10 = some (.ireturn, 11, 0, 0, 0, 0) := fr fe_X2_readEither_1 6 rfl
theorem i_X2_readEither_11 : fetch 13 11 = some (.iconst 0, 12, 0, 0, 0, 0) := fr fe_X2_readEither_1 7 rfl
theorem i_X2_readEither_12 : fetch 13 12 = some (.istore_n 3, 13, 0, 0, 0, 0) := fr fe_X2_readEither_1 8 rfl
theorem i_X2_readEither_13 : fetch 13 13 = some (.iload_n 3, 14, 0, 0, 0, 0) := fr fe_X2_readEither_1 9 rfl
theorem i_X2_readEither_14 : fetch 13 14 = some (.sipush 160, 17, 0, 0, 0, 0) := fr fe_X2_readEither_1 10 rfl
theorem i_X2_readEither_17 : fetch 13 17 = some (.if_icmp .ge 39, 20, 0, 0, 0, 0) := fr fe_X2_readEither_1 11 rfl
theorem i_X2_readEither_20 : fetch 13 20 = some (.aload_n 0, 21, 0, 0, 0, 0) := fr fe_X2_readEither_1 12 rfl
theorem i_X2_readEither_21 : fetch 13 21 = some (.getfield 22, 24, 2, 3, 0, 130) := fr fe_X2_readEither_1 13 rfl
theorem i_X2_readEither_24 : fetch 13 24 = some (.bipush 13, 26, 0, 0, 0, 0) := fr fe_X2_readEither_1 14 rfl
theorem i_X2_readEither_26 : fetch 13 26 = some (.if_icmp .ne 30, 29, 0, 0, 0, 0) := fr fe_X2_readEither_1 15 rfl
theorem i_X2_readEither_29 : fetch 13 29 = some (.aload_n 0, 30, 0, 0, 0, 0) := fr fe_X2_readEither_1 16 rfl
theorem i_X2_readEither_30 : fetch 13 30 = some (.invokevirtual 36, 33, 20, 0, 0, 367) := fr fe_X2_readEither_1 17 rfl
theorem i_X2_readEither_33 : fetch 13 33 = some (.aload_n 0, 34, 0, 0, 0, 0) := fr fe_X2_readEither_1 18 rfl
theorem i_X2_readEither_34 : fetch 13 34 = some (.aload_n 1, 35, 0, 0, 0, 0) := fr fe_X2_readEither_1 19 rfl
theorem i_X2_readEither_35 : fetch 13 35 = some (.iload_n 2, 36, 0, 0, 0, 0) := fr fe_X2_readEither_1 20 rfl
theorem i_X2_readEither_36 : fetch 13 36 = some (.invokevirtual 47, 39, 14, 0, 0, 463) := fr fe_X2_readEither_1 21 rfl
theorem i_X2_readEither_39 : fetch 13 39 = some (.ifCond .ne 5, 42, 0, 0, 0, 0) := fr fe_X2_readEither_1 22 rfl
theorem i_X2_readEither_42 : fetch 13 42 = some (.iconst 0, 43, 0, 0, 0, 0) := fr fe_X2_readEither_1 23 rfl
theorem i_X2_readEither_43 : fetch 13 43 = some (.ireturn, 44, 0, 0, 0, 0) := fr fe_X2_readEither_1 24 rfl
theorem i_X2_readEither_44 : fetch 13 44 = some (.aload_n 1, 45, 0, 0, 0, 0) := fr fe_X2_readEither_2 0 rfl
theorem i_X2_readEither_45 : fetch 13 45 = some (.bipush (-11), 47, 0, 0, 0, 0) := fr fe_X2_readEither_2 1 rfl
theorem i_X2_readEither_47 : fetch 13 47 = some (.invokevirtual 50, 50, 61, 0, 0, 490) := fr fe_X2_readEither_2 2 rfl
theorem i_X2_readEither_50 : fetch 13 50 = some (.iinc 3 1, 53, 0, 0, 0, 0) := fr fe_X2_readEither_2 3 rfl
theorem i_X2_readEither_53 : fetch 13 53 = some (.goto (-40), 56, 0, 0, 0, 0) := fr fe_X2_readEither_2 4 rfl
theorem i_X2_readEither_56 : fetch 13 56 = some (.iconst 1, 57, 0, 0, 0, 0) := fr fe_X2_readEither_2 5 rfl
theorem i_X2_readEither_57 : fetch 13 57 = some (.ireturn, 58, 0, 0, 0, 0) := fr fe_X2_readEither_2 6 rfl
theorem i_X6_clear_0 : fetch 59 0 = some (.aload_n 0, 1, 0, 0, 0, 0) := fr fe_X6_clear 0 rfl
theorem i_X6_clear_1 : fetch 59 1 = some (.iconst 0, 2, 0, 0, 0, 0) := fr fe_X6_clear 1 rfl
theorem i_X6_clear_2 : fetch 59 2 = some (.putfield 21, 5, 6, 3, 0, 177) := fr fe_X6_clear 2 rfl
theorem i_X6_clear_5 : fetch 59 5 = some (.return_, 6, 0, 0, 0, 0) := fr fe_X6_clear 3 rfl
theorem i_X6_endSection_0 : fetch 62 0 = some (.iload_n 1, 1, 0, 0, 0, 0) := fr fe_X6_endSection 0 rfl
theorem i_X6_endSection_1 : fetch 62 1 = some (.iconst 0, 2, 0, 0, 0, 0) := fr fe_X6_endSection 1 rfl
theorem i_X6_endSection_2 : fetch 62 2 = some (.iconst 2, 3, 0, 0, 0, 0) := fr fe_X6_endSection 2 rfl
theorem i_X6_endSection_3 : fetch 62 3 = some (.invokestatic 25, 6, 110, 1, 0, 498) := fr fe_X6_endSection 3 rfl
theorem i_X6_endSection_6 : fetch 62 6 = some (.ifCond .eq 13, 9, 0, 0, 0, 0) := fr fe_X6_endSection 4 rfl
theorem i_X6_endSection_9 : fetch 62 9 = some (.aload_n 0, 10, 0, 0, 0, 0) := fr fe_X6_endSection 5 rfl
theorem i_X6_endSection_10 : fetch 62 10 = some (.getfield 15, 13, 6, 1, 0, 175) := fr fe_X6_endSection 6 rfl
theorem i_X6_endSection_13 : fetch 62 13 = some (.iload_n 1, 14, 0, 0, 0, 0) := fr fe_X6_endSection 7 rfl
theorem i_X6_endSection_14 : fetch 62 14 = some (.aload_n 0, 15, 0, 0, 0, 0) := fr fe_X6_endSection 8 rfl
theorem i_X6_endSection_15 : fetch 62 15 = some (.getfield 21, 18, 6, 3, 0, 177) := fr fe_X6_endSection 9 rfl
theorem i_X6_endSection_18 : fetch 62 18 = some (.iastore, 19, 0, 0, 0, 0) := fr fe_X6_endSection 10 rfl
theorem i_X6_endSection_19 : fetch 62 19 = some (.return_, 20, 0, 0, 0, 0) := fr fe_X6_endSection 11 rfl
theorem i_X2_read_0 : fetch 12 0 = some (.aload_n 1, 1, 0, 0, 0, 0) := fr fe_X2_read_1 0 rfl
theorem i_X2_read_1 : fetch 12 1 = some (.invokevirtual 31, 4, 59, 0, 0, 363) := fr fe_X2_read_1 1 rfl
theorem i_X2_read_4 : fetch 12 4 = some (.aload_n 0, 5, 0, 0, 0, 0) := fr fe_X2_read_1 2 rfl
theorem i_X2_read_5 : fetch 12 5 = some (.iconst 0, 6, 0, 0, 0, 0) := fr fe_X2_read_1 3 rfl
theorem i_X2_read_6 : fetch 12 6 = some (.putfield 19, 9, 2, 2, 0, 129) := fr fe_X2_read_1 4 rfl
theorem i_X2_read_9 : fetch 12 9 = some (.aload_n 0, 10, 0, 0, 0, 0) := fr fe_X2_read_1 5 rfl
theorem i_X2_read_10 : fetch 12 10 = some (.invokevirtual 36, 13, 20, 0, 0, 367) := fr fe_X2_read_1 6 rfl
theorem i_X2_read_13 : fetch 12 13 = some (.iconst 0, 14, 0, 0, 0, 0) := fr fe_X2_read_1 7 rfl
theorem i_X2_read_14 : fetch 12 14 = some (.istore_n 2, 15, 0, 0, 0, 0) := fr fe_X2_read_1 8 rfl
theorem i_X2_read_15 : fetch 12 15 = some (.iload_n 2, 16, 0, 0, 0, 0) := fr fe_X2_read_1 9 rfl
theorem i_X2_read_16 : fetch 12 16 = some (.iconst 3, 17, 0, 0, 0, 0) := fr fe_X2_read_1 10 rfl
theorem i_X2_read_17 : fetch 12 17 = some (.if_icmp .ge 61, 20, 0, 0, 0, 0) := fr fe_X2_read_1 11 rfl
theorem i_X2_read_20 : fetch 12 20 = some (.aload_n 0, 21, 0, 0, 0, 0) := fr fe_X2_read_1 12 rfl
theorem i_X2_read_21 : fetch 12 21 = some (.getfield 22, 24, 2, 3, 0, 130) := fr fe_X2_read_1 13 rfl
theorem i_X2_read_24 : fetch 12 24 = some (.bipush 10, 26, 0, 0, 0, 0) := fr fe_X2_read_1 14 rfl
theorem i_X2_read_26 : fetch 12 26 = some (.iload_n 2, 27, 0, 0, 0, 0) := fr fe_X2_read_1 15 rfl
theorem i_X2_read_27 : fetch 12 27 = some (.iadd, 28, 0, 0, 0, 0) := fr fe_X2_read_1 16 rfl
theorem i_X2_read_28 : fetch 12 28 = some (.if_icmp .eq 8, 31, 0, 0, 0, 0) := fr fe_X2_read_1 17 rfl
theorem i_X2_read_31 : fetch 12 31 = some (.aload_n 0, 32, 0, 0, 0, 0) := fr fe_X2_read_1 18 rfl
theorem i_X2_read_32 : fetch 12 32 = some (.getfield 25, 35, 2, 4, 0, 131) := fr fe_X2_read_1 19 rfl
theorem i_X2_read_35 : fetch 12 35 = some (.ireturn, 36, 0, 0, 0, 0) := fr fe_X2_read_1 20 rfl
theorem i_X2_read_36 : fetch 12 36 = some (.aload_n 0, 37, 0, 0, 0, 0) := fr fe_X2_read_1 21 rfl
theorem i_X2_read_37 : fetch 12 37 = some (.invokevirtual 36, 40, 20, 0, 0, 367) := fr fe_X2_read_1 22 rfl
theorem i_X2_read_40 : fetch 12 40 = some (.aload_n 0, 41, 0, 0, 0, 0) := fr fe_X2_read_1 23 rfl
theorem i_X2_read_41 : fetch 12 41 = some (.aload_n 1, 42, 0, 0, 0, 0) := fr fe_X2_read_1 24 rfl
theorem i_X2_read_42 : fetch 12 42 = some (.iconst 0, 43, 0, 0, 0, 0) := fr fe_X2_read_2 0 rfl
theorem i_X2_read_43 : fetch 12 43 = some (.invokevirtual 39, 46, 13, 0, 0, 459) := fr fe_X2_read_2 1 rfl
theorem i_X2_read_46 : fetch 12 46 = some (.ifCond .eq 12, 49, 0, 0, 0, 0) := fr fe_X2_read_2 2 rfl
theorem i_X2_read_49 : fetch 12 49 = some (.aload_n 0, 50, 0, 0, 0, 0) := fr fe_X2_read_2 3 rfl
theorem i_X2_read_50 : fetch 12 50 = some (.getfield 22, 53, 2, 3, 0, 130) := fr fe_X2_read_2 4 rfl
theorem i_X2_read_53 : fetch 12 53 = some (.bipush 59, 55, 0, 0, 0, 0) := fr fe_X2_read_2 5 rfl
theorem i_X2_read_55 : fetch 12 55 = some (.if_icmp .eq 8, 58, 0, 0, 0, 0) := fr fe_X2_read_2 6 rfl
theorem i_X2_read_58 : fetch 12 58 = some (.aload_n 0, 59, 0, 0, 0, 0) := fr fe_X2_read_2 7 rfl
theorem i_X2_read_59 : fetch 12 59 = some (.getfield 25, 62, 2, 4, 0, 131) := fr fe_X2_read_2 8 rfl
theorem i_X2_read_62 : fetch 12 62 = some (.ireturn, 63, 0, 0, 0, 0) := fr fe_X2_read_2 9 rfl
theorem i_X2_read_63 : fetch 12 63 = some (.aload_n 0, 64, 0, 0, 0, 0) := fr fe_X2_read_2 10 rfl
theorem i_X2_read_64 : fetch 12 64 = some (.invokevirtual 36, 67, 20, 0, 0, 367) := fr fe_X2_read_2 11 rfl
theorem i_X2_read_67 : fetch 12 67 = some (.aload_n 1, 68, 0, 0, 0, 0) := fr fe_X2_read_2 12 rfl
theorem i_X2_read_68 : fetch 12 68 = some (.iload_n 2, 69, 0, 0, 0, 0) := fr fe_X2_read_2 13 rfl
theorem i_X2_read_69 : fetch 12 69 = some (.invokevirtual 43, 72, 62, 0, 0, 494) := fr fe_X2_read_2 14 rfl
theorem i_X2_read_72 : fetch 12 72 = some (.iinc 2 1, 75, 0, 0, 0, 0) := fr fe_X2_read_2 15 rfl
theorem i_X2_read_75 : fetch 12 75 = some (.goto (-60), 78, 0, 0, 0, 0) := fr fe_X2_read_2 16 rfl
theorem i_X2_read_78 : fetch 12 78 = some (.aload_n 0, 79, 0, 0, 0, 0) := fr fe_X2_read_2 17 rfl
theorem i_X2_read_79 : fetch 12 79 = some (.getfield 22, 82, 2, 3, 0, 130) := fr fe_X2_read_2 18 rfl
theorem i_X2_read_82 : fetch 12 82 = some (.ifCond .ne 7, 85, 0, 0, 0, 0) := fr fe_X2_read_2 19 rfl
theorem i_X2_read_85 : fetch 12 85 = some (.iconst (-1), 86, 0, 0, 0, 0) := fr fe_X2_read_2 20 rfl
theorem i_X2_read_86 : fetch 12 86 = some (.goto 7, 89, 0, 0, 0, 0) := fr fe_X2_read_2 21 rfl
theorem i_X2_read_89 : fetch 12 89 = some (.aload_n 0, 90, 0, 0, 0, 0) := fr fe_X2_read_2 22 rfl
theorem i_X2_read_90 : fetch 12 90 = some (.getfield 25, 93, 2, 4, 0, 131) := fr fe_X2_read_2 23 rfl
theorem i_X2_read_93 : fetch 12 93 = some (.ireturn, 94, 0, 0, 0, 0) := fr fe_X2_read_2 24 rfl
theorem i_X3_init_0 : fetch 27 0 = some (.aload_n 0, 1, 0, 0, 0, 0) := fr fe_X3_init_1 0 rfl
theorem i_X3_init_1 : fetch 27 1 = some (.invokespecial 3, 4, 1000, 0, 0, 240) := fr fe_X3_init_1 1 rfl
theorem i_X3_init_4 : fetch 27 4 = some (.aload_n 0, 5, 0, 0, 0, 0) := fr fe_X3_init_1 2 rfl
theorem i_X3_init_5 : fetch 27 5 = some (.bipush 12, 7, 0, 0, 0, 0) := fr fe_X3_init_1 3 rfl
theorem i_X3_init_7 : fetch 27 7 = some (.newarray .int, 9, 9, 0, 0, 0) := fr fe_X3_init_1 4 rfl
theorem i_X3_init_9 : fetch 27 9 = some (.putfield 9, 12, 3, 0, 0, 242) := fr fe_X3_init_1 5 rfl
theorem i_X3_init_12 : fetch 27 12 = some (.aload_n 0, 13, 0, 0, 0, 0) := fr fe_X3_init_1 6 rfl
theorem i_X3_init_13 : fetch 27 13 = some (.bipush 12, 15, 0, 0, 0, 0) := fr fe_X3_init_1 7 rfl
theorem i_X3_init_15 : fetch 27 15 = some (.newarray .int, 17, 9, 0, 0, 0) := fr fe_X3_init_1 8 rfl
theorem i_X3_init_17 : fetch 27 17 = some (.putfield 15, 20, 3, 1, 0, 243) := fr fe_X3_init_1 9 rfl
theorem i_X3_init_20 : fetch 27 20 = some (.aload_n 0, 21, 0, 0, 0, 0) := fr fe_X3_init_1 10 rfl
theorem i_X3_init_21 : fetch 27 21 = some (.bipush 12, 23, 0, 0, 0, 0) := fr fe_X3_init_1 11 rfl
theorem i_X3_init_23 : fetch 27 23 = some (.newarray .int, 25, 9, 0, 0, 0) := fr fe_X3_init_1 12 rfl
theorem i_X3_init_25 : fetch 27 25 = some (.putfield 18, 28, 3, 2, 0, 245) := fr fe_X3_init_1 13 rfl
theorem i_X3_init_28 : fetch 27 28 = some (.aload_n 0, 29, 0, 0, 0, 0) := fr fe_X3_init_1 14 rfl
theorem i_X3_init_29 : fetch 27 29 = some (.bipush 12, 31, 0, 0, 0, 0) := fr fe_X3_init_1 15 rfl
theorem i_X3_init_31 : fetch 27 31 = some (.newarray .int, 33, 9, 0, 0, 0) := fr fe_X3_init_1 16 rfl
theorem i_X3_init_33 : fetch 27 33 = some (.putfield 21, 36, 3, 3, 0, 248) := fr fe_X3_init_1 17 rfl
theorem i_X3_init_36 : fetch 27 36 = some (.aload_n 0, 37, 0, 0, 0, 0) := fr fe_X3_init_1 18 rfl
theorem i_X3_init_37 : fetch 27 37 = some (.bipush 12, 39, 0, 0, 0, 0) := fr fe_X3_init_1 19 rfl
theorem i_X3_init_39 : fetch 27 39 = some (.newarray .int, 41, 9, 0, 0, 0) := fr fe_X3_init_1 20 rfl
theorem i_X3_init_41 : fetch 27 41 = some (.putfield 24, 44, 3, 4, 0, 249) := fr fe_X3_init_1 21 rfl
theorem i_X3_init_44 : fetch 27 44 = some (.aload_n 0, 45, 0, 0, 0, 0) := fr fe_X3_init_1 22 rfl
theorem i_X3_init_45 : fetch 27 45 = some (.bipush 12, 47, 0, 0, 0, 0) := fr fe_X3_init_1 23 rfl
theorem i_X3_init_47 : fetch 27 47 = some (.newarray .long, 49, 10, 0, 0, 0) := fr fe_X3_init_1 24 rfl
theorem i_X3_init_49 : fetch 27 49 = some (.putfield 27, 52, 3, 5, 0, 250) := fr fe_X3_init_2 0 rfl
theorem i_X3_init_52 : fetch 27 52 = some (.aload_n 0, 53, 0, 0, 0, 0) := fr fe_X3_init_2 1 rfl
theorem i_X3_init_53 : fetch 27 53 = some (.iconst 0, 54, 0, 0, 0, 0) := fr fe_X3_init_2 2 rfl
theorem i_X3_init_54 : fetch 27 54 = some (.putfield 31, 57, 3, 7, 0, 252) := fr fe_X3_init_2 3 rfl
theorem i_X3_init_57 : fetch 27 57 = some (.aload_n 0, 58, 0, 0, 0, 0) := fr fe_X3_init_2 4 rfl
theorem i_X3_init_58 : fetch 27 58 = some (.iconst 0, 59, 0, 0, 0, 0) := fr fe_X3_init_2 5 rfl
theorem i_X3_init_59 : fetch 27 59 = some (.putfield 35, 62, 3, 8, 0, 255) := fr fe_X3_init_2 6 rfl
theorem i_X3_init_62 : fetch 27 62 = some (.aload_n 0, 63, 0, 0, 0, 0) := fr fe_X3_init_2 7 rfl
theorem i_X3_init_63 : fetch 27 63 = some (.iconst 0, 64, 0, 0, 0, 0) := fr fe_X3_init_2 8 rfl
theorem i_X3_init_64 : fetch 27 64 = some (.putfield 38, 67, 3, 9, 0, 258) := fr fe_X3_init_2 9 rfl
theorem i_X3_init_67 : fetch 27 67 = some (.aload_n 0, 68, 0, 0, 0, 0) := fr fe_X3_init_2 10 rfl
theorem i_X3_init_68 : fetch 27 68 = some (.ldc2_w 41, 71, 0, 0, 1000000000, 241) := fr fe_X3_init_2 11 rfl
theorem i_X3_init_71 : fetch 27 71 = some (.putfield 43, 74, 3, 10, 0, 260) := fr fe_X3_init_2 12 rfl
theorem i_X3_init_74 : fetch 27 74 = some (.aload_n 0, 75, 0, 0, 0, 0) := fr fe_X3_init_2 13 rfl
theorem i_X3_init_75 : fetch 27 75 = some (.ldc2_w 41, 78, 0, 0, 1000000000, 241) := fr fe_X3_init_2 14 rfl
theorem i_X3_init_78 : fetch 27 78 = some (.putfield 47, 81, 3, 11, 0, 262) := fr fe_X3_init_2 15 rfl
theorem i_X3_init_81 : fetch 27 81 = some (.aload_n 0, 82, 0, 0, 0, 0) := fr fe_X3_init_2 16 rfl
theorem i_X3_init_82 : fetch 27 82 = some (.aload_n 1, 83, 0, 0, 0, 0) := fr fe_X3_init_2 17 rfl
theorem i_X3_init_83 : fetch 27 83 = some (.putfield 50, 86, 3, 6, 0, 251) := fr fe_X3_init_2 18 rfl
theorem i_X3_init_86 : fetch 27 86 = some (.return_, 87, 0, 0, 0, 0) := fr fe_X3_init_2 19 rfl
theorem i_X3_begin_0 : fetch 28 0 = some (.aload_n 1, 1, 0, 0, 0, 0) := fr fe_X3_begin_1 0 rfl
theorem i_X3_begin_1 : fetch 28 1 = some (.getfield 54, 4, 0, 0, 0, 97) := fr fe_X3_begin_1 1 rfl
theorem i_X3_begin_4 : fetch 28 4 = some (.iconst 0, 5, 0, 0, 0, 0) := fr fe_X3_begin_1 2 rfl
theorem i_X3_begin_5 : fetch 28 5 = some (.aload_n 0, 6, 0, 0, 0, 0) := fr fe_X3_begin_1 3 rfl
theorem i_X3_begin_6 : fetch 28 6 = some (.getfield 9, 9, 3, 0, 0, 242) := fr fe_X3_begin_1 4 rfl
theorem i_X3_begin_9 : fetch 28 9 = some (.iconst 0, 10, 0, 0, 0, 0) := fr fe_X3_begin_1 5 rfl
theorem i_X3_begin_10 : fetch 28 10 = some (.bipush 12, 12, 0, 0, 0, 0) := fr fe_X3_begin_1 6 rfl
theorem i_X3_begin_12 : fetch 28 12 = some (.invokestatic 57, 15, 1001, 0, 0, 636) := fr fe_X3_begin_1 7 rfl
theorem i_X3_begin_15 : fetch 28 15 = some (.aload_n 1, 16, 0, 0, 0, 0) := fr fe_X3_begin_1 8 rfl
theorem i_X3_begin_16 : fetch 28 16 = some (.getfield 63, 19, 0, 1, 0, 100) := fr fe_X3_begin_1 9 rfl
theorem i_X3_begin_19 : fetch 28 19 = some (.iconst 0, 20, 0, 0, 0, 0) := fr fe_X3_begin_1 10 rfl
theorem i_X3_begin_20 : fetch 28 20 = some (.aload_n 0, 21, 0, 0, 0, 0) := fr fe_X3_begin_1 11 rfl
theorem i_X3_begin_21 : fetch 28 21 = some (.getfield 15, 24, 3, 1, 0, 243) := fr fe_X3_begin_1 12 rfl
theorem i_X3_begin_24 : fetch 28 24 = some (.iconst 0, 25, 0, 0, 0, 0) := fr fe_X3_begin_1 13 rfl
theorem i_X3_begin_25 : fetch 28 25 = some (.bipush 12, 27, 0, 0, 0, 0) := fr fe_X3_begin_1 14 rfl
theorem i_X3_begin_27 : fetch 28 27 = some (.invokestatic 57, 30, 1001, 0, 0, 636) := fr fe_X3_begin_1 15 rfl
theorem i_X3_begin_30 : fetch 28 30 = some (.iconst 0, 31, 0, 0, 0, 0) := fr fe_X3_begin_1 16 rfl
theorem i_X3_begin_31 : fetch 28 31 = some (.istore_n 2, 32, 0, 0, 0, 0) := fr fe_X3_begin_1 17 rfl
theorem i_X3_begin_32 : fetch 28 32 = some (.iload_n 2, 33, 0, 0, 0, 0) := fr fe_X3_begin_1 18 rfl
theorem i_X3_begin_33 : fetch 28 33 = some (.bipush 12, 35, 0, 0, 0, 0) := fr fe_X3_begin_1 19 rfl
theorem i_X3_begin_35 : fetch 28 35 = some (.if_icmp .ge 16, 38, 0, 0, 0, 0) := fr fe_X3_begin_1 20 rfl
theorem i_X3_begin_38 : fetch 28 38 = some (.aload_n 0, 39, 0, 0, 0, 0) := fr fe_X3_begin_1 21 rfl
theorem i_X3_begin_39 : fetch 28 39 = some (.getfield 18, 42, 3, 2, 0, 245) := fr fe_X3_begin_1 22 rfl
theorem i_X3_begin_42 : fetch 28 42 = some (.iload_n 2, 43, 0, 0, 0, 0) := fr fe_X3_begin_1 23 rfl
theorem i_X3_begin_43 : fetch 28 43 = some (.iconst 0, 44, 0, 0, 0, 0) := fr fe_X3_begin_1 24 rfl
theorem i_X3_begin_44 : fetch 28 44 = some (.iastore, 45, 0, 0, 0, 0) := fr fe_X3_begin_2 0 rfl
theorem i_X3_begin_45 : fetch 28 45 = some (.iinc 2 1, 48, 0, 0, 0, 0) := fr fe_X3_begin_2 1 rfl
theorem i_X3_begin_48 : fetch 28 48 = some (.goto (-16), 51, 0, 0, 0, 0) := fr fe_X3_begin_2 2 rfl
theorem i_X3_begin_51 : fetch 28 51 = some (.aload_n 0, 52, 0, 0, 0, 0) := fr fe_X3_begin_2 3 rfl
theorem i_X3_begin_52 : fetch 28 52 = some (.iconst 0, 53, 0, 0, 0, 0) := fr fe_X3_begin_2 4 rfl
theorem i_X3_begin_53 : fetch 28 53 = some (.putfield 31, 56, 3, 7, 0, 252) := fr fe_X3_begin_2 5 rfl
theorem i_X3_begin_56 : fetch 28 56 = some (.aload_n 0, 57, 0, 0, 0, 0) := fr fe_X3_begin_2 6 rfl
theorem i_X3_begin_57 : fetch 28 57 = some (.iconst 0, 58, 0, 0, 0, 0) := fr fe_X3_begin_2 7 rfl
theorem i_X3_begin_58 : fetch 28 58 = some (.putfield 35, 61, 3, 8, 0, 255) := fr fe_X3_begin_2 8 rfl
theorem i_X3_begin_61 : fetch 28 61 = some (.aload_n 0, 62, 0, 0, 0, 0) := fr fe_X3_begin_2 9 rfl
theorem i_X3_begin_62 : fetch 28 62 = some (.iconst 0, 63, 0, 0, 0, 0) := fr fe_X3_begin_2 10 rfl
theorem i_X3_begin_63 : fetch 28 63 = some (.putfield 38, 66, 3, 9, 0, 258) := fr fe_X3_begin_2 11 rfl
theorem i_X3_begin_66 : fetch 28 66 = some (.aload_n 0, 67, 0, 0, 0, 0) := fr fe_X3_begin_2 12 rfl
theorem i_X3_begin_67 : fetch 28 67 = some (.ldc2_w 41, 70, 0, 0, 1000000000, 241) := fr fe_X3_begin_2 13 rfl
theorem i_X3_begin_70 : fetch 28 70 = some (.putfield 43, 73, 3, 10, 0, 260) := fr fe_X3_begin_2 14 rfl
theorem i_X3_begin_73 : fetch 28 73 = some (.aload_n 0, 74, 0, 0, 0, 0) := fr fe_X3_begin_2 15 rfl
theorem i_X3_begin_74 : fetch 28 74 = some (.ldc2_w 41, 77, 0, 0, 1000000000, 241) := fr fe_X3_begin_2 16 rfl
theorem i_X3_begin_77 : fetch 28 77 = some (.putfield 47, 80, 3, 11, 0, 262) := fr fe_X3_begin_2 17 rfl
theorem i_X3_begin_80 : fetch 28 80 = some (.return_, 81, 0, 0, 0, 0) := fr fe_X3_begin_2 18 rfl
theorem i_X3_become_0 : fetch 29 0 = some (.aload_n 1, 1, 0, 0, 0, 0) := fr fe_X3_become_1 0 rfl
theorem i_X3_become_1 : fetch 29 1 = some (.getfield 9, 4, 3, 0, 0, 242) := fr fe_X3_become_1 1 rfl
theorem i_X3_become_4 : fetch 29 4 = some (.iconst 0, 5, 0, 0, 0, 0) := fr fe_X3_become_1 2 rfl
theorem i_X3_become_5 : fetch 29 5 = some (.aload_n 0, 6, 0, 0, 0, 0) := fr fe_X3_become_1 3 rfl
theorem i_X3_become_6 : fetch 29 6 = some (.getfield 9, 9, 3, 0, 0, 242) := fr fe_X3_become_1 4 rfl
theorem i_X3_become_9 : fetch 29 9 = some (.iconst 0, 10, 0, 0, 0, 0) := fr fe_X3_become_1 5 rfl
theorem i_X3_become_10 : fetch 29 10 = some (.bipush 12, 12, 0, 0, 0, 0) := fr fe_X3_become_1 6 rfl
theorem i_X3_become_12 : fetch 29 12 = some (.invokestatic 57, 15, 1001, 0, 0, 636) := fr fe_X3_become_1 7 rfl
theorem i_X3_become_15 : fetch 29 15 = some (.aload_n 1, 16, 0, 0, 0, 0) := fr fe_X3_become_1 8 rfl
theorem i_X3_become_16 : fetch 29 16 = some (.getfield 15, 19, 3, 1, 0, 243) := fr fe_X3_become_1 9 rfl
theorem i_X3_become_19 : fetch 29 19 = some (.iconst 0, 20, 0, 0, 0, 0) := fr fe_X3_become_1 10 rfl
theorem i_X3_become_20 : fetch 29 20 = some (.aload_n 0, 21, 0, 0, 0, 0) := fr fe_X3_become_1 11 rfl
theorem i_X3_become_21 : fetch 29 21 = some (.getfield 15, 24, 3, 1, 0, 243) := fr fe_X3_become_1 12 rfl
theorem i_X3_become_24 : fetch 29 24 = some (.iconst 0, 25, 0, 0, 0, 0) := fr fe_X3_become_1 13 rfl
theorem i_X3_become_25 : fetch 29 25 = some (.bipush 12, 27, 0, 0, 0, 0) := fr fe_X3_become_1 14 rfl
theorem i_X3_become_27 : fetch 29 27 = some (.invokestatic 57, 30, 1001, 0, 0, 636) := fr fe_X3_become_1 15 rfl
theorem i_X3_become_30 : fetch 29 30 = some (.aload_n 1, 31, 0, 0, 0, 0) := fr fe_X3_become_1 16 rfl
theorem i_X3_become_31 : fetch 29 31 = some (.getfield 18, 34, 3, 2, 0, 245) := fr fe_X3_become_1 17 rfl
theorem i_X3_become_34 : fetch 29 34 = some (.iconst 0, 35, 0, 0, 0, 0) := fr fe_X3_become_1 18 rfl
theorem i_X3_become_35 : fetch 29 35 = some (.aload_n 0, 36, 0, 0, 0, 0) := fr fe_X3_become_1 19 rfl
theorem i_X3_become_36 : fetch 29 36 = some (.getfield 18, 39, 3, 2, 0, 245) := fr fe_X3_become_1 20 rfl
theorem i_X3_become_39 : fetch 29 39 = some (.iconst 0, 40, 0, 0, 0, 0) := fr fe_X3_become_1 21 rfl
theorem i_X3_become_40 : fetch 29 40 = some (.bipush 12, 42, 0, 0, 0, 0) := fr fe_X3_become_1 22 rfl
theorem i_X3_become_42 : fetch 29 42 = some (.invokestatic 57, 45, 1001, 0, 0, 636) := fr fe_X3_become_1 23 rfl
theorem i_X3_become_45 : fetch 29 45 = some (.aload_n 0, 46, 0, 0, 0, 0) := fr fe_X3_become_1 24 rfl
theorem i_X3_become_46 : fetch 29 46 = some (.aload_n 1, 47, 0, 0, 0, 0) := fr fe_X3_become_2 0 rfl
theorem i_X3_become_47 : fetch 29 47 = some (.getfield 31, 50, 3, 7, 0, 252) := fr fe_X3_become_2 1 rfl
theorem i_X3_become_50 : fetch 29 50 = some (.putfield 31, 53, 3, 7, 0, 252) := fr fe_X3_become_2 2 rfl
theorem i_X3_become_53 : fetch 29 53 = some (.aload_n 0, 54, 0, 0, 0, 0) := fr fe_X3_become_2 3 rfl
theorem i_X3_become_54 : fetch 29 54 = some (.aload_n 1, 55, 0, 0, 0, 0) := fr fe_X3_become_2 4 rfl
theorem i_X3_become_55 : fetch 29 55 = some (.getfield 35, 58, 3, 8, 0, 255) := fr fe_X3_become_2 5 rfl
theorem i_X3_become_58 : fetch 29 58 = some (.putfield 35, 61, 3, 8, 0, 255) := fr fe_X3_become_2 6 rfl
theorem i_X3_become_61 : fetch 29 61 = some (.aload_n 0, 62, 0, 0, 0, 0) := fr fe_X3_become_2 7 rfl
theorem i_X3_become_62 : fetch 29 62 = some (.aload_n 1, 63, 0, 0, 0, 0) := fr fe_X3_become_2 8 rfl
theorem i_X3_become_63 : fetch 29 63 = some (.getfield 38, 66, 3, 9, 0, 258) := fr fe_X3_become_2 9 rfl
theorem i_X3_become_66 : fetch 29 66 = some (.putfield 38, 69, 3, 9, 0, 258) := fr fe_X3_become_2 10 rfl
theorem i_X3_become_69 : fetch 29 69 = some (.aload_n 0, 70, 0, 0, 0, 0) := fr fe_X3_become_2 11 rfl
theorem i_X3_become_70 : fetch 29 70 = some (.aload_n 1, 71, 0, 0, 0, 0) := fr fe_X3_become_2 12 rfl
theorem i_X3_become_71 : fetch 29 71 = some (.getfield 43, 74, 3, 10, 0, 260) := fr fe_X3_become_2 13 rfl
theorem i_X3_become_74 : fetch 29 74 = some (.putfield 43, 77, 3, 10, 0, 260) := fr fe_X3_become_2 14 rfl
theorem i_X3_become_77 : fetch 29 77 = some (.aload_n 0, 78, 0, 0, 0, 0) := fr fe_X3_become_2 15 rfl
theorem i_X3_become_78 : fetch 29 78 = some (.aload_n 1, 79, 0, 0, 0, 0) := fr fe_X3_become_2 16 rfl
theorem i_X3_become_79 : fetch 29 79 = some (.getfield 47, 82, 3, 11, 0, 262) := fr fe_X3_become_2 17 rfl
theorem i_X3_become_82 : fetch 29 82 = some (.putfield 47, 85, 3, 11, 0, 262) := fr fe_X3_become_2 18 rfl
theorem i_X3_become_85 : fetch 29 85 = some (.return_, 86, 0, 0, 0, 0) := fr fe_X3_become_2 19 rfl
theorem i_X3_bounce_0 : fetch 34 0 = some (.iconst 0, 1, 0, 0, 0, 0) := fr fe_X3_bounce_1 0 rfl
theorem i_X3_bounce_1 : fetch 34 1 = some (.istore_n 1, 2, 0, 0, 0, 0) := fr fe_X3_bounce_1 1 rfl
theorem i_X3_bounce_2 : fetch 34 2 = some (.iload_n 1, 3, 0, 0, 0, 0) := fr fe_X3_bounce_1 2 rfl
theorem i_X3_bounce_3 : fetch 34 3 = some (.bipush 12, 5, 0, 0, 0, 0) := fr fe_X3_bounce_1 3 rfl
theorem i_X3_bounce_5 : fetch 34 5 = some (.if_icmp .ge 75, 8, 0, 0, 0, 0) := fr fe_X3_bounce_1 4 rfl
theorem i_X3_bounce_8 : fetch 34 8 = some (.iload_n 1, 9, 0, 0, 0, 0) := fr fe_X3_bounce_1 5 rfl
theorem i_X3_bounce_9 : fetch 34 9 = some (.ifCond .le 14, 12, 0, 0, 0, 0) := fr fe_X3_bounce_1 6 rfl
theorem i_X3_bounce_12 : fetch 34 12 = some (.aload_n 0, 13, 0, 0, 0, 0) := fr fe_X3_bounce_1 7 rfl
theorem i_X3_bounce_13 : fetch 34 13 = some (.getfield 15, 16, 3, 1, 0, 243) := fr fe_X3_bounce_1 8 rfl
theorem i_X3_bounce_16 : fetch 34 16 = some (.iload_n 1, 17, 0, 0, 0, 0) := fr fe_X3_bounce_1 9 rfl
theorem i_X3_bounce_17 : fetch 34 17 = some (.iconst 1, 18, 0, 0, 0, 0) := fr fe_X3_bounce_1 10 rfl
theorem i_X3_bounce_18 : fetch 34 18 = some (.isub, 19, 0, 0, 0, 0) := fr fe_X3_bounce_1 11 rfl
theorem i_X3_bounce_19 : fetch 34 19 = some (.iaload, 20, 0, 0, 0, 0) := fr fe_X3_bounce_1 12 rfl
theorem i_X3_bounce_20 : fetch 34 20 = some (.goto 9, 23, 0, 0, 0, 0) := fr fe_X3_bounce_1 13 rfl
theorem i_X3_bounce_23 : fetch 34 23 = some (.aload_n 0, 24, 0, 0, 0, 0) := fr fe_X3_bounce_1 14 rfl
theorem i_X3_bounce_24 : fetch 34 24 = some (.getfield 15, 27, 3, 1, 0, 243) := fr fe_X3_bounce_1 15 rfl
theorem i_X3_bounce_27 : fetch 34 27 = some (.iload_n 1, 28, 0, 0, 0, 0) := fr fe_X3_bounce_1 16 rfl
theorem i_X3_bounce_28 : fetch 34 28 = some (.iaload, 29, 0, 0, 0, 0) := fr fe_X3_bounce_1 17 rfl
theorem i_X3_bounce_29 : fetch 34 29 = some (.istore_n 2, 30, 0, 0, 0, 0) := fr fe_X3_bounce_1 18 rfl
theorem i_X3_bounce_30 : fetch 34 30 = some (.iload_n 1, 31, 0, 0, 0, 0) := fr fe_X3_bounce_1 19 rfl
theorem i_X3_bounce_31 : fetch 34 31 = some (.bipush 11, 33, 0, 0, 0, 0) := fr fe_X3_bounce_1 20 rfl
theorem i_X3_bounce_33 : fetch 34 33 = some (.if_icmp .ge 14, 36, 0, 0, 0, 0) := fr fe_X3_bounce_1 21 rfl
theorem i_X3_bounce_36 : fetch 34 36 = some (.aload_n 0, 37, 0, 0, 0, 0) := fr fe_X3_bounce_1 22 rfl
theorem i_X3_bounce_37 : fetch 34 37 = some (.getfield 15, 40, 3, 1, 0, 243) := fr fe_X3_bounce_1 23 rfl
theorem i_X3_bounce_40 : fetch 34 40 = some (.iload_n 1, 41, 0, 0, 0, 0) := fr fe_X3_bounce_1 24 rfl
theorem i_X3_bounce_41 : fetch 34 41 = some (.iconst 1, 42, 0, 0, 0, 0) := fr fe_X3_bounce_2 0 rfl
theorem i_X3_bounce_42 : fetch 34 42 = some (.iadd, 43, 0, 0, 0, 0) := fr fe_X3_bounce_2 1 rfl
theorem i_X3_bounce_43 : fetch 34 43 = some (.iaload, 44, 0, 0, 0, 0) := fr fe_X3_bounce_2 2 rfl
theorem i_X3_bounce_44 : fetch 34 44 = some (.goto 9, 47, 0, 0, 0, 0) := fr fe_X3_bounce_2 3 rfl
theorem i_X3_bounce_47 : fetch 34 47 = some (.aload_n 0, 48, 0, 0, 0, 0) := fr fe_X3_bounce_2 4 rfl
theorem i_X3_bounce_48 : fetch 34 48 = some (.getfield 15, 51, 3, 1, 0, 243) := fr fe_X3_bounce_2 5 rfl
theorem i_X3_bounce_51 : fetch 34 51 = some (.iload_n 1, 52, 0, 0, 0, 0) := fr fe_X3_bounce_2 6 rfl
theorem i_X3_bounce_52 : fetch 34 52 = some (.iaload, 53, 0, 0, 0, 0) := fr fe_X3_bounce_2 7 rfl
theorem i_X3_bounce_53 : fetch 34 53 = some (.istore_n 3, 54, 0, 0, 0, 0) := fr fe_X3_bounce_2 8 rfl
theorem i_X3_bounce_54 : fetch 34 54 = some (.aload_n 0, 55, 0, 0, 0, 0) := fr fe_X3_bounce_2 9 rfl
theorem i_X3_bounce_55 : fetch 34 55 = some (.getfield 24, 58, 3, 4, 0, 249) := fr fe_X3_bounce_2 10 rfl
theorem i_X3_bounce_58 : fetch 34 58 = some (.iload_n 1, 59, 0, 0, 0, 0) := fr fe_X3_bounce_2 11 rfl
theorem i_X3_bounce_59 : fetch 34 59 = some (.iconst 2, 60, 0, 0, 0, 0) := fr fe_X3_bounce_2 12 rfl
theorem i_X3_bounce_60 : fetch 34 60 = some (.aload_n 0, 61, 0, 0, 0, 0) := fr fe_X3_bounce_2 13 rfl
theorem i_X3_bounce_61 : fetch 34 61 = some (.getfield 15, 64, 3, 1, 0, 243) := fr fe_X3_bounce_2 14 rfl
theorem i_X3_bounce_64 : fetch 34 64 = some (.iload_n 1, 65, 0, 0, 0, 0) := fr fe_X3_bounce_2 15 rfl
theorem i_X3_bounce_65 : fetch 34 65 = some (.iaload, 66, 0, 0, 0, 0) := fr fe_X3_bounce_2 16 rfl
theorem i_X3_bounce_66 : fetch 34 66 = some (.imul, 67, 0, 0, 0, 0) := fr fe_X3_bounce_2 17 rfl
theorem i_X3_bounce_67 : fetch 34 67 = some (.iload_n 2, 68, 0, 0, 0, 0) := fr fe_X3_bounce_2 18 rfl
theorem i_X3_bounce_68 : fetch 34 68 = some (.iadd, 69, 0, 0, 0, 0) := fr fe_X3_bounce_2 19 rfl
theorem i_X3_bounce_69 : fetch 34 69 = some (.iload_n 3, 70, 0, 0, 0, 0) := fr fe_X3_bounce_2 20 rfl
theorem i_X3_bounce_70 : fetch 34 70 = some (.iadd, 71, 0, 0, 0, 0) := fr fe_X3_bounce_2 21 rfl
theorem i_X3_bounce_71 : fetch 34 71 = some (.iconst 4, 72, 0, 0, 0, 0) := fr fe_X3_bounce_2 22 rfl
theorem i_X3_bounce_72 : fetch 34 72 = some (.idiv, 73, 0, 0, 0, 0) := fr fe_X3_bounce_2 23 rfl
theorem i_X3_bounce_73 : fetch 34 73 = some (.iastore, 74, 0, 0, 0, 0) := fr fe_X3_bounce_2 24 rfl
theorem i_X3_bounce_74 : fetch 34 74 = some (.iinc 1 1, 77, 0, 0, 0, 0) := fr fe_X3_bounce_3 0 rfl
theorem i_X3_bounce_77 : fetch 34 77 = some (.goto (-75), 80, 0, 0, 0, 0) := fr fe_X3_bounce_3 1 rfl
theorem i_X3_bounce_80 : fetch 34 80 = some (.aload_n 0, 81, 0, 0, 0, 0) := fr fe_X3_bounce_3 2 rfl
theorem i_X3_bounce_81 : fetch 34 81 = some (.getfield 24, 84, 3, 4, 0, 249) := fr fe_X3_bounce_3 3 rfl
theorem i_X3_bounce_84 : fetch 34 84 = some (.iconst 0, 85, 0, 0, 0, 0) := fr fe_X3_bounce_3 4 rfl
theorem i_X3_bounce_85 : fetch 34 85 = some (.aload_n 0, 86, 0, 0, 0, 0) := fr fe_X3_bounce_3 5 rfl
theorem i_X3_bounce_86 : fetch 34 86 = some (.getfield 15, 89, 3, 1, 0, 243) := fr fe_X3_bounce_3 6 rfl
theorem i_X3_bounce_89 : fetch 34 89 = some (.iconst 0, 90, 0, 0, 0, 0) := fr fe_X3_bounce_3 7 rfl
theorem i_X3_bounce_90 : fetch 34 90 = some (.bipush 12, 92, 0, 0, 0, 0) := fr fe_X3_bounce_3 8 rfl
theorem i_X3_bounce_92 : fetch 34 92 = some (.invokestatic 57, 95, 1001, 0, 0, 636) := fr fe_X3_bounce_3 9 rfl
theorem i_X3_bounce_95 : fetch 34 95 = some (.return_, 96, 0, 0, 0, 0) := fr fe_X3_bounce_3 10 rfl
theorem i_X3_cutEnd_0 : fetch 38 0 = some (.aload_n 0, 1, 0, 0, 0, 0) := fr fe_X3_cutEnd_1 0 rfl
theorem i_X3_cutEnd_1 : fetch 38 1 = some (.getfield 9, 4, 3, 0, 0, 242) := fr fe_X3_cutEnd_1 1 rfl
theorem i_X3_cutEnd_4 : fetch 38 4 = some (.iload_n 1, 5, 0, 0, 0, 0) := fr fe_X3_cutEnd_1 2 rfl
theorem i_X3_cutEnd_5 : fetch 38 5 = some (.iaload, 6, 0, 0, 0, 0) := fr fe_X3_cutEnd_1 3 rfl
theorem i_X3_cutEnd_6 : fetch 38 6 = some (.iload_n 2, 7, 0, 0, 0, 0) := fr fe_X3_cutEnd_1 4 rfl
theorem i_X3_cutEnd_7 : fetch 38 7 = some (.imul, 8, 0, 0, 0, 0) := fr fe_X3_cutEnd_1 5 rfl
theorem i_X3_cutEnd_8 : fetch 38 8 = some (.bipush 10, 10, 0, 0, 0, 0) := fr fe_X3_cutEnd_1 6 rfl
theorem i_X3_cutEnd_10 : fetch 38 10 = some (.idiv, 11, 0, 0, 0, 0) := fr fe_X3_cutEnd_1 7 rfl
theorem i_X3_cutEnd_11 : fetch 38 11 = some (.istore_n 3, 12, 0, 0, 0, 0) := fr fe_X3_cutEnd_1 8 rfl
theorem i_X3_cutEnd_12 : fetch 38 12 = some (.aload_n 0, 13, 0, 0, 0, 0) := fr fe_X3_cutEnd_1 9 rfl
theorem i_X3_cutEnd_13 : fetch 38 13 = some (.dup, 14, 0, 0, 0, 0) := fr fe_X3_cutEnd_1 10 rfl
theorem i_X3_cutEnd_14 : fetch 38 14 = some (.getfield 38, 17, 3, 9, 0, 258) := fr fe_X3_cutEnd_1 11 rfl
theorem i_X3_cutEnd_17 : fetch 38 17 = some (.iload_n 3, 18, 0, 0, 0, 0) := fr fe_X3_cutEnd_1 12 rfl
theorem i_X3_cutEnd_18 : fetch 38 18 = some (.iadd, 19, 0, 0, 0, 0) := fr fe_X3_cutEnd_1 13 rfl
theorem i_X3_cutEnd_19 : fetch 38 19 = some (.putfield 38, 22, 3, 9, 0, 258) := fr fe_X3_cutEnd_1 14 rfl
theorem i_X3_cutEnd_22 : fetch 38 22 = some (.aload_n 0, 23, 0, 0, 0, 0) := fr fe_X3_cutEnd_1 15 rfl
theorem i_X3_cutEnd_23 : fetch 38 23 = some (.getfield 9, 26, 3, 0, 0, 242) := fr fe_X3_cutEnd_1 16 rfl
theorem i_X3_cutEnd_26 : fetch 38 26 = some (.iload_n 1, 27, 0, 0, 0, 0) := fr fe_X3_cutEnd_1 17 rfl
theorem i_X3_cutEnd_27 : fetch 38 27 = some (.iconst 1, 28, 0, 0, 0, 0) := fr fe_X3_cutEnd_1 18 rfl
theorem i_X3_cutEnd_28 : fetch 38 28 = some (.aload_n 0, 29, 0, 0, 0, 0) := fr fe_X3_cutEnd_1 19 rfl
theorem i_X3_cutEnd_29 : fetch 38 29 = some (.getfield 9, 32, 3, 0, 0, 242) := fr fe_X3_cutEnd_1 20 rfl
theorem i_X3_cutEnd_32 : fetch 38 32 = some (.iload_n 1, 33, 0, 0, 0, 0) := fr fe_X3_cutEnd_1 21 rfl
theorem i_X3_cutEnd_33 : fetch 38 33 = some (.iaload, 34, 0, 0, 0, 0) := fr fe_X3_cutEnd_1 22 rfl
theorem i_X3_cutEnd_34 : fetch 38 34 = some (.iload_n 3, 35, 0, 0, 0, 0) := fr fe_X3_cutEnd_1 23 rfl
theorem i_X3_cutEnd_35 : fetch 38 35 = some (.isub, 36, 0, 0, 0, 0) := fr fe_X3_cutEnd_1 24 rfl
theorem i_X3_cutEnd_36 : fetch 38 36 = some (.invokestatic 105, 39, 1003, 0, 0, 718) := fr fe_X3_cutEnd_2 0 rfl
theorem i_X3_cutEnd_39 : fetch 38 39 = some (.iastore, 40, 0, 0, 0, 0) := fr fe_X3_cutEnd_2 1 rfl
theorem i_X3_cutEnd_40 : fetch 38 40 = some (.aload_n 0, 41, 0, 0, 0, 0) := fr fe_X3_cutEnd_2 2 rfl
theorem i_X3_cutEnd_41 : fetch 38 41 = some (.getfield 15, 44, 3, 1, 0, 243) := fr fe_X3_cutEnd_2 3 rfl
theorem i_X3_cutEnd_44 : fetch 38 44 = some (.iload_n 1, 45, 0, 0, 0, 0) := fr fe_X3_cutEnd_2 4 rfl
theorem i_X3_cutEnd_45 : fetch 38 45 = some (.iconst 1, 46, 0, 0, 0, 0) := fr fe_X3_cutEnd_2 5 rfl
theorem i_X3_cutEnd_46 : fetch 38 46 = some (.aload_n 0, 47, 0, 0, 0, 0) := fr fe_X3_cutEnd_2 6 rfl
theorem i_X3_cutEnd_47 : fetch 38 47 = some (.getfield 15, 50, 3, 1, 0, 243) := fr fe_X3_cutEnd_2 7 rfl
theorem i_X3_cutEnd_50 : fetch 38 50 = some (.iload_n 1, 51, 0, 0, 0, 0) := fr fe_X3_cutEnd_2 8 rfl
theorem i_X3_cutEnd_51 : fetch 38 51 = some (.iaload, 52, 0, 0, 0, 0) := fr fe_X3_cutEnd_2 9 rfl
theorem i_X3_cutEnd_52 : fetch 38 52 = some (.aload_n 0, 53, 0, 0, 0, 0) := fr fe_X3_cutEnd_2 10 rfl
theorem i_X3_cutEnd_53 : fetch 38 53 = some (.getfield 15, 56, 3, 1, 0, 243) := fr fe_X3_cutEnd_2 11 rfl
theorem i_X3_cutEnd_56 : fetch 38 56 = some (.iload_n 1, 57, 0, 0, 0, 0) := fr fe_X3_cutEnd_2 12 rfl
theorem i_X3_cutEnd_57 : fetch 38 57 = some (.iaload, 58, 0, 0, 0, 0) := fr fe_X3_cutEnd_2 13 rfl
theorem i_X3_cutEnd_58 : fetch 38 58 = some (.iload_n 2, 59, 0, 0, 0, 0) := fr fe_X3_cutEnd_2 14 rfl
theorem i_X3_cutEnd_59 : fetch 38 59 = some (.imul, 60, 0, 0, 0, 0) := fr fe_X3_cutEnd_2 15 rfl
theorem i_X3_cutEnd_60 : fetch 38 60 = some (.bipush 10, 62, 0, 0, 0, 0) := fr fe_X3_cutEnd_2 16 rfl
theorem i_X3_cutEnd_62 : fetch 38 62 = some (.idiv, 63, 0, 0, 0, 0) := fr fe_X3_cutEnd_2 17 rfl
theorem i_X3_cutEnd_63 : fetch 38 63 = some (.isub, 64, 0, 0, 0, 0) := fr fe_X3_cutEnd_2 18 rfl
theorem i_X3_cutEnd_64 : fetch 38 64 = some (.invokestatic 105, 67, 1003, 0, 0, 718) := fr fe_X3_cutEnd_2 19 rfl
theorem i_X3_cutEnd_67 : fetch 38 67 = some (.iastore, 68, 0, 0, 0, 0) := fr fe_X3_cutEnd_2 20 rfl
theorem i_X3_cutEnd_68 : fetch 38 68 = some (.return_, 69, 0, 0, 0, 0) := fr fe_X3_cutEnd_2 21 rfl
theorem i_X7_quotient_0 : fetch 111 0 = some (.lload_n 2, 1, 0, 0, 0, 0) := fr fe_X7_quotient 0 rfl
theorem i_X7_quotient_1 : fetch 111 1 = some (.lconst 0, 2, 0, 0, 0, 0) := fr fe_X7_quotient 1 rfl
theorem i_X7_quotient_2 : fetch 111 2 = some (.lcmp, 3, 0, 0, 0, 0) := fr fe_X7_quotient 2 rfl
theorem i_X7_quotient_3 : fetch 111 3 = some (.ifCond .le 9, 6, 0, 0, 0, 0) := fr fe_X7_quotient 3 rfl
theorem i_X7_quotient_6 : fetch 111 6 = some (.lload_n 0, 7, 0, 0, 0, 0) := fr fe_X7_quotient 4 rfl
theorem i_X7_quotient_7 : fetch 111 7 = some (.lload_n 2, 8, 0, 0, 0, 0) := fr fe_X7_quotient 5 rfl
theorem i_X7_quotient_8 : fetch 111 8 = some (.ldiv, 9, 0, 0, 0, 0) := fr fe_X7_quotient 6 rfl
theorem i_X7_quotient_9 : fetch 111 9 = some (.goto 4, 12, 0, 0, 0, 0) := fr fe_X7_quotient 7 rfl
theorem i_X7_quotient_12 : fetch 111 12 = some (.lconst 0, 13, 0, 0, 0, 0) := fr fe_X7_quotient 8 rfl
theorem i_X7_quotient_13 : fetch 111 13 = some (.lreturn, 14, 0, 0, 0, 0) := fr fe_X7_quotient 9 rfl
theorem i_X3_lengthen_0 : fetch 33 0 = some (.aload_n 0, 1, 0, 0, 0, 0) := fr fe_X3_lengthen_1 0 rfl
theorem i_X3_lengthen_1 : fetch 33 1 = some (.getfield 15, 4, 3, 1, 0, 243) := fr fe_X3_lengthen_1 1 rfl
theorem i_X3_lengthen_4 : fetch 33 4 = some (.iload_n 1, 5, 0, 0, 0, 0) := fr fe_X3_lengthen_1 2 rfl
theorem i_X3_lengthen_5 : fetch 33 5 = some (.ldc2_w 128, 8, 0, 0, 1000000, 696) := fr fe_X3_lengthen_1 3 rfl
theorem i_X3_lengthen_8 : fetch 33 8 = some (.aload_n 0, 9, 0, 0, 0, 0) := fr fe_X3_lengthen_1 4 rfl
theorem i_X3_lengthen_9 : fetch 33 9 = some (.getfield 15, 12, 3, 1, 0, 243) := fr fe_X3_lengthen_1 5 rfl
theorem i_X3_lengthen_12 : fetch 33 12 = some (.iload_n 1, 13, 0, 0, 0, 0) := fr fe_X3_lengthen_1 6 rfl
theorem i_X3_lengthen_13 : fetch 33 13 = some (.iaload, 14, 0, 0, 0, 0) := fr fe_X3_lengthen_1 7 rfl
theorem i_X3_lengthen_14 : fetch 33 14 = some (.i2l, 15, 0, 0, 0, 0) := fr fe_X3_lengthen_1 8 rfl
theorem i_X3_lengthen_15 : fetch 33 15 = some (.lload_n 2, 16, 0, 0, 0, 0) := fr fe_X3_lengthen_1 9 rfl
theorem i_X3_lengthen_16 : fetch 33 16 = some (.ladd, 17, 0, 0, 0, 0) := fr fe_X3_lengthen_1 10 rfl
theorem i_X3_lengthen_17 : fetch 33 17 = some (.invokestatic 130, 20, 1006, 0, 0, 697) := fr fe_X3_lengthen_1 11 rfl
theorem i_X3_lengthen_20 : fetch 33 20 = some (.l2i, 21, 0, 0, 0, 0) := fr fe_X3_lengthen_1 12 rfl
theorem i_X3_lengthen_21 : fetch 33 21 = some (.iastore, 22, 0, 0, 0, 0) := fr fe_X3_lengthen_1 13 rfl
theorem i_X3_lengthen_22 : fetch 33 22 = some (.aload_n 0, 23, 0, 0, 0, 0) := fr fe_X3_lengthen_1 14 rfl
theorem i_X3_lengthen_23 : fetch 33 23 = some (.getfield 18, 26, 3, 2, 0, 245) := fr fe_X3_lengthen_1 15 rfl
theorem i_X3_lengthen_26 : fetch 33 26 = some (.iload_n 1, 27, 0, 0, 0, 0) := fr fe_X3_lengthen_1 16 rfl
theorem i_X3_lengthen_27 : fetch 33 27 = some (.ldc2_w 133, 30, 0, 0, 99, 698) := fr fe_X3_lengthen_1 17 rfl
theorem i_X3_lengthen_30 : fetch 33 30 = some (.aload_n 0, 31, 0, 0, 0, 0) := fr fe_X3_lengthen_1 18 rfl
theorem i_X3_lengthen_31 : fetch 33 31 = some (.getfield 18, 34, 3, 2, 0, 245) := fr fe_X3_lengthen_1 19 rfl
theorem i_X3_lengthen_34 : fetch 33 34 = some (.iload_n 1, 35, 0, 0, 0, 0) := fr fe_X3_lengthen_1 20 rfl
theorem i_X3_lengthen_35 : fetch 33 35 = some (.iaload, 36, 0, 0, 0, 0) := fr fe_X3_lengthen_1 21 rfl
theorem i_X3_lengthen_36 : fetch 33 36 = some (.i2l, 37, 0, 0, 0, 0) := fr fe_X3_lengthen_1 22 rfl
theorem i_X3_lengthen_37 : fetch 33 37 = some (.lload_n 2, 38, 0, 0, 0, 0) := fr fe_X3_lengthen_1 23 rfl
theorem i_X3_lengthen_38 : fetch 33 38 = some (.iload 4, 40, 0, 0, 0, 0) := fr fe_X3_lengthen_1 24 rfl
theorem i_X3_lengthen_40 : fetch 33 40 = some (.i2l, 41, 0, 0, 0, 0) := fr fe_X3_lengthen_2 0 rfl
theorem i_X3_lengthen_41 : fetch 33 41 = some (.lmul, 42, 0, 0, 0, 0) := fr fe_X3_lengthen_2 1 rfl
theorem i_X3_lengthen_42 : fetch 33 42 = some (.ldc2_w 135, 45, 0, 0, 10, 651) := fr fe_X3_lengthen_2 2 rfl
theorem i_X3_lengthen_45 : fetch 33 45 = some (.lmul, 46, 0, 0, 0, 0) := fr fe_X3_lengthen_2 3 rfl
theorem i_X3_lengthen_46 : fetch 33 46 = some (.aload_n 0, 47, 0, 0, 0, 0) := fr fe_X3_lengthen_2 4 rfl
theorem i_X3_lengthen_47 : fetch 33 47 = some (.getfield 15, 50, 3, 1, 0, 243) := fr fe_X3_lengthen_2 5 rfl
theorem i_X3_lengthen_50 : fetch 33 50 = some (.iload_n 1, 51, 0, 0, 0, 0) := fr fe_X3_lengthen_2 6 rfl
theorem i_X3_lengthen_51 : fetch 33 51 = some (.iaload, 52, 0, 0, 0, 0) := fr fe_X3_lengthen_2 7 rfl
theorem i_X3_lengthen_52 : fetch 33 52 = some (.i2l, 53, 0, 0, 0, 0) := fr fe_X3_lengthen_2 8 rfl
theorem i_X3_lengthen_53 : fetch 33 53 = some (.invokestatic 115, 56, 111, 1, 0, 689) := fr fe_X3_lengthen_2 9 rfl
theorem i_X3_lengthen_56 : fetch 33 56 = some (.ladd, 57, 0, 0, 0, 0) := fr fe_X3_lengthen_2 10 rfl
theorem i_X3_lengthen_57 : fetch 33 57 = some (.invokestatic 130, 60, 1006, 0, 0, 697) := fr fe_X3_lengthen_2 11 rfl
theorem i_X3_lengthen_60 : fetch 33 60 = some (.l2i, 61, 0, 0, 0, 0) := fr fe_X3_lengthen_2 12 rfl
theorem i_X3_lengthen_61 : fetch 33 61 = some (.iastore, 62, 0, 0, 0, 0) := fr fe_X3_lengthen_2 13 rfl
theorem i_X3_lengthen_62 : fetch 33 62 = some (.return_, 63, 0, 0, 0, 0) := fr fe_X3_lengthen_2 14 rfl
theorem i_X3_draw_0 : fetch 32 0 = some (.lconst 0, 1, 0, 0, 0, 0) := fr fe_X3_draw_1 0 rfl
theorem i_X3_draw_1 : fetch 32 1 = some (.lstore 4, 3, 0, 0, 0, 0) := fr fe_X3_draw_1 1 rfl
theorem i_X3_draw_3 : fetch 32 3 = some (.iconst 0, 4, 0, 0, 0, 0) := fr fe_X3_draw_1 2 rfl
theorem i_X3_draw_4 : fetch 32 4 = some (.istore 6, 6, 0, 0, 0, 0) := fr fe_X3_draw_1 3 rfl
theorem i_X3_draw_6 : fetch 32 6 = some (.iload 6, 8, 0, 0, 0, 0) := fr fe_X3_draw_1 4 rfl
theorem i_X3_draw_8 : fetch 32 8 = some (.bipush 12, 10, 0, 0, 0, 0) := fr fe_X3_draw_1 5 rfl
theorem i_X3_draw_10 : fetch 32 10 = some (.if_icmp .ge 40, 13, 0, 0, 0, 0) := fr fe_X3_draw_1 6 rfl
theorem i_X3_draw_13 : fetch 32 13 = some (.aload_n 0, 14, 0, 0, 0, 0) := fr fe_X3_draw_1 7 rfl
theorem i_X3_draw_14 : fetch 32 14 = some (.getfield 21, 17, 3, 3, 0, 248) := fr fe_X3_draw_1 8 rfl
theorem i_X3_draw_17 : fetch 32 17 = some (.iload 6, 19, 0, 0, 0, 0) := fr fe_X3_draw_1 9 rfl
theorem i_X3_draw_19 : fetch 32 19 = some (.aload_n 0, 20, 0, 0, 0, 0) := fr fe_X3_draw_1 10 rfl
theorem i_X3_draw_20 : fetch 32 20 = some (.getfield 50, 23, 3, 6, 0, 251) := fr fe_X3_draw_1 11 rfl
theorem i_X3_draw_23 : fetch 32 23 = some (.aload_n 0, 24, 0, 0, 0, 0) := fr fe_X3_draw_1 12 rfl
theorem i_X3_draw_24 : fetch 32 24 = some (.iload 6, 26, 0, 0, 0, 0) := fr fe_X3_draw_1 13 rfl
theorem i_X3_draw_26 : fetch 32 26 = some (.iload_n 3, 27, 0, 0, 0, 0) := fr fe_X3_draw_1 14 rfl
theorem i_X3_draw_27 : fetch 32 27 = some (.invokevirtual 111, 30, 5, 0, 0, 656) := fr fe_X3_draw_1 15 rfl
theorem i_X3_draw_30 : fetch 32 30 = some (.iastore, 31, 0, 0, 0, 0) := fr fe_X3_draw_1 16 rfl
theorem i_X3_draw_31 : fetch 32 31 = some (.lload 4, 33, 0, 0, 0, 0) := fr fe_X3_draw_1 17 rfl
theorem i_X3_draw_33 : fetch 32 33 = some (.aload_n 0, 34, 0, 0, 0, 0) := fr fe_X3_draw_1 18 rfl
theorem i_X3_draw_34 : fetch 32 34 = some (.getfield 21, 37, 3, 3, 0, 248) := fr fe_X3_draw_1 19 rfl
theorem i_X3_draw_37 : fetch 32 37 = some (.iload 6, 39, 0, 0, 0, 0) := fr fe_X3_draw_1 20 rfl
theorem i_X3_draw_39 : fetch 32 39 = some (.iaload, 40, 0, 0, 0, 0) := fr fe_X3_draw_1 21 rfl
theorem i_X3_draw_40 : fetch 32 40 = some (.i2l, 41, 0, 0, 0, 0) := fr fe_X3_draw_1 22 rfl
theorem i_X3_draw_41 : fetch 32 41 = some (.ladd, 42, 0, 0, 0, 0) := fr fe_X3_draw_1 23 rfl
theorem i_X3_draw_42 : fetch 32 42 = some (.lstore 4, 44, 0, 0, 0, 0) := fr fe_X3_draw_1 24 rfl
theorem i_X3_draw_44 : fetch 32 44 = some (.iinc 6 1, 47, 0, 0, 0, 0) := fr fe_X3_draw_2 0 rfl
theorem i_X3_draw_47 : fetch 32 47 = some (.goto (-41), 50, 0, 0, 0, 0) := fr fe_X3_draw_2 1 rfl
theorem i_X3_draw_50 : fetch 32 50 = some (.lload_n 1, 51, 0, 0, 0, 0) := fr fe_X3_draw_2 2 rfl
theorem i_X3_draw_51 : fetch 32 51 = some (.lstore 6, 53, 0, 0, 0, 0) := fr fe_X3_draw_2 3 rfl
theorem i_X3_draw_53 : fetch 32 53 = some (.iconst 0, 54, 0, 0, 0, 0) := fr fe_X3_draw_2 4 rfl
theorem i_X3_draw_54 : fetch 32 54 = some (.istore 8, 56, 0, 0, 0, 0) := fr fe_X3_draw_2 5 rfl
theorem i_X3_draw_56 : fetch 32 56 = some (.iload 8, 58, 0, 0, 0, 0) := fr fe_X3_draw_2 6 rfl
theorem i_X3_draw_58 : fetch 32 58 = some (.bipush 12, 60, 0, 0, 0, 0) := fr fe_X3_draw_2 7 rfl
theorem i_X3_draw_60 : fetch 32 60 = some (.if_icmp .ge 43, 63, 0, 0, 0, 0) := fr fe_X3_draw_2 8 rfl
theorem i_X3_draw_63 : fetch 32 63 = some (.aload_n 0, 64, 0, 0, 0, 0) := fr fe_X3_draw_2 9 rfl
theorem i_X3_draw_64 : fetch 32 64 = some (.getfield 27, 67, 3, 5, 0, 250) := fr fe_X3_draw_2 10 rfl
theorem i_X3_draw_67 : fetch 32 67 = some (.iload 8, 69, 0, 0, 0, 0) := fr fe_X3_draw_2 11 rfl
theorem i_X3_draw_69 : fetch 32 69 = some (.lload_n 1, 70, 0, 0, 0, 0) := fr fe_X3_draw_2 12 rfl
theorem i_X3_draw_70 : fetch 32 70 = some (.aload_n 0, 71, 0, 0, 0, 0) := fr fe_X3_draw_2 13 rfl
theorem i_X3_draw_71 : fetch 32 71 = some (.getfield 21, 74, 3, 3, 0, 248) := fr fe_X3_draw_2 14 rfl
theorem i_X3_draw_74 : fetch 32 74 = some (.iload 8, 76, 0, 0, 0, 0) := fr fe_X3_draw_2 15 rfl
theorem i_X3_draw_76 : fetch 32 76 = some (.iaload, 77, 0, 0, 0, 0) := fr fe_X3_draw_2 16 rfl
theorem i_X3_draw_77 : fetch 32 77 = some (.i2l, 78, 0, 0, 0, 0) := fr fe_X3_draw_2 17 rfl
theorem i_X3_draw_78 : fetch 32 78 = some (.lmul, 79, 0, 0, 0, 0) := fr fe_X3_draw_2 18 rfl
theorem i_X3_draw_79 : fetch 32 79 = some (.lload 4, 81, 0, 0, 0, 0) := fr fe_X3_draw_2 19 rfl
theorem i_X3_draw_81 : fetch 32 81 = some (.invokestatic 115, 84, 111, 1, 0, 689) := fr fe_X3_draw_2 20 rfl
theorem i_X3_draw_84 : fetch 32 84 = some (.lastore, 85, 0, 0, 0, 0) := fr fe_X3_draw_2 21 rfl
theorem i_X3_draw_85 : fetch 32 85 = some (.lload 6, 87, 0, 0, 0, 0) := fr fe_X3_draw_2 22 rfl
theorem i_X3_draw_87 : fetch 32 87 = some (.aload_n 0, 88, 0, 0, 0, 0) := fr fe_X3_draw_2 23 rfl
theorem i_X3_draw_88 : fetch 32 88 = some (.getfield 27, 91, 3, 5, 0, 250) := fr fe_X3_draw_2 24 rfl
theorem i_X3_draw_91 : fetch 32 91 = some (.iload 8, 93, 0, 0, 0, 0) := fr fe_X3_draw_3 0 rfl
theorem i_X3_draw_93 : fetch 32 93 = some (.laload, 94, 0, 0, 0, 0) := fr fe_X3_draw_3 1 rfl
theorem i_X3_draw_94 : fetch 32 94 = some (.lsub, 95, 0, 0, 0, 0) := fr fe_X3_draw_3 2 rfl
theorem i_X3_draw_95 : fetch 32 95 = some (.lstore 6, 97, 0, 0, 0, 0) := fr fe_X3_draw_3 3 rfl
theorem i_X3_draw_97 : fetch 32 97 = some (.iinc 8 1, 100, 0, 0, 0, 0) := fr fe_X3_draw_3 4 rfl
theorem i_X3_draw_100 : fetch 32 100 = some (.goto (-44), 103, 0, 0, 0, 0) := fr fe_X3_draw_3 5 rfl
theorem i_X3_draw_103 : fetch 32 103 = some (.iconst 0, 104, 0, 0, 0, 0) := fr fe_X3_draw_3 6 rfl
theorem i_X3_draw_104 : fetch 32 104 = some (.istore 8, 106, 0, 0, 0, 0) := fr fe_X3_draw_3 7 rfl
theorem i_X3_draw_106 : fetch 32 106 = some (.iload 8, 108, 0, 0, 0, 0) := fr fe_X3_draw_3 8 rfl
theorem i_X3_draw_108 : fetch 32 108 = some (.bipush 12, 110, 0, 0, 0, 0) := fr fe_X3_draw_3 9 rfl
theorem i_X3_draw_110 : fetch 32 110 = some (.if_icmp .ge 44, 113, 0, 0, 0, 0) := fr fe_X3_draw_3 10 rfl
theorem i_X3_draw_113 : fetch 32 113 = some (.aload_n 0, 114, 0, 0, 0, 0) := fr fe_X3_draw_3 11 rfl
theorem i_X3_draw_114 : fetch 32 114 = some (.iload 8, 116, 0, 0, 0, 0) := fr fe_X3_draw_3 12 rfl
theorem i_X3_draw_116 : fetch 32 116 = some (.iload 8, 118, 0, 0, 0, 0) := fr fe_X3_draw_3 13 rfl
theorem i_X3_draw_118 : fetch 32 118 = some (.i2l, 119, 0, 0, 0, 0) := fr fe_X3_draw_3 14 rfl
theorem i_X3_draw_119 : fetch 32 119 = some (.lload 6, 121, 0, 0, 0, 0) := fr fe_X3_draw_3 15 rfl
theorem i_X3_draw_121 : fetch 32 121 = some (.lcmp, 122, 0, 0, 0, 0) := fr fe_X3_draw_3 16 rfl
theorem i_X3_draw_122 : fetch 32 122 = some (.ifCond .ge 15, 125, 0, 0, 0, 0) := fr fe_X3_draw_3 17 rfl
theorem i_X3_draw_125 : fetch 32 125 = some (.aload_n 0, 126, 0, 0, 0, 0) := fr fe_X3_draw_3 18 rfl
theorem i_X3_draw_126 : fetch 32 126 = some (.getfield 27, 129, 3, 5, 0, 250) := fr fe_X3_draw_3 19 rfl
theorem i_X3_draw_129 : fetch 32 129 = some (.iload 8, 131, 0, 0, 0, 0) := fr fe_X3_draw_3 20 rfl
theorem i_X3_draw_131 : fetch 32 131 = some (.laload, 132, 0, 0, 0, 0) := fr fe_X3_draw_3 21 rfl
theorem i_X3_draw_132 : fetch 32 132 = some (.lconst 1, 133, 0, 0, 0, 0) := fr fe_X3_draw_3 22 rfl
theorem i_X3_draw_133 : fetch 32 133 = some (.ladd, 134, 0, 0, 0, 0) := fr fe_X3_draw_3 23 rfl
theorem i_X3_draw_134 : fetch 32 134 = some (.goto 10, 137, 0, 0, 0, 0) := fr fe_X3_draw_3 24 rfl
theorem i_X3_draw_137 : fetch 32 137 = some (.aload_n 0, 138, 0, 0, 0, 0) := fr fe_X3_draw_4 0 rfl
theorem i_X3_draw_138 : fetch 32 138 = some (.getfield 27, 141, 3, 5, 0, 250) := fr fe_X3_draw_4 1 rfl
theorem i_X3_draw_141 : fetch 32 141 = some (.iload 8, 143, 0, 0, 0, 0) := fr fe_X3_draw_4 2 rfl
theorem i_X3_draw_143 : fetch 32 143 = some (.laload, 144, 0, 0, 0, 0) := fr fe_X3_draw_4 3 rfl
theorem i_X3_draw_144 : fetch 32 144 = some (.iload_n 3, 145, 0, 0, 0, 0) := fr fe_X3_draw_4 4 rfl
theorem i_X3_draw_145 : fetch 32 145 = some (.invokevirtual 119, 148, 33, 0, 0, 692) := fr fe_X3_draw_4 5 rfl
theorem i_X3_draw_148 : fetch 32 148 = some (.iinc 8 1, 151, 0, 0, 0, 0) := fr fe_X3_draw_4 6 rfl
theorem i_X3_draw_151 : fetch 32 151 = some (.goto (-45), 154, 0, 0, 0, 0) := fr fe_X3_draw_4 7 rfl
theorem i_X3_draw_154 : fetch 32 154 = some (.iconst 0, 155, 0, 0, 0, 0) := fr fe_X3_draw_4 8 rfl
theorem i_X3_draw_155 : fetch 32 155 = some (.istore 8, 157, 0, 0, 0, 0) := fr fe_X3_draw_4 9 rfl
theorem i_X3_draw_157 : fetch 32 157 = some (.iload 8, 159, 0, 0, 0, 0) := fr fe_X3_draw_4 10 rfl
theorem i_X3_draw_159 : fetch 32 159 = some (.bipush 12, 161, 0, 0, 0, 0) := fr fe_X3_draw_4 11 rfl
theorem i_X3_draw_161 : fetch 32 161 = some (.if_icmp .ge 37, 164, 0, 0, 0, 0) := fr fe_X3_draw_4 12 rfl
theorem i_X3_draw_164 : fetch 32 164 = some (.aload_n 0, 165, 0, 0, 0, 0) := fr fe_X3_draw_4 13 rfl
theorem i_X3_draw_165 : fetch 32 165 = some (.aload_n 0, 166, 0, 0, 0, 0) := fr fe_X3_draw_4 14 rfl
theorem i_X3_draw_166 : fetch 32 166 = some (.getfield 43, 169, 3, 10, 0, 260) := fr fe_X3_draw_4 15 rfl
theorem i_X3_draw_169 : fetch 32 169 = some (.bipush 100, 171, 0, 0, 0, 0) := fr fe_X3_draw_4 16 rfl
theorem i_X3_draw_171 : fetch 32 171 = some (.aload_n 0, 172, 0, 0, 0, 0) := fr fe_X3_draw_4 17 rfl
theorem i_X3_draw_172 : fetch 32 172 = some (.getfield 50, 175, 3, 6, 0, 251) := fr fe_X3_draw_4 18 rfl
theorem i_X3_draw_175 : fetch 32 175 = some (.aload_n 0, 176, 0, 0, 0, 0) := fr fe_X3_draw_4 19 rfl
theorem i_X3_draw_176 : fetch 32 176 = some (.iload 8, 178, 0, 0, 0, 0) := fr fe_X3_draw_4 20 rfl
theorem i_X3_draw_178 : fetch 32 178 = some (.iload_n 3, 179, 0, 0, 0, 0) := fr fe_X3_draw_4 21 rfl
theorem i_X3_draw_179 : fetch 32 179 = some (.invokevirtual 123, 182, 6, 0, 0, 699) := fr fe_X3_draw_4 22 rfl
theorem i_X3_draw_182 : fetch 32 182 = some (.isub, 183, 0, 0, 0, 0) := fr fe_X3_draw_4 23 rfl
theorem i_X3_draw_183 : fetch 32 183 = some (.i2l, 184, 0, 0, 0, 0) := fr fe_X3_draw_4 24 rfl
theorem i_X3_draw_184 : fetch 32 184 = some (.lmul, 185, 0, 0, 0, 0) := fr fe_X3_draw_5 0 rfl
theorem i_X3_draw_185 : fetch 32 185 = some (.ldc2_w 126, 188, 0, 0, 100, 705) := fr fe_X3_draw_5 1 rfl
theorem i_X3_draw_188 : fetch 32 188 = some (.ldiv, 189, 0, 0, 0, 0) := fr fe_X3_draw_5 2 rfl
theorem i_X3_draw_189 : fetch 32 189 = some (.putfield 43, 192, 3, 10, 0, 260) := fr fe_X3_draw_5 3 rfl
theorem i_X3_draw_192 : fetch 32 192 = some (.iinc 8 1, 195, 0, 0, 0, 0) := fr fe_X3_draw_5 4 rfl
theorem i_X3_draw_195 : fetch 32 195 = some (.goto (-38), 198, 0, 0, 0, 0) := fr fe_X3_draw_5 5 rfl
theorem i_X3_draw_198 : fetch 32 198 = some (.return_, 199, 0, 0, 0, 0) := fr fe_X3_draw_5 6 rfl
theorem i_X3_foldRow_0 : fetch 36 0 = some (.iconst 0, 1, 0, 0, 0, 0) := fr fe_X3_foldRow_1 0 rfl
theorem i_X3_foldRow_1 : fetch 36 1 = some (.istore 4, 3, 0, 0, 0, 0) := fr fe_X3_foldRow_1 1 rfl
theorem i_X3_foldRow_3 : fetch 36 3 = some (.iload 4, 5, 0, 0, 0, 0) := fr fe_X3_foldRow_1 2 rfl
theorem i_X3_foldRow_5 : fetch 36 5 = some (.bipush 6, 7, 0, 0, 0, 0) := fr fe_X3_foldRow_1 3 rfl
theorem i_X3_foldRow_7 : fetch 36 7 = some (.if_icmp .ge 43, 10, 0, 0, 0, 0) := fr fe_X3_foldRow_1 4 rfl
theorem i_X3_foldRow_10 : fetch 36 10 = some (.aload_n 1, 11, 0, 0, 0, 0) := fr fe_X3_foldRow_1 5 rfl
theorem i_X3_foldRow_11 : fetch 36 11 = some (.iload 4, 13, 0, 0, 0, 0) := fr fe_X3_foldRow_1 6 rfl
theorem i_X3_foldRow_13 : fetch 36 13 = some (.iaload, 14, 0, 0, 0, 0) := fr fe_X3_foldRow_1 7 rfl
theorem i_X3_foldRow_14 : fetch 36 14 = some (.aload_n 1, 15, 0, 0, 0, 0) := fr fe_X3_foldRow_1 8 rfl
theorem i_X3_foldRow_15 : fetch 36 15 = some (.bipush 11, 17, 0, 0, 0, 0) := fr fe_X3_foldRow_1 9 rfl
theorem i_X3_foldRow_17 : fetch 36 17 = some (.iload 4, 19, 0, 0, 0, 0) := fr fe_X3_foldRow_1 10 rfl
theorem i_X3_foldRow_19 : fetch 36 19 = some (.isub, 20, 0, 0, 0, 0) := fr fe_X3_foldRow_1 11 rfl
theorem i_X3_foldRow_20 : fetch 36 20 = some (.iaload, 21, 0, 0, 0, 0) := fr fe_X3_foldRow_1 12 rfl
theorem i_X3_foldRow_21 : fetch 36 21 = some (.iadd, 22, 0, 0, 0, 0) := fr fe_X3_foldRow_1 13 rfl
theorem i_X3_foldRow_22 : fetch 36 22 = some (.istore 5, 24, 0, 0, 0, 0) := fr fe_X3_foldRow_1 14 rfl
theorem i_X3_foldRow_24 : fetch 36 24 = some (.aload_n 0, 25, 0, 0, 0, 0) := fr fe_X3_foldRow_1 15 rfl
theorem i_X3_foldRow_25 : fetch 36 25 = some (.getfield 24, 28, 3, 4, 0, 249) := fr fe_X3_foldRow_1 16 rfl
theorem i_X3_foldRow_28 : fetch 36 28 = some (.iload 4, 30, 0, 0, 0, 0) := fr fe_X3_foldRow_1 17 rfl
theorem i_X3_foldRow_30 : fetch 36 30 = some (.iload_n 3, 31, 0, 0, 0, 0) := fr fe_X3_foldRow_1 18 rfl
theorem i_X3_foldRow_31 : fetch 36 31 = some (.iload 5, 33, 0, 0, 0, 0) := fr fe_X3_foldRow_1 19 rfl
theorem i_X3_foldRow_33 : fetch 36 33 = some (.i2l, 34, 0, 0, 0, 0) := fr fe_X3_foldRow_1 20 rfl
theorem i_X3_foldRow_34 : fetch 36 34 = some (.iload_n 2, 35, 0, 0, 0, 0) := fr fe_X3_foldRow_1 21 rfl
theorem i_X3_foldRow_35 : fetch 36 35 = some (.i2l, 36, 0, 0, 0, 0) := fr fe_X3_foldRow_1 22 rfl
theorem i_X3_foldRow_36 : fetch 36 36 = some (.invokestatic 115, 39, 111, 1, 0, 689) := fr fe_X3_foldRow_1 23 rfl
theorem i_X3_foldRow_39 : fetch 36 39 = some (.l2i, 40, 0, 0, 0, 0) := fr fe_X3_foldRow_1 24 rfl
theorem i_X3_foldRow_40 : fetch 36 40 = some (.invokestatic 105, 43, 1003, 0, 0, 718) := fr fe_X3_foldRow_2 0 rfl
theorem i_X3_foldRow_43 : fetch 36 43 = some (.iastore, 44, 0, 0, 0, 0) := fr fe_X3_foldRow_2 1 rfl
theorem i_X3_foldRow_44 : fetch 36 44 = some (.iinc 4 1, 47, 0, 0, 0, 0) := fr fe_X3_foldRow_2 2 rfl
theorem i_X3_foldRow_47 : fetch 36 47 = some (.goto (-44), 50, 0, 0, 0, 0) := fr fe_X3_foldRow_2 3 rfl
theorem i_X3_foldRow_50 : fetch 36 50 = some (.iconst 0, 51, 0, 0, 0, 0) := fr fe_X3_foldRow_2 4 rfl
theorem i_X3_foldRow_51 : fetch 36 51 = some (.istore 4, 53, 0, 0, 0, 0) := fr fe_X3_foldRow_2 5 rfl
theorem i_X3_foldRow_53 : fetch 36 53 = some (.iload 4, 55, 0, 0, 0, 0) := fr fe_X3_foldRow_2 6 rfl
theorem i_X3_foldRow_55 : fetch 36 55 = some (.bipush 12, 57, 0, 0, 0, 0) := fr fe_X3_foldRow_2 7 rfl
theorem i_X3_foldRow_57 : fetch 36 57 = some (.if_icmp .ge 22, 60, 0, 0, 0, 0) := fr fe_X3_foldRow_2 8 rfl
theorem i_X3_foldRow_60 : fetch 36 60 = some (.aload_n 1, 61, 0, 0, 0, 0) := fr fe_X3_foldRow_2 9 rfl
theorem i_X3_foldRow_61 : fetch 36 61 = some (.iload 4, 63, 0, 0, 0, 0) := fr fe_X3_foldRow_2 10 rfl
theorem i_X3_foldRow_63 : fetch 36 63 = some (.aload_n 0, 64, 0, 0, 0, 0) := fr fe_X3_foldRow_2 11 rfl
theorem i_X3_foldRow_64 : fetch 36 64 = some (.getfield 24, 67, 3, 4, 0, 249) := fr fe_X3_foldRow_2 12 rfl
theorem i_X3_foldRow_67 : fetch 36 67 = some (.iload 4, 69, 0, 0, 0, 0) := fr fe_X3_foldRow_2 13 rfl
theorem i_X3_foldRow_69 : fetch 36 69 = some (.iconst 2, 70, 0, 0, 0, 0) := fr fe_X3_foldRow_2 14 rfl
theorem i_X3_foldRow_70 : fetch 36 70 = some (.idiv, 71, 0, 0, 0, 0) := fr fe_X3_foldRow_2 15 rfl
theorem i_X3_foldRow_71 : fetch 36 71 = some (.iaload, 72, 0, 0, 0, 0) := fr fe_X3_foldRow_2 16 rfl
theorem i_X3_foldRow_72 : fetch 36 72 = some (.iastore, 73, 0, 0, 0, 0) := fr fe_X3_foldRow_2 17 rfl
theorem i_X3_foldRow_73 : fetch 36 73 = some (.iinc 4 1, 76, 0, 0, 0, 0) := fr fe_X3_foldRow_2 18 rfl
theorem i_X3_foldRow_76 : fetch 36 76 = some (.goto (-23), 79, 0, 0, 0, 0) := fr fe_X3_foldRow_2 19 rfl
theorem i_X3_foldRow_79 : fetch 36 79 = some (.return_, 80, 0, 0, 0, 0) := fr fe_X3_foldRow_2 20 rfl
theorem i_X3_fold_0 : fetch 35 0 = some (.aload_n 0, 1, 0, 0, 0, 0) := fr fe_X3_fold_1 0 rfl
theorem i_X3_fold_1 : fetch 35 1 = some (.aload_n 0, 2, 0, 0, 0, 0) := fr fe_X3_fold_1 1 rfl
theorem i_X3_fold_2 : fetch 35 2 = some (.getfield 9, 5, 3, 0, 0, 242) := fr fe_X3_fold_1 2 rfl
theorem i_X3_fold_5 : fetch 35 5 = some (.iconst 4, 6, 0, 0, 0, 0) := fr fe_X3_fold_1 3 rfl
theorem i_X3_fold_6 : fetch 35 6 = some (.iconst 0, 7, 0, 0, 0, 0) := fr fe_X3_fold_1 4 rfl
theorem i_X3_fold_7 : fetch 35 7 = some (.invokevirtual 137, 10, 36, 0, 0, 714) := fr fe_X3_fold_1 5 rfl
theorem i_X3_fold_10 : fetch 35 10 = some (.aload_n 0, 11, 0, 0, 0, 0) := fr fe_X3_fold_1 6 rfl
theorem i_X3_fold_11 : fetch 35 11 = some (.aload_n 0, 12, 0, 0, 0, 0) := fr fe_X3_fold_1 7 rfl
theorem i_X3_fold_12 : fetch 35 12 = some (.getfield 15, 15, 3, 1, 0, 243) := fr fe_X3_fold_1 8 rfl
theorem i_X3_fold_15 : fetch 35 15 = some (.iconst 4, 16, 0, 0, 0, 0) := fr fe_X3_fold_1 9 rfl
theorem i_X3_fold_16 : fetch 35 16 = some (.iconst 1, 17, 0, 0, 0, 0) := fr fe_X3_fold_1 10 rfl
theorem i_X3_fold_17 : fetch 35 17 = some (.invokevirtual 137, 20, 36, 0, 0, 714) := fr fe_X3_fold_1 11 rfl
theorem i_X3_fold_20 : fetch 35 20 = some (.aload_n 0, 21, 0, 0, 0, 0) := fr fe_X3_fold_1 12 rfl
theorem i_X3_fold_21 : fetch 35 21 = some (.aload_n 0, 22, 0, 0, 0, 0) := fr fe_X3_fold_1 13 rfl
theorem i_X3_fold_22 : fetch 35 22 = some (.getfield 18, 25, 3, 2, 0, 245) := fr fe_X3_fold_1 14 rfl
theorem i_X3_fold_25 : fetch 35 25 = some (.iconst 2, 26, 0, 0, 0, 0) := fr fe_X3_fold_1 15 rfl
theorem i_X3_fold_26 : fetch 35 26 = some (.iconst 0, 27, 0, 0, 0, 0) := fr fe_X3_fold_1 16 rfl
theorem i_X3_fold_27 : fetch 35 27 = some (.invokevirtual 137, 30, 36, 0, 0, 714) := fr fe_X3_fold_1 17 rfl
theorem i_X3_fold_30 : fetch 35 30 = some (.aload_n 0, 31, 0, 0, 0, 0) := fr fe_X3_fold_1 18 rfl
theorem i_X3_fold_31 : fetch 35 31 = some (.dup, 32, 0, 0, 0, 0) := fr fe_X3_fold_1 19 rfl
theorem i_X3_fold_32 : fetch 35 32 = some (.getfield 31, 35, 3, 7, 0, 252) := fr fe_X3_fold_1 20 rfl
theorem i_X3_fold_35 : fetch 35 35 = some (.iconst 1, 36, 0, 0, 0, 0) := fr fe_X3_fold_1 21 rfl
theorem i_X3_fold_36 : fetch 35 36 = some (.iadd, 37, 0, 0, 0, 0) := fr fe_X3_fold_1 22 rfl
theorem i_X3_fold_37 : fetch 35 37 = some (.putfield 31, 40, 3, 7, 0, 252) := fr fe_X3_fold_1 23 rfl
theorem i_X3_fold_40 : fetch 35 40 = some (.aload_n 0, 41, 0, 0, 0, 0) := fr fe_X3_fold_1 24 rfl
theorem i_X3_fold_41 : fetch 35 41 = some (.aload_n 0, 42, 0, 0, 0, 0) := fr fe_X3_fold_2 0 rfl
theorem i_X3_fold_42 : fetch 35 42 = some (.getfield 47, 45, 3, 11, 0, 262) := fr fe_X3_fold_2 1 rfl
theorem i_X3_fold_45 : fetch 35 45 = some (.bipush 100, 47, 0, 0, 0, 0) := fr fe_X3_fold_2 2 rfl
theorem i_X3_fold_47 : fetch 35 47 = some (.aload_n 0, 48, 0, 0, 0, 0) := fr fe_X3_fold_2 3 rfl
theorem i_X3_fold_48 : fetch 35 48 = some (.getfield 50, 51, 3, 6, 0, 251) := fr fe_X3_fold_2 4 rfl
theorem i_X3_fold_51 : fetch 35 51 = some (.aload_n 0, 52, 0, 0, 0, 0) := fr fe_X3_fold_2 5 rfl
theorem i_X3_fold_52 : fetch 35 52 = some (.invokevirtual 141, 55, 7, 0, 0, 719) := fr fe_X3_fold_2 6 rfl
theorem i_X3_fold_55 : fetch 35 55 = some (.isub, 56, 0, 0, 0, 0) := fr fe_X3_fold_2 7 rfl
theorem i_X3_fold_56 : fetch 35 56 = some (.i2l, 57, 0, 0, 0, 0) := fr fe_X3_fold_2 8 rfl
theorem i_X3_fold_57 : fetch 35 57 = some (.lmul, 58, 0, 0, 0, 0) := fr fe_X3_fold_2 9 rfl
theorem i_X3_fold_58 : fetch 35 58 = some (.ldc2_w 126, 61, 0, 0, 100, 705) := fr fe_X3_fold_2 10 rfl
theorem i_X3_fold_61 : fetch 35 61 = some (.ldiv, 62, 0, 0, 0, 0) := fr fe_X3_fold_2 11 rfl
theorem i_X3_fold_62 : fetch 35 62 = some (.putfield 47, 65, 3, 11, 0, 262) := fr fe_X3_fold_2 12 rfl
theorem i_X3_fold_65 : fetch 35 65 = some (.return_, 66, 0, 0, 0, 0) := fr fe_X3_fold_2 13 rfl
theorem i_X3_powder_0 : fetch 37 0 = some (.aload_n 0, 1, 0, 0, 0, 0) := fr fe_X3_powder 0 rfl
theorem i_X3_powder_1 : fetch 37 1 = some (.bipush 99, 3, 0, 0, 0, 0) := fr fe_X3_powder 1 rfl
theorem i_X3_powder_3 : fetch 37 3 = some (.aload_n 0, 4, 0, 0, 0, 0) := fr fe_X3_powder 2 rfl
theorem i_X3_powder_4 : fetch 37 4 = some (.getfield 35, 7, 3, 8, 0, 255) := fr fe_X3_powder 3 rfl
theorem i_X3_powder_7 : fetch 37 7 = some (.iload_n 1, 8, 0, 0, 0, 0) := fr fe_X3_powder 4 rfl
theorem i_X3_powder_8 : fetch 37 8 = some (.iadd, 9, 0, 0, 0, 0) := fr fe_X3_powder 5 rfl
theorem i_X3_powder_9 : fetch 37 9 = some (.invokestatic 145, 12, 1005, 0, 0, 727) := fr fe_X3_powder 6 rfl
theorem i_X3_powder_12 : fetch 37 12 = some (.putfield 35, 15, 3, 8, 0, 255) := fr fe_X3_powder 7 rfl
theorem i_X3_powder_15 : fetch 37 15 = some (.return_, 16, 0, 0, 0, 0) := fr fe_X3_powder 8 rfl
theorem i_X3_relax_0 : fetch 31 0 = some (.iconst 0, 1, 0, 0, 0, 0) := fr fe_X3_relax 0 rfl
theorem i_X3_relax_1 : fetch 31 1 = some (.istore_n 2, 2, 0, 0, 0, 0) := fr fe_X3_relax 1 rfl
theorem i_X3_relax_2 : fetch 31 2 = some (.iload_n 2, 3, 0, 0, 0, 0) := fr fe_X3_relax 2 rfl
theorem i_X3_relax_3 : fetch 31 3 = some (.bipush 12, 5, 0, 0, 0, 0) := fr fe_X3_relax 3 rfl
theorem i_X3_relax_5 : fetch 31 5 = some (.if_icmp .ge 37, 8, 0, 0, 0, 0) := fr fe_X3_relax 4 rfl
theorem i_X3_relax_8 : fetch 31 8 = some (.aload_n 0, 9, 0, 0, 0, 0) := fr fe_X3_relax 5 rfl
theorem i_X3_relax_9 : fetch 31 9 = some (.getfield 18, 12, 3, 2, 0, 245) := fr fe_X3_relax 6 rfl
theorem i_X3_relax_12 : fetch 31 12 = some (.iload_n 2, 13, 0, 0, 0, 0) := fr fe_X3_relax 7 rfl
theorem i_X3_relax_13 : fetch 31 13 = some (.iconst 0, 14, 0, 0, 0, 0) := fr fe_X3_relax 8 rfl
theorem i_X3_relax_14 : fetch 31 14 = some (.aload_n 0, 15, 0, 0, 0, 0) := fr fe_X3_relax 9 rfl
theorem i_X3_relax_15 : fetch 31 15 = some (.getfield 18, 18, 3, 2, 0, 245) := fr fe_X3_relax 10 rfl
theorem i_X3_relax_18 : fetch 31 18 = some (.iload_n 2, 19, 0, 0, 0, 0) := fr fe_X3_relax 11 rfl
theorem i_X3_relax_19 : fetch 31 19 = some (.iaload, 20, 0, 0, 0, 0) := fr fe_X3_relax 12 rfl
theorem i_X3_relax_20 : fetch 31 20 = some (.iload_n 1, 21, 0, 0, 0, 0) := fr fe_X3_relax 13 rfl
theorem i_X3_relax_21 : fetch 31 21 = some (.aload_n 0, 22, 0, 0, 0, 0) := fr fe_X3_relax 14 rfl
theorem i_X3_relax_22 : fetch 31 22 = some (.getfield 50, 25, 3, 6, 0, 251) := fr fe_X3_relax 15 rfl
theorem i_X3_relax_25 : fetch 31 25 = some (.getfield 100, 28, 1, 3, 0, 218) := fr fe_X3_relax 16 rfl
theorem i_X3_relax_28 : fetch 31 28 = some (.iconst 1, 29, 0, 0, 0, 0) := fr fe_X3_relax 17 rfl
theorem i_X3_relax_29 : fetch 31 29 = some (.iadd, 30, 0, 0, 0, 0) := fr fe_X3_relax 18 rfl
theorem i_X3_relax_30 : fetch 31 30 = some (.imul, 31, 0, 0, 0, 0) := fr fe_X3_relax 19 rfl
theorem i_X3_relax_31 : fetch 31 31 = some (.isub, 32, 0, 0, 0, 0) := fr fe_X3_relax 20 rfl
theorem i_X3_relax_32 : fetch 31 32 = some (.invokestatic 105, 35, 1003, 0, 0, 718) := fr fe_X3_relax 21 rfl
theorem i_X3_relax_35 : fetch 31 35 = some (.iastore, 36, 0, 0, 0, 0) := fr fe_X3_relax 22 rfl
theorem i_X3_relax_36 : fetch 31 36 = some (.iinc 2 1, 39, 0, 0, 0, 0) := fr fe_X3_relax 23 rfl
theorem i_X3_relax_39 : fetch 31 39 = some (.goto (-37), 42, 0, 0, 0, 0) := fr fe_X3_relax 24 rfl
theorem i_X3_relax_42 : fetch 31 42 = some (.return_, 43, 0, 0, 0, 0) := fr fe_X3_relax 25 rfl
theorem i_X3_allLength_0 : fetch 44 0 = some (.lconst 0, 1, 0, 0, 0, 0) := fr fe_X3_allLength 0 rfl
theorem i_X3_allLength_1 : fetch 44 1 = some (.lstore_n 1, 2, 0, 0, 0, 0) := fr fe_X3_allLength 1 rfl
theorem i_X3_allLength_2 : fetch 44 2 = some (.iconst 0, 3, 0, 0, 0, 0) := fr fe_X3_allLength 2 rfl
theorem i_X3_allLength_3 : fetch 44 3 = some (.istore_n 3, 4, 0, 0, 0, 0) := fr fe_X3_allLength 3 rfl
theorem i_X3_allLength_4 : fetch 44 4 = some (.iload_n 3, 5, 0, 0, 0, 0) := fr fe_X3_allLength 4 rfl
theorem i_X3_allLength_5 : fetch 44 5 = some (.bipush 12, 7, 0, 0, 0, 0) := fr fe_X3_allLength 5 rfl
theorem i_X3_allLength_7 : fetch 44 7 = some (.if_icmp .ge 19, 10, 0, 0, 0, 0) := fr fe_X3_allLength 6 rfl
theorem i_X3_allLength_10 : fetch 44 10 = some (.lload_n 1, 11, 0, 0, 0, 0) := fr fe_X3_allLength 7 rfl
theorem i_X3_allLength_11 : fetch 44 11 = some (.aload_n 0, 12, 0, 0, 0, 0) := fr fe_X3_allLength 8 rfl
theorem i_X3_allLength_12 : fetch 44 12 = some (.getfield 15, 15, 3, 1, 0, 243) := fr fe_X3_allLength 9 rfl
theorem i_X3_allLength_15 : fetch 44 15 = some (.iload_n 3, 16, 0, 0, 0, 0) := fr fe_X3_allLength 10 rfl
theorem i_X3_allLength_16 : fetch 44 16 = some (.iaload, 17, 0, 0, 0, 0) := fr fe_X3_allLength 11 rfl
theorem i_X3_allLength_17 : fetch 44 17 = some (.i2l, 18, 0, 0, 0, 0) := fr fe_X3_allLength 12 rfl
theorem i_X3_allLength_18 : fetch 44 18 = some (.ladd, 19, 0, 0, 0, 0) := fr fe_X3_allLength 13 rfl
theorem i_X3_allLength_19 : fetch 44 19 = some (.lstore_n 1, 20, 0, 0, 0, 0) := fr fe_X3_allLength 14 rfl
theorem i_X3_allLength_20 : fetch 44 20 = some (.iinc 3 1, 23, 0, 0, 0, 0) := fr fe_X3_allLength 15 rfl
theorem i_X3_allLength_23 : fetch 44 23 = some (.goto (-19), 26, 0, 0, 0, 0) := fr fe_X3_allLength 16 rfl
theorem i_X3_allLength_26 : fetch 44 26 = some (.lload_n 1, 27, 0, 0, 0, 0) := fr fe_X3_allLength 17 rfl
theorem i_X3_allLength_27 : fetch 44 27 = some (.lreturn, 28, 0, 0, 0, 0) := fr fe_X3_allLength 18 rfl
theorem i_X3_tenths_0 : fetch 45 0 = some (.aload_n 0, 1, 0, 0, 0, 0) := fr fe_X3_tenths 0 rfl
theorem i_X3_tenths_1 : fetch 45 1 = some (.invokevirtual 158, 4, 44, 0, 0, 647) := fr fe_X3_tenths 1 rfl
theorem i_X3_tenths_4 : fetch 45 4 = some (.iload_n 1, 5, 0, 0, 0, 0) := fr fe_X3_tenths 2 rfl
theorem i_X3_tenths_5 : fetch 45 5 = some (.i2l, 6, 0, 0, 0, 0) := fr fe_X3_tenths 3 rfl
theorem i_X3_tenths_6 : fetch 45 6 = some (.lmul, 7, 0, 0, 0, 0) := fr fe_X3_tenths 4 rfl
theorem i_X3_tenths_7 : fetch 45 7 = some (.ldc2_w 135, 10, 0, 0, 10, 651) := fr fe_X3_tenths 5 rfl
theorem i_X3_tenths_10 : fetch 45 10 = some (.ldiv, 11, 0, 0, 0, 0) := fr fe_X3_tenths 6 rfl
theorem i_X3_tenths_11 : fetch 45 11 = some (.lreturn, 12, 0, 0, 0, 0) := fr fe_X3_tenths 7 rfl
theorem i_X3_make_0 : fetch 30 0 = some (.aload_n 1, 1, 0, 0, 0, 0) := fr fe_X3_make_1 0 rfl
theorem i_X3_make_1 : fetch 30 1 = some (.getfield 64, 4, 5, 0, 0, 154) := fr fe_X3_make_1 1 rfl
theorem i_X3_make_4 : fetch 30 4 = some (.tableswitch 122 1 5 #[36, 55, 78, 85, 96], 40, 0, 0, 0, 0) := fr fe_X3_make_1 2 rfl
theorem i_X3_make_40 : fetch 30 40 = some (.aload_n 0, 41, 0, 0, 0, 0) := fr fe_X3_make_1 3 rfl
theorem i_X3_make_41 : fetch 30 41 = some (.aload_n 0, 42, 0, 0, 0, 0) := fr fe_X3_make_1 4 rfl
theorem i_X3_make_42 : fetch 30 42 = some (.aload_n 1, 43, 0, 0, 0, 0) := fr fe_X3_make_1 5 rfl
theorem i_X3_make_43 : fetch 30 43 = some (.getfield 69, 46, 5, 1, 0, 157) := fr fe_X3_make_1 6 rfl
theorem i_X3_make_46 : fetch 30 46 = some (.invokevirtual 72, 49, 45, 0, 0, 643) := fr fe_X3_make_1 7 rfl
theorem i_X3_make_49 : fetch 30 49 = some (.aload_n 1, 50, 0, 0, 0, 0) := fr fe_X3_make_1 8 rfl
theorem i_X3_make_50 : fetch 30 50 = some (.getfield 76, 53, 5, 2, 0, 160) := fr fe_X3_make_1 9 rfl
theorem i_X3_make_53 : fetch 30 53 = some (.invokevirtual 79, 56, 32, 0, 0, 652) := fr fe_X3_make_1 10 rfl
theorem i_X3_make_56 : fetch 30 56 = some (.goto 78, 59, 0, 0, 0, 0) := fr fe_X3_make_1 11 rfl
theorem i_X3_make_59 : fetch 30 59 = some (.aload_n 0, 60, 0, 0, 0, 0) := fr fe_X3_make_1 12 rfl
theorem i_X3_make_60 : fetch 30 60 = some (.aload_n 0, 61, 0, 0, 0, 0) := fr fe_X3_make_1 13 rfl
theorem i_X3_make_61 : fetch 30 61 = some (.aload_n 1, 62, 0, 0, 0, 0) := fr fe_X3_make_1 14 rfl
theorem i_X3_make_62 : fetch 30 62 = some (.getfield 69, 65, 5, 1, 0, 157) := fr fe_X3_make_1 15 rfl
theorem i_X3_make_65 : fetch 30 65 = some (.invokevirtual 72, 68, 45, 0, 0, 643) := fr fe_X3_make_1 16 rfl
theorem i_X3_make_68 : fetch 30 68 = some (.aload_n 1, 69, 0, 0, 0, 0) := fr fe_X3_make_1 17 rfl
theorem i_X3_make_69 : fetch 30 69 = some (.getfield 76, 72, 5, 2, 0, 160) := fr fe_X3_make_1 18 rfl
theorem i_X3_make_72 : fetch 30 72 = some (.invokevirtual 79, 75, 32, 0, 0, 652) := fr fe_X3_make_1 19 rfl
theorem i_X3_make_75 : fetch 30 75 = some (.aload_n 0, 76, 0, 0, 0, 0) := fr fe_X3_make_1 20 rfl
theorem i_X3_make_76 : fetch 30 76 = some (.invokevirtual 83, 79, 34, 0, 0, 706) := fr fe_X3_make_1 21 rfl
theorem i_X3_make_79 : fetch 30 79 = some (.goto 55, 82, 0, 0, 0, 0) := fr fe_X3_make_1 22 rfl
theorem i_X3_make_82 : fetch 30 82 = some (.aload_n 0, 83, 0, 0, 0, 0) := fr fe_X3_make_1 23 rfl
theorem i_X3_make_83 : fetch 30 83 = some (.invokevirtual 86, 86, 35, 0, 0, 710) := fr fe_X3_make_1 24 rfl
theorem i_X3_make_86 : fetch 30 86 = some (.goto 48, 89, 0, 0, 0, 0) := fr fe_X3_make_2 0 rfl
theorem i_X3_make_89 : fetch 30 89 = some (.aload_n 0, 90, 0, 0, 0, 0) := fr fe_X3_make_2 1 rfl
theorem i_X3_make_90 : fetch 30 90 = some (.aload_n 1, 91, 0, 0, 0, 0) := fr fe_X3_make_2 2 rfl
theorem i_X3_make_91 : fetch 30 91 = some (.getfield 69, 94, 5, 1, 0, 157) := fr fe_X3_make_2 3 rfl
theorem i_X3_make_94 : fetch 30 94 = some (.invokevirtual 89, 97, 37, 0, 0, 723) := fr fe_X3_make_2 4 rfl
theorem i_X3_make_97 : fetch 30 97 = some (.goto 37, 100, 0, 0, 0, 0) := fr fe_X3_make_2 5 rfl
theorem i_X3_make_100 : fetch 30 100 = some (.aload_n 0, 101, 0, 0, 0, 0) := fr fe_X3_make_2 6 rfl
theorem i_X3_make_101 : fetch 30 101 = some (.invokevirtual 86, 104, 35, 0, 0, 710) := fr fe_X3_make_2 7 rfl
theorem i_X3_make_104 : fetch 30 104 = some (.aload_n 0, 105, 0, 0, 0, 0) := fr fe_X3_make_2 8 rfl
theorem i_X3_make_105 : fetch 30 105 = some (.iconst 0, 106, 0, 0, 0, 0) := fr fe_X3_make_2 9 rfl
theorem i_X3_make_106 : fetch 30 106 = some (.aload_n 1, 107, 0, 0, 0, 0) := fr fe_X3_make_2 10 rfl
theorem i_X3_make_107 : fetch 30 107 = some (.getfield 69, 110, 5, 1, 0, 157) := fr fe_X3_make_2 11 rfl
theorem i_X3_make_110 : fetch 30 110 = some (.invokevirtual 93, 113, 38, 0, 0, 728) := fr fe_X3_make_2 12 rfl
theorem i_X3_make_113 : fetch 30 113 = some (.aload_n 0, 114, 0, 0, 0, 0) := fr fe_X3_make_2 13 rfl
theorem i_X3_make_114 : fetch 30 114 = some (.bipush 11, 116, 0, 0, 0, 0) := fr fe_X3_make_2 14 rfl
theorem i_X3_make_116 : fetch 30 116 = some (.aload_n 1, 117, 0, 0, 0, 0) := fr fe_X3_make_2 15 rfl
theorem i_X3_make_117 : fetch 30 117 = some (.getfield 69, 120, 5, 1, 0, 157) := fr fe_X3_make_2 16 rfl
theorem i_X3_make_120 : fetch 30 120 = some (.invokevirtual 93, 123, 38, 0, 0, 728) := fr fe_X3_make_2 17 rfl
theorem i_X3_make_123 : fetch 30 123 = some (.goto 11, 126, 0, 0, 0, 0) := fr fe_X3_make_2 18 rfl
theorem i_X3_make_126 : fetch 30 126 = some (.aload_n 0, 127, 0, 0, 0, 0) := fr fe_X3_make_2 19 rfl
theorem i_X3_make_127 : fetch 30 127 = some (.aload_n 1, 128, 0, 0, 0, 0) := fr fe_X3_make_2 20 rfl
theorem i_X3_make_128 : fetch 30 128 = some (.getfield 69, 131, 5, 1, 0, 157) := fr fe_X3_make_2 21 rfl
theorem i_X3_make_131 : fetch 30 131 = some (.invokevirtual 97, 134, 31, 0, 0, 732) := fr fe_X3_make_2 22 rfl
theorem i_X3_make_134 : fetch 30 134 = some (.return_, 135, 0, 0, 0, 0) := fr fe_X3_make_2 23 rfl
theorem i_X3_thinnest_0 : fetch 40 0 = some (.iconst 0, 1, 0, 0, 0, 0) := fr fe_X3_thinnest 0 rfl
theorem i_X3_thinnest_1 : fetch 40 1 = some (.istore_n 1, 2, 0, 0, 0, 0) := fr fe_X3_thinnest 1 rfl
theorem i_X3_thinnest_2 : fetch 40 2 = some (.iconst 1, 3, 0, 0, 0, 0) := fr fe_X3_thinnest 2 rfl
theorem i_X3_thinnest_3 : fetch 40 3 = some (.istore_n 2, 4, 0, 0, 0, 0) := fr fe_X3_thinnest 3 rfl
theorem i_X3_thinnest_4 : fetch 40 4 = some (.iload_n 2, 5, 0, 0, 0, 0) := fr fe_X3_thinnest 4 rfl
theorem i_X3_thinnest_5 : fetch 40 5 = some (.bipush 12, 7, 0, 0, 0, 0) := fr fe_X3_thinnest 5 rfl
theorem i_X3_thinnest_7 : fetch 40 7 = some (.if_icmp .ge 24, 10, 0, 0, 0, 0) := fr fe_X3_thinnest 6 rfl
theorem i_X3_thinnest_10 : fetch 40 10 = some (.aload_n 0, 11, 0, 0, 0, 0) := fr fe_X3_thinnest 7 rfl
theorem i_X3_thinnest_11 : fetch 40 11 = some (.iload_n 2, 12, 0, 0, 0, 0) := fr fe_X3_thinnest 8 rfl
theorem i_X3_thinnest_12 : fetch 40 12 = some (.invokevirtual 147, 15, 39, 0, 0, 747) := fr fe_X3_thinnest 9 rfl
theorem i_X3_thinnest_15 : fetch 40 15 = some (.aload_n 0, 16, 0, 0, 0, 0) := fr fe_X3_thinnest 10 rfl
theorem i_X3_thinnest_16 : fetch 40 16 = some (.iload_n 1, 17, 0, 0, 0, 0) := fr fe_X3_thinnest 11 rfl
theorem i_X3_thinnest_17 : fetch 40 17 = some (.invokevirtual 147, 20, 39, 0, 0, 747) := fr fe_X3_thinnest 12 rfl
theorem i_X3_thinnest_20 : fetch 40 20 = some (.if_icmp .ge 5, 23, 0, 0, 0, 0) := fr fe_X3_thinnest 13 rfl
theorem i_X3_thinnest_23 : fetch 40 23 = some (.iload_n 2, 24, 0, 0, 0, 0) := fr fe_X3_thinnest 14 rfl
theorem i_X3_thinnest_24 : fetch 40 24 = some (.istore_n 1, 25, 0, 0, 0, 0) := fr fe_X3_thinnest 15 rfl
theorem i_X3_thinnest_25 : fetch 40 25 = some (.iinc 2 1, 28, 0, 0, 0, 0) := fr fe_X3_thinnest 16 rfl
theorem i_X3_thinnest_28 : fetch 40 28 = some (.goto (-24), 31, 0, 0, 0, 0) := fr fe_X3_thinnest 17 rfl
theorem i_X3_thinnest_31 : fetch 40 31 = some (.iload_n 1, 32, 0, 0, 0, 0) := fr fe_X3_thinnest 18 rfl
theorem i_X3_thinnest_32 : fetch 40 32 = some (.ireturn, 33, 0, 0, 0, 0) := fr fe_X3_thinnest 19 rfl
theorem i_X3_thickest_0 : fetch 41 0 = some (.iconst 0, 1, 0, 0, 0, 0) := fr fe_X3_thickest 0 rfl
theorem i_X3_thickest_1 : fetch 41 1 = some (.istore_n 1, 2, 0, 0, 0, 0) := fr fe_X3_thickest 1 rfl
theorem i_X3_thickest_2 : fetch 41 2 = some (.iconst 1, 3, 0, 0, 0, 0) := fr fe_X3_thickest 2 rfl
theorem i_X3_thickest_3 : fetch 41 3 = some (.istore_n 2, 4, 0, 0, 0, 0) := fr fe_X3_thickest 3 rfl
theorem i_X3_thickest_4 : fetch 41 4 = some (.iload_n 2, 5, 0, 0, 0, 0) := fr fe_X3_thickest 4 rfl
theorem i_X3_thickest_5 : fetch 41 5 = some (.bipush 12, 7, 0, 0, 0, 0) := fr fe_X3_thickest 5 rfl
theorem i_X3_thickest_7 : fetch 41 7 = some (.if_icmp .ge 24, 10, 0, 0, 0, 0) := fr fe_X3_thickest 6 rfl
theorem i_X3_thickest_10 : fetch 41 10 = some (.aload_n 0, 11, 0, 0, 0, 0) := fr fe_X3_thickest 7 rfl
theorem i_X3_thickest_11 : fetch 41 11 = some (.iload_n 2, 12, 0, 0, 0, 0) := fr fe_X3_thickest 8 rfl
theorem i_X3_thickest_12 : fetch 41 12 = some (.invokevirtual 147, 15, 39, 0, 0, 747) := fr fe_X3_thickest 9 rfl
theorem i_X3_thickest_15 : fetch 41 15 = some (.aload_n 0, 16, 0, 0, 0, 0) := fr fe_X3_thickest 10 rfl
theorem i_X3_thickest_16 : fetch 41 16 = some (.iload_n 1, 17, 0, 0, 0, 0) := fr fe_X3_thickest 11 rfl
theorem i_X3_thickest_17 : fetch 41 17 = some (.invokevirtual 147, 20, 39, 0, 0, 747) := fr fe_X3_thickest 12 rfl
theorem i_X3_thickest_20 : fetch 41 20 = some (.if_icmp .le 5, 23, 0, 0, 0, 0) := fr fe_X3_thickest 13 rfl
theorem i_X3_thickest_23 : fetch 41 23 = some (.iload_n 2, 24, 0, 0, 0, 0) := fr fe_X3_thickest 14 rfl
theorem i_X3_thickest_24 : fetch 41 24 = some (.istore_n 1, 25, 0, 0, 0, 0) := fr fe_X3_thickest 15 rfl
theorem i_X3_thickest_25 : fetch 41 25 = some (.iinc 2 1, 28, 0, 0, 0, 0) := fr fe_X3_thickest 16 rfl
theorem i_X3_thickest_28 : fetch 41 28 = some (.goto (-24), 31, 0, 0, 0, 0) := fr fe_X3_thickest 17 rfl
theorem i_X3_thickest_31 : fetch 41 31 = some (.iload_n 1, 32, 0, 0, 0, 0) := fr fe_X3_thickest 18 rfl
theorem i_X3_thickest_32 : fetch 41 32 = some (.ireturn, 33, 0, 0, 0, 0) := fr fe_X3_thickest 19 rfl
theorem i_X3_spread_0 : fetch 42 0 = some (.aload_n 0, 1, 0, 0, 0, 0) := fr fe_X3_spread 0 rfl
theorem i_X3_spread_1 : fetch 42 1 = some (.aload_n 0, 2, 0, 0, 0, 0) := fr fe_X3_spread 1 rfl
theorem i_X3_spread_2 : fetch 42 2 = some (.invokevirtual 151, 5, 41, 0, 0, 756) := fr fe_X3_spread 2 rfl
theorem i_X3_spread_5 : fetch 42 5 = some (.invokevirtual 147, 8, 39, 0, 0, 747) := fr fe_X3_spread 3 rfl
theorem i_X3_spread_8 : fetch 42 8 = some (.aload_n 0, 9, 0, 0, 0, 0) := fr fe_X3_spread 4 rfl
theorem i_X3_spread_9 : fetch 42 9 = some (.aload_n 0, 10, 0, 0, 0, 0) := fr fe_X3_spread 5 rfl
theorem i_X3_spread_10 : fetch 42 10 = some (.invokevirtual 155, 13, 40, 0, 0, 757) := fr fe_X3_spread 6 rfl
theorem i_X3_spread_13 : fetch 42 13 = some (.invokevirtual 147, 16, 39, 0, 0, 747) := fr fe_X3_spread 7 rfl
theorem i_X3_spread_16 : fetch 42 16 = some (.isub, 17, 0, 0, 0, 0) := fr fe_X3_spread 8 rfl
theorem i_X3_spread_17 : fetch 42 17 = some (.ireturn, 18, 0, 0, 0, 0) := fr fe_X3_spread 9 rfl
theorem i_X3_isMoreEvenThan_0 : fetch 43 0 = some (.aload_n 0, 1, 0, 0, 0, 0) := fr fe_X3_isMoreEvenThan_1 0 rfl
theorem i_X3_isMoreEvenThan_1 : fetch 43 1 = some (.aload_n 0, 2, 0, 0, 0, 0) := fr fe_X3_isMoreEvenThan_1 1 rfl
theorem i_X3_isMoreEvenThan_2 : fetch 43 2 = some (.invokevirtual 151, 5, 41, 0, 0, 756) := fr fe_X3_isMoreEvenThan_1 2 rfl
theorem i_X3_isMoreEvenThan_5 : fetch 43 5 = some (.invokevirtual 147, 8, 39, 0, 0, 747) := fr fe_X3_isMoreEvenThan_1 3 rfl
theorem i_X3_isMoreEvenThan_8 : fetch 43 8 = some (.i2l, 9, 0, 0, 0, 0) := fr fe_X3_isMoreEvenThan_1 4 rfl
theorem i_X3_isMoreEvenThan_9 : fetch 43 9 = some (.iconst 1, 10, 0, 0, 0, 0) := fr fe_X3_isMoreEvenThan_1 5 rfl
theorem i_X3_isMoreEvenThan_10 : fetch 43 10 = some (.aload_n 1, 11, 0, 0, 0, 0) := fr fe_X3_isMoreEvenThan_1 6 rfl
theorem i_X3_isMoreEvenThan_11 : fetch 43 11 = some (.aload_n 1, 12, 0, 0, 0, 0) := fr fe_X3_isMoreEvenThan_1 7 rfl
theorem i_X3_isMoreEvenThan_12 : fetch 43 12 = some (.invokevirtual 155, 15, 40, 0, 0, 757) := fr fe_X3_isMoreEvenThan_1 8 rfl
theorem i_X3_isMoreEvenThan_15 : fetch 43 15 = some (.invokevirtual 147, 18, 39, 0, 0, 747) := fr fe_X3_isMoreEvenThan_1 9 rfl
theorem i_X3_isMoreEvenThan_18 : fetch 43 18 = some (.invokestatic 105, 21, 1003, 0, 0, 718) := fr fe_X3_isMoreEvenThan_1 10 rfl
theorem i_X3_isMoreEvenThan_21 : fetch 43 21 = some (.i2l, 22, 0, 0, 0, 0) := fr fe_X3_isMoreEvenThan_1 11 rfl
theorem i_X3_isMoreEvenThan_22 : fetch 43 22 = some (.lmul, 23, 0, 0, 0, 0) := fr fe_X3_isMoreEvenThan_1 12 rfl
theorem i_X3_isMoreEvenThan_23 : fetch 43 23 = some (.lstore_n 2, 24, 0, 0, 0, 0) := fr fe_X3_isMoreEvenThan_1 13 rfl
theorem i_X3_isMoreEvenThan_24 : fetch 43 24 = some (.aload_n 1, 25, 0, 0, 0, 0) := fr fe_X3_isMoreEvenThan_1 14 rfl
theorem i_X3_isMoreEvenThan_25 : fetch 43 25 = some (.aload_n 1, 26, 0, 0, 0, 0) := fr fe_X3_isMoreEvenThan_1 15 rfl
theorem i_X3_isMoreEvenThan_26 : fetch 43 26 = some (.invokevirtual 151, 29, 41, 0, 0, 756) := fr fe_X3_isMoreEvenThan_1 16 rfl
theorem i_X3_isMoreEvenThan_29 : fetch 43 29 = some (.invokevirtual 147, 32, 39, 0, 0, 747) := fr fe_X3_isMoreEvenThan_1 17 rfl
theorem i_X3_isMoreEvenThan_32 : fetch 43 32 = some (.i2l, 33, 0, 0, 0, 0) := fr fe_X3_isMoreEvenThan_1 18 rfl
theorem i_X3_isMoreEvenThan_33 : fetch 43 33 = some (.iconst 1, 34, 0, 0, 0, 0) := fr fe_X3_isMoreEvenThan_1 19 rfl
theorem i_X3_isMoreEvenThan_34 : fetch 43 34 = some (.aload_n 0, 35, 0, 0, 0, 0) := fr fe_X3_isMoreEvenThan_1 20 rfl
theorem i_X3_isMoreEvenThan_35 : fetch 43 35 = some (.aload_n 0, 36, 0, 0, 0, 0) := fr fe_X3_isMoreEvenThan_1 21 rfl
theorem i_X3_isMoreEvenThan_36 : fetch 43 36 = some (.invokevirtual 155, 39, 40, 0, 0, 757) := fr fe_X3_isMoreEvenThan_1 22 rfl
theorem i_X3_isMoreEvenThan_39 : fetch 43 39 = some (.invokevirtual 147, 42, 39, 0, 0, 747) := fr fe_X3_isMoreEvenThan_1 23 rfl
theorem i_X3_isMoreEvenThan_42 : fetch 43 42 = some (.invokestatic 105, 45, 1003, 0, 0, 718) := fr fe_X3_isMoreEvenThan_1 24 rfl
theorem i_X3_isMoreEvenThan_45 : fetch 43 45 = some (.i2l, 46, 0, 0, 0, 0) := fr fe_X3_isMoreEvenThan_2 0 rfl
theorem i_X3_isMoreEvenThan_46 : fetch 43 46 = some (.lmul, 47, 0, 0, 0, 0) := fr fe_X3_isMoreEvenThan_2 1 rfl
theorem i_X3_isMoreEvenThan_47 : fetch 43 47 = some (.lstore 4, 49, 0, 0, 0, 0) := fr fe_X3_isMoreEvenThan_2 2 rfl
theorem i_X3_isMoreEvenThan_49 : fetch 43 49 = some (.lload_n 2, 50, 0, 0, 0, 0) := fr fe_X3_isMoreEvenThan_2 3 rfl
theorem i_X3_isMoreEvenThan_50 : fetch 43 50 = some (.lload 4, 52, 0, 0, 0, 0) := fr fe_X3_isMoreEvenThan_2 4 rfl
theorem i_X3_isMoreEvenThan_52 : fetch 43 52 = some (.lcmp, 53, 0, 0, 0, 0) := fr fe_X3_isMoreEvenThan_2 5 rfl
theorem i_X3_isMoreEvenThan_53 : fetch 43 53 = some (.ifCond .ge 7, 56, 0, 0, 0, 0) := fr fe_X3_isMoreEvenThan_2 6 rfl
theorem i_X3_isMoreEvenThan_56 : fetch 43 56 = some (.iconst 1, 57, 0, 0, 0, 0) := fr fe_X3_isMoreEvenThan_2 7 rfl
theorem i_X3_isMoreEvenThan_57 : fetch 43 57 = some (.goto 4, 60, 0, 0, 0, 0) := fr fe_X3_isMoreEvenThan_2 8 rfl
theorem i_X3_isMoreEvenThan_60 : fetch 43 60 = some (.iconst 0, 61, 0, 0, 0, 0) := fr fe_X3_isMoreEvenThan_2 9 rfl
theorem i_X3_isMoreEvenThan_61 : fetch 43 61 = some (.ireturn, 62, 0, 0, 0, 0) := fr fe_X3_isMoreEvenThan_2 10 rfl
theorem i_X3_goodParts_0 : fetch 46 0 = some (.aload_n 0, 1, 0, 0, 0, 0) := fr fe_X3_goodParts 0 rfl
theorem i_X3_goodParts_1 : fetch 46 1 = some (.getfield 43, 4, 3, 10, 0, 260) := fr fe_X3_goodParts 1 rfl
theorem i_X3_goodParts_4 : fetch 46 4 = some (.aload_n 0, 5, 0, 0, 0, 0) := fr fe_X3_goodParts 2 rfl
theorem i_X3_goodParts_5 : fetch 46 5 = some (.getfield 47, 8, 3, 11, 0, 262) := fr fe_X3_goodParts 3 rfl
theorem i_X3_goodParts_8 : fetch 46 8 = some (.lmul, 9, 0, 0, 0, 0) := fr fe_X3_goodParts 4 rfl
theorem i_X3_goodParts_9 : fetch 46 9 = some (.ldc2_w 41, 12, 0, 0, 1000000000, 241) := fr fe_X3_goodParts 5 rfl
theorem i_X3_goodParts_12 : fetch 46 12 = some (.ldiv, 13, 0, 0, 0, 0) := fr fe_X3_goodParts 6 rfl
theorem i_X3_goodParts_13 : fetch 46 13 = some (.lreturn, 14, 0, 0, 0, 0) := fr fe_X3_goodParts 7 rfl
theorem i_X3_cooked_0 : fetch 47 0 = some (.iconst 0, 1, 0, 0, 0, 0) := fr fe_X3_cooked_1 0 rfl
theorem i_X3_cooked_1 : fetch 47 1 = some (.istore_n 3, 2, 0, 0, 0, 0) := fr fe_X3_cooked_1 1 rfl
theorem i_X3_cooked_2 : fetch 47 2 = some (.iconst 0, 3, 0, 0, 0, 0) := fr fe_X3_cooked_1 2 rfl
theorem i_X3_cooked_3 : fetch 47 3 = some (.istore 4, 5, 0, 0, 0, 0) := fr fe_X3_cooked_1 3 rfl
theorem i_X3_cooked_5 : fetch 47 5 = some (.iload 4, 7, 0, 0, 0, 0) := fr fe_X3_cooked_1 4 rfl
theorem i_X3_cooked_7 : fetch 47 7 = some (.bipush 12, 9, 0, 0, 0, 0) := fr fe_X3_cooked_1 5 rfl
theorem i_X3_cooked_9 : fetch 47 9 = some (.if_icmp .ge 51, 12, 0, 0, 0, 0) := fr fe_X3_cooked_1 6 rfl
theorem i_X3_cooked_12 : fetch 47 12 = some (.iload_n 1, 13, 0, 0, 0, 0) := fr fe_X3_cooked_1 7 rfl
theorem i_X3_cooked_13 : fetch 47 13 = some (.aload_n 0, 14, 0, 0, 0, 0) := fr fe_X3_cooked_1 8 rfl
theorem i_X3_cooked_14 : fetch 47 14 = some (.iload 4, 16, 0, 0, 0, 0) := fr fe_X3_cooked_1 9 rfl
theorem i_X3_cooked_16 : fetch 47 16 = some (.invokevirtual 147, 19, 39, 0, 0, 747) := fr fe_X3_cooked_1 10 rfl
theorem i_X3_cooked_19 : fetch 47 19 = some (.if_icmp .ge 7, 22, 0, 0, 0, 0) := fr fe_X3_cooked_1 11 rfl
theorem i_X3_cooked_22 : fetch 47 22 = some (.iconst 0, 23, 0, 0, 0, 0) := fr fe_X3_cooked_1 12 rfl
theorem i_X3_cooked_23 : fetch 47 23 = some (.goto 20, 26, 0, 0, 0, 0) := fr fe_X3_cooked_1 13 rfl
theorem i_X3_cooked_26 : fetch 47 26 = some (.iload_n 1, 27, 0, 0, 0, 0) := fr fe_X3_cooked_1 14 rfl
theorem i_X3_cooked_27 : fetch 47 27 = some (.iconst 2, 28, 0, 0, 0, 0) := fr fe_X3_cooked_1 15 rfl
theorem i_X3_cooked_28 : fetch 47 28 = some (.aload_n 0, 29, 0, 0, 0, 0) := fr fe_X3_cooked_1 16 rfl
theorem i_X3_cooked_29 : fetch 47 29 = some (.iload 4, 31, 0, 0, 0, 0) := fr fe_X3_cooked_1 17 rfl
theorem i_X3_cooked_31 : fetch 47 31 = some (.invokevirtual 147, 34, 39, 0, 0, 747) := fr fe_X3_cooked_1 18 rfl
theorem i_X3_cooked_34 : fetch 47 34 = some (.imul, 35, 0, 0, 0, 0) := fr fe_X3_cooked_1 19 rfl
theorem i_X3_cooked_35 : fetch 47 35 = some (.if_icmp .ge 7, 38, 0, 0, 0, 0) := fr fe_X3_cooked_1 20 rfl
theorem i_X3_cooked_38 : fetch 47 38 = some (.iconst 1, 39, 0, 0, 0, 0) := fr fe_X3_cooked_1 21 rfl
theorem i_X3_cooked_39 : fetch 47 39 = some (.goto 4, 42, 0, 0, 0, 0) := fr fe_X3_cooked_1 22 rfl
theorem i_X3_cooked_42 : fetch 47 42 = some (.iconst 2, 43, 0, 0, 0, 0) := fr fe_X3_cooked_1 23 rfl
theorem i_X3_cooked_43 : fetch 47 43 = some (.istore 5, 45, 0, 0, 0, 0) := fr fe_X3_cooked_1 24 rfl
theorem i_X3_cooked_45 : fetch 47 45 = some (.iload 5, 47, 0, 0, 0, 0) := fr fe_X3_cooked_2 0 rfl
theorem i_X3_cooked_47 : fetch 47 47 = some (.iload_n 2, 48, 0, 0, 0, 0) := fr fe_X3_cooked_2 1 rfl
theorem i_X3_cooked_48 : fetch 47 48 = some (.if_icmp .ne 6, 51, 0, 0, 0, 0) := fr fe_X3_cooked_2 2 rfl
theorem i_X3_cooked_51 : fetch 47 51 = some (.iinc 3 1, 54, 0, 0, 0, 0) := fr fe_X3_cooked_2 3 rfl
theorem i_X3_cooked_54 : fetch 47 54 = some (.iinc 4 1, 57, 0, 0, 0, 0) := fr fe_X3_cooked_2 4 rfl
theorem i_X3_cooked_57 : fetch 47 57 = some (.goto (-52), 60, 0, 0, 0, 0) := fr fe_X3_cooked_2 5 rfl
theorem i_X3_cooked_60 : fetch 47 60 = some (.iload_n 3, 61, 0, 0, 0, 0) := fr fe_X3_cooked_2 6 rfl
theorem i_X3_cooked_61 : fetch 47 61 = some (.ireturn, 62, 0, 0, 0, 0) := fr fe_X3_cooked_2 7 rfl
theorem i_X3_firstOff_0 : fetch 48 0 = some (.iconst 0, 1, 0, 0, 0, 0) := fr fe_X3_firstOff_1 0 rfl
theorem i_X3_firstOff_1 : fetch 48 1 = some (.istore_n 3, 2, 0, 0, 0, 0) := fr fe_X3_firstOff_1 1 rfl
theorem i_X3_firstOff_2 : fetch 48 2 = some (.iload_n 3, 3, 0, 0, 0, 0) := fr fe_X3_firstOff_1 2 rfl
theorem i_X3_firstOff_3 : fetch 48 3 = some (.bipush 12, 5, 0, 0, 0, 0) := fr fe_X3_firstOff_1 3 rfl
theorem i_X3_firstOff_5 : fetch 48 5 = some (.if_icmp .ge 44, 8, 0, 0, 0, 0) := fr fe_X3_firstOff_1 4 rfl
theorem i_X3_firstOff_8 : fetch 48 8 = some (.aload_n 0, 9, 0, 0, 0, 0) := fr fe_X3_firstOff_1 5 rfl
theorem i_X3_firstOff_9 : fetch 48 9 = some (.iload_n 3, 10, 0, 0, 0, 0) := fr fe_X3_firstOff_1 6 rfl
theorem i_X3_firstOff_10 : fetch 48 10 = some (.invokevirtual 147, 13, 39, 0, 0, 747) := fr fe_X3_firstOff_1 7 rfl
theorem i_X3_firstOff_13 : fetch 48 13 = some (.i2l, 14, 0, 0, 0, 0) := fr fe_X3_firstOff_1 8 rfl
theorem i_X3_firstOff_14 : fetch 48 14 = some (.aload_n 1, 15, 0, 0, 0, 0) := fr fe_X3_firstOff_1 9 rfl
theorem i_X3_firstOff_15 : fetch 48 15 = some (.getfield 162, 18, 4, 0, 0, 193) := fr fe_X3_firstOff_1 10 rfl
theorem i_X3_firstOff_18 : fetch 48 18 = some (.iload_n 3, 19, 0, 0, 0, 0) := fr fe_X3_firstOff_1 11 rfl
theorem i_X3_firstOff_19 : fetch 48 19 = some (.iaload, 20, 0, 0, 0, 0) := fr fe_X3_firstOff_1 12 rfl
theorem i_X3_firstOff_20 : fetch 48 20 = some (.i2l, 21, 0, 0, 0, 0) := fr fe_X3_firstOff_1 13 rfl
theorem i_X3_firstOff_21 : fetch 48 21 = some (.lsub, 22, 0, 0, 0, 0) := fr fe_X3_firstOff_1 14 rfl
theorem i_X3_firstOff_22 : fetch 48 22 = some (.lstore 4, 24, 0, 0, 0, 0) := fr fe_X3_firstOff_1 15 rfl
theorem i_X3_firstOff_24 : fetch 48 24 = some (.lload 4, 26, 0, 0, 0, 0) := fr fe_X3_firstOff_1 16 rfl
theorem i_X3_firstOff_26 : fetch 48 26 = some (.iload_n 2, 27, 0, 0, 0, 0) := fr fe_X3_firstOff_1 17 rfl
theorem i_X3_firstOff_27 : fetch 48 27 = some (.i2l, 28, 0, 0, 0, 0) := fr fe_X3_firstOff_1 18 rfl
theorem i_X3_firstOff_28 : fetch 48 28 = some (.lcmp, 29, 0, 0, 0, 0) := fr fe_X3_firstOff_1 19 rfl
theorem i_X3_firstOff_29 : fetch 48 29 = some (.ifCond .gt 12, 32, 0, 0, 0, 0) := fr fe_X3_firstOff_1 20 rfl
theorem i_X3_firstOff_32 : fetch 48 32 = some (.lload 4, 34, 0, 0, 0, 0) := fr fe_X3_firstOff_1 21 rfl
theorem i_X3_firstOff_34 : fetch 48 34 = some (.iload_n 2, 35, 0, 0, 0, 0) := fr fe_X3_firstOff_1 22 rfl
theorem i_X3_firstOff_35 : fetch 48 35 = some (.ineg, 36, 0, 0, 0, 0) := fr fe_X3_firstOff_1 23 rfl
theorem i_X3_firstOff_36 : fetch 48 36 = some (.i2l, 37, 0, 0, 0, 0) := fr fe_X3_firstOff_1 24 rfl
theorem i_X3_firstOff_37 : fetch 48 37 = some (.lcmp, 38, 0, 0, 0, 0) := fr fe_X3_firstOff_2 0 rfl
theorem i_X3_firstOff_38 : fetch 48 38 = some (.ifCond .ge 5, 41, 0, 0, 0, 0) := fr fe_X3_firstOff_2 1 rfl
theorem i_X3_firstOff_41 : fetch 48 41 = some (.iload_n 3, 42, 0, 0, 0, 0) := fr fe_X3_firstOff_2 2 rfl
theorem i_X3_firstOff_42 : fetch 48 42 = some (.ireturn, 43, 0, 0, 0, 0) := fr fe_X3_firstOff_2 3 rfl
theorem i_X3_firstOff_43 : fetch 48 43 = some (.iinc 3 1, 46, 0, 0, 0, 0) := fr fe_X3_firstOff_2 4 rfl
theorem i_X3_firstOff_46 : fetch 48 46 = some (.goto (-44), 49, 0, 0, 0, 0) := fr fe_X3_firstOff_2 5 rfl
theorem i_X3_firstOff_49 : fetch 48 49 = some (.iconst (-1), 50, 0, 0, 0, 0) := fr fe_X3_firstOff_2 6 rfl
theorem i_X3_firstOff_50 : fetch 48 50 = some (.ireturn, 51, 0, 0, 0, 0) := fr fe_X3_firstOff_2 7 rfl
theorem i_X3_isAsTold_0 : fetch 49 0 = some (.aload_n 0, 1, 0, 0, 0, 0) := fr fe_X3_isAsTold 0 rfl
theorem i_X3_isAsTold_1 : fetch 49 1 = some (.aload_n 1, 2, 0, 0, 0, 0) := fr fe_X3_isAsTold 1 rfl
theorem i_X3_isAsTold_2 : fetch 49 2 = some (.iconst 0, 3, 0, 0, 0, 0) := fr fe_X3_isAsTold 2 rfl
theorem i_X3_isAsTold_3 : fetch 49 3 = some (.invokevirtual 167, 6, 48, 0, 0, 881) := fr fe_X3_isAsTold 3 rfl
theorem i_X3_isAsTold_6 : fetch 49 6 = some (.iconst (-1), 7, 0, 0, 0, 0) := fr fe_X3_isAsTold 4 rfl
theorem i_X3_isAsTold_7 : fetch 49 7 = some (.if_icmp .ne 7, 10, 0, 0, 0, 0) := fr fe_X3_isAsTold 5 rfl
theorem i_X3_isAsTold_10 : fetch 49 10 = some (.iconst 1, 11, 0, 0, 0, 0) := fr fe_X3_isAsTold 6 rfl
theorem i_X3_isAsTold_11 : fetch 49 11 = some (.goto 4, 14, 0, 0, 0, 0) := fr fe_X3_isAsTold 7 rfl
theorem i_X3_isAsTold_14 : fetch 49 14 = some (.iconst 0, 15, 0, 0, 0, 0) := fr fe_X3_isAsTold 8 rfl
theorem i_X3_isAsTold_15 : fetch 49 15 = some (.ireturn, 16, 0, 0, 0, 0) := fr fe_X3_isAsTold 9 rfl
theorem i_X4_init_0 : fetch 50 0 = some (.aload_n 0, 1, 0, 0, 0, 0) := fr fe_X4_init 0 rfl
theorem i_X4_init_1 : fetch 50 1 = some (.invokespecial 3, 4, 1000, 0, 0, 191) := fr fe_X4_init 1 rfl
theorem i_X4_init_4 : fetch 50 4 = some (.aload_n 0, 5, 0, 0, 0, 0) := fr fe_X4_init 2 rfl
theorem i_X4_init_5 : fetch 50 5 = some (.bipush 40, 7, 0, 0, 0, 0) := fr fe_X4_init 3 rfl
theorem i_X4_init_7 : fetch 50 7 = some (.newarray .int, 9, 9, 0, 0, 0) := fr fe_X4_init 4 rfl
theorem i_X4_init_9 : fetch 50 9 = some (.putfield 9, 12, 4, 0, 0, 192) := fr fe_X4_init 5 rfl
theorem i_X4_init_12 : fetch 50 12 = some (.aload_n 0, 13, 0, 0, 0, 0) := fr fe_X4_init 6 rfl
theorem i_X4_init_13 : fetch 50 13 = some (.iconst (-1), 14, 0, 0, 0, 0) := fr fe_X4_init 7 rfl
theorem i_X4_init_14 : fetch 50 14 = some (.putfield 15, 17, 4, 1, 0, 195) := fr fe_X4_init 8 rfl
theorem i_X4_init_17 : fetch 50 17 = some (.aload_n 0, 18, 0, 0, 0, 0) := fr fe_X4_init 9 rfl
theorem i_X4_init_18 : fetch 50 18 = some (.iconst 0, 19, 0, 0, 0, 0) := fr fe_X4_init 10 rfl
theorem i_X4_init_19 : fetch 50 19 = some (.putfield 19, 22, 4, 2, 0, 197) := fr fe_X4_init 11 rfl
theorem i_X4_init_22 : fetch 50 22 = some (.return_, 23, 0, 0, 0, 0) := fr fe_X4_init 12 rfl
theorem i_X4_become_0 : fetch 51 0 = some (.aload_n 0, 1, 0, 0, 0, 0) := fr fe_X4_become 0 rfl
theorem i_X4_become_1 : fetch 51 1 = some (.iload_n 1, 2, 0, 0, 0, 0) := fr fe_X4_become 1 rfl
theorem i_X4_become_2 : fetch 51 2 = some (.putfield 15, 5, 4, 1, 0, 195) := fr fe_X4_become 2 rfl
theorem i_X4_become_5 : fetch 51 5 = some (.aload_n 0, 6, 0, 0, 0, 0) := fr fe_X4_become 3 rfl
theorem i_X4_become_6 : fetch 51 6 = some (.iconst 0, 7, 0, 0, 0, 0) := fr fe_X4_become 4 rfl
theorem i_X4_become_7 : fetch 51 7 = some (.bipush 40, 9, 0, 0, 0, 0) := fr fe_X4_become 5 rfl
theorem i_X4_become_9 : fetch 51 9 = some (.iload_n 2, 10, 0, 0, 0, 0) := fr fe_X4_become 6 rfl
theorem i_X4_become_10 : fetch 51 10 = some (.invokestatic 22, 13, 1005, 0, 0, 858) := fr fe_X4_become 7 rfl
theorem i_X4_become_13 : fetch 51 13 = some (.invokestatic 28, 16, 1003, 0, 0, 859) := fr fe_X4_become 8 rfl
theorem i_X4_become_16 : fetch 51 16 = some (.putfield 19, 19, 4, 2, 0, 197) := fr fe_X4_become 9 rfl
theorem i_X4_become_19 : fetch 51 19 = some (.iconst 0, 20, 0, 0, 0, 0) := fr fe_X4_become 10 rfl
theorem i_X4_become_20 : fetch 51 20 = some (.istore_n 3, 21, 0, 0, 0, 0) := fr fe_X4_become 11 rfl
theorem i_X4_become_21 : fetch 51 21 = some (.iload_n 3, 22, 0, 0, 0, 0) := fr fe_X4_become 12 rfl
theorem i_X4_become_22 : fetch 51 22 = some (.bipush 40, 24, 0, 0, 0, 0) := fr fe_X4_become 13 rfl
theorem i_X4_become_24 : fetch 51 24 = some (.if_icmp .ge 16, 27, 0, 0, 0, 0) := fr fe_X4_become 14 rfl
theorem i_X4_become_27 : fetch 51 27 = some (.aload_n 0, 28, 0, 0, 0, 0) := fr fe_X4_become 15 rfl
theorem i_X4_become_28 : fetch 51 28 = some (.getfield 9, 31, 4, 0, 0, 192) := fr fe_X4_become 16 rfl
theorem i_X4_become_31 : fetch 51 31 = some (.iload_n 3, 32, 0, 0, 0, 0) := fr fe_X4_become 17 rfl
theorem i_X4_become_32 : fetch 51 32 = some (.iconst 0, 33, 0, 0, 0, 0) := fr fe_X4_become 18 rfl
theorem i_X4_become_33 : fetch 51 33 = some (.iastore, 34, 0, 0, 0, 0) := fr fe_X4_become 19 rfl
theorem i_X4_become_34 : fetch 51 34 = some (.iinc 3 1, 37, 0, 0, 0, 0) := fr fe_X4_become 20 rfl
theorem i_X4_become_37 : fetch 51 37 = some (.goto (-16), 40, 0, 0, 0, 0) := fr fe_X4_become 21 rfl
theorem i_X4_become_40 : fetch 51 40 = some (.return_, 41, 0, 0, 0, 0) := fr fe_X4_become 22 rfl
theorem i_X4_has_0 : fetch 52 0 = some (.iload_n 1, 1, 0, 0, 0, 0) := fr fe_X4_has 0 rfl
theorem i_X4_has_1 : fetch 52 1 = some (.ifCond .lt 25, 4, 0, 0, 0, 0) := fr fe_X4_has 1 rfl
theorem i_X4_has_4 : fetch 52 4 = some (.iload_n 2, 5, 0, 0, 0, 0) := fr fe_X4_has 2 rfl
theorem i_X4_has_5 : fetch 52 5 = some (.ifCond .lt 21, 8, 0, 0, 0, 0) := fr fe_X4_has 3 rfl
theorem i_X4_has_8 : fetch 52 8 = some (.iload_n 1, 9, 0, 0, 0, 0) := fr fe_X4_has 4 rfl
theorem i_X4_has_9 : fetch 52 9 = some (.i2l, 10, 0, 0, 0, 0) := fr fe_X4_has 5 rfl
theorem i_X4_has_10 : fetch 52 10 = some (.iload_n 2, 11, 0, 0, 0, 0) := fr fe_X4_has 6 rfl
theorem i_X4_has_11 : fetch 52 11 = some (.i2l, 12, 0, 0, 0, 0) := fr fe_X4_has 7 rfl
theorem i_X4_has_12 : fetch 52 12 = some (.ladd, 13, 0, 0, 0, 0) := fr fe_X4_has 8 rfl
theorem i_X4_has_13 : fetch 52 13 = some (.aload_n 0, 14, 0, 0, 0, 0) := fr fe_X4_has 9 rfl
theorem i_X4_has_14 : fetch 52 14 = some (.getfield 19, 17, 4, 2, 0, 197) := fr fe_X4_has 10 rfl
theorem i_X4_has_17 : fetch 52 17 = some (.i2l, 18, 0, 0, 0, 0) := fr fe_X4_has 11 rfl
theorem i_X4_has_18 : fetch 52 18 = some (.lcmp, 19, 0, 0, 0, 0) := fr fe_X4_has 12 rfl
theorem i_X4_has_19 : fetch 52 19 = some (.ifCond .gt 7, 22, 0, 0, 0, 0) := fr fe_X4_has 13 rfl
theorem i_X4_has_22 : fetch 52 22 = some (.iconst 1, 23, 0, 0, 0, 0) := fr fe_X4_has 14 rfl
theorem i_X4_has_23 : fetch 52 23 = some (.goto 4, 26, 0, 0, 0, 0) := fr fe_X4_has 15 rfl
theorem i_X4_has_26 : fetch 52 26 = some (.iconst 0, 27, 0, 0, 0, 0) := fr fe_X4_has 16 rfl
theorem i_X4_has_27 : fetch 52 27 = some (.ireturn, 28, 0, 0, 0, 0) := fr fe_X4_has 17 rfl
theorem i_X4_put_0 : fetch 53 0 = some (.aload_n 0, 1, 0, 0, 0, 0) := fr fe_X4_put 0 rfl
theorem i_X4_put_1 : fetch 53 1 = some (.iload_n 1, 2, 0, 0, 0, 0) := fr fe_X4_put 1 rfl
theorem i_X4_put_2 : fetch 53 2 = some (.iconst 1, 3, 0, 0, 0, 0) := fr fe_X4_put 2 rfl
theorem i_X4_put_3 : fetch 53 3 = some (.invokevirtual 31, 6, 52, 0, 0, 864) := fr fe_X4_put 3 rfl
theorem i_X4_put_6 : fetch 53 6 = some (.ifCond .eq 35, 9, 0, 0, 0, 0) := fr fe_X4_put 4 rfl
theorem i_X4_put_9 : fetch 53 9 = some (.aload_n 0, 10, 0, 0, 0, 0) := fr fe_X4_put 5 rfl
theorem i_X4_put_10 : fetch 53 10 = some (.getfield 9, 13, 4, 0, 0, 192) := fr fe_X4_put 6 rfl
theorem i_X4_put_13 : fetch 53 13 = some (.iload_n 1, 14, 0, 0, 0, 0) := fr fe_X4_put 7 rfl
theorem i_X4_put_14 : fetch 53 14 = some (.aload_n 0, 15, 0, 0, 0, 0) := fr fe_X4_put 8 rfl
theorem i_X4_put_15 : fetch 53 15 = some (.getfield 15, 18, 4, 1, 0, 195) := fr fe_X4_put 9 rfl
theorem i_X4_put_18 : fetch 53 18 = some (.ifCond .ne 8, 21, 0, 0, 0, 0) := fr fe_X4_put 10 rfl
theorem i_X4_put_21 : fetch 53 21 = some (.iload_n 2, 22, 0, 0, 0, 0) := fr fe_X4_put 11 rfl
theorem i_X4_put_22 : fetch 53 22 = some (.i2b, 23, 0, 0, 0, 0) := fr fe_X4_put 12 rfl
theorem i_X4_put_23 : fetch 53 23 = some (.goto 17, 26, 0, 0, 0, 0) := fr fe_X4_put 13 rfl
theorem i_X4_put_26 : fetch 53 26 = some (.aload_n 0, 27, 0, 0, 0, 0) := fr fe_X4_put 14 rfl
theorem i_X4_put_27 : fetch 53 27 = some (.getfield 15, 30, 4, 1, 0, 195) := fr fe_X4_put 15 rfl
theorem i_X4_put_30 : fetch 53 30 = some (.iconst 1, 31, 0, 0, 0, 0) := fr fe_X4_put 16 rfl
theorem i_X4_put_31 : fetch 53 31 = some (.if_icmp .ne 8, 34, 0, 0, 0, 0) := fr fe_X4_put 17 rfl
theorem i_X4_put_34 : fetch 53 34 = some (.iload_n 2, 35, 0, 0, 0, 0) := fr fe_X4_put 18 rfl
theorem i_X4_put_35 : fetch 53 35 = some (.i2s, 36, 0, 0, 0, 0) := fr fe_X4_put 19 rfl
theorem i_X4_put_36 : fetch 53 36 = some (.goto 4, 39, 0, 0, 0, 0) := fr fe_X4_put 20 rfl
theorem i_X4_put_39 : fetch 53 39 = some (.iload_n 2, 40, 0, 0, 0, 0) := fr fe_X4_put 21 rfl
theorem i_X4_put_40 : fetch 53 40 = some (.iastore, 41, 0, 0, 0, 0) := fr fe_X4_put 22 rfl
theorem i_X4_put_41 : fetch 53 41 = some (.return_, 42, 0, 0, 0, 0) := fr fe_X4_put 23 rfl
theorem i_X5_init_0 : fetch 54 0 = some (.aload_n 0, 1, 0, 0, 0, 0) := fr fe_X5_init 0 rfl
theorem i_X5_init_1 : fetch 54 1 = some (.invokespecial 3, 4, 1000, 0, 0, 152) := fr fe_X5_init 1 rfl
theorem i_X5_init_4 : fetch 54 4 = some (.aload_n 0, 5, 0, 0, 0, 0) := fr fe_X5_init 2 rfl
theorem i_X5_init_5 : fetch 54 5 = some (.iconst 0, 6, 0, 0, 0, 0) := fr fe_X5_init 3 rfl
theorem i_X5_init_6 : fetch 54 6 = some (.putfield 9, 9, 5, 0, 0, 153) := fr fe_X5_init 4 rfl
theorem i_X5_init_9 : fetch 54 9 = some (.aload_n 0, 10, 0, 0, 0, 0) := fr fe_X5_init 5 rfl
theorem i_X5_init_10 : fetch 54 10 = some (.iconst 0, 11, 0, 0, 0, 0) := fr fe_X5_init 6 rfl
theorem i_X5_init_11 : fetch 54 11 = some (.putfield 15, 14, 5, 1, 0, 156) := fr fe_X5_init 7 rfl
theorem i_X5_init_14 : fetch 54 14 = some (.aload_n 0, 15, 0, 0, 0, 0) := fr fe_X5_init 8 rfl
theorem i_X5_init_15 : fetch 54 15 = some (.iconst 1, 16, 0, 0, 0, 0) := fr fe_X5_init 9 rfl
theorem i_X5_init_16 : fetch 54 16 = some (.putfield 18, 19, 5, 2, 0, 159) := fr fe_X5_init 10 rfl
theorem i_X5_init_19 : fetch 54 19 = some (.return_, 20, 0, 0, 0, 0) := fr fe_X5_init 11 rfl
theorem i_X5_become_0 : fetch 55 0 = some (.aload_n 0, 1, 0, 0, 0, 0) := fr fe_X5_become 0 rfl
theorem i_X5_become_1 : fetch 55 1 = some (.iload_n 1, 2, 0, 0, 0, 0) := fr fe_X5_become 1 rfl
theorem i_X5_become_2 : fetch 55 2 = some (.putfield 9, 5, 5, 0, 0, 153) := fr fe_X5_become 2 rfl
theorem i_X5_become_5 : fetch 55 5 = some (.aload_n 0, 6, 0, 0, 0, 0) := fr fe_X5_become 3 rfl
theorem i_X5_become_6 : fetch 55 6 = some (.iload_n 2, 7, 0, 0, 0, 0) := fr fe_X5_become 4 rfl
theorem i_X5_become_7 : fetch 55 7 = some (.putfield 15, 10, 5, 1, 0, 156) := fr fe_X5_become 5 rfl
theorem i_X5_become_10 : fetch 55 10 = some (.aload_n 0, 11, 0, 0, 0, 0) := fr fe_X5_become 6 rfl
theorem i_X5_become_11 : fetch 55 11 = some (.iload_n 3, 12, 0, 0, 0, 0) := fr fe_X5_become 7 rfl
theorem i_X5_become_12 : fetch 55 12 = some (.putfield 18, 15, 5, 2, 0, 159) := fr fe_X5_become 8 rfl
theorem i_X5_become_15 : fetch 55 15 = some (.return_, 16, 0, 0, 0, 0) := fr fe_X5_become 9 rfl
theorem i_X5_takes_0 : fetch 56 0 = some (.aload_n 0, 1, 0, 0, 0, 0) := fr fe_X5_takes 0 rfl
theorem i_X5_takes_1 : fetch 56 1 = some (.getfield 9, 4, 5, 0, 0, 153) := fr fe_X5_takes 1 rfl
theorem i_X5_takes_4 : fetch 56 4 = some (.tableswitch 68 1 5 #[36, 44, 52, 54, 61], 40, 0, 0, 0, 0) := fr fe_X5_takes 2 rfl
theorem i_X5_takes_40 : fetch 56 40 = some (.bipush 10, 42, 0, 0, 0, 0) := fr fe_X5_takes 3 rfl
theorem i_X5_takes_42 : fetch 56 42 = some (.aload_n 0, 43, 0, 0, 0, 0) := fr fe_X5_takes 4 rfl
theorem i_X5_takes_43 : fetch 56 43 = some (.getfield 18, 46, 5, 2, 0, 159) := fr fe_X5_takes 5 rfl
theorem i_X5_takes_46 : fetch 56 46 = some (.isub, 47, 0, 0, 0, 0) := fr fe_X5_takes 6 rfl
theorem i_X5_takes_47 : fetch 56 47 = some (.ireturn, 48, 0, 0, 0, 0) := fr fe_X5_takes 7 rfl
theorem i_X5_takes_48 : fetch 56 48 = some (.bipush 12, 50, 0, 0, 0, 0) := fr fe_X5_takes 8 rfl
theorem i_X5_takes_50 : fetch 56 50 = some (.aload_n 0, 51, 0, 0, 0, 0) := fr fe_X5_takes 9 rfl
theorem i_X5_takes_51 : fetch 56 51 = some (.getfield 18, 54, 5, 2, 0, 159) := fr fe_X5_takes 10 rfl
theorem i_X5_takes_54 : fetch 56 54 = some (.isub, 55, 0, 0, 0, 0) := fr fe_X5_takes 11 rfl
theorem i_X5_takes_55 : fetch 56 55 = some (.ireturn, 56, 0, 0, 0, 0) := fr fe_X5_takes 12 rfl
theorem i_X5_takes_56 : fetch 56 56 = some (.iconst 3, 57, 0, 0, 0, 0) := fr fe_X5_takes 13 rfl
theorem i_X5_takes_57 : fetch 56 57 = some (.ireturn, 58, 0, 0, 0, 0) := fr fe_X5_takes 14 rfl
theorem i_X5_takes_58 : fetch 56 58 = some (.aload_n 0, 59, 0, 0, 0, 0) := fr fe_X5_takes 15 rfl
theorem i_X5_takes_59 : fetch 56 59 = some (.getfield 15, 62, 5, 1, 0, 156) := fr fe_X5_takes 16 rfl
theorem i_X5_takes_62 : fetch 56 62 = some (.iconst 1, 63, 0, 0, 0, 0) := fr fe_X5_takes 17 rfl
theorem i_X5_takes_63 : fetch 56 63 = some (.iadd, 64, 0, 0, 0, 0) := fr fe_X5_takes 18 rfl
theorem i_X5_takes_64 : fetch 56 64 = some (.ireturn, 65, 0, 0, 0, 0) := fr fe_X5_takes 19 rfl
theorem i_X5_takes_65 : fetch 56 65 = some (.aload_n 0, 66, 0, 0, 0, 0) := fr fe_X5_takes 20 rfl
theorem i_X5_takes_66 : fetch 56 66 = some (.getfield 15, 69, 5, 1, 0, 156) := fr fe_X5_takes 21 rfl
theorem i_X5_takes_69 : fetch 56 69 = some (.iconst 3, 70, 0, 0, 0, 0) := fr fe_X5_takes 22 rfl
theorem i_X5_takes_70 : fetch 56 70 = some (.iadd, 71, 0, 0, 0, 0) := fr fe_X5_takes 23 rfl
theorem i_X5_takes_71 : fetch 56 71 = some (.ireturn, 72, 0, 0, 0, 0) := fr fe_X5_takes 24 rfl
theorem i_X5_takes_72 : fetch 56 72 = some (.bipush 10, 74, 0, 0, 0, 0) := fr fe_X5_takes 25 rfl
theorem i_X5_takes_74 : fetch 56 74 = some (.aload_n 0, 75, 0, 0, 0, 0) := fr fe_X5_takes 26 rfl
theorem i_X5_takes_75 : fetch 56 75 = some (.getfield 15, 78, 5, 1, 0, 156) := fr fe_X5_takes 27 rfl
theorem i_X5_takes_78 : fetch 56 78 = some (.imul, 79, 0, 0, 0, 0) := fr fe_X5_takes 28 rfl
theorem i_X5_takes_79 : fetch 56 79 = some (.ireturn, 80, 0, 0, 0, 0) := fr fe_X5_takes 29 rfl
theorem i_X5_isA_0 : fetch 57 0 = some (.aload_n 0, 1, 0, 0, 0, 0) := fr fe_X5_isA 0 rfl
theorem i_X5_isA_1 : fetch 57 1 = some (.getfield 9, 4, 5, 0, 0, 153) := fr fe_X5_isA 1 rfl
theorem i_X5_isA_4 : fetch 57 4 = some (.istore_n 2, 5, 0, 0, 0, 0) := fr fe_X5_isA 2 rfl
theorem i_X5_isA_5 : fetch 57 5 = some (.iconst 0, 6, 0, 0, 0, 0) := fr fe_X5_isA 3 rfl
theorem i_X5_isA_6 : fetch 57 6 = some (.istore_n 3, 7, 0, 0, 0, 0) := fr fe_X5_isA 4 rfl
theorem i_X5_isA_7 : fetch 57 7 = some (.iload_n 3, 8, 0, 0, 0, 0) := fr fe_X5_isA 5 rfl
theorem i_X5_isA_8 : fetch 57 8 = some (.bipush 6, 10, 0, 0, 0, 0) := fr fe_X5_isA 6 rfl
theorem i_X5_isA_10 : fetch 57 10 = some (.if_icmp .ge 31, 13, 0, 0, 0, 0) := fr fe_X5_isA 7 rfl
theorem i_X5_isA_13 : fetch 57 13 = some (.iload_n 2, 14, 0, 0, 0, 0) := fr fe_X5_isA 8 rfl
theorem i_X5_isA_14 : fetch 57 14 = some (.iconst 0, 15, 0, 0, 0, 0) := fr fe_X5_isA 9 rfl
theorem i_X5_isA_15 : fetch 57 15 = some (.iconst 5, 16, 0, 0, 0, 0) := fr fe_X5_isA 10 rfl
theorem i_X5_isA_16 : fetch 57 16 = some (.invokestatic 21, 19, 110, 1, 0, 1004) := fr fe_X5_isA 11 rfl
theorem i_X5_isA_19 : fetch 57 19 = some (.ifCond .eq 22, 22, 0, 0, 0, 0) := fr fe_X5_isA 12 rfl
theorem i_X5_isA_22 : fetch 57 22 = some (.iload_n 2, 23, 0, 0, 0, 0) := fr fe_X5_isA 13 rfl
theorem i_X5_isA_23 : fetch 57 23 = some (.iload_n 1, 24, 0, 0, 0, 0) := fr fe_X5_isA 14 rfl
theorem i_X5_isA_24 : fetch 57 24 = some (.if_icmp .ne 5, 27, 0, 0, 0, 0) := fr fe_X5_isA 15 rfl
theorem i_X5_isA_27 : fetch 57 27 = some (.iconst 1, 28, 0, 0, 0, 0) := fr fe_X5_isA 16 rfl
theorem i_X5_isA_28 : fetch 57 28 = some (.ireturn, 29, 0, 0, 0, 0) := fr fe_X5_isA 17 rfl
theorem i_X5_isA_29 : fetch 57 29 = some (.getstatic 25, 32, 0, 1, 0, 1005) := fr fe_X5_isA 18 rfl
theorem i_X5_isA_32 : fetch 57 32 = some (.iload_n 2, 33, 0, 0, 0, 0) := fr fe_X5_isA 19 rfl
theorem i_X5_isA_33 : fetch 57 33 = some (.iaload, 34, 0, 0, 0, 0) := fr fe_X5_isA 20 rfl
theorem i_X5_isA_34 : fetch 57 34 = some (.istore_n 2, 35, 0, 0, 0, 0) := fr fe_X5_isA 21 rfl
theorem i_X5_isA_35 : fetch 57 35 = some (.iinc 3 1, 38, 0, 0, 0, 0) := fr fe_X5_isA 22 rfl
theorem i_X5_isA_38 : fetch 57 38 = some (.goto (-31), 41, 0, 0, 0, 0) := fr fe_X5_isA 23 rfl
theorem i_X5_isA_41 : fetch 57 41 = some (.iconst 0, 42, 0, 0, 0, 0) := fr fe_X5_isA 24 rfl
theorem i_X5_isA_42 : fetch 57 42 = some (.ireturn, 43, 0, 0, 0, 0) := fr fe_X5_isA 25 rfl
theorem i_X6_init_0 : fetch 58 0 = some (.aload_n 0, 1, 0, 0, 0, 0) := fr fe_X6_init 0 rfl
theorem i_X6_init_1 : fetch 58 1 = some (.invokespecial 3, 4, 1000, 0, 0, 173) := fr fe_X6_init 1 rfl
theorem i_X6_init_4 : fetch 58 4 = some (.aload_n 0, 5, 0, 0, 0, 0) := fr fe_X6_init 2 rfl
theorem i_X6_init_5 : fetch 58 5 = some (.sipush 160, 8, 0, 0, 0, 0) := fr fe_X6_init 3 rfl
theorem i_X6_init_8 : fetch 58 8 = some (.newarray .int, 10, 9, 0, 0, 0) := fr fe_X6_init 4 rfl
theorem i_X6_init_10 : fetch 58 10 = some (.putfield 9, 13, 6, 0, 0, 174) := fr fe_X6_init 5 rfl
theorem i_X6_init_13 : fetch 58 13 = some (.aload_n 0, 14, 0, 0, 0, 0) := fr fe_X6_init 6 rfl
theorem i_X6_init_14 : fetch 58 14 = some (.iconst 3, 15, 0, 0, 0, 0) := fr fe_X6_init 7 rfl
theorem i_X6_init_15 : fetch 58 15 = some (.newarray .int, 17, 9, 0, 0, 0) := fr fe_X6_init 8 rfl
theorem i_X6_init_17 : fetch 58 17 = some (.putfield 15, 20, 6, 1, 0, 175) := fr fe_X6_init 9 rfl
theorem i_X6_init_20 : fetch 58 20 = some (.aload_n 0, 21, 0, 0, 0, 0) := fr fe_X6_init 10 rfl
theorem i_X6_init_21 : fetch 58 21 = some (.bipush 40, 23, 0, 0, 0, 0) := fr fe_X6_init 11 rfl
theorem i_X6_init_23 : fetch 58 23 = some (.newarray .int, 25, 9, 0, 0, 0) := fr fe_X6_init 12 rfl
theorem i_X6_init_25 : fetch 58 25 = some (.putfield 18, 28, 6, 2, 0, 176) := fr fe_X6_init 13 rfl
theorem i_X6_init_28 : fetch 58 28 = some (.aload_n 0, 29, 0, 0, 0, 0) := fr fe_X6_init 14 rfl
theorem i_X6_init_29 : fetch 58 29 = some (.iconst 0, 30, 0, 0, 0, 0) := fr fe_X6_init 15 rfl
theorem i_X6_init_30 : fetch 58 30 = some (.putfield 21, 33, 6, 3, 0, 177) := fr fe_X6_init 16 rfl
theorem i_X6_init_33 : fetch 58 33 = some (.return_, 34, 0, 0, 0, 0) := fr fe_X6_init 17 rfl
theorem i_X7_init_0 : fetch 66 0 = some (.aload_n 0, 1, 0, 0, 0, 0) := fr fe_X7_init_1 0 rfl
theorem i_X7_init_1 : fetch 66 1 = some (.invokespecial 1, 4, 1000, 0, 0, 86) := fr fe_X7_init_1 1 rfl
theorem i_X7_init_4 : fetch 66 4 = some (.aload_n 0, 5, 0, 0, 0, 0) := fr fe_X7_init_1 2 rfl
theorem i_X7_init_5 : fetch 66 5 = some (.new 7, 8, 0, 0, 0, 89) := fr fe_X7_init_1 3 rfl
theorem i_X7_init_8 : fetch 66 8 = some (.dup, 9, 0, 0, 0, 0) := fr fe_X7_init_1 4 rfl
theorem i_X7_init_9 : fetch 66 9 = some (.invokespecial 9, 12, 1, 0, 0, 91) := fr fe_X7_init_1 5 rfl
theorem i_X7_init_12 : fetch 66 12 = some (.putfield 10, 15, 7, 0, 0, 503) := fr fe_X7_init_1 6 rfl
theorem i_X7_init_15 : fetch 66 15 = some (.aload_n 0, 16, 0, 0, 0, 0) := fr fe_X7_init_1 7 rfl
theorem i_X7_init_16 : fetch 66 16 = some (.new 7, 19, 0, 0, 0, 89) := fr fe_X7_init_1 8 rfl
theorem i_X7_init_19 : fetch 66 19 = some (.dup, 20, 0, 0, 0, 0) := fr fe_X7_init_1 9 rfl
theorem i_X7_init_20 : fetch 66 20 = some (.invokespecial 9, 23, 1, 0, 0, 91) := fr fe_X7_init_1 10 rfl
theorem i_X7_init_23 : fetch 66 23 = some (.putfield 16, 26, 7, 1, 0, 504) := fr fe_X7_init_1 11 rfl
theorem i_X7_init_26 : fetch 66 26 = some (.aload_n 0, 27, 0, 0, 0, 0) := fr fe_X7_init_1 12 rfl
theorem i_X7_init_27 : fetch 66 27 = some (.new 7, 30, 0, 0, 0, 89) := fr fe_X7_init_1 13 rfl
theorem i_X7_init_30 : fetch 66 30 = some (.dup, 31, 0, 0, 0, 0) := fr fe_X7_init_1 14 rfl
theorem i_X7_init_31 : fetch 66 31 = some (.invokespecial 9, 34, 1, 0, 0, 91) := fr fe_X7_init_1 15 rfl
theorem i_X7_init_34 : fetch 66 34 = some (.putfield 19, 37, 7, 2, 0, 505) := fr fe_X7_init_1 16 rfl
theorem i_X7_init_37 : fetch 66 37 = some (.aload_n 0, 38, 0, 0, 0, 0) := fr fe_X7_init_1 17 rfl
theorem i_X7_init_38 : fetch 66 38 = some (.bipush 12, 40, 0, 0, 0, 0) := fr fe_X7_init_1 18 rfl
theorem i_X7_init_40 : fetch 66 40 = some (.anewarray 22, 43, 12, 0, 0, 116) := fr fe_X7_init_1 19 rfl
theorem i_X7_init_43 : fetch 66 43 = some (.putfield 24, 46, 7, 3, 0, 506) := fr fe_X7_init_1 20 rfl
theorem i_X7_init_46 : fetch 66 46 = some (.aload_n 0, 47, 0, 0, 0, 0) := fr fe_X7_init_1 21 rfl
theorem i_X7_init_47 : fetch 66 47 = some (.bipush 6, 49, 0, 0, 0, 0) := fr fe_X7_init_1 22 rfl
theorem i_X7_init_49 : fetch 66 49 = some (.anewarray 28, 52, 13, 0, 0, 118) := fr fe_X7_init_1 23 rfl
theorem i_X7_init_52 : fetch 66 52 = some (.putfield 30, 55, 7, 4, 0, 507) := fr fe_X7_init_1 24 rfl
theorem i_X7_init_55 : fetch 66 55 = some (.aload_n 0, 56, 0, 0, 0, 0) := fr fe_X7_init_2 0 rfl
theorem i_X7_init_56 : fetch 66 56 = some (.new 34, 59, 2, 0, 0, 120) := fr fe_X7_init_2 1 rfl
theorem i_X7_init_59 : fetch 66 59 = some (.dup, 60, 0, 0, 0, 0) := fr fe_X7_init_2 2 rfl
theorem i_X7_init_60 : fetch 66 60 = some (.invokespecial 36, 63, 9, 1, 0, 122) := fr fe_X7_init_2 3 rfl
theorem i_X7_init_63 : fetch 66 63 = some (.putfield 37, 66, 7, 5, 0, 508) := fr fe_X7_init_2 4 rfl
theorem i_X7_init_66 : fetch 66 66 = some (.aload_n 0, 67, 0, 0, 0, 0) := fr fe_X7_init_2 5 rfl
theorem i_X7_init_67 : fetch 66 67 = some (.iconst 4, 68, 0, 0, 0, 0) := fr fe_X7_init_2 6 rfl
theorem i_X7_init_68 : fetch 66 68 = some (.anewarray 41, 71, 11, 0, 0, 146) := fr fe_X7_init_2 7 rfl
theorem i_X7_init_71 : fetch 66 71 = some (.putfield 43, 74, 7, 9, 0, 512) := fr fe_X7_init_2 8 rfl
theorem i_X7_init_74 : fetch 66 74 = some (.aload_n 0, 75, 0, 0, 0, 0) := fr fe_X7_init_2 9 rfl
theorem i_X7_init_75 : fetch 66 75 = some (.bipush 16, 77, 0, 0, 0, 0) := fr fe_X7_init_2 10 rfl
theorem i_X7_init_77 : fetch 66 77 = some (.newarray .int, 79, 9, 0, 0, 0) := fr fe_X7_init_2 11 rfl
theorem i_X7_init_79 : fetch 66 79 = some (.putfield 47, 82, 7, 10, 0, 513) := fr fe_X7_init_2 12 rfl
theorem i_X7_init_82 : fetch 66 82 = some (.aload_n 0, 83, 0, 0, 0, 0) := fr fe_X7_init_2 13 rfl
theorem i_X7_init_83 : fetch 66 83 = some (.bipush 16, 85, 0, 0, 0, 0) := fr fe_X7_init_2 14 rfl
theorem i_X7_init_85 : fetch 66 85 = some (.newarray .int, 87, 9, 0, 0, 0) := fr fe_X7_init_2 15 rfl
theorem i_X7_init_87 : fetch 66 87 = some (.putfield 51, 90, 7, 11, 0, 514) := fr fe_X7_init_2 16 rfl
theorem i_X7_init_90 : fetch 66 90 = some (.aload_n 0, 91, 0, 0, 0, 0) := fr fe_X7_init_2 17 rfl
theorem i_X7_init_91 : fetch 66 91 = some (.iconst 0, 92, 0, 0, 0, 0) := fr fe_X7_init_2 18 rfl
theorem i_X7_init_92 : fetch 66 92 = some (.putfield 54, 95, 7, 12, 0, 515) := fr fe_X7_init_2 19 rfl
theorem i_X7_init_95 : fetch 66 95 = some (.aload_n 0, 96, 0, 0, 0, 0) := fr fe_X7_init_2 20 rfl
theorem i_X7_init_96 : fetch 66 96 = some (.iconst 1, 97, 0, 0, 0, 0) := fr fe_X7_init_2 21 rfl
theorem i_X7_init_97 : fetch 66 97 = some (.putfield 58, 100, 7, 13, 0, 516) := fr fe_X7_init_2 22 rfl
theorem i_X7_init_100 : fetch 66 100 = some (.aload_n 0, 101, 0, 0, 0, 0) := fr fe_X7_init_2 23 rfl
theorem i_X7_init_101 : fetch 66 101 = some (.iconst 0, 102, 0, 0, 0, 0) := fr fe_X7_init_2 24 rfl
theorem i_X7_init_102 : fetch 66 102 = some (.putfield 61, 105, 7, 14, 0, 517) := fr fe_X7_init_3 0 rfl
theorem i_X7_init_105 : fetch 66 105 = some (.iconst 0, 106, 0, 0, 0, 0) := fr fe_X7_init_3 1 rfl
theorem i_X7_init_106 : fetch 66 106 = some (.istore_n 1, 107, 0, 0, 0, 0) := fr fe_X7_init_3 2 rfl
theorem i_X7_init_107 : fetch 66 107 = some (.iload_n 1, 108, 0, 0, 0, 0) := fr fe_X7_init_3 3 rfl
theorem i_X7_init_108 : fetch 66 108 = some (.bipush 12, 110, 0, 0, 0, 0) := fr fe_X7_init_3 4 rfl
theorem i_X7_init_110 : fetch 66 110 = some (.if_icmp .ge 22, 113, 0, 0, 0, 0) := fr fe_X7_init_3 5 rfl
theorem i_X7_init_113 : fetch 66 113 = some (.aload_n 0, 114, 0, 0, 0, 0) := fr fe_X7_init_3 6 rfl
theorem i_X7_init_114 : fetch 66 114 = some (.getfield 24, 117, 7, 3, 0, 506) := fr fe_X7_init_3 7 rfl
theorem i_X7_init_117 : fetch 66 117 = some (.iload_n 1, 118, 0, 0, 0, 0) := fr fe_X7_init_3 8 rfl
theorem i_X7_init_118 : fetch 66 118 = some (.new 22, 121, 5, 0, 0, 116) := fr fe_X7_init_3 9 rfl
theorem i_X7_init_121 : fetch 66 121 = some (.dup, 122, 0, 0, 0, 0) := fr fe_X7_init_3 10 rfl
theorem i_X7_init_122 : fetch 66 122 = some (.invokespecial 65, 125, 54, 1, 0, 149) := fr fe_X7_init_3 11 rfl
theorem i_X7_init_125 : fetch 66 125 = some (.aastore, 126, 0, 0, 0, 0) := fr fe_X7_init_3 12 rfl
theorem i_X7_init_126 : fetch 66 126 = some (.iinc 1 1, 129, 0, 0, 0, 0) := fr fe_X7_init_3 13 rfl
theorem i_X7_init_129 : fetch 66 129 = some (.goto (-22), 132, 0, 0, 0, 0) := fr fe_X7_init_3 14 rfl
theorem i_X7_init_132 : fetch 66 132 = some (.iconst 0, 133, 0, 0, 0, 0) := fr fe_X7_init_3 15 rfl
theorem i_X7_init_133 : fetch 66 133 = some (.istore_n 1, 134, 0, 0, 0, 0) := fr fe_X7_init_3 16 rfl
theorem i_X7_init_134 : fetch 66 134 = some (.iload_n 1, 135, 0, 0, 0, 0) := fr fe_X7_init_3 17 rfl
theorem i_X7_init_135 : fetch 66 135 = some (.bipush 6, 137, 0, 0, 0, 0) := fr fe_X7_init_3 18 rfl
theorem i_X7_init_137 : fetch 66 137 = some (.if_icmp .ge 22, 140, 0, 0, 0, 0) := fr fe_X7_init_3 19 rfl
theorem i_X7_init_140 : fetch 66 140 = some (.aload_n 0, 141, 0, 0, 0, 0) := fr fe_X7_init_3 20 rfl
theorem i_X7_init_141 : fetch 66 141 = some (.getfield 30, 144, 7, 4, 0, 507) := fr fe_X7_init_3 21 rfl
theorem i_X7_init_144 : fetch 66 144 = some (.iload_n 1, 145, 0, 0, 0, 0) := fr fe_X7_init_3 22 rfl
theorem i_X7_init_145 : fetch 66 145 = some (.new 28, 148, 6, 0, 0, 118) := fr fe_X7_init_3 23 rfl
theorem i_X7_init_148 : fetch 66 148 = some (.dup, 149, 0, 0, 0, 0) := fr fe_X7_init_3 24 rfl
theorem i_X7_init_149 : fetch 66 149 = some (.invokespecial 66, 152, 58, 1, 0, 170) := fr fe_X7_init_4 0 rfl
theorem i_X7_init_152 : fetch 66 152 = some (.aastore, 153, 0, 0, 0, 0) := fr fe_X7_init_4 1 rfl
theorem i_X7_init_153 : fetch 66 153 = some (.iinc 1 1, 156, 0, 0, 0, 0) := fr fe_X7_init_4 2 rfl
theorem i_X7_init_156 : fetch 66 156 = some (.goto (-22), 159, 0, 0, 0, 0) := fr fe_X7_init_4 3 rfl
theorem i_X7_init_159 : fetch 66 159 = some (.iconst 0, 160, 0, 0, 0, 0) := fr fe_X7_init_4 4 rfl
theorem i_X7_init_160 : fetch 66 160 = some (.istore_n 1, 161, 0, 0, 0, 0) := fr fe_X7_init_4 5 rfl
theorem i_X7_init_161 : fetch 66 161 = some (.iload_n 1, 162, 0, 0, 0, 0) := fr fe_X7_init_4 6 rfl
theorem i_X7_init_162 : fetch 66 162 = some (.iconst 4, 163, 0, 0, 0, 0) := fr fe_X7_init_4 7 rfl
theorem i_X7_init_163 : fetch 66 163 = some (.if_icmp .ge 22, 166, 0, 0, 0, 0) := fr fe_X7_init_4 8 rfl
theorem i_X7_init_166 : fetch 66 166 = some (.aload_n 0, 167, 0, 0, 0, 0) := fr fe_X7_init_4 9 rfl
theorem i_X7_init_167 : fetch 66 167 = some (.getfield 43, 170, 7, 9, 0, 512) := fr fe_X7_init_4 10 rfl
theorem i_X7_init_170 : fetch 66 170 = some (.iload_n 1, 171, 0, 0, 0, 0) := fr fe_X7_init_4 11 rfl
theorem i_X7_init_171 : fetch 66 171 = some (.new 41, 174, 4, 0, 0, 146) := fr fe_X7_init_4 12 rfl
theorem i_X7_init_174 : fetch 66 174 = some (.dup, 175, 0, 0, 0, 0) := fr fe_X7_init_4 13 rfl
theorem i_X7_init_175 : fetch 66 175 = some (.invokespecial 67, 178, 50, 1, 0, 188) := fr fe_X7_init_4 14 rfl
theorem i_X7_init_178 : fetch 66 178 = some (.aastore, 179, 0, 0, 0, 0) := fr fe_X7_init_4 15 rfl
theorem i_X7_init_179 : fetch 66 179 = some (.iinc 1 1, 182, 0, 0, 0, 0) := fr fe_X7_init_4 16 rfl
theorem i_X7_init_182 : fetch 66 182 = some (.goto (-21), 185, 0, 0, 0, 0) := fr fe_X7_init_4 17 rfl
theorem i_X7_init_185 : fetch 66 185 = some (.aload_n 0, 186, 0, 0, 0, 0) := fr fe_X7_init_4 18 rfl
theorem i_X7_init_186 : fetch 66 186 = some (.new 68, 189, 1, 0, 0, 206) := fr fe_X7_init_4 19 rfl
theorem i_X7_init_189 : fetch 66 189 = some (.dup, 190, 0, 0, 0, 0) := fr fe_X7_init_4 20 rfl
theorem i_X7_init_190 : fetch 66 190 = some (.aload_n 0, 191, 0, 0, 0, 0) := fr fe_X7_init_4 21 rfl
theorem i_X7_init_191 : fetch 66 191 = some (.getfield 30, 194, 7, 4, 0, 507) := fr fe_X7_init_4 22 rfl
theorem i_X7_init_194 : fetch 66 194 = some (.iconst 0, 195, 0, 0, 0, 0) := fr fe_X7_init_4 23 rfl
theorem i_X7_init_195 : fetch 66 195 = some (.aaload, 196, 0, 0, 0, 0) := fr fe_X7_init_4 24 rfl
theorem i_X7_init_196 : fetch 66 196 = some (.invokespecial 70, 199, 3, 0, 0, 208) := fr fe_X7_init_5 0 rfl
theorem i_X7_init_199 : fetch 66 199 = some (.putfield 73, 202, 7, 6, 0, 509) := fr fe_X7_init_5 1 rfl
theorem i_X7_init_202 : fetch 66 202 = some (.aload_n 0, 203, 0, 0, 0, 0) := fr fe_X7_init_5 2 rfl
theorem i_X7_init_203 : fetch 66 203 = some (.new 77, 206, 3, 0, 0, 235) := fr fe_X7_init_5 3 rfl
theorem i_X7_init_206 : fetch 66 206 = some (.dup, 207, 0, 0, 0, 0) := fr fe_X7_init_5 4 rfl
theorem i_X7_init_207 : fetch 66 207 = some (.aload_n 0, 208, 0, 0, 0, 0) := fr fe_X7_init_5 5 rfl
theorem i_X7_init_208 : fetch 66 208 = some (.getfield 73, 211, 7, 6, 0, 509) := fr fe_X7_init_5 6 rfl
theorem i_X7_init_211 : fetch 66 211 = some (.invokespecial 79, 214, 27, 0, 0, 237) := fr fe_X7_init_5 7 rfl
theorem i_X7_init_214 : fetch 66 214 = some (.putfield 82, 217, 7, 7, 0, 510) := fr fe_X7_init_5 8 rfl
theorem i_X7_init_217 : fetch 66 217 = some (.aload_n 0, 218, 0, 0, 0, 0) := fr fe_X7_init_5 9 rfl
theorem i_X7_init_218 : fetch 66 218 = some (.new 77, 221, 3, 0, 0, 235) := fr fe_X7_init_5 10 rfl
theorem i_X7_init_221 : fetch 66 221 = some (.dup, 222, 0, 0, 0, 0) := fr fe_X7_init_5 11 rfl
theorem i_X7_init_222 : fetch 66 222 = some (.aload_n 0, 223, 0, 0, 0, 0) := fr fe_X7_init_5 12 rfl
theorem i_X7_init_223 : fetch 66 223 = some (.getfield 73, 226, 7, 6, 0, 509) := fr fe_X7_init_5 13 rfl
theorem i_X7_init_226 : fetch 66 226 = some (.invokespecial 79, 229, 27, 0, 0, 237) := fr fe_X7_init_5 14 rfl
theorem i_X7_init_229 : fetch 66 229 = some (.putfield 86, 232, 7, 8, 0, 511) := fr fe_X7_init_5 15 rfl
theorem i_X7_init_232 : fetch 66 232 = some (.iconst 0, 233, 0, 0, 0, 0) := fr fe_X7_init_5 16 rfl
theorem i_X7_init_233 : fetch 66 233 = some (.istore_n 1, 234, 0, 0, 0, 0) := fr fe_X7_init_5 17 rfl
theorem i_X7_init_234 : fetch 66 234 = some (.iload_n 1, 235, 0, 0, 0, 0) := fr fe_X7_init_5 18 rfl
theorem i_X7_init_235 : fetch 66 235 = some (.ldc 89, 237, 1, 0, 0, 0) := fr fe_X7_init_5 19 rfl
theorem i_X7_init_237 : fetch 66 237 = some (.invokevirtual 91, 240, 219, 0, 0, 291) := fr fe_X7_init_5 20 rfl
theorem i_X7_init_240 : fetch 66 240 = some (.if_icmp .ge 22, 243, 0, 0, 0, 0) := fr fe_X7_init_5 21 rfl
theorem i_X7_init_243 : fetch 66 243 = some (.aload_n 0, 244, 0, 0, 0, 0) := fr fe_X7_init_5 22 rfl
theorem i_X7_init_244 : fetch 66 244 = some (.getfield 37, 247, 7, 5, 0, 508) := fr fe_X7_init_5 23 rfl
theorem i_X7_init_247 : fetch 66 247 = some (.ldc 89, 249, 1, 0, 0, 0) := fr fe_X7_init_5 24 rfl
theorem i_X7_init_249 : fetch 66 249 = some (.iload_n 1, 250, 0, 0, 0, 0) := fr fe_X7_init_6 0 rfl
theorem i_X7_init_250 : fetch 66 250 = some (.invokevirtual 97, 253, 220, 0, 0, 301) := fr fe_X7_init_6 1 rfl
theorem i_X7_init_253 : fetch 66 253 = some (.invokevirtual 101, 256, 10, 0, 0, 355) := fr fe_X7_init_6 2 rfl
theorem i_X7_init_256 : fetch 66 256 = some (.iinc 1 1, 259, 0, 0, 0, 0) := fr fe_X7_init_6 3 rfl
theorem i_X7_init_259 : fetch 66 259 = some (.goto (-25), 262, 0, 0, 0, 0) := fr fe_X7_init_6 4 rfl
theorem i_X7_init_262 : fetch 66 262 = some (.aload_n 0, 263, 0, 0, 0, 0) := fr fe_X7_init_6 5 rfl
theorem i_X7_init_263 : fetch 66 263 = some (.getfield 37, 266, 7, 5, 0, 508) := fr fe_X7_init_6 6 rfl
theorem i_X7_init_266 : fetch 66 266 = some (.aload_n 0, 267, 0, 0, 0, 0) := fr fe_X7_init_6 7 rfl
theorem i_X7_init_267 : fetch 66 267 = some (.getfield 30, 270, 7, 4, 0, 507) := fr fe_X7_init_6 8 rfl
theorem i_X7_init_270 : fetch 66 270 = some (.iconst 0, 271, 0, 0, 0, 0) := fr fe_X7_init_6 9 rfl
theorem i_X7_init_271 : fetch 66 271 = some (.aaload, 272, 0, 0, 0, 0) := fr fe_X7_init_6 10 rfl
theorem i_X7_init_272 : fetch 66 272 = some (.invokevirtual 105, 275, 12, 0, 0, 359) := fr fe_X7_init_6 11 rfl
theorem i_X7_init_275 : fetch 66 275 = some (.pop, 276, 0, 0, 0, 0) := fr fe_X7_init_6 12 rfl
theorem i_X7_init_276 : fetch 66 276 = some (.aload_n 0, 277, 0, 0, 0, 0) := fr fe_X7_init_6 13 rfl
theorem i_X7_init_277 : fetch 66 277 = some (.getfield 37, 280, 7, 5, 0, 508) := fr fe_X7_init_6 14 rfl
theorem i_X7_init_280 : fetch 66 280 = some (.invokevirtual 109, 283, 11, 0, 0, 499) := fr fe_X7_init_6 15 rfl
theorem i_X7_init_283 : fetch 66 283 = some (.return_, 284, 0, 0, 0, 0) := fr fe_X7_init_6 16 rfl
theorem i_X7_roll_0 : fetch 67 0 = some (.iload_n 1, 1, 0, 0, 0, 0) := fr fe_X7_roll_1 0 rfl
theorem i_X7_roll_1 : fetch 67 1 = some (.iconst 0, 2, 0, 0, 0, 0) := fr fe_X7_roll_1 1 rfl
theorem i_X7_roll_2 : fetch 67 2 = some (.bipush 11, 4, 0, 0, 0, 0) := fr fe_X7_roll_1 2 rfl
theorem i_X7_roll_4 : fetch 67 4 = some (.invokestatic 112, 7, 110, 0, 0, 554) := fr fe_X7_roll_1 3 rfl
theorem i_X7_roll_7 : fetch 67 7 = some (.ifCond .ne 6, 10, 0, 0, 0, 0) := fr fe_X7_roll_1 4 rfl
theorem i_X7_roll_10 : fetch 67 10 = some (.bipush (-5), 12, 0, 0, 0, 0) := fr fe_X7_roll_1 5 rfl
theorem i_X7_roll_12 : fetch 67 12 = some (.ireturn, 13, 0, 0, 0, 0) := fr fe_X7_roll_1 6 rfl
theorem i_X7_roll_13 : fetch 67 13 = some (.iload_n 2, 14, 0, 0, 0, 0) := fr fe_X7_roll_1 7 rfl
theorem i_X7_roll_14 : fetch 67 14 = some (.iconst 0, 15, 0, 0, 0, 0) := fr fe_X7_roll_1 8 rfl
theorem i_X7_roll_15 : fetch 67 15 = some (.iconst 1, 16, 0, 0, 0, 0) := fr fe_X7_roll_1 9 rfl
theorem i_X7_roll_16 : fetch 67 16 = some (.invokestatic 112, 19, 110, 0, 0, 554) := fr fe_X7_roll_1 10 rfl
theorem i_X7_roll_19 : fetch 67 19 = some (.ifCond .eq 23, 22, 0, 0, 0, 0) := fr fe_X7_roll_1 11 rfl
theorem i_X7_roll_22 : fetch 67 22 = some (.iload_n 3, 23, 0, 0, 0, 0) := fr fe_X7_roll_1 12 rfl
theorem i_X7_roll_23 : fetch 67 23 = some (.iconst 1, 24, 0, 0, 0, 0) := fr fe_X7_roll_1 13 rfl
theorem i_X7_roll_24 : fetch 67 24 = some (.iload_n 2, 25, 0, 0, 0, 0) := fr fe_X7_roll_1 14 rfl
theorem i_X7_roll_25 : fetch 67 25 = some (.ifCond .ne 8, 28, 0, 0, 0, 0) := fr fe_X7_roll_1 15 rfl
theorem i_X7_roll_28 : fetch 67 28 = some (.ldc 116, 30, 0, 0, 99999, 555) := fr fe_X7_roll_1 16 rfl
theorem i_X7_roll_30 : fetch 67 30 = some (.goto 6, 33, 0, 0, 0, 0) := fr fe_X7_roll_1 17 rfl
theorem i_X7_roll_33 : fetch 67 33 = some (.sipush 999, 36, 0, 0, 0, 0) := fr fe_X7_roll_1 18 rfl
theorem i_X7_roll_36 : fetch 67 36 = some (.invokestatic 112, 39, 110, 0, 0, 554) := fr fe_X7_roll_1 19 rfl
theorem i_X7_roll_39 : fetch 67 39 = some (.ifCond .ne 6, 42, 0, 0, 0, 0) := fr fe_X7_roll_1 20 rfl
theorem i_X7_roll_42 : fetch 67 42 = some (.bipush (-7), 44, 0, 0, 0, 0) := fr fe_X7_roll_1 21 rfl
theorem i_X7_roll_44 : fetch 67 44 = some (.ireturn, 45, 0, 0, 0, 0) := fr fe_X7_roll_1 22 rfl
theorem i_X7_roll_45 : fetch 67 45 = some (.iload_n 2, 46, 0, 0, 0, 0) := fr fe_X7_roll_1 23 rfl
theorem i_X7_roll_46 : fetch 67 46 = some (.ifCond .ne 13, 49, 0, 0, 0, 0) := fr fe_X7_roll_1 24 rfl
theorem i_X7_roll_49 : fetch 67 49 = some (.aload_n 0, 50, 0, 0, 0, 0) := fr fe_X7_roll_2 0 rfl
theorem i_X7_roll_50 : fetch 67 50 = some (.getfield 10, 53, 7, 0, 0, 503) := fr fe_X7_roll_2 1 rfl
theorem i_X7_roll_53 : fetch 67 53 = some (.getfield 117, 56, 0, 0, 0, 98) := fr fe_X7_roll_2 2 rfl
theorem i_X7_roll_56 : fetch 67 56 = some (.goto 10, 59, 0, 0, 0, 0) := fr fe_X7_roll_2 3 rfl
theorem i_X7_roll_59 : fetch 67 59 = some (.aload_n 0, 60, 0, 0, 0, 0) := fr fe_X7_roll_2 4 rfl
theorem i_X7_roll_60 : fetch 67 60 = some (.getfield 10, 63, 7, 0, 0, 503) := fr fe_X7_roll_2 5 rfl
theorem i_X7_roll_63 : fetch 67 63 = some (.getfield 120, 66, 0, 1, 0, 101) := fr fe_X7_roll_2 6 rfl
theorem i_X7_roll_66 : fetch 67 66 = some (.astore 4, 68, 0, 0, 0, 0) := fr fe_X7_roll_2 7 rfl
theorem i_X7_roll_68 : fetch 67 68 = some (.aload 4, 70, 0, 0, 0, 0) := fr fe_X7_roll_2 8 rfl
theorem i_X7_roll_70 : fetch 67 70 = some (.iload_n 1, 71, 0, 0, 0, 0) := fr fe_X7_roll_2 9 rfl
theorem i_X7_roll_71 : fetch 67 71 = some (.iaload, 72, 0, 0, 0, 0) := fr fe_X7_roll_2 10 rfl
theorem i_X7_roll_72 : fetch 67 72 = some (.istore 5, 74, 0, 0, 0, 0) := fr fe_X7_roll_2 11 rfl
theorem i_X7_roll_74 : fetch 67 74 = some (.aload 4, 76, 0, 0, 0, 0) := fr fe_X7_roll_2 12 rfl
theorem i_X7_roll_76 : fetch 67 76 = some (.iload_n 1, 77, 0, 0, 0, 0) := fr fe_X7_roll_2 13 rfl
theorem i_X7_roll_77 : fetch 67 77 = some (.iload_n 3, 78, 0, 0, 0, 0) := fr fe_X7_roll_2 14 rfl
theorem i_X7_roll_78 : fetch 67 78 = some (.iastore, 79, 0, 0, 0, 0) := fr fe_X7_roll_2 15 rfl
theorem i_X7_roll_79 : fetch 67 79 = some (.iload 5, 81, 0, 0, 0, 0) := fr fe_X7_roll_2 16 rfl
theorem i_X7_roll_81 : fetch 67 81 = some (.ireturn, 82, 0, 0, 0, 0) := fr fe_X7_roll_2 17 rfl
theorem i_X7_set_0 : fetch 68 0 = some (.iload_n 1, 1, 0, 0, 0, 0) := fr fe_X7_set 0 rfl
theorem i_X7_set_1 : fetch 68 1 = some (.iconst 0, 2, 0, 0, 0, 0) := fr fe_X7_set 1 rfl
theorem i_X7_set_2 : fetch 68 2 = some (.iconst 2, 3, 0, 0, 0, 0) := fr fe_X7_set 2 rfl
theorem i_X7_set_3 : fetch 68 3 = some (.invokestatic 112, 6, 110, 0, 0, 554) := fr fe_X7_set 3 rfl
theorem i_X7_set_6 : fetch 68 6 = some (.ifCond .ne 5, 9, 0, 0, 0, 0) := fr fe_X7_set 4 rfl
theorem i_X7_set_9 : fetch 68 9 = some (.iconst (-1), 10, 0, 0, 0, 0) := fr fe_X7_set 5 rfl
theorem i_X7_set_10 : fetch 68 10 = some (.ireturn, 11, 0, 0, 0, 0) := fr fe_X7_set 6 rfl
theorem i_X7_set_11 : fetch 68 11 = some (.iload_n 2, 12, 0, 0, 0, 0) := fr fe_X7_set 7 rfl
theorem i_X7_set_12 : fetch 68 12 = some (.iconst 0, 13, 0, 0, 0, 0) := fr fe_X7_set 8 rfl
theorem i_X7_set_13 : fetch 68 13 = some (.bipush 9, 15, 0, 0, 0, 0) := fr fe_X7_set 9 rfl
theorem i_X7_set_15 : fetch 68 15 = some (.invokestatic 112, 18, 110, 0, 0, 554) := fr fe_X7_set 10 rfl
theorem i_X7_set_18 : fetch 68 18 = some (.ifCond .ne 6, 21, 0, 0, 0, 0) := fr fe_X7_set 11 rfl
theorem i_X7_set_21 : fetch 68 21 = some (.bipush (-2), 23, 0, 0, 0, 0) := fr fe_X7_set 12 rfl
theorem i_X7_set_23 : fetch 68 23 = some (.ireturn, 24, 0, 0, 0, 0) := fr fe_X7_set 13 rfl
theorem i_X7_set_24 : fetch 68 24 = some (.aload_n 0, 25, 0, 0, 0, 0) := fr fe_X7_set 14 rfl
theorem i_X7_set_25 : fetch 68 25 = some (.getfield 10, 28, 7, 0, 0, 503) := fr fe_X7_set 15 rfl
theorem i_X7_set_28 : fetch 68 28 = some (.getfield 122, 31, 0, 2, 0, 103) := fr fe_X7_set 16 rfl
theorem i_X7_set_31 : fetch 68 31 = some (.iload_n 1, 32, 0, 0, 0, 0) := fr fe_X7_set 17 rfl
theorem i_X7_set_32 : fetch 68 32 = some (.iaload, 33, 0, 0, 0, 0) := fr fe_X7_set 18 rfl
theorem i_X7_set_33 : fetch 68 33 = some (.istore_n 3, 34, 0, 0, 0, 0) := fr fe_X7_set 19 rfl
theorem i_X7_set_34 : fetch 68 34 = some (.aload_n 0, 35, 0, 0, 0, 0) := fr fe_X7_set 20 rfl
theorem i_X7_set_35 : fetch 68 35 = some (.getfield 10, 38, 7, 0, 0, 503) := fr fe_X7_set 21 rfl
theorem i_X7_set_38 : fetch 68 38 = some (.getfield 122, 41, 0, 2, 0, 103) := fr fe_X7_set 22 rfl
theorem i_X7_set_41 : fetch 68 41 = some (.iload_n 1, 42, 0, 0, 0, 0) := fr fe_X7_set 23 rfl
theorem i_X7_set_42 : fetch 68 42 = some (.iload_n 2, 43, 0, 0, 0, 0) := fr fe_X7_set 24 rfl
theorem i_X7_set_43 : fetch 68 43 = some (.iastore, 44, 0, 0, 0, 0) := fr fe_X7_set 25 rfl
theorem i_X7_set_44 : fetch 68 44 = some (.iload_n 3, 45, 0, 0, 0, 0) := fr fe_X7_set 26 rfl
theorem i_X7_set_45 : fetch 68 45 = some (.ireturn, 46, 0, 0, 0, 0) := fr fe_X7_set 27 rfl
theorem i_X7_count_0 : fetch 69 0 = some (.iload_n 1, 1, 0, 0, 0, 0) := fr fe_X7_count 0 rfl
theorem i_X7_count_1 : fetch 69 1 = some (.iconst 0, 2, 0, 0, 0, 0) := fr fe_X7_count 1 rfl
theorem i_X7_count_2 : fetch 69 2 = some (.iconst 2, 3, 0, 0, 0, 0) := fr fe_X7_count 2 rfl
theorem i_X7_count_3 : fetch 69 3 = some (.invokestatic 112, 6, 110, 0, 0, 554) := fr fe_X7_count 3 rfl
theorem i_X7_count_6 : fetch 69 6 = some (.ifCond .eq 13, 9, 0, 0, 0, 0) := fr fe_X7_count 4 rfl
theorem i_X7_count_9 : fetch 69 9 = some (.aload_n 0, 10, 0, 0, 0, 0) := fr fe_X7_count 5 rfl
theorem i_X7_count_10 : fetch 69 10 = some (.getfield 10, 13, 7, 0, 0, 503) := fr fe_X7_count 6 rfl
theorem i_X7_count_13 : fetch 69 13 = some (.getfield 122, 16, 0, 2, 0, 103) := fr fe_X7_count 7 rfl
theorem i_X7_count_16 : fetch 69 16 = some (.iload_n 1, 17, 0, 0, 0, 0) := fr fe_X7_count 8 rfl
theorem i_X7_count_17 : fetch 69 17 = some (.iaload, 18, 0, 0, 0, 0) := fr fe_X7_count 9 rfl
theorem i_X7_count_18 : fetch 69 18 = some (.ireturn, 19, 0, 0, 0, 0) := fr fe_X7_count 10 rfl
theorem i_X7_count_19 : fetch 69 19 = some (.iload_n 1, 20, 0, 0, 0, 0) := fr fe_X7_count 11 rfl
theorem i_X7_count_20 : fetch 69 20 = some (.tableswitch 58 3 6 #[32, 37, 42, 50], 52, 0, 0, 0, 0) := fr fe_X7_count 12 rfl
theorem i_X7_count_52 : fetch 69 52 = some (.aload_n 0, 53, 0, 0, 0, 0) := fr fe_X7_count 13 rfl
theorem i_X7_count_53 : fetch 69 53 = some (.getfield 54, 56, 7, 12, 0, 515) := fr fe_X7_count 14 rfl
theorem i_X7_count_56 : fetch 69 56 = some (.ireturn, 57, 0, 0, 0, 0) := fr fe_X7_count 15 rfl
theorem i_X7_count_57 : fetch 69 57 = some (.aload_n 0, 58, 0, 0, 0, 0) := fr fe_X7_count 16 rfl
theorem i_X7_count_58 : fetch 69 58 = some (.getfield 58, 61, 7, 13, 0, 516) := fr fe_X7_count 17 rfl
theorem i_X7_count_61 : fetch 69 61 = some (.ireturn, 62, 0, 0, 0, 0) := fr fe_X7_count 18 rfl
theorem i_X7_count_62 : fetch 69 62 = some (.aload_n 0, 63, 0, 0, 0, 0) := fr fe_X7_count 19 rfl
theorem i_X7_count_63 : fetch 69 63 = some (.getfield 10, 66, 7, 0, 0, 503) := fr fe_X7_count 20 rfl
theorem i_X7_count_66 : fetch 69 66 = some (.getfield 125, 69, 0, 3, 0, 105) := fr fe_X7_count 21 rfl
theorem i_X7_count_69 : fetch 69 69 = some (.ireturn, 70, 0, 0, 0, 0) := fr fe_X7_count 22 rfl
theorem i_X7_count_70 : fetch 69 70 = some (.aload_n 0, 71, 0, 0, 0, 0) := fr fe_X7_count 23 rfl
theorem i_X7_count_71 : fetch 69 71 = some (.getfield 37, 74, 7, 5, 0, 508) := fr fe_X7_count 24 rfl
theorem i_X7_count_74 : fetch 69 74 = some (.getfield 128, 77, 2, 1, 0, 128) := fr fe_X7_count 25 rfl
theorem i_X7_count_77 : fetch 69 77 = some (.ireturn, 78, 0, 0, 0, 0) := fr fe_X7_count 26 rfl
theorem i_X7_count_78 : fetch 69 78 = some (.bipush (-2), 80, 0, 0, 0, 0) := fr fe_X7_count 27 rfl
theorem i_X7_count_80 : fetch 69 80 = some (.ireturn, 81, 0, 0, 0, 0) := fr fe_X7_count 28 rfl
theorem i_X7_feed_0 : fetch 70 0 = some (.iload_n 3, 1, 0, 0, 0, 0) := fr fe_X7_feed_1 0 rfl
theorem i_X7_feed_1 : fetch 70 1 = some (.iconst 1, 2, 0, 0, 0, 0) := fr fe_X7_feed_1 1 rfl
theorem i_X7_feed_2 : fetch 70 2 = some (.bipush 8, 4, 0, 0, 0, 0) := fr fe_X7_feed_1 2 rfl
theorem i_X7_feed_4 : fetch 70 4 = some (.invokestatic 112, 7, 110, 0, 0, 554) := fr fe_X7_feed_1 3 rfl
theorem i_X7_feed_7 : fetch 70 7 = some (.ifCond .ne 6, 10, 0, 0, 0, 0) := fr fe_X7_feed_1 4 rfl
theorem i_X7_feed_10 : fetch 70 10 = some (.bipush (-2), 12, 0, 0, 0, 0) := fr fe_X7_feed_1 5 rfl
theorem i_X7_feed_12 : fetch 70 12 = some (.ireturn, 13, 0, 0, 0, 0) := fr fe_X7_feed_1 6 rfl
theorem i_X7_feed_13 : fetch 70 13 = some (.aload_n 0, 14, 0, 0, 0, 0) := fr fe_X7_feed_1 7 rfl
theorem i_X7_feed_14 : fetch 70 14 = some (.getfield 37, 17, 7, 5, 0, 508) := fr fe_X7_feed_1 8 rfl
theorem i_X7_feed_17 : fetch 70 17 = some (.getfield 128, 20, 2, 1, 0, 128) := fr fe_X7_feed_1 9 rfl
theorem i_X7_feed_20 : fetch 70 20 = some (.iload_n 3, 21, 0, 0, 0, 0) := fr fe_X7_feed_1 10 rfl
theorem i_X7_feed_21 : fetch 70 21 = some (.iadd, 22, 0, 0, 0, 0) := fr fe_X7_feed_1 11 rfl
theorem i_X7_feed_22 : fetch 70 22 = some (.sipush 160, 25, 0, 0, 0, 0) := fr fe_X7_feed_1 12 rfl
theorem i_X7_feed_25 : fetch 70 25 = some (.if_icmp .le 6, 28, 0, 0, 0, 0) := fr fe_X7_feed_1 13 rfl
theorem i_X7_feed_28 : fetch 70 28 = some (.bipush (-4), 30, 0, 0, 0, 0) := fr fe_X7_feed_1 14 rfl
theorem i_X7_feed_30 : fetch 70 30 = some (.ireturn, 31, 0, 0, 0, 0) := fr fe_X7_feed_1 15 rfl
theorem i_X7_feed_31 : fetch 70 31 = some (.iload_n 3, 32, 0, 0, 0, 0) := fr fe_X7_feed_1 16 rfl
theorem i_X7_feed_32 : fetch 70 32 = some (.iconst 1, 33, 0, 0, 0, 0) := fr fe_X7_feed_1 17 rfl
theorem i_X7_feed_33 : fetch 70 33 = some (.isub, 34, 0, 0, 0, 0) := fr fe_X7_feed_1 18 rfl
theorem i_X7_feed_34 : fetch 70 34 = some (.istore 4, 36, 0, 0, 0, 0) := fr fe_X7_feed_1 19 rfl
theorem i_X7_feed_36 : fetch 70 36 = some (.iload 4, 38, 0, 0, 0, 0) := fr fe_X7_feed_1 20 rfl
theorem i_X7_feed_38 : fetch 70 38 = some (.ifCond .lt 28, 41, 0, 0, 0, 0) := fr fe_X7_feed_1 21 rfl
theorem i_X7_feed_41 : fetch 70 41 = some (.aload_n 0, 42, 0, 0, 0, 0) := fr fe_X7_feed_1 22 rfl
theorem i_X7_feed_42 : fetch 70 42 = some (.getfield 37, 45, 7, 5, 0, 508) := fr fe_X7_feed_1 23 rfl
theorem i_X7_feed_45 : fetch 70 45 = some (.lload_n 1, 46, 0, 0, 0, 0) := fr fe_X7_feed_1 24 rfl
theorem i_X7_feed_46 : fetch 70 46 = some (.bipush 8, 48, 0, 0, 0, 0) := fr fe_X7_feed_2 0 rfl
theorem i_X7_feed_48 : fetch 70 48 = some (.iload 4, 50, 0, 0, 0, 0) := fr fe_X7_feed_2 1 rfl
theorem i_X7_feed_50 : fetch 70 50 = some (.imul, 51, 0, 0, 0, 0) := fr fe_X7_feed_2 2 rfl
theorem i_X7_feed_51 : fetch 70 51 = some (.lushr, 52, 0, 0, 0, 0) := fr fe_X7_feed_2 3 rfl
theorem i_X7_feed_52 : fetch 70 52 = some (.l2i, 53, 0, 0, 0, 0) := fr fe_X7_feed_2 4 rfl
theorem i_X7_feed_53 : fetch 70 53 = some (.sipush 255, 56, 0, 0, 0, 0) := fr fe_X7_feed_2 5 rfl
theorem i_X7_feed_56 : fetch 70 56 = some (.iand, 57, 0, 0, 0, 0) := fr fe_X7_feed_2 6 rfl
theorem i_X7_feed_57 : fetch 70 57 = some (.invokevirtual 101, 60, 10, 0, 0, 355) := fr fe_X7_feed_2 7 rfl
theorem i_X7_feed_60 : fetch 70 60 = some (.iinc 4 (-1), 63, 0, 0, 0, 0) := fr fe_X7_feed_2 8 rfl
theorem i_X7_feed_63 : fetch 70 63 = some (.goto (-27), 66, 0, 0, 0, 0) := fr fe_X7_feed_2 9 rfl
theorem i_X7_feed_66 : fetch 70 66 = some (.aload_n 0, 67, 0, 0, 0, 0) := fr fe_X7_feed_2 10 rfl
theorem i_X7_feed_67 : fetch 70 67 = some (.getfield 37, 70, 7, 5, 0, 508) := fr fe_X7_feed_2 11 rfl
theorem i_X7_feed_70 : fetch 70 70 = some (.getfield 128, 73, 2, 1, 0, 128) := fr fe_X7_feed_2 12 rfl
theorem i_X7_feed_73 : fetch 70 73 = some (.ireturn, 74, 0, 0, 0, 0) := fr fe_X7_feed_2 13 rfl
theorem i_X7_text_0 : fetch 71 0 = some (.aload_n 0, 1, 0, 0, 0, 0) := fr fe_X7_text_1 0 rfl
theorem i_X7_text_1 : fetch 71 1 = some (.getfield 58, 4, 7, 13, 0, 516) := fr fe_X7_text_1 1 rfl
theorem i_X7_text_4 : fetch 71 4 = some (.iconst 0, 5, 0, 0, 0, 0) := fr fe_X7_text_1 2 rfl
theorem i_X7_text_5 : fetch 71 5 = some (.iconst 5, 6, 0, 0, 0, 0) := fr fe_X7_text_1 3 rfl
theorem i_X7_text_6 : fetch 71 6 = some (.invokestatic 112, 9, 110, 0, 0, 554) := fr fe_X7_text_1 4 rfl
theorem i_X7_text_9 : fetch 71 9 = some (.ifCond .ne 6, 12, 0, 0, 0, 0) := fr fe_X7_text_1 5 rfl
theorem i_X7_text_12 : fetch 71 12 = some (.bipush (-4), 14, 0, 0, 0, 0) := fr fe_X7_text_1 6 rfl
theorem i_X7_text_14 : fetch 71 14 = some (.ireturn, 15, 0, 0, 0, 0) := fr fe_X7_text_1 7 rfl
theorem i_X7_text_15 : fetch 71 15 = some (.aload_n 0, 16, 0, 0, 0, 0) := fr fe_X7_text_1 8 rfl
theorem i_X7_text_16 : fetch 71 16 = some (.getfield 37, 19, 7, 5, 0, 508) := fr fe_X7_text_1 9 rfl
theorem i_X7_text_19 : fetch 71 19 = some (.aload_n 0, 20, 0, 0, 0, 0) := fr fe_X7_text_1 10 rfl
theorem i_X7_text_20 : fetch 71 20 = some (.getfield 30, 23, 7, 4, 0, 507) := fr fe_X7_text_1 11 rfl
theorem i_X7_text_23 : fetch 71 23 = some (.aload_n 0, 24, 0, 0, 0, 0) := fr fe_X7_text_1 12 rfl
theorem i_X7_text_24 : fetch 71 24 = some (.getfield 58, 27, 7, 13, 0, 516) := fr fe_X7_text_1 13 rfl
theorem i_X7_text_27 : fetch 71 27 = some (.aaload, 28, 0, 0, 0, 0) := fr fe_X7_text_1 14 rfl
theorem i_X7_text_28 : fetch 71 28 = some (.invokevirtual 105, 31, 12, 0, 0, 359) := fr fe_X7_text_1 15 rfl
theorem i_X7_text_31 : fetch 71 31 = some (.istore_n 1, 32, 0, 0, 0, 0) := fr fe_X7_text_1 16 rfl
theorem i_X7_text_32 : fetch 71 32 = some (.aload_n 0, 33, 0, 0, 0, 0) := fr fe_X7_text_1 17 rfl
theorem i_X7_text_33 : fetch 71 33 = some (.getfield 37, 36, 7, 5, 0, 508) := fr fe_X7_text_1 18 rfl
theorem i_X7_text_36 : fetch 71 36 = some (.invokevirtual 109, 39, 11, 0, 0, 499) := fr fe_X7_text_1 19 rfl
theorem i_X7_text_39 : fetch 71 39 = some (.iload_n 1, 40, 0, 0, 0, 0) := fr fe_X7_text_1 20 rfl
theorem i_X7_text_40 : fetch 71 40 = some (.iconst (-1), 41, 0, 0, 0, 0) := fr fe_X7_text_1 21 rfl
theorem i_X7_text_41 : fetch 71 41 = some (.if_icmp .eq 8, 44, 0, 0, 0, 0) := fr fe_X7_text_1 22 rfl
theorem i_X7_text_44 : fetch 71 44 = some (.bipush (-100), 46, 0, 0, 0, 0) := fr fe_X7_text_1 23 rfl
theorem i_X7_text_46 : fetch 71 46 = some (.iload_n 1, 47, 0, 0, 0, 0) := fr fe_X7_text_1 24 rfl
theorem i_X7_text_47 : fetch 71 47 = some (.isub, 48, 0, 0, 0, 0) := fr fe_X7_text_2 0 rfl
theorem i_X7_text_48 : fetch 71 48 = some (.ireturn, 49, 0, 0, 0, 0) := fr fe_X7_text_2 1 rfl
theorem i_X7_text_49 : fetch 71 49 = some (.aload_n 0, 50, 0, 0, 0, 0) := fr fe_X7_text_2 2 rfl
theorem i_X7_text_50 : fetch 71 50 = some (.dup, 51, 0, 0, 0, 0) := fr fe_X7_text_2 3 rfl
theorem i_X7_text_51 : fetch 71 51 = some (.getfield 58, 54, 7, 13, 0, 516) := fr fe_X7_text_2 4 rfl
theorem i_X7_text_54 : fetch 71 54 = some (.iconst 1, 55, 0, 0, 0, 0) := fr fe_X7_text_2 5 rfl
theorem i_X7_text_55 : fetch 71 55 = some (.iadd, 56, 0, 0, 0, 0) := fr fe_X7_text_2 6 rfl
theorem i_X7_text_56 : fetch 71 56 = some (.putfield 58, 59, 7, 13, 0, 516) := fr fe_X7_text_2 7 rfl
theorem i_X7_text_59 : fetch 71 59 = some (.aload_n 0, 60, 0, 0, 0, 0) := fr fe_X7_text_2 8 rfl
theorem i_X7_text_60 : fetch 71 60 = some (.getfield 58, 63, 7, 13, 0, 516) := fr fe_X7_text_2 9 rfl
theorem i_X7_text_63 : fetch 71 63 = some (.iconst 1, 64, 0, 0, 0, 0) := fr fe_X7_text_2 10 rfl
theorem i_X7_text_64 : fetch 71 64 = some (.isub, 65, 0, 0, 0, 0) := fr fe_X7_text_2 11 rfl
theorem i_X7_text_65 : fetch 71 65 = some (.ireturn, 66, 0, 0, 0, 0) := fr fe_X7_text_2 12 rfl
theorem i_X7_force_0 : fetch 72 0 = some (.iload_n 1, 1, 0, 0, 0, 0) := fr fe_X7_force 0 rfl
theorem i_X7_force_1 : fetch 72 1 = some (.iconst 0, 2, 0, 0, 0, 0) := fr fe_X7_force 1 rfl
theorem i_X7_force_2 : fetch 72 2 = some (.aload_n 0, 3, 0, 0, 0, 0) := fr fe_X7_force 2 rfl
theorem i_X7_force_3 : fetch 72 3 = some (.getfield 58, 6, 7, 13, 0, 516) := fr fe_X7_force 3 rfl
theorem i_X7_force_6 : fetch 72 6 = some (.iconst 1, 7, 0, 0, 0, 0) := fr fe_X7_force 4 rfl
theorem i_X7_force_7 : fetch 72 7 = some (.isub, 8, 0, 0, 0, 0) := fr fe_X7_force 5 rfl
theorem i_X7_force_8 : fetch 72 8 = some (.invokestatic 112, 11, 110, 0, 0, 554) := fr fe_X7_force 6 rfl
theorem i_X7_force_11 : fetch 72 11 = some (.ifCond .ne 6, 14, 0, 0, 0, 0) := fr fe_X7_force 7 rfl
theorem i_X7_force_14 : fetch 72 14 = some (.bipush (-2), 16, 0, 0, 0, 0) := fr fe_X7_force 8 rfl
theorem i_X7_force_16 : fetch 72 16 = some (.ireturn, 17, 0, 0, 0, 0) := fr fe_X7_force 9 rfl
theorem i_X7_force_17 : fetch 72 17 = some (.aload_n 0, 18, 0, 0, 0, 0) := fr fe_X7_force 10 rfl
theorem i_X7_force_18 : fetch 72 18 = some (.getfield 10, 21, 7, 0, 0, 503) := fr fe_X7_force 11 rfl
theorem i_X7_force_21 : fetch 72 21 = some (.getfield 125, 24, 0, 3, 0, 105) := fr fe_X7_force 12 rfl
theorem i_X7_force_24 : fetch 72 24 = some (.istore_n 2, 25, 0, 0, 0, 0) := fr fe_X7_force 13 rfl
theorem i_X7_force_25 : fetch 72 25 = some (.aload_n 0, 26, 0, 0, 0, 0) := fr fe_X7_force 14 rfl
theorem i_X7_force_26 : fetch 72 26 = some (.getfield 10, 29, 7, 0, 0, 503) := fr fe_X7_force 15 rfl
theorem i_X7_force_29 : fetch 72 29 = some (.iload_n 1, 30, 0, 0, 0, 0) := fr fe_X7_force 16 rfl
theorem i_X7_force_30 : fetch 72 30 = some (.putfield 125, 33, 0, 3, 0, 105) := fr fe_X7_force 17 rfl
theorem i_X7_force_33 : fetch 72 33 = some (.iload_n 2, 34, 0, 0, 0, 0) := fr fe_X7_force 18 rfl
theorem i_X7_force_34 : fetch 72 34 = some (.ireturn, 35, 0, 0, 0, 0) := fr fe_X7_force 19 rfl
theorem i_X7_step_0 : fetch 73 0 = some (.iload_n 1, 1, 0, 0, 0, 0) := fr fe_X7_step_1 0 rfl
theorem i_X7_step_1 : fetch 73 1 = some (.iconst 0, 2, 0, 0, 0, 0) := fr fe_X7_step_1 1 rfl
theorem i_X7_step_2 : fetch 73 2 = some (.iconst 5, 3, 0, 0, 0, 0) := fr fe_X7_step_1 2 rfl
theorem i_X7_step_3 : fetch 73 3 = some (.invokestatic 112, 6, 110, 0, 0, 554) := fr fe_X7_step_1 3 rfl
theorem i_X7_step_6 : fetch 73 6 = some (.ifCond .eq 23, 9, 0, 0, 0, 0) := fr fe_X7_step_1 4 rfl
theorem i_X7_step_9 : fetch 73 9 = some (.iload_n 2, 10, 0, 0, 0, 0) := fr fe_X7_step_1 5 rfl
theorem i_X7_step_10 : fetch 73 10 = some (.iconst 0, 11, 0, 0, 0, 0) := fr fe_X7_step_1 6 rfl
theorem i_X7_step_11 : fetch 73 11 = some (.bipush 9, 13, 0, 0, 0, 0) := fr fe_X7_step_1 7 rfl
theorem i_X7_step_13 : fetch 73 13 = some (.invokestatic 112, 16, 110, 0, 0, 554) := fr fe_X7_step_1 8 rfl
theorem i_X7_step_16 : fetch 73 16 = some (.ifCond .eq 13, 19, 0, 0, 0, 0) := fr fe_X7_step_1 9 rfl
theorem i_X7_step_19 : fetch 73 19 = some (.iload_n 3, 20, 0, 0, 0, 0) := fr fe_X7_step_1 10 rfl
theorem i_X7_step_20 : fetch 73 20 = some (.iconst 1, 21, 0, 0, 0, 0) := fr fe_X7_step_1 11 rfl
theorem i_X7_step_21 : fetch 73 21 = some (.bipush 9, 23, 0, 0, 0, 0) := fr fe_X7_step_1 12 rfl
theorem i_X7_step_23 : fetch 73 23 = some (.invokestatic 112, 26, 110, 0, 0, 554) := fr fe_X7_step_1 13 rfl
theorem i_X7_step_26 : fetch 73 26 = some (.ifCond .ne 6, 29, 0, 0, 0, 0) := fr fe_X7_step_1 14 rfl
theorem i_X7_step_29 : fetch 73 29 = some (.bipush (-2), 31, 0, 0, 0, 0) := fr fe_X7_step_1 15 rfl
theorem i_X7_step_31 : fetch 73 31 = some (.ireturn, 32, 0, 0, 0, 0) := fr fe_X7_step_1 16 rfl
theorem i_X7_step_32 : fetch 73 32 = some (.aload_n 0, 33, 0, 0, 0, 0) := fr fe_X7_step_1 17 rfl
theorem i_X7_step_33 : fetch 73 33 = some (.getfield 54, 36, 7, 12, 0, 515) := fr fe_X7_step_1 18 rfl
theorem i_X7_step_36 : fetch 73 36 = some (.iconst 0, 37, 0, 0, 0, 0) := fr fe_X7_step_1 19 rfl
theorem i_X7_step_37 : fetch 73 37 = some (.bipush 11, 39, 0, 0, 0, 0) := fr fe_X7_step_1 20 rfl
theorem i_X7_step_39 : fetch 73 39 = some (.invokestatic 112, 42, 110, 0, 0, 554) := fr fe_X7_step_1 21 rfl
theorem i_X7_step_42 : fetch 73 42 = some (.ifCond .ne 6, 45, 0, 0, 0, 0) := fr fe_X7_step_1 22 rfl
theorem i_X7_step_45 : fetch 73 45 = some (.bipush (-4), 47, 0, 0, 0, 0) := fr fe_X7_step_1 23 rfl
theorem i_X7_step_47 : fetch 73 47 = some (.ireturn, 48, 0, 0, 0, 0) := fr fe_X7_step_1 24 rfl
theorem i_X7_step_48 : fetch 73 48 = some (.aload_n 0, 49, 0, 0, 0, 0) := fr fe_X7_step_2 0 rfl
theorem i_X7_step_49 : fetch 73 49 = some (.getfield 24, 52, 7, 3, 0, 506) := fr fe_X7_step_2 1 rfl
theorem i_X7_step_52 : fetch 73 52 = some (.aload_n 0, 53, 0, 0, 0, 0) := fr fe_X7_step_2 2 rfl
theorem i_X7_step_53 : fetch 73 53 = some (.getfield 54, 56, 7, 12, 0, 515) := fr fe_X7_step_2 3 rfl
theorem i_X7_step_56 : fetch 73 56 = some (.aaload, 57, 0, 0, 0, 0) := fr fe_X7_step_2 4 rfl
theorem i_X7_step_57 : fetch 73 57 = some (.iload_n 1, 58, 0, 0, 0, 0) := fr fe_X7_step_2 5 rfl
theorem i_X7_step_58 : fetch 73 58 = some (.iload_n 2, 59, 0, 0, 0, 0) := fr fe_X7_step_2 6 rfl
theorem i_X7_step_59 : fetch 73 59 = some (.iload_n 3, 60, 0, 0, 0, 0) := fr fe_X7_step_2 7 rfl
theorem i_X7_step_60 : fetch 73 60 = some (.invokevirtual 131, 63, 55, 0, 0, 596) := fr fe_X7_step_2 8 rfl
theorem i_X7_step_63 : fetch 73 63 = some (.aload_n 0, 64, 0, 0, 0, 0) := fr fe_X7_step_2 9 rfl
theorem i_X7_step_64 : fetch 73 64 = some (.dup, 65, 0, 0, 0, 0) := fr fe_X7_step_2 10 rfl
theorem i_X7_step_65 : fetch 73 65 = some (.getfield 54, 68, 7, 12, 0, 515) := fr fe_X7_step_2 11 rfl
theorem i_X7_step_68 : fetch 73 68 = some (.iconst 1, 69, 0, 0, 0, 0) := fr fe_X7_step_2 12 rfl
theorem i_X7_step_69 : fetch 73 69 = some (.iadd, 70, 0, 0, 0, 0) := fr fe_X7_step_2 13 rfl
theorem i_X7_step_70 : fetch 73 70 = some (.putfield 54, 73, 7, 12, 0, 515) := fr fe_X7_step_2 14 rfl
theorem i_X7_step_73 : fetch 73 73 = some (.aload_n 0, 74, 0, 0, 0, 0) := fr fe_X7_step_2 15 rfl
theorem i_X7_step_74 : fetch 73 74 = some (.getfield 54, 77, 7, 12, 0, 515) := fr fe_X7_step_2 16 rfl
theorem i_X7_step_77 : fetch 73 77 = some (.iconst 1, 78, 0, 0, 0, 0) := fr fe_X7_step_2 17 rfl
theorem i_X7_step_78 : fetch 73 78 = some (.isub, 79, 0, 0, 0, 0) := fr fe_X7_step_2 18 rfl
theorem i_X7_step_79 : fetch 73 79 = some (.ireturn, 80, 0, 0, 0, 0) := fr fe_X7_step_2 19 rfl
theorem i_X7_forget_0 : fetch 74 0 = some (.aload_n 0, 1, 0, 0, 0, 0) := fr fe_X7_forget 0 rfl
theorem i_X7_forget_1 : fetch 74 1 = some (.getfield 54, 4, 7, 12, 0, 515) := fr fe_X7_forget 1 rfl
theorem i_X7_forget_4 : fetch 74 4 = some (.iconst 1, 5, 0, 0, 0, 0) := fr fe_X7_forget 2 rfl
theorem i_X7_forget_5 : fetch 74 5 = some (.if_icmp .ge 6, 8, 0, 0, 0, 0) := fr fe_X7_forget 3 rfl
theorem i_X7_forget_8 : fetch 74 8 = some (.bipush (-3), 10, 0, 0, 0, 0) := fr fe_X7_forget 4 rfl
theorem i_X7_forget_10 : fetch 74 10 = some (.ireturn, 11, 0, 0, 0, 0) := fr fe_X7_forget 5 rfl
theorem i_X7_forget_11 : fetch 74 11 = some (.aload_n 0, 12, 0, 0, 0, 0) := fr fe_X7_forget 6 rfl
theorem i_X7_forget_12 : fetch 74 12 = some (.dup, 13, 0, 0, 0, 0) := fr fe_X7_forget 7 rfl
theorem i_X7_forget_13 : fetch 74 13 = some (.getfield 54, 16, 7, 12, 0, 515) := fr fe_X7_forget 8 rfl
theorem i_X7_forget_16 : fetch 74 16 = some (.iconst 1, 17, 0, 0, 0, 0) := fr fe_X7_forget 9 rfl
theorem i_X7_forget_17 : fetch 74 17 = some (.isub, 18, 0, 0, 0, 0) := fr fe_X7_forget 10 rfl
theorem i_X7_forget_18 : fetch 74 18 = some (.putfield 54, 21, 7, 12, 0, 515) := fr fe_X7_forget 11 rfl
theorem i_X7_forget_21 : fetch 74 21 = some (.aload_n 0, 22, 0, 0, 0, 0) := fr fe_X7_forget 12 rfl
theorem i_X7_forget_22 : fetch 74 22 = some (.getfield 54, 25, 7, 12, 0, 515) := fr fe_X7_forget 13 rfl
theorem i_X7_forget_25 : fetch 74 25 = some (.ireturn, 26, 0, 0, 0, 0) := fr fe_X7_forget 14 rfl
theorem i_X7_isStep_0 : fetch 112 0 = some (.iload_n 1, 1, 0, 0, 0, 0) := fr fe_X7_isStep 0 rfl
theorem i_X7_isStep_1 : fetch 112 1 = some (.iconst 0, 2, 0, 0, 0, 0) := fr fe_X7_isStep 1 rfl
theorem i_X7_isStep_2 : fetch 112 2 = some (.aload_n 0, 3, 0, 0, 0, 0) := fr fe_X7_isStep 2 rfl
theorem i_X7_isStep_3 : fetch 112 3 = some (.getfield 54, 6, 7, 12, 0, 515) := fr fe_X7_isStep 3 rfl
theorem i_X7_isStep_6 : fetch 112 6 = some (.iconst 1, 7, 0, 0, 0, 0) := fr fe_X7_isStep 4 rfl
theorem i_X7_isStep_7 : fetch 112 7 = some (.isub, 8, 0, 0, 0, 0) := fr fe_X7_isStep 5 rfl
theorem i_X7_isStep_8 : fetch 112 8 = some (.invokestatic 112, 11, 110, 0, 0, 554) := fr fe_X7_isStep 6 rfl
theorem i_X7_isStep_11 : fetch 112 11 = some (.ifCond .eq 13, 14, 0, 0, 0, 0) := fr fe_X7_isStep 7 rfl
theorem i_X7_isStep_14 : fetch 112 14 = some (.iload_n 1, 15, 0, 0, 0, 0) := fr fe_X7_isStep 8 rfl
theorem i_X7_isStep_15 : fetch 112 15 = some (.bipush 12, 17, 0, 0, 0, 0) := fr fe_X7_isStep 9 rfl
theorem i_X7_isStep_17 : fetch 112 17 = some (.if_icmp .ge 7, 20, 0, 0, 0, 0) := fr fe_X7_isStep 10 rfl
theorem i_X7_isStep_20 : fetch 112 20 = some (.iconst 1, 21, 0, 0, 0, 0) := fr fe_X7_isStep 11 rfl
theorem i_X7_isStep_21 : fetch 112 21 = some (.goto 4, 24, 0, 0, 0, 0) := fr fe_X7_isStep 12 rfl
theorem i_X7_isStep_24 : fetch 112 24 = some (.iconst 0, 25, 0, 0, 0, 0) := fr fe_X7_isStep 13 rfl
theorem i_X7_isStep_25 : fetch 112 25 = some (.ireturn, 26, 0, 0, 0, 0) := fr fe_X7_isStep 14 rfl
theorem i_X7_stepTold_0 : fetch 75 0 = some (.aload_n 0, 1, 0, 0, 0, 0) := fr fe_X7_stepTold_1 0 rfl
theorem i_X7_stepTold_1 : fetch 75 1 = some (.iload_n 1, 2, 0, 0, 0, 0) := fr fe_X7_stepTold_1 1 rfl
theorem i_X7_stepTold_2 : fetch 75 2 = some (.invokevirtual 135, 5, 112, 0, 0, 608) := fr fe_X7_stepTold_1 2 rfl
theorem i_X7_stepTold_5 : fetch 75 5 = some (.ifCond .ne 6, 8, 0, 0, 0, 0) := fr fe_X7_stepTold_1 3 rfl
theorem i_X7_stepTold_8 : fetch 75 8 = some (.bipush (-5), 10, 0, 0, 0, 0) := fr fe_X7_stepTold_1 4 rfl
theorem i_X7_stepTold_10 : fetch 75 10 = some (.ireturn, 11, 0, 0, 0, 0) := fr fe_X7_stepTold_1 5 rfl
theorem i_X7_stepTold_11 : fetch 75 11 = some (.iload_n 2, 12, 0, 0, 0, 0) := fr fe_X7_stepTold_1 6 rfl
theorem i_X7_stepTold_12 : fetch 75 12 = some (.tableswitch 72 0 3 #[32, 42, 52, 62], 44, 0, 0, 0, 0) := fr fe_X7_stepTold_1 7 rfl
theorem i_X7_stepTold_44 : fetch 75 44 = some (.aload_n 0, 45, 0, 0, 0, 0) := fr fe_X7_stepTold_1 8 rfl
theorem i_X7_stepTold_45 : fetch 75 45 = some (.getfield 24, 48, 7, 3, 0, 506) := fr fe_X7_stepTold_1 9 rfl
theorem i_X7_stepTold_48 : fetch 75 48 = some (.iload_n 1, 49, 0, 0, 0, 0) := fr fe_X7_stepTold_1 10 rfl
theorem i_X7_stepTold_49 : fetch 75 49 = some (.aaload, 50, 0, 0, 0, 0) := fr fe_X7_stepTold_1 11 rfl
theorem i_X7_stepTold_50 : fetch 75 50 = some (.getfield 139, 53, 5, 0, 0, 155) := fr fe_X7_stepTold_1 12 rfl
theorem i_X7_stepTold_53 : fetch 75 53 = some (.ireturn, 54, 0, 0, 0, 0) := fr fe_X7_stepTold_1 13 rfl
theorem i_X7_stepTold_54 : fetch 75 54 = some (.aload_n 0, 55, 0, 0, 0, 0) := fr fe_X7_stepTold_1 14 rfl
theorem i_X7_stepTold_55 : fetch 75 55 = some (.getfield 24, 58, 7, 3, 0, 506) := fr fe_X7_stepTold_1 15 rfl
theorem i_X7_stepTold_58 : fetch 75 58 = some (.iload_n 1, 59, 0, 0, 0, 0) := fr fe_X7_stepTold_1 16 rfl
theorem i_X7_stepTold_59 : fetch 75 59 = some (.aaload, 60, 0, 0, 0, 0) := fr fe_X7_stepTold_1 17 rfl
theorem i_X7_stepTold_60 : fetch 75 60 = some (.getfield 142, 63, 5, 1, 0, 158) := fr fe_X7_stepTold_1 18 rfl
theorem i_X7_stepTold_63 : fetch 75 63 = some (.ireturn, 64, 0, 0, 0, 0) := fr fe_X7_stepTold_1 19 rfl
theorem i_X7_stepTold_64 : fetch 75 64 = some (.aload_n 0, 65, 0, 0, 0, 0) := fr fe_X7_stepTold_1 20 rfl
theorem i_X7_stepTold_65 : fetch 75 65 = some (.getfield 24, 68, 7, 3, 0, 506) := fr fe_X7_stepTold_1 21 rfl
theorem i_X7_stepTold_68 : fetch 75 68 = some (.iload_n 1, 69, 0, 0, 0, 0) := fr fe_X7_stepTold_1 22 rfl
theorem i_X7_stepTold_69 : fetch 75 69 = some (.aaload, 70, 0, 0, 0, 0) := fr fe_X7_stepTold_1 23 rfl
theorem i_X7_stepTold_70 : fetch 75 70 = some (.getfield 145, 73, 5, 2, 0, 161) := fr fe_X7_stepTold_1 24 rfl
theorem i_X7_stepTold_73 : fetch 75 73 = some (.ireturn, 74, 0, 0, 0, 0) := fr fe_X7_stepTold_2 0 rfl
theorem i_X7_stepTold_74 : fetch 75 74 = some (.aload_n 0, 75, 0, 0, 0, 0) := fr fe_X7_stepTold_2 1 rfl
theorem i_X7_stepTold_75 : fetch 75 75 = some (.getfield 24, 78, 7, 3, 0, 506) := fr fe_X7_stepTold_2 2 rfl
theorem i_X7_stepTold_78 : fetch 75 78 = some (.iload_n 1, 79, 0, 0, 0, 0) := fr fe_X7_stepTold_2 3 rfl
theorem i_X7_stepTold_79 : fetch 75 79 = some (.aaload, 80, 0, 0, 0, 0) := fr fe_X7_stepTold_2 4 rfl
theorem i_X7_stepTold_80 : fetch 75 80 = some (.invokevirtual 148, 83, 56, 0, 0, 612) := fr fe_X7_stepTold_2 5 rfl
theorem i_X7_stepTold_83 : fetch 75 83 = some (.ireturn, 84, 0, 0, 0, 0) := fr fe_X7_stepTold_2 6 rfl
theorem i_X7_stepTold_84 : fetch 75 84 = some (.bipush (-7), 86, 0, 0, 0, 0) := fr fe_X7_stepTold_2 7 rfl
theorem i_X7_stepTold_86 : fetch 75 86 = some (.ireturn, 87, 0, 0, 0, 0) := fr fe_X7_stepTold_2 8 rfl
theorem i_X7_areSteps_0 : fetch 113 0 = some (.iload_n 1, 1, 0, 0, 0, 0) := fr fe_X7_areSteps 0 rfl
theorem i_X7_areSteps_1 : fetch 113 1 = some (.iconst 0, 2, 0, 0, 0, 0) := fr fe_X7_areSteps 1 rfl
theorem i_X7_areSteps_2 : fetch 113 2 = some (.aload_n 0, 3, 0, 0, 0, 0) := fr fe_X7_areSteps 2 rfl
theorem i_X7_areSteps_3 : fetch 113 3 = some (.getfield 54, 6, 7, 12, 0, 515) := fr fe_X7_areSteps 3 rfl
theorem i_X7_areSteps_6 : fetch 113 6 = some (.invokestatic 112, 9, 110, 0, 0, 554) := fr fe_X7_areSteps 4 rfl
theorem i_X7_areSteps_9 : fetch 113 9 = some (.ifCond .eq 13, 12, 0, 0, 0, 0) := fr fe_X7_areSteps 5 rfl
theorem i_X7_areSteps_12 : fetch 113 12 = some (.iload_n 1, 13, 0, 0, 0, 0) := fr fe_X7_areSteps 6 rfl
theorem i_X7_areSteps_13 : fetch 113 13 = some (.bipush 12, 15, 0, 0, 0, 0) := fr fe_X7_areSteps 7 rfl
theorem i_X7_areSteps_15 : fetch 113 15 = some (.if_icmp .gt 7, 18, 0, 0, 0, 0) := fr fe_X7_areSteps 8 rfl
theorem i_X7_areSteps_18 : fetch 113 18 = some (.iconst 1, 19, 0, 0, 0, 0) := fr fe_X7_areSteps 9 rfl
theorem i_X7_areSteps_19 : fetch 113 19 = some (.goto 4, 22, 0, 0, 0, 0) := fr fe_X7_areSteps 10 rfl
theorem i_X7_areSteps_22 : fetch 113 22 = some (.iconst 0, 23, 0, 0, 0, 0) := fr fe_X7_areSteps 11 rfl
theorem i_X7_areSteps_23 : fetch 113 23 = some (.ireturn, 24, 0, 0, 0, 0) := fr fe_X7_areSteps 12 rfl
theorem i_X7_make_0 : fetch 118 0 = some (.aload_n 1, 1, 0, 0, 0, 0) := fr fe_X7_make_1 0 rfl
theorem i_X7_make_1 : fetch 118 1 = some (.getfield 125, 4, 0, 3, 0, 105) := fr fe_X7_make_1 1 rfl
theorem i_X7_make_4 : fetch 118 4 = some (.iconst 0, 5, 0, 0, 0, 0) := fr fe_X7_make_1 2 rfl
theorem i_X7_make_5 : fetch 118 5 = some (.iconst 5, 6, 0, 0, 0, 0) := fr fe_X7_make_1 3 rfl
theorem i_X7_make_6 : fetch 118 6 = some (.invokestatic 112, 9, 110, 0, 0, 554) := fr fe_X7_make_1 4 rfl
theorem i_X7_make_9 : fetch 118 9 = some (.ifCond .eq 19, 12, 0, 0, 0, 0) := fr fe_X7_make_1 5 rfl
theorem i_X7_make_12 : fetch 118 12 = some (.aload_n 0, 13, 0, 0, 0, 0) := fr fe_X7_make_1 6 rfl
theorem i_X7_make_13 : fetch 118 13 = some (.getfield 73, 16, 7, 6, 0, 509) := fr fe_X7_make_1 7 rfl
theorem i_X7_make_16 : fetch 118 16 = some (.aload_n 0, 17, 0, 0, 0, 0) := fr fe_X7_make_1 8 rfl
theorem i_X7_make_17 : fetch 118 17 = some (.getfield 30, 20, 7, 4, 0, 507) := fr fe_X7_make_1 9 rfl
theorem i_X7_make_20 : fetch 118 20 = some (.aload_n 1, 21, 0, 0, 0, 0) := fr fe_X7_make_1 10 rfl
theorem i_X7_make_21 : fetch 118 21 = some (.getfield 125, 24, 0, 3, 0, 105) := fr fe_X7_make_1 11 rfl
theorem i_X7_make_24 : fetch 118 24 = some (.aaload, 25, 0, 0, 0, 0) := fr fe_X7_make_1 12 rfl
theorem i_X7_make_25 : fetch 118 25 = some (.putfield 325, 28, 1, 1, 0, 214) := fr fe_X7_make_1 13 rfl
theorem i_X7_make_28 : fetch 118 28 = some (.aload_n 0, 29, 0, 0, 0, 0) := fr fe_X7_make_1 14 rfl
theorem i_X7_make_29 : fetch 118 29 = some (.getfield 73, 32, 7, 6, 0, 509) := fr fe_X7_make_1 15 rfl
theorem i_X7_make_32 : fetch 118 32 = some (.aload_n 1, 33, 0, 0, 0, 0) := fr fe_X7_make_1 16 rfl
theorem i_X7_make_33 : fetch 118 33 = some (.getfield 122, 36, 0, 2, 0, 103) := fr fe_X7_make_1 17 rfl
theorem i_X7_make_36 : fetch 118 36 = some (.iconst 0, 37, 0, 0, 0, 0) := fr fe_X7_make_1 18 rfl
theorem i_X7_make_37 : fetch 118 37 = some (.iaload, 38, 0, 0, 0, 0) := fr fe_X7_make_1 19 rfl
theorem i_X7_make_38 : fetch 118 38 = some (.putfield 328, 41, 1, 2, 0, 216) := fr fe_X7_make_1 20 rfl
theorem i_X7_make_41 : fetch 118 41 = some (.aload_n 0, 42, 0, 0, 0, 0) := fr fe_X7_make_1 21 rfl
theorem i_X7_make_42 : fetch 118 42 = some (.getfield 73, 45, 7, 6, 0, 509) := fr fe_X7_make_1 22 rfl
theorem i_X7_make_45 : fetch 118 45 = some (.aload_n 1, 46, 0, 0, 0, 0) := fr fe_X7_make_1 23 rfl
theorem i_X7_make_46 : fetch 118 46 = some (.getfield 122, 49, 0, 2, 0, 103) := fr fe_X7_make_1 24 rfl
theorem i_X7_make_49 : fetch 118 49 = some (.iconst 2, 50, 0, 0, 0, 0) := fr fe_X7_make_2 0 rfl
theorem i_X7_make_50 : fetch 118 50 = some (.iaload, 51, 0, 0, 0, 0) := fr fe_X7_make_2 1 rfl
theorem i_X7_make_51 : fetch 118 51 = some (.putfield 331, 54, 1, 3, 0, 219) := fr fe_X7_make_2 2 rfl
theorem i_X7_make_54 : fetch 118 54 = some (.aload_n 0, 55, 0, 0, 0, 0) := fr fe_X7_make_2 3 rfl
theorem i_X7_make_55 : fetch 118 55 = some (.getfield 73, 58, 7, 6, 0, 509) := fr fe_X7_make_2 4 rfl
theorem i_X7_make_58 : fetch 118 58 = some (.iload 4, 60, 0, 0, 0, 0) := fr fe_X7_make_2 5 rfl
theorem i_X7_make_60 : fetch 118 60 = some (.invokevirtual 334, 63, 4, 0, 0, 628) := fr fe_X7_make_2 6 rfl
theorem i_X7_make_63 : fetch 118 63 = some (.aload_n 0, 64, 0, 0, 0, 0) := fr fe_X7_make_2 7 rfl
theorem i_X7_make_64 : fetch 118 64 = some (.getfield 82, 67, 7, 7, 0, 510) := fr fe_X7_make_2 8 rfl
theorem i_X7_make_67 : fetch 118 67 = some (.aload_n 1, 68, 0, 0, 0, 0) := fr fe_X7_make_2 9 rfl
theorem i_X7_make_68 : fetch 118 68 = some (.invokevirtual 337, 71, 28, 0, 0, 632) := fr fe_X7_make_2 10 rfl
theorem i_X7_make_71 : fetch 118 71 = some (.iconst 0, 72, 0, 0, 0, 0) := fr fe_X7_make_2 11 rfl
theorem i_X7_make_72 : fetch 118 72 = some (.istore 5, 74, 0, 0, 0, 0) := fr fe_X7_make_2 12 rfl
theorem i_X7_make_74 : fetch 118 74 = some (.iload 5, 76, 0, 0, 0, 0) := fr fe_X7_make_2 13 rfl
theorem i_X7_make_76 : fetch 118 76 = some (.iload_n 2, 77, 0, 0, 0, 0) := fr fe_X7_make_2 14 rfl
theorem i_X7_make_77 : fetch 118 77 = some (.if_icmp .ge 36, 80, 0, 0, 0, 0) := fr fe_X7_make_2 15 rfl
theorem i_X7_make_80 : fetch 118 80 = some (.iload 5, 82, 0, 0, 0, 0) := fr fe_X7_make_2 16 rfl
theorem i_X7_make_82 : fetch 118 82 = some (.bipush 12, 84, 0, 0, 0, 0) := fr fe_X7_make_2 17 rfl
theorem i_X7_make_84 : fetch 118 84 = some (.if_icmp .ge 29, 87, 0, 0, 0, 0) := fr fe_X7_make_2 18 rfl
theorem i_X7_make_87 : fetch 118 87 = some (.iload 5, 89, 0, 0, 0, 0) := fr fe_X7_make_2 19 rfl
theorem i_X7_make_89 : fetch 118 89 = some (.iload_n 3, 90, 0, 0, 0, 0) := fr fe_X7_make_2 20 rfl
theorem i_X7_make_90 : fetch 118 90 = some (.if_icmp .eq 17, 93, 0, 0, 0, 0) := fr fe_X7_make_2 21 rfl
theorem i_X7_make_93 : fetch 118 93 = some (.aload_n 0, 94, 0, 0, 0, 0) := fr fe_X7_make_2 22 rfl
theorem i_X7_make_94 : fetch 118 94 = some (.getfield 82, 97, 7, 7, 0, 510) := fr fe_X7_make_2 23 rfl
theorem i_X7_make_97 : fetch 118 97 = some (.aload_n 0, 98, 0, 0, 0, 0) := fr fe_X7_make_2 24 rfl
theorem i_X7_make_98 : fetch 118 98 = some (.getfield 24, 101, 7, 3, 0, 506) := fr fe_X7_make_3 0 rfl
theorem i_X7_make_101 : fetch 118 101 = some (.iload 5, 103, 0, 0, 0, 0) := fr fe_X7_make_3 1 rfl
theorem i_X7_make_103 : fetch 118 103 = some (.aaload, 104, 0, 0, 0, 0) := fr fe_X7_make_3 2 rfl
theorem i_X7_make_104 : fetch 118 104 = some (.invokevirtual 207, 107, 30, 0, 0, 639) := fr fe_X7_make_3 3 rfl
theorem i_X7_make_107 : fetch 118 107 = some (.iinc 5 1, 110, 0, 0, 0, 0) := fr fe_X7_make_3 4 rfl
theorem i_X7_make_110 : fetch 118 110 = some (.goto (-36), 113, 0, 0, 0, 0) := fr fe_X7_make_3 5 rfl
theorem i_X7_make_113 : fetch 118 113 = some (.return_, 114, 0, 0, 0, 0) := fr fe_X7_make_3 6 rfl
theorem i_X7_rope_0 : fetch 76 0 = some (.aload_n 0, 1, 0, 0, 0, 0) := fr fe_X7_rope_1 0 rfl
theorem i_X7_rope_1 : fetch 76 1 = some (.iload_n 1, 2, 0, 0, 0, 0) := fr fe_X7_rope_1 1 rfl
theorem i_X7_rope_2 : fetch 76 2 = some (.invokevirtual 151, 5, 113, 0, 0, 620) := fr fe_X7_rope_1 2 rfl
theorem i_X7_rope_5 : fetch 76 5 = some (.ifCond .ne 6, 8, 0, 0, 0, 0) := fr fe_X7_rope_1 3 rfl
theorem i_X7_rope_8 : fetch 76 8 = some (.bipush (-5), 10, 0, 0, 0, 0) := fr fe_X7_rope_1 4 rfl
theorem i_X7_rope_10 : fetch 76 10 = some (.ireturn, 11, 0, 0, 0, 0) := fr fe_X7_rope_1 5 rfl
theorem i_X7_rope_11 : fetch 76 11 = some (.iload_n 2, 12, 0, 0, 0, 0) := fr fe_X7_rope_1 6 rfl
theorem i_X7_rope_12 : fetch 76 12 = some (.iconst 0, 13, 0, 0, 0, 0) := fr fe_X7_rope_1 7 rfl
theorem i_X7_rope_13 : fetch 76 13 = some (.bipush 11, 15, 0, 0, 0, 0) := fr fe_X7_rope_1 8 rfl
theorem i_X7_rope_15 : fetch 76 15 = some (.invokestatic 112, 18, 110, 0, 0, 554) := fr fe_X7_rope_1 9 rfl
theorem i_X7_rope_18 : fetch 76 18 = some (.ifCond .eq 12, 21, 0, 0, 0, 0) := fr fe_X7_rope_1 10 rfl
theorem i_X7_rope_21 : fetch 76 21 = some (.iload_n 3, 22, 0, 0, 0, 0) := fr fe_X7_rope_1 11 rfl
theorem i_X7_rope_22 : fetch 76 22 = some (.iconst 0, 23, 0, 0, 0, 0) := fr fe_X7_rope_1 12 rfl
theorem i_X7_rope_23 : fetch 76 23 = some (.iconst 2, 24, 0, 0, 0, 0) := fr fe_X7_rope_1 13 rfl
theorem i_X7_rope_24 : fetch 76 24 = some (.invokestatic 112, 27, 110, 0, 0, 554) := fr fe_X7_rope_1 14 rfl
theorem i_X7_rope_27 : fetch 76 27 = some (.ifCond .ne 6, 30, 0, 0, 0, 0) := fr fe_X7_rope_1 15 rfl
theorem i_X7_rope_30 : fetch 76 30 = some (.bipush (-7), 32, 0, 0, 0, 0) := fr fe_X7_rope_1 16 rfl
theorem i_X7_rope_32 : fetch 76 32 = some (.ireturn, 33, 0, 0, 0, 0) := fr fe_X7_rope_1 17 rfl
theorem i_X7_rope_33 : fetch 76 33 = some (.aload_n 0, 34, 0, 0, 0, 0) := fr fe_X7_rope_1 18 rfl
theorem i_X7_rope_34 : fetch 76 34 = some (.aload_n 0, 35, 0, 0, 0, 0) := fr fe_X7_rope_1 19 rfl
theorem i_X7_rope_35 : fetch 76 35 = some (.getfield 10, 38, 7, 0, 0, 503) := fr fe_X7_rope_1 20 rfl
theorem i_X7_rope_38 : fetch 76 38 = some (.iload_n 1, 39, 0, 0, 0, 0) := fr fe_X7_rope_1 21 rfl
theorem i_X7_rope_39 : fetch 76 39 = some (.iconst (-1), 40, 0, 0, 0, 0) := fr fe_X7_rope_1 22 rfl
theorem i_X7_rope_40 : fetch 76 40 = some (.iconst (-1), 41, 0, 0, 0, 0) := fr fe_X7_rope_1 23 rfl
theorem i_X7_rope_41 : fetch 76 41 = some (.invokevirtual 154, 44, 118, 0, 0, 624) := fr fe_X7_rope_1 24 rfl
theorem i_X7_rope_44 : fetch 76 44 = some (.iload_n 3, 45, 0, 0, 0, 0) := fr fe_X7_rope_2 0 rfl
theorem i_X7_rope_45 : fetch 76 45 = some (.lookupswitch 46 #[(0, 27), (1, 36)], 72, 0, 0, 0, 0) := fr fe_X7_rope_2 1 rfl
theorem i_X7_rope_72 : fetch 76 72 = some (.aload_n 0, 73, 0, 0, 0, 0) := fr fe_X7_rope_2 2 rfl
theorem i_X7_rope_73 : fetch 76 73 = some (.getfield 82, 76, 7, 7, 0, 510) := fr fe_X7_rope_2 3 rfl
theorem i_X7_rope_76 : fetch 76 76 = some (.iload_n 2, 77, 0, 0, 0, 0) := fr fe_X7_rope_2 4 rfl
theorem i_X7_rope_77 : fetch 76 77 = some (.invokevirtual 158, 80, 39, 0, 0, 736) := fr fe_X7_rope_2 5 rfl
theorem i_X7_rope_80 : fetch 76 80 = some (.ireturn, 81, 0, 0, 0, 0) := fr fe_X7_rope_2 6 rfl
theorem i_X7_rope_81 : fetch 76 81 = some (.aload_n 0, 82, 0, 0, 0, 0) := fr fe_X7_rope_2 7 rfl
theorem i_X7_rope_82 : fetch 76 82 = some (.getfield 82, 85, 7, 7, 0, 510) := fr fe_X7_rope_2 8 rfl
theorem i_X7_rope_85 : fetch 76 85 = some (.getfield 162, 88, 3, 1, 0, 244) := fr fe_X7_rope_2 9 rfl
theorem i_X7_rope_88 : fetch 76 88 = some (.iload_n 2, 89, 0, 0, 0, 0) := fr fe_X7_rope_2 10 rfl
theorem i_X7_rope_89 : fetch 76 89 = some (.iaload, 90, 0, 0, 0, 0) := fr fe_X7_rope_2 11 rfl
theorem i_X7_rope_90 : fetch 76 90 = some (.ireturn, 91, 0, 0, 0, 0) := fr fe_X7_rope_2 12 rfl
theorem i_X7_rope_91 : fetch 76 91 = some (.aload_n 0, 92, 0, 0, 0, 0) := fr fe_X7_rope_2 13 rfl
theorem i_X7_rope_92 : fetch 76 92 = some (.getfield 82, 95, 7, 7, 0, 510) := fr fe_X7_rope_2 14 rfl
theorem i_X7_rope_95 : fetch 76 95 = some (.getfield 163, 98, 3, 2, 0, 247) := fr fe_X7_rope_2 15 rfl
theorem i_X7_rope_98 : fetch 76 98 = some (.iload_n 2, 99, 0, 0, 0, 0) := fr fe_X7_rope_2 16 rfl
theorem i_X7_rope_99 : fetch 76 99 = some (.iaload, 100, 0, 0, 0, 0) := fr fe_X7_rope_2 17 rfl
theorem i_X7_rope_100 : fetch 76 100 = some (.ireturn, 101, 0, 0, 0, 0) := fr fe_X7_rope_2 18 rfl
theorem i_X7_allTake_0 : fetch 120 0 = some (.iconst 0, 1, 0, 0, 0, 0) := fr fe_X7_allTake 0 rfl
theorem i_X7_allTake_1 : fetch 120 1 = some (.istore_n 2, 2, 0, 0, 0, 0) := fr fe_X7_allTake 1 rfl
theorem i_X7_allTake_2 : fetch 120 2 = some (.iconst 0, 3, 0, 0, 0, 0) := fr fe_X7_allTake 2 rfl
theorem i_X7_allTake_3 : fetch 120 3 = some (.istore_n 3, 4, 0, 0, 0, 0) := fr fe_X7_allTake 3 rfl
theorem i_X7_allTake_4 : fetch 120 4 = some (.iload_n 3, 5, 0, 0, 0, 0) := fr fe_X7_allTake 4 rfl
theorem i_X7_allTake_5 : fetch 120 5 = some (.iload_n 1, 6, 0, 0, 0, 0) := fr fe_X7_allTake 5 rfl
theorem i_X7_allTake_6 : fetch 120 6 = some (.if_icmp .ge 27, 9, 0, 0, 0, 0) := fr fe_X7_allTake 6 rfl
theorem i_X7_allTake_9 : fetch 120 9 = some (.iload_n 3, 10, 0, 0, 0, 0) := fr fe_X7_allTake 7 rfl
theorem i_X7_allTake_10 : fetch 120 10 = some (.bipush 12, 12, 0, 0, 0, 0) := fr fe_X7_allTake 8 rfl
theorem i_X7_allTake_12 : fetch 120 12 = some (.if_icmp .ge 21, 15, 0, 0, 0, 0) := fr fe_X7_allTake 9 rfl
theorem i_X7_allTake_15 : fetch 120 15 = some (.iload_n 2, 16, 0, 0, 0, 0) := fr fe_X7_allTake 10 rfl
theorem i_X7_allTake_16 : fetch 120 16 = some (.aload_n 0, 17, 0, 0, 0, 0) := fr fe_X7_allTake 11 rfl
theorem i_X7_allTake_17 : fetch 120 17 = some (.getfield 24, 20, 7, 3, 0, 506) := fr fe_X7_allTake 12 rfl
theorem i_X7_allTake_20 : fetch 120 20 = some (.iload_n 3, 21, 0, 0, 0, 0) := fr fe_X7_allTake 13 rfl
theorem i_X7_allTake_21 : fetch 120 21 = some (.aaload, 22, 0, 0, 0, 0) := fr fe_X7_allTake 14 rfl
theorem i_X7_allTake_22 : fetch 120 22 = some (.invokevirtual 148, 25, 56, 0, 0, 612) := fr fe_X7_allTake 15 rfl
theorem i_X7_allTake_25 : fetch 120 25 = some (.iadd, 26, 0, 0, 0, 0) := fr fe_X7_allTake 16 rfl
theorem i_X7_allTake_26 : fetch 120 26 = some (.istore_n 2, 27, 0, 0, 0, 0) := fr fe_X7_allTake 17 rfl
theorem i_X7_allTake_27 : fetch 120 27 = some (.iinc 3 1, 30, 0, 0, 0, 0) := fr fe_X7_allTake 18 rfl
theorem i_X7_allTake_30 : fetch 120 30 = some (.goto (-26), 33, 0, 0, 0, 0) := fr fe_X7_allTake 19 rfl
theorem i_X7_allTake_33 : fetch 120 33 = some (.iload_n 2, 34, 0, 0, 0, 0) := fr fe_X7_allTake 20 rfl
theorem i_X7_allTake_34 : fetch 120 34 = some (.ireturn, 35, 0, 0, 0, 0) := fr fe_X7_allTake 21 rfl
theorem i_X7_state_0 : fetch 77 0 = some (.aload_n 0, 1, 0, 0, 0, 0) := fr fe_X7_state_1 0 rfl
theorem i_X7_state_1 : fetch 77 1 = some (.iload_n 1, 2, 0, 0, 0, 0) := fr fe_X7_state_1 1 rfl
theorem i_X7_state_2 : fetch 77 2 = some (.invokevirtual 151, 5, 113, 0, 0, 620) := fr fe_X7_state_1 2 rfl
theorem i_X7_state_5 : fetch 77 5 = some (.ifCond .ne 7, 8, 0, 0, 0, 0) := fr fe_X7_state_1 3 rfl
theorem i_X7_state_8 : fetch 77 8 = some (.ldc2_w 166, 11, 0, 0, (-5), 741) := fr fe_X7_state_1 4 rfl
theorem i_X7_state_11 : fetch 77 11 = some (.lreturn, 12, 0, 0, 0, 0) := fr fe_X7_state_1 5 rfl
theorem i_X7_state_12 : fetch 77 12 = some (.iload_n 2, 13, 0, 0, 0, 0) := fr fe_X7_state_1 6 rfl
theorem i_X7_state_13 : fetch 77 13 = some (.iconst 0, 14, 0, 0, 0, 0) := fr fe_X7_state_1 7 rfl
theorem i_X7_state_14 : fetch 77 14 = some (.bipush 7, 16, 0, 0, 0, 0) := fr fe_X7_state_1 8 rfl
theorem i_X7_state_16 : fetch 77 16 = some (.invokestatic 112, 19, 110, 0, 0, 554) := fr fe_X7_state_1 9 rfl
theorem i_X7_state_19 : fetch 77 19 = some (.ifCond .ne 7, 22, 0, 0, 0, 0) := fr fe_X7_state_1 10 rfl
theorem i_X7_state_22 : fetch 77 22 = some (.ldc2_w 168, 25, 0, 0, (-7), 742) := fr fe_X7_state_1 11 rfl
theorem i_X7_state_25 : fetch 77 25 = some (.lreturn, 26, 0, 0, 0, 0) := fr fe_X7_state_1 12 rfl
theorem i_X7_state_26 : fetch 77 26 = some (.aload_n 0, 27, 0, 0, 0, 0) := fr fe_X7_state_1 13 rfl
theorem i_X7_state_27 : fetch 77 27 = some (.aload_n 0, 28, 0, 0, 0, 0) := fr fe_X7_state_1 14 rfl
theorem i_X7_state_28 : fetch 77 28 = some (.getfield 10, 31, 7, 0, 0, 503) := fr fe_X7_state_1 15 rfl
theorem i_X7_state_31 : fetch 77 31 = some (.iload_n 1, 32, 0, 0, 0, 0) := fr fe_X7_state_1 16 rfl
theorem i_X7_state_32 : fetch 77 32 = some (.iconst (-1), 33, 0, 0, 0, 0) := fr fe_X7_state_1 17 rfl
theorem i_X7_state_33 : fetch 77 33 = some (.iconst (-1), 34, 0, 0, 0, 0) := fr fe_X7_state_1 18 rfl
theorem i_X7_state_34 : fetch 77 34 = some (.invokevirtual 154, 37, 118, 0, 0, 624) := fr fe_X7_state_1 19 rfl
theorem i_X7_state_37 : fetch 77 37 = some (.iload_n 2, 38, 0, 0, 0, 0) := fr fe_X7_state_1 20 rfl
theorem i_X7_state_38 : fetch 77 38 = some (.tableswitch 112 0 6 #[42, 51, 60, 69, 78, 94, 103], 80, 0, 0, 0, 0) := fr fe_X7_state_1 21 rfl
theorem i_X7_state_80 : fetch 77 80 = some (.aload_n 0, 81, 0, 0, 0, 0) := fr fe_X7_state_1 22 rfl
theorem i_X7_state_81 : fetch 77 81 = some (.getfield 82, 84, 7, 7, 0, 510) := fr fe_X7_state_1 23 rfl
theorem i_X7_state_84 : fetch 77 84 = some (.invokevirtual 170, 87, 40, 0, 0, 743) := fr fe_X7_state_1 24 rfl
theorem i_X7_state_87 : fetch 77 87 = some (.i2l, 88, 0, 0, 0, 0) := fr fe_X7_state_2 0 rfl
theorem i_X7_state_88 : fetch 77 88 = some (.lreturn, 89, 0, 0, 0, 0) := fr fe_X7_state_2 1 rfl
theorem i_X7_state_89 : fetch 77 89 = some (.aload_n 0, 90, 0, 0, 0, 0) := fr fe_X7_state_2 2 rfl
theorem i_X7_state_90 : fetch 77 90 = some (.getfield 82, 93, 7, 7, 0, 510) := fr fe_X7_state_2 3 rfl
theorem i_X7_state_93 : fetch 77 93 = some (.invokevirtual 173, 96, 41, 0, 0, 748) := fr fe_X7_state_2 4 rfl
theorem i_X7_state_96 : fetch 77 96 = some (.i2l, 97, 0, 0, 0, 0) := fr fe_X7_state_2 5 rfl
theorem i_X7_state_97 : fetch 77 97 = some (.lreturn, 98, 0, 0, 0, 0) := fr fe_X7_state_2 6 rfl
theorem i_X7_state_98 : fetch 77 98 = some (.aload_n 0, 99, 0, 0, 0, 0) := fr fe_X7_state_2 7 rfl
theorem i_X7_state_99 : fetch 77 99 = some (.getfield 82, 102, 7, 7, 0, 510) := fr fe_X7_state_2 8 rfl
theorem i_X7_state_102 : fetch 77 102 = some (.invokevirtual 176, 105, 42, 0, 0, 752) := fr fe_X7_state_2 9 rfl
theorem i_X7_state_105 : fetch 77 105 = some (.i2l, 106, 0, 0, 0, 0) := fr fe_X7_state_2 10 rfl
theorem i_X7_state_106 : fetch 77 106 = some (.lreturn, 107, 0, 0, 0, 0) := fr fe_X7_state_2 11 rfl
theorem i_X7_state_107 : fetch 77 107 = some (.aload_n 0, 108, 0, 0, 0, 0) := fr fe_X7_state_2 12 rfl
theorem i_X7_state_108 : fetch 77 108 = some (.getfield 82, 111, 7, 7, 0, 510) := fr fe_X7_state_2 13 rfl
theorem i_X7_state_111 : fetch 77 111 = some (.getfield 179, 114, 3, 7, 0, 254) := fr fe_X7_state_2 14 rfl
theorem i_X7_state_114 : fetch 77 114 = some (.i2l, 115, 0, 0, 0, 0) := fr fe_X7_state_2 15 rfl
theorem i_X7_state_115 : fetch 77 115 = some (.lreturn, 116, 0, 0, 0, 0) := fr fe_X7_state_2 16 rfl
theorem i_X7_state_116 : fetch 77 116 = some (.aload_n 0, 117, 0, 0, 0, 0) := fr fe_X7_state_2 17 rfl
theorem i_X7_state_117 : fetch 77 117 = some (.getfield 82, 120, 7, 7, 0, 510) := fr fe_X7_state_2 18 rfl
theorem i_X7_state_120 : fetch 77 120 = some (.invokevirtual 182, 123, 44, 0, 0, 758) := fr fe_X7_state_2 19 rfl
theorem i_X7_state_123 : fetch 77 123 = some (.aload_n 0, 124, 0, 0, 0, 0) := fr fe_X7_state_2 20 rfl
theorem i_X7_state_124 : fetch 77 124 = some (.getfield 82, 127, 7, 7, 0, 510) := fr fe_X7_state_2 21 rfl
theorem i_X7_state_127 : fetch 77 127 = some (.getfield 179, 130, 3, 7, 0, 254) := fr fe_X7_state_2 22 rfl
theorem i_X7_state_130 : fetch 77 130 = some (.lshl, 131, 0, 0, 0, 0) := fr fe_X7_state_2 23 rfl
theorem i_X7_state_131 : fetch 77 131 = some (.lreturn, 132, 0, 0, 0, 0) := fr fe_X7_state_2 24 rfl
theorem i_X7_state_132 : fetch 77 132 = some (.aload_n 0, 133, 0, 0, 0, 0) := fr fe_X7_state_3 0 rfl
theorem i_X7_state_133 : fetch 77 133 = some (.getfield 82, 136, 7, 7, 0, 510) := fr fe_X7_state_3 1 rfl
theorem i_X7_state_136 : fetch 77 136 = some (.getfield 186, 139, 3, 8, 0, 257) := fr fe_X7_state_3 2 rfl
theorem i_X7_state_139 : fetch 77 139 = some (.i2l, 140, 0, 0, 0, 0) := fr fe_X7_state_3 3 rfl
theorem i_X7_state_140 : fetch 77 140 = some (.lreturn, 141, 0, 0, 0, 0) := fr fe_X7_state_3 4 rfl
theorem i_X7_state_141 : fetch 77 141 = some (.aload_n 0, 142, 0, 0, 0, 0) := fr fe_X7_state_3 5 rfl
theorem i_X7_state_142 : fetch 77 142 = some (.getfield 82, 145, 7, 7, 0, 510) := fr fe_X7_state_3 6 rfl
theorem i_X7_state_145 : fetch 77 145 = some (.getfield 189, 148, 3, 9, 0, 259) := fr fe_X7_state_3 7 rfl
theorem i_X7_state_148 : fetch 77 148 = some (.i2l, 149, 0, 0, 0, 0) := fr fe_X7_state_3 8 rfl
theorem i_X7_state_149 : fetch 77 149 = some (.lreturn, 150, 0, 0, 0, 0) := fr fe_X7_state_3 9 rfl
theorem i_X7_state_150 : fetch 77 150 = some (.aload_n 0, 151, 0, 0, 0, 0) := fr fe_X7_state_3 10 rfl
theorem i_X7_state_151 : fetch 77 151 = some (.iload_n 1, 152, 0, 0, 0, 0) := fr fe_X7_state_3 11 rfl
theorem i_X7_state_152 : fetch 77 152 = some (.invokevirtual 192, 155, 120, 0, 0, 759) := fr fe_X7_state_3 12 rfl
theorem i_X7_state_155 : fetch 77 155 = some (.i2l, 156, 0, 0, 0, 0) := fr fe_X7_state_3 13 rfl
theorem i_X7_state_156 : fetch 77 156 = some (.lreturn, 157, 0, 0, 0, 0) := fr fe_X7_state_3 14 rfl
theorem i_X7_whole_0 : fetch 78 0 = some (.aload_n 0, 1, 0, 0, 0, 0) := fr fe_X7_whole_1 0 rfl
theorem i_X7_whole_1 : fetch 78 1 = some (.iload_n 1, 2, 0, 0, 0, 0) := fr fe_X7_whole_1 1 rfl
theorem i_X7_whole_2 : fetch 78 2 = some (.invokevirtual 151, 5, 113, 0, 0, 620) := fr fe_X7_whole_1 2 rfl
theorem i_X7_whole_5 : fetch 78 5 = some (.ifCond .eq 12, 8, 0, 0, 0, 0) := fr fe_X7_whole_1 3 rfl
theorem i_X7_whole_8 : fetch 78 8 = some (.iload_n 2, 9, 0, 0, 0, 0) := fr fe_X7_whole_1 4 rfl
theorem i_X7_whole_9 : fetch 78 9 = some (.iconst 0, 10, 0, 0, 0, 0) := fr fe_X7_whole_1 5 rfl
theorem i_X7_whole_10 : fetch 78 10 = some (.iconst 2, 11, 0, 0, 0, 0) := fr fe_X7_whole_1 6 rfl
theorem i_X7_whole_11 : fetch 78 11 = some (.invokestatic 112, 14, 110, 0, 0, 554) := fr fe_X7_whole_1 7 rfl
theorem i_X7_whole_14 : fetch 78 14 = some (.ifCond .ne 7, 17, 0, 0, 0, 0) := fr fe_X7_whole_1 8 rfl
theorem i_X7_whole_17 : fetch 78 17 = some (.ldc2_w 195, 20, 0, 0, (-4611686018427387904), 767) := fr fe_X7_whole_1 9 rfl
theorem i_X7_whole_20 : fetch 78 20 = some (.lreturn, 21, 0, 0, 0, 0) := fr fe_X7_whole_1 10 rfl
theorem i_X7_whole_21 : fetch 78 21 = some (.aload_n 0, 22, 0, 0, 0, 0) := fr fe_X7_whole_1 11 rfl
theorem i_X7_whole_22 : fetch 78 22 = some (.aload_n 0, 23, 0, 0, 0, 0) := fr fe_X7_whole_1 12 rfl
theorem i_X7_whole_23 : fetch 78 23 = some (.getfield 10, 26, 7, 0, 0, 503) := fr fe_X7_whole_1 13 rfl
theorem i_X7_whole_26 : fetch 78 26 = some (.iload_n 1, 27, 0, 0, 0, 0) := fr fe_X7_whole_1 14 rfl
theorem i_X7_whole_27 : fetch 78 27 = some (.iconst (-1), 28, 0, 0, 0, 0) := fr fe_X7_whole_1 15 rfl
theorem i_X7_whole_28 : fetch 78 28 = some (.iconst (-1), 29, 0, 0, 0, 0) := fr fe_X7_whole_1 16 rfl
theorem i_X7_whole_29 : fetch 78 29 = some (.invokevirtual 154, 32, 118, 0, 0, 624) := fr fe_X7_whole_1 17 rfl
theorem i_X7_whole_32 : fetch 78 32 = some (.iload_n 2, 33, 0, 0, 0, 0) := fr fe_X7_whole_1 18 rfl
theorem i_X7_whole_33 : fetch 78 33 = some (.lookupswitch 43 #[(0, 27), (1, 35)], 60, 0, 0, 0, 0) := fr fe_X7_whole_1 19 rfl
theorem i_X7_whole_60 : fetch 78 60 = some (.aload_n 0, 61, 0, 0, 0, 0) := fr fe_X7_whole_1 20 rfl
theorem i_X7_whole_61 : fetch 78 61 = some (.getfield 82, 64, 7, 7, 0, 510) := fr fe_X7_whole_1 21 rfl
theorem i_X7_whole_64 : fetch 78 64 = some (.getfield 197, 67, 3, 10, 0, 261) := fr fe_X7_whole_1 22 rfl
theorem i_X7_whole_67 : fetch 78 67 = some (.lreturn, 68, 0, 0, 0, 0) := fr fe_X7_whole_1 23 rfl
theorem i_X7_whole_68 : fetch 78 68 = some (.aload_n 0, 69, 0, 0, 0, 0) := fr fe_X7_whole_1 24 rfl
theorem i_X7_whole_69 : fetch 78 69 = some (.getfield 82, 72, 7, 7, 0, 510) := fr fe_X7_whole_2 0 rfl
theorem i_X7_whole_72 : fetch 78 72 = some (.getfield 201, 75, 3, 11, 0, 263) := fr fe_X7_whole_2 1 rfl
theorem i_X7_whole_75 : fetch 78 75 = some (.lreturn, 76, 0, 0, 0, 0) := fr fe_X7_whole_2 2 rfl
theorem i_X7_whole_76 : fetch 78 76 = some (.aload_n 0, 77, 0, 0, 0, 0) := fr fe_X7_whole_2 3 rfl
theorem i_X7_whole_77 : fetch 78 77 = some (.getfield 82, 80, 7, 7, 0, 510) := fr fe_X7_whole_2 4 rfl
theorem i_X7_whole_80 : fetch 78 80 = some (.invokevirtual 204, 83, 46, 0, 0, 768) := fr fe_X7_whole_2 5 rfl
theorem i_X7_whole_83 : fetch 78 83 = some (.lreturn, 84, 0, 0, 0, 0) := fr fe_X7_whole_2 6 rfl
theorem i_X7_stop_0 : fetch 79 0 = some (.iload_n 1, 1, 0, 0, 0, 0) := fr fe_X7_stop_1 0 rfl
theorem i_X7_stop_1 : fetch 79 1 = some (.iconst 0, 2, 0, 0, 0, 0) := fr fe_X7_stop_1 1 rfl
theorem i_X7_stop_2 : fetch 79 2 = some (.bipush 100, 4, 0, 0, 0, 0) := fr fe_X7_stop_1 2 rfl
theorem i_X7_stop_4 : fetch 79 4 = some (.invokestatic 112, 7, 110, 0, 0, 554) := fr fe_X7_stop_1 3 rfl
theorem i_X7_stop_7 : fetch 79 7 = some (.ifCond .ne 6, 10, 0, 0, 0, 0) := fr fe_X7_stop_1 4 rfl
theorem i_X7_stop_10 : fetch 79 10 = some (.bipush (-2), 12, 0, 0, 0, 0) := fr fe_X7_stop_1 5 rfl
theorem i_X7_stop_12 : fetch 79 12 = some (.ireturn, 13, 0, 0, 0, 0) := fr fe_X7_stop_1 6 rfl
theorem i_X7_stop_13 : fetch 79 13 = some (.aload_n 0, 14, 0, 0, 0, 0) := fr fe_X7_stop_1 7 rfl
theorem i_X7_stop_14 : fetch 79 14 = some (.aload_n 0, 15, 0, 0, 0, 0) := fr fe_X7_stop_1 8 rfl
theorem i_X7_stop_15 : fetch 79 15 = some (.getfield 10, 18, 7, 0, 0, 503) := fr fe_X7_stop_1 9 rfl
theorem i_X7_stop_18 : fetch 79 18 = some (.iconst 0, 19, 0, 0, 0, 0) := fr fe_X7_stop_1 10 rfl
theorem i_X7_stop_19 : fetch 79 19 = some (.iconst (-1), 20, 0, 0, 0, 0) := fr fe_X7_stop_1 11 rfl
theorem i_X7_stop_20 : fetch 79 20 = some (.iconst (-1), 21, 0, 0, 0, 0) := fr fe_X7_stop_1 12 rfl
theorem i_X7_stop_21 : fetch 79 21 = some (.invokevirtual 154, 24, 118, 0, 0, 624) := fr fe_X7_stop_1 13 rfl
theorem i_X7_stop_24 : fetch 79 24 = some (.iconst 0, 25, 0, 0, 0, 0) := fr fe_X7_stop_1 14 rfl
theorem i_X7_stop_25 : fetch 79 25 = some (.istore_n 2, 26, 0, 0, 0, 0) := fr fe_X7_stop_1 15 rfl
theorem i_X7_stop_26 : fetch 79 26 = some (.iconst 0, 27, 0, 0, 0, 0) := fr fe_X7_stop_1 16 rfl
theorem i_X7_stop_27 : fetch 79 27 = some (.istore_n 3, 28, 0, 0, 0, 0) := fr fe_X7_stop_1 17 rfl
theorem i_X7_stop_28 : fetch 79 28 = some (.iload_n 3, 29, 0, 0, 0, 0) := fr fe_X7_stop_1 18 rfl
theorem i_X7_stop_29 : fetch 79 29 = some (.aload_n 0, 30, 0, 0, 0, 0) := fr fe_X7_stop_1 19 rfl
theorem i_X7_stop_30 : fetch 79 30 = some (.getfield 54, 33, 7, 12, 0, 515) := fr fe_X7_stop_1 20 rfl
theorem i_X7_stop_33 : fetch 79 33 = some (.if_icmp .ge 53, 36, 0, 0, 0, 0) := fr fe_X7_stop_1 21 rfl
theorem i_X7_stop_36 : fetch 79 36 = some (.iload_n 3, 37, 0, 0, 0, 0) := fr fe_X7_stop_1 22 rfl
theorem i_X7_stop_37 : fetch 79 37 = some (.bipush 12, 39, 0, 0, 0, 0) := fr fe_X7_stop_1 23 rfl
theorem i_X7_stop_39 : fetch 79 39 = some (.if_icmp .ge 47, 42, 0, 0, 0, 0) := fr fe_X7_stop_1 24 rfl
theorem i_X7_stop_42 : fetch 79 42 = some (.aload_n 0, 43, 0, 0, 0, 0) := fr fe_X7_stop_2 0 rfl
theorem i_X7_stop_43 : fetch 79 43 = some (.getfield 82, 46, 7, 7, 0, 510) := fr fe_X7_stop_2 1 rfl
theorem i_X7_stop_46 : fetch 79 46 = some (.aload_n 0, 47, 0, 0, 0, 0) := fr fe_X7_stop_2 2 rfl
theorem i_X7_stop_47 : fetch 79 47 = some (.getfield 24, 50, 7, 3, 0, 506) := fr fe_X7_stop_2 3 rfl
theorem i_X7_stop_50 : fetch 79 50 = some (.iload_n 3, 51, 0, 0, 0, 0) := fr fe_X7_stop_2 4 rfl
theorem i_X7_stop_51 : fetch 79 51 = some (.aaload, 52, 0, 0, 0, 0) := fr fe_X7_stop_2 5 rfl
theorem i_X7_stop_52 : fetch 79 52 = some (.invokevirtual 207, 55, 30, 0, 0, 639) := fr fe_X7_stop_2 6 rfl
theorem i_X7_stop_55 : fetch 79 55 = some (.aload_n 0, 56, 0, 0, 0, 0) := fr fe_X7_stop_2 7 rfl
theorem i_X7_stop_56 : fetch 79 56 = some (.getfield 82, 59, 7, 7, 0, 510) := fr fe_X7_stop_2 8 rfl
theorem i_X7_stop_59 : fetch 79 59 = some (.invokevirtual 204, 62, 46, 0, 0, 768) := fr fe_X7_stop_2 9 rfl
theorem i_X7_stop_62 : fetch 79 62 = some (.ldc2_w 210, 65, 0, 0, 100, 776) := fr fe_X7_stop_2 10 rfl
theorem i_X7_stop_65 : fetch 79 65 = some (.lmul, 66, 0, 0, 0, 0) := fr fe_X7_stop_2 11 rfl
theorem i_X7_stop_66 : fetch 79 66 = some (.iload_n 1, 67, 0, 0, 0, 0) := fr fe_X7_stop_2 12 rfl
theorem i_X7_stop_67 : fetch 79 67 = some (.i2l, 68, 0, 0, 0, 0) := fr fe_X7_stop_2 13 rfl
theorem i_X7_stop_68 : fetch 79 68 = some (.ldc2_w 212, 71, 0, 0, 1000000000, 777) := fr fe_X7_stop_2 14 rfl
theorem i_X7_stop_71 : fetch 79 71 = some (.lmul, 72, 0, 0, 0, 0) := fr fe_X7_stop_2 15 rfl
theorem i_X7_stop_72 : fetch 79 72 = some (.lcmp, 73, 0, 0, 0, 0) := fr fe_X7_stop_2 16 rfl
theorem i_X7_stop_73 : fetch 79 73 = some (.ifCond .lt 7, 76, 0, 0, 0, 0) := fr fe_X7_stop_2 17 rfl
theorem i_X7_stop_76 : fetch 79 76 = some (.iload_n 3, 77, 0, 0, 0, 0) := fr fe_X7_stop_2 18 rfl
theorem i_X7_stop_77 : fetch 79 77 = some (.iconst 1, 78, 0, 0, 0, 0) := fr fe_X7_stop_2 19 rfl
theorem i_X7_stop_78 : fetch 79 78 = some (.iadd, 79, 0, 0, 0, 0) := fr fe_X7_stop_2 20 rfl
theorem i_X7_stop_79 : fetch 79 79 = some (.istore_n 2, 80, 0, 0, 0, 0) := fr fe_X7_stop_2 21 rfl
theorem i_X7_stop_80 : fetch 79 80 = some (.iinc 3 1, 83, 0, 0, 0, 0) := fr fe_X7_stop_2 22 rfl
theorem i_X7_stop_83 : fetch 79 83 = some (.goto (-55), 86, 0, 0, 0, 0) := fr fe_X7_stop_2 23 rfl
theorem i_X7_stop_86 : fetch 79 86 = some (.iload_n 2, 87, 0, 0, 0, 0) := fr fe_X7_stop_2 24 rfl
theorem i_X7_stop_87 : fetch 79 87 = some (.ireturn, 88, 0, 0, 0, 0) := fr fe_X7_stop_3 0 rfl
theorem i_X7_worst_0 : fetch 80 0 = some (.aload_n 0, 1, 0, 0, 0, 0) := fr fe_X7_worst_1 0 rfl
theorem i_X7_worst_1 : fetch 80 1 = some (.aload_n 0, 2, 0, 0, 0, 0) := fr fe_X7_worst_1 1 rfl
theorem i_X7_worst_2 : fetch 80 2 = some (.getfield 10, 5, 7, 0, 0, 503) := fr fe_X7_worst_1 2 rfl
theorem i_X7_worst_5 : fetch 80 5 = some (.iconst 0, 6, 0, 0, 0, 0) := fr fe_X7_worst_1 3 rfl
theorem i_X7_worst_6 : fetch 80 6 = some (.iconst (-1), 7, 0, 0, 0, 0) := fr fe_X7_worst_1 4 rfl
theorem i_X7_worst_7 : fetch 80 7 = some (.iconst (-1), 8, 0, 0, 0, 0) := fr fe_X7_worst_1 5 rfl
theorem i_X7_worst_8 : fetch 80 8 = some (.invokevirtual 154, 11, 118, 0, 0, 624) := fr fe_X7_worst_1 6 rfl
theorem i_X7_worst_11 : fetch 80 11 = some (.iconst (-1), 12, 0, 0, 0, 0) := fr fe_X7_worst_1 7 rfl
theorem i_X7_worst_12 : fetch 80 12 = some (.istore_n 1, 13, 0, 0, 0, 0) := fr fe_X7_worst_1 8 rfl
theorem i_X7_worst_13 : fetch 80 13 = some (.lconst 0, 14, 0, 0, 0, 0) := fr fe_X7_worst_1 9 rfl
theorem i_X7_worst_14 : fetch 80 14 = some (.lstore_n 2, 15, 0, 0, 0, 0) := fr fe_X7_worst_1 10 rfl
theorem i_X7_worst_15 : fetch 80 15 = some (.iconst 0, 16, 0, 0, 0, 0) := fr fe_X7_worst_1 11 rfl
theorem i_X7_worst_16 : fetch 80 16 = some (.istore 4, 18, 0, 0, 0, 0) := fr fe_X7_worst_1 12 rfl
theorem i_X7_worst_18 : fetch 80 18 = some (.iload 4, 20, 0, 0, 0, 0) := fr fe_X7_worst_1 13 rfl
theorem i_X7_worst_20 : fetch 80 20 = some (.aload_n 0, 21, 0, 0, 0, 0) := fr fe_X7_worst_1 14 rfl
theorem i_X7_worst_21 : fetch 80 21 = some (.getfield 54, 24, 7, 12, 0, 515) := fr fe_X7_worst_1 15 rfl
theorem i_X7_worst_24 : fetch 80 24 = some (.if_icmp .ge 64, 27, 0, 0, 0, 0) := fr fe_X7_worst_1 16 rfl
theorem i_X7_worst_27 : fetch 80 27 = some (.iload 4, 29, 0, 0, 0, 0) := fr fe_X7_worst_1 17 rfl
theorem i_X7_worst_29 : fetch 80 29 = some (.bipush 12, 31, 0, 0, 0, 0) := fr fe_X7_worst_1 18 rfl
theorem i_X7_worst_31 : fetch 80 31 = some (.if_icmp .ge 57, 34, 0, 0, 0, 0) := fr fe_X7_worst_1 19 rfl
theorem i_X7_worst_34 : fetch 80 34 = some (.aload_n 0, 35, 0, 0, 0, 0) := fr fe_X7_worst_1 20 rfl
theorem i_X7_worst_35 : fetch 80 35 = some (.getfield 82, 38, 7, 7, 0, 510) := fr fe_X7_worst_1 21 rfl
theorem i_X7_worst_38 : fetch 80 38 = some (.invokevirtual 204, 41, 46, 0, 0, 768) := fr fe_X7_worst_1 22 rfl
theorem i_X7_worst_41 : fetch 80 41 = some (.lstore 5, 43, 0, 0, 0, 0) := fr fe_X7_worst_1 23 rfl
theorem i_X7_worst_43 : fetch 80 43 = some (.aload_n 0, 44, 0, 0, 0, 0) := fr fe_X7_worst_1 24 rfl
theorem i_X7_worst_44 : fetch 80 44 = some (.getfield 82, 47, 7, 7, 0, 510) := fr fe_X7_worst_2 0 rfl
theorem i_X7_worst_47 : fetch 80 47 = some (.aload_n 0, 48, 0, 0, 0, 0) := fr fe_X7_worst_2 1 rfl
theorem i_X7_worst_48 : fetch 80 48 = some (.getfield 24, 51, 7, 3, 0, 506) := fr fe_X7_worst_2 2 rfl
theorem i_X7_worst_51 : fetch 80 51 = some (.iload 4, 53, 0, 0, 0, 0) := fr fe_X7_worst_2 3 rfl
theorem i_X7_worst_53 : fetch 80 53 = some (.aaload, 54, 0, 0, 0, 0) := fr fe_X7_worst_2 4 rfl
theorem i_X7_worst_54 : fetch 80 54 = some (.invokevirtual 207, 57, 30, 0, 0, 639) := fr fe_X7_worst_2 5 rfl
theorem i_X7_worst_57 : fetch 80 57 = some (.lload 5, 59, 0, 0, 0, 0) := fr fe_X7_worst_2 6 rfl
theorem i_X7_worst_59 : fetch 80 59 = some (.aload_n 0, 60, 0, 0, 0, 0) := fr fe_X7_worst_2 7 rfl
theorem i_X7_worst_60 : fetch 80 60 = some (.getfield 82, 63, 7, 7, 0, 510) := fr fe_X7_worst_2 8 rfl
theorem i_X7_worst_63 : fetch 80 63 = some (.invokevirtual 204, 66, 46, 0, 0, 768) := fr fe_X7_worst_2 9 rfl
theorem i_X7_worst_66 : fetch 80 66 = some (.lsub, 67, 0, 0, 0, 0) := fr fe_X7_worst_2 10 rfl
theorem i_X7_worst_67 : fetch 80 67 = some (.lstore 7, 69, 0, 0, 0, 0) := fr fe_X7_worst_2 11 rfl
theorem i_X7_worst_69 : fetch 80 69 = some (.lload 7, 71, 0, 0, 0, 0) := fr fe_X7_worst_2 12 rfl
theorem i_X7_worst_71 : fetch 80 71 = some (.lload_n 2, 72, 0, 0, 0, 0) := fr fe_X7_worst_2 13 rfl
theorem i_X7_worst_72 : fetch 80 72 = some (.lcmp, 73, 0, 0, 0, 0) := fr fe_X7_worst_2 14 rfl
theorem i_X7_worst_73 : fetch 80 73 = some (.ifCond .le 9, 76, 0, 0, 0, 0) := fr fe_X7_worst_2 15 rfl
theorem i_X7_worst_76 : fetch 80 76 = some (.lload 7, 78, 0, 0, 0, 0) := fr fe_X7_worst_2 16 rfl
theorem i_X7_worst_78 : fetch 80 78 = some (.lstore_n 2, 79, 0, 0, 0, 0) := fr fe_X7_worst_2 17 rfl
theorem i_X7_worst_79 : fetch 80 79 = some (.iload 4, 81, 0, 0, 0, 0) := fr fe_X7_worst_2 18 rfl
theorem i_X7_worst_81 : fetch 80 81 = some (.istore_n 1, 82, 0, 0, 0, 0) := fr fe_X7_worst_2 19 rfl
theorem i_X7_worst_82 : fetch 80 82 = some (.iinc 4 1, 85, 0, 0, 0, 0) := fr fe_X7_worst_2 20 rfl
theorem i_X7_worst_85 : fetch 80 85 = some (.goto (-67), 88, 0, 0, 0, 0) := fr fe_X7_worst_2 21 rfl
theorem i_X7_worst_88 : fetch 80 88 = some (.iload_n 1, 89, 0, 0, 0, 0) := fr fe_X7_worst_2 22 rfl
theorem i_X7_worst_89 : fetch 80 89 = some (.ireturn, 90, 0, 0, 0, 0) := fr fe_X7_worst_2 23 rfl
theorem i_X7_tryDrawing_0 : fetch 119 0 = some (.aload_n 0, 1, 0, 0, 0, 0) := fr fe_X7_tryDrawing 0 rfl
theorem i_X7_tryDrawing_1 : fetch 119 1 = some (.getfield 86, 4, 7, 8, 0, 511) := fr fe_X7_tryDrawing 1 rfl
theorem i_X7_tryDrawing_4 : fetch 119 4 = some (.aload_n 0, 5, 0, 0, 0, 0) := fr fe_X7_tryDrawing 2 rfl
theorem i_X7_tryDrawing_5 : fetch 119 5 = some (.getfield 82, 8, 7, 7, 0, 510) := fr fe_X7_tryDrawing 3 rfl
theorem i_X7_tryDrawing_8 : fetch 119 8 = some (.invokevirtual 222, 11, 29, 0, 0, 790) := fr fe_X7_tryDrawing 4 rfl
theorem i_X7_tryDrawing_11 : fetch 119 11 = some (.aload_n 0, 12, 0, 0, 0, 0) := fr fe_X7_tryDrawing 5 rfl
theorem i_X7_tryDrawing_12 : fetch 119 12 = some (.getfield 86, 15, 7, 8, 0, 511) := fr fe_X7_tryDrawing 6 rfl
theorem i_X7_tryDrawing_15 : fetch 119 15 = some (.aload_n 0, 16, 0, 0, 0, 0) := fr fe_X7_tryDrawing 7 rfl
theorem i_X7_tryDrawing_16 : fetch 119 16 = some (.getfield 86, 19, 7, 8, 0, 511) := fr fe_X7_tryDrawing 8 rfl
theorem i_X7_tryDrawing_19 : fetch 119 19 = some (.iload_n 1, 20, 0, 0, 0, 0) := fr fe_X7_tryDrawing 9 rfl
theorem i_X7_tryDrawing_20 : fetch 119 20 = some (.invokevirtual 228, 23, 45, 0, 0, 794) := fr fe_X7_tryDrawing 10 rfl
theorem i_X7_tryDrawing_23 : fetch 119 23 = some (.iload_n 2, 24, 0, 0, 0, 0) := fr fe_X7_tryDrawing 11 rfl
theorem i_X7_tryDrawing_24 : fetch 119 24 = some (.invokevirtual 232, 27, 32, 0, 0, 795) := fr fe_X7_tryDrawing 12 rfl
theorem i_X7_tryDrawing_27 : fetch 119 27 = some (.return_, 28, 0, 0, 0, 0) := fr fe_X7_tryDrawing 13 rfl
theorem i_X7_window_0 : fetch 81 0 = some (.aload_n 0, 1, 0, 0, 0, 0) := fr fe_X7_window_1 0 rfl
theorem i_X7_window_1 : fetch 81 1 = some (.iload_n 1, 2, 0, 0, 0, 0) := fr fe_X7_window_1 1 rfl
theorem i_X7_window_2 : fetch 81 2 = some (.invokevirtual 151, 5, 113, 0, 0, 620) := fr fe_X7_window_1 2 rfl
theorem i_X7_window_5 : fetch 81 5 = some (.ifCond .ne 6, 8, 0, 0, 0, 0) := fr fe_X7_window_1 3 rfl
theorem i_X7_window_8 : fetch 81 8 = some (.bipush (-5), 10, 0, 0, 0, 0) := fr fe_X7_window_1 4 rfl
theorem i_X7_window_10 : fetch 81 10 = some (.ireturn, 11, 0, 0, 0, 0) := fr fe_X7_window_1 5 rfl
theorem i_X7_window_11 : fetch 81 11 = some (.iload_n 2, 12, 0, 0, 0, 0) := fr fe_X7_window_1 6 rfl
theorem i_X7_window_12 : fetch 81 12 = some (.iconst 0, 13, 0, 0, 0, 0) := fr fe_X7_window_1 7 rfl
theorem i_X7_window_13 : fetch 81 13 = some (.bipush 9, 15, 0, 0, 0, 0) := fr fe_X7_window_1 8 rfl
theorem i_X7_window_15 : fetch 81 15 = some (.invokestatic 112, 18, 110, 0, 0, 554) := fr fe_X7_window_1 9 rfl
theorem i_X7_window_18 : fetch 81 18 = some (.ifCond .ne 6, 21, 0, 0, 0, 0) := fr fe_X7_window_1 10 rfl
theorem i_X7_window_21 : fetch 81 21 = some (.bipush (-7), 23, 0, 0, 0, 0) := fr fe_X7_window_1 11 rfl
theorem i_X7_window_23 : fetch 81 23 = some (.ireturn, 24, 0, 0, 0, 0) := fr fe_X7_window_1 12 rfl
theorem i_X7_window_24 : fetch 81 24 = some (.aload_n 0, 25, 0, 0, 0, 0) := fr fe_X7_window_1 13 rfl
theorem i_X7_window_25 : fetch 81 25 = some (.aload_n 0, 26, 0, 0, 0, 0) := fr fe_X7_window_1 14 rfl
theorem i_X7_window_26 : fetch 81 26 = some (.getfield 10, 29, 7, 0, 0, 503) := fr fe_X7_window_1 15 rfl
theorem i_X7_window_29 : fetch 81 29 = some (.iload_n 1, 30, 0, 0, 0, 0) := fr fe_X7_window_1 16 rfl
theorem i_X7_window_30 : fetch 81 30 = some (.iconst (-1), 31, 0, 0, 0, 0) := fr fe_X7_window_1 17 rfl
theorem i_X7_window_31 : fetch 81 31 = some (.iconst (-1), 32, 0, 0, 0, 0) := fr fe_X7_window_1 18 rfl
theorem i_X7_window_32 : fetch 81 32 = some (.invokevirtual 154, 35, 118, 0, 0, 624) := fr fe_X7_window_1 19 rfl
theorem i_X7_window_35 : fetch 81 35 = some (.iconst 0, 36, 0, 0, 0, 0) := fr fe_X7_window_1 20 rfl
theorem i_X7_window_36 : fetch 81 36 = some (.istore_n 3, 37, 0, 0, 0, 0) := fr fe_X7_window_1 21 rfl
theorem i_X7_window_37 : fetch 81 37 = some (.iconst 1, 38, 0, 0, 0, 0) := fr fe_X7_window_1 22 rfl
theorem i_X7_window_38 : fetch 81 38 = some (.istore 4, 40, 0, 0, 0, 0) := fr fe_X7_window_1 23 rfl
theorem i_X7_window_40 : fetch 81 40 = some (.iload 4, 42, 0, 0, 0, 0) := fr fe_X7_window_1 24 rfl
theorem i_X7_window_42 : fetch 81 42 = some (.bipush 9, 44, 0, 0, 0, 0) := fr fe_X7_window_2 0 rfl
theorem i_X7_window_44 : fetch 81 44 = some (.if_icmp .gt 37, 47, 0, 0, 0, 0) := fr fe_X7_window_2 1 rfl
theorem i_X7_window_47 : fetch 81 47 = some (.aload_n 0, 48, 0, 0, 0, 0) := fr fe_X7_window_2 2 rfl
theorem i_X7_window_48 : fetch 81 48 = some (.iload_n 2, 49, 0, 0, 0, 0) := fr fe_X7_window_2 3 rfl
theorem i_X7_window_49 : fetch 81 49 = some (.iload 4, 51, 0, 0, 0, 0) := fr fe_X7_window_2 4 rfl
theorem i_X7_window_51 : fetch 81 51 = some (.invokevirtual 214, 54, 119, 0, 0, 786) := fr fe_X7_window_2 5 rfl
theorem i_X7_window_54 : fetch 81 54 = some (.aload_n 0, 55, 0, 0, 0, 0) := fr fe_X7_window_2 6 rfl
theorem i_X7_window_55 : fetch 81 55 = some (.getfield 86, 58, 7, 8, 0, 511) := fr fe_X7_window_2 7 rfl
theorem i_X7_window_58 : fetch 81 58 = some (.aload_n 0, 59, 0, 0, 0, 0) := fr fe_X7_window_2 8 rfl
theorem i_X7_window_59 : fetch 81 59 = some (.getfield 82, 62, 7, 7, 0, 510) := fr fe_X7_window_2 9 rfl
theorem i_X7_window_62 : fetch 81 62 = some (.invokevirtual 218, 65, 43, 0, 0, 796) := fr fe_X7_window_2 10 rfl
theorem i_X7_window_65 : fetch 81 65 = some (.ifCond .eq 10, 68, 0, 0, 0, 0) := fr fe_X7_window_2 11 rfl
theorem i_X7_window_68 : fetch 81 68 = some (.iload_n 3, 69, 0, 0, 0, 0) := fr fe_X7_window_2 12 rfl
theorem i_X7_window_69 : fetch 81 69 = some (.iconst 1, 70, 0, 0, 0, 0) := fr fe_X7_window_2 13 rfl
theorem i_X7_window_70 : fetch 81 70 = some (.iload 4, 72, 0, 0, 0, 0) := fr fe_X7_window_2 14 rfl
theorem i_X7_window_72 : fetch 81 72 = some (.ishl, 73, 0, 0, 0, 0) := fr fe_X7_window_2 15 rfl
theorem i_X7_window_73 : fetch 81 73 = some (.ior, 74, 0, 0, 0, 0) := fr fe_X7_window_2 16 rfl
theorem i_X7_window_74 : fetch 81 74 = some (.istore_n 3, 75, 0, 0, 0, 0) := fr fe_X7_window_2 17 rfl
theorem i_X7_window_75 : fetch 81 75 = some (.iinc 4 1, 78, 0, 0, 0, 0) := fr fe_X7_window_2 18 rfl
theorem i_X7_window_78 : fetch 81 78 = some (.goto (-38), 81, 0, 0, 0, 0) := fr fe_X7_window_2 19 rfl
theorem i_X7_window_81 : fetch 81 81 = some (.iload_n 3, 82, 0, 0, 0, 0) := fr fe_X7_window_2 20 rfl
theorem i_X7_window_82 : fetch 81 82 = some (.ireturn, 83, 0, 0, 0, 0) := fr fe_X7_window_2 21 rfl
theorem i_X7_pace_0 : fetch 82 0 = some (.aload_n 0, 1, 0, 0, 0, 0) := fr fe_X7_pace_1 0 rfl
theorem i_X7_pace_1 : fetch 82 1 = some (.iload_n 1, 2, 0, 0, 0, 0) := fr fe_X7_pace_1 1 rfl
theorem i_X7_pace_2 : fetch 82 2 = some (.invokevirtual 151, 5, 113, 0, 0, 620) := fr fe_X7_pace_1 2 rfl
theorem i_X7_pace_5 : fetch 82 5 = some (.ifCond .ne 6, 8, 0, 0, 0, 0) := fr fe_X7_pace_1 3 rfl
theorem i_X7_pace_8 : fetch 82 8 = some (.bipush (-5), 10, 0, 0, 0, 0) := fr fe_X7_pace_1 4 rfl
theorem i_X7_pace_10 : fetch 82 10 = some (.ireturn, 11, 0, 0, 0, 0) := fr fe_X7_pace_1 5 rfl
theorem i_X7_pace_11 : fetch 82 11 = some (.iload_n 2, 12, 0, 0, 0, 0) := fr fe_X7_pace_1 6 rfl
theorem i_X7_pace_12 : fetch 82 12 = some (.iconst 0, 13, 0, 0, 0, 0) := fr fe_X7_pace_1 7 rfl
theorem i_X7_pace_13 : fetch 82 13 = some (.bipush 9, 15, 0, 0, 0, 0) := fr fe_X7_pace_1 8 rfl
theorem i_X7_pace_15 : fetch 82 15 = some (.invokestatic 112, 18, 110, 0, 0, 554) := fr fe_X7_pace_1 9 rfl
theorem i_X7_pace_18 : fetch 82 18 = some (.ifCond .eq 12, 21, 0, 0, 0, 0) := fr fe_X7_pace_1 10 rfl
theorem i_X7_pace_21 : fetch 82 21 = some (.iload_n 3, 22, 0, 0, 0, 0) := fr fe_X7_pace_1 11 rfl
theorem i_X7_pace_22 : fetch 82 22 = some (.iconst 0, 23, 0, 0, 0, 0) := fr fe_X7_pace_1 12 rfl
theorem i_X7_pace_23 : fetch 82 23 = some (.iconst 1, 24, 0, 0, 0, 0) := fr fe_X7_pace_1 13 rfl
theorem i_X7_pace_24 : fetch 82 24 = some (.invokestatic 112, 27, 110, 0, 0, 554) := fr fe_X7_pace_1 14 rfl
theorem i_X7_pace_27 : fetch 82 27 = some (.ifCond .ne 6, 30, 0, 0, 0, 0) := fr fe_X7_pace_1 15 rfl
theorem i_X7_pace_30 : fetch 82 30 = some (.bipush (-7), 32, 0, 0, 0, 0) := fr fe_X7_pace_1 16 rfl
theorem i_X7_pace_32 : fetch 82 32 = some (.ireturn, 33, 0, 0, 0, 0) := fr fe_X7_pace_1 17 rfl
theorem i_X7_pace_33 : fetch 82 33 = some (.aload_n 0, 34, 0, 0, 0, 0) := fr fe_X7_pace_1 18 rfl
theorem i_X7_pace_34 : fetch 82 34 = some (.aload_n 0, 35, 0, 0, 0, 0) := fr fe_X7_pace_1 19 rfl
theorem i_X7_pace_35 : fetch 82 35 = some (.getfield 10, 38, 7, 0, 0, 503) := fr fe_X7_pace_1 20 rfl
theorem i_X7_pace_38 : fetch 82 38 = some (.iload_n 1, 39, 0, 0, 0, 0) := fr fe_X7_pace_1 21 rfl
theorem i_X7_pace_39 : fetch 82 39 = some (.iconst (-1), 40, 0, 0, 0, 0) := fr fe_X7_pace_1 22 rfl
theorem i_X7_pace_40 : fetch 82 40 = some (.iconst (-1), 41, 0, 0, 0, 0) := fr fe_X7_pace_1 23 rfl
theorem i_X7_pace_41 : fetch 82 41 = some (.invokevirtual 154, 44, 118, 0, 0, 624) := fr fe_X7_pace_1 24 rfl
theorem i_X7_pace_44 : fetch 82 44 = some (.iconst 1, 45, 0, 0, 0, 0) := fr fe_X7_pace_2 0 rfl
theorem i_X7_pace_45 : fetch 82 45 = some (.istore 4, 47, 0, 0, 0, 0) := fr fe_X7_pace_2 1 rfl
theorem i_X7_pace_47 : fetch 82 47 = some (.lconst 0, 48, 0, 0, 0, 0) := fr fe_X7_pace_2 2 rfl
theorem i_X7_pace_48 : fetch 82 48 = some (.lstore 5, 50, 0, 0, 0, 0) := fr fe_X7_pace_2 3 rfl
theorem i_X7_pace_50 : fetch 82 50 = some (.iconst 1, 51, 0, 0, 0, 0) := fr fe_X7_pace_2 4 rfl
theorem i_X7_pace_51 : fetch 82 51 = some (.istore 7, 53, 0, 0, 0, 0) := fr fe_X7_pace_2 5 rfl
theorem i_X7_pace_53 : fetch 82 53 = some (.iload 7, 55, 0, 0, 0, 0) := fr fe_X7_pace_2 6 rfl
theorem i_X7_pace_55 : fetch 82 55 = some (.bipush 9, 57, 0, 0, 0, 0) := fr fe_X7_pace_2 7 rfl
theorem i_X7_pace_57 : fetch 82 57 = some (.if_icmp .gt 63, 60, 0, 0, 0, 0) := fr fe_X7_pace_2 8 rfl
theorem i_X7_pace_60 : fetch 82 60 = some (.aload_n 0, 61, 0, 0, 0, 0) := fr fe_X7_pace_2 9 rfl
theorem i_X7_pace_61 : fetch 82 61 = some (.iload_n 2, 62, 0, 0, 0, 0) := fr fe_X7_pace_2 10 rfl
theorem i_X7_pace_62 : fetch 82 62 = some (.iload 7, 64, 0, 0, 0, 0) := fr fe_X7_pace_2 11 rfl
theorem i_X7_pace_64 : fetch 82 64 = some (.invokevirtual 214, 67, 119, 0, 0, 786) := fr fe_X7_pace_2 12 rfl
theorem i_X7_pace_67 : fetch 82 67 = some (.iload_n 3, 68, 0, 0, 0, 0) := fr fe_X7_pace_2 13 rfl
theorem i_X7_pace_68 : fetch 82 68 = some (.ifCond .ne 13, 71, 0, 0, 0, 0) := fr fe_X7_pace_2 14 rfl
theorem i_X7_pace_71 : fetch 82 71 = some (.aload_n 0, 72, 0, 0, 0, 0) := fr fe_X7_pace_2 15 rfl
theorem i_X7_pace_72 : fetch 82 72 = some (.getfield 86, 75, 7, 8, 0, 511) := fr fe_X7_pace_2 16 rfl
theorem i_X7_pace_75 : fetch 82 75 = some (.getfield 197, 78, 3, 10, 0, 261) := fr fe_X7_pace_2 17 rfl
theorem i_X7_pace_78 : fetch 82 78 = some (.goto 12, 81, 0, 0, 0, 0) := fr fe_X7_pace_2 18 rfl
theorem i_X7_pace_81 : fetch 82 81 = some (.aload_n 0, 82, 0, 0, 0, 0) := fr fe_X7_pace_2 19 rfl
theorem i_X7_pace_82 : fetch 82 82 = some (.getfield 86, 85, 7, 8, 0, 511) := fr fe_X7_pace_2 20 rfl
theorem i_X7_pace_85 : fetch 82 85 = some (.invokevirtual 176, 88, 42, 0, 0, 752) := fr fe_X7_pace_2 21 rfl
theorem i_X7_pace_88 : fetch 82 88 = some (.ineg, 89, 0, 0, 0, 0) := fr fe_X7_pace_2 22 rfl
theorem i_X7_pace_89 : fetch 82 89 = some (.i2l, 90, 0, 0, 0, 0) := fr fe_X7_pace_2 23 rfl
theorem i_X7_pace_90 : fetch 82 90 = some (.lstore 8, 92, 0, 0, 0, 0) := fr fe_X7_pace_2 24 rfl
theorem i_X7_pace_92 : fetch 82 92 = some (.iload 7, 94, 0, 0, 0, 0) := fr fe_X7_pace_3 0 rfl
theorem i_X7_pace_94 : fetch 82 94 = some (.iconst 1, 95, 0, 0, 0, 0) := fr fe_X7_pace_3 1 rfl
theorem i_X7_pace_95 : fetch 82 95 = some (.if_icmp .eq 11, 98, 0, 0, 0, 0) := fr fe_X7_pace_3 2 rfl
theorem i_X7_pace_98 : fetch 82 98 = some (.lload 8, 100, 0, 0, 0, 0) := fr fe_X7_pace_3 3 rfl
theorem i_X7_pace_100 : fetch 82 100 = some (.lload 5, 102, 0, 0, 0, 0) := fr fe_X7_pace_3 4 rfl
theorem i_X7_pace_102 : fetch 82 102 = some (.lcmp, 103, 0, 0, 0, 0) := fr fe_X7_pace_3 5 rfl
theorem i_X7_pace_103 : fetch 82 103 = some (.ifCond .le 11, 106, 0, 0, 0, 0) := fr fe_X7_pace_3 6 rfl
theorem i_X7_pace_106 : fetch 82 106 = some (.lload 8, 108, 0, 0, 0, 0) := fr fe_X7_pace_3 7 rfl
theorem i_X7_pace_108 : fetch 82 108 = some (.lstore 5, 110, 0, 0, 0, 0) := fr fe_X7_pace_3 8 rfl
theorem i_X7_pace_110 : fetch 82 110 = some (.iload 7, 112, 0, 0, 0, 0) := fr fe_X7_pace_3 9 rfl
theorem i_X7_pace_112 : fetch 82 112 = some (.istore 4, 114, 0, 0, 0, 0) := fr fe_X7_pace_3 10 rfl
theorem i_X7_pace_114 : fetch 82 114 = some (.iinc 7 1, 117, 0, 0, 0, 0) := fr fe_X7_pace_3 11 rfl
theorem i_X7_pace_117 : fetch 82 117 = some (.goto (-64), 120, 0, 0, 0, 0) := fr fe_X7_pace_3 12 rfl
theorem i_X7_pace_120 : fetch 82 120 = some (.iload 4, 122, 0, 0, 0, 0) := fr fe_X7_pace_3 13 rfl
theorem i_X7_pace_122 : fetch 82 122 = some (.ireturn, 123, 0, 0, 0, 0) := fr fe_X7_pace_3 14 rfl
theorem i_X7_rest_0 : fetch 83 0 = some (.aload_n 0, 1, 0, 0, 0, 0) := fr fe_X7_rest_1 0 rfl
theorem i_X7_rest_1 : fetch 83 1 = some (.iload_n 1, 2, 0, 0, 0, 0) := fr fe_X7_rest_1 1 rfl
theorem i_X7_rest_2 : fetch 83 2 = some (.invokevirtual 151, 5, 113, 0, 0, 620) := fr fe_X7_rest_1 2 rfl
theorem i_X7_rest_5 : fetch 83 5 = some (.ifCond .ne 6, 8, 0, 0, 0, 0) := fr fe_X7_rest_1 3 rfl
theorem i_X7_rest_8 : fetch 83 8 = some (.bipush (-5), 10, 0, 0, 0, 0) := fr fe_X7_rest_1 4 rfl
theorem i_X7_rest_10 : fetch 83 10 = some (.ireturn, 11, 0, 0, 0, 0) := fr fe_X7_rest_1 5 rfl
theorem i_X7_rest_11 : fetch 83 11 = some (.iload_n 2, 12, 0, 0, 0, 0) := fr fe_X7_rest_1 6 rfl
theorem i_X7_rest_12 : fetch 83 12 = some (.iconst 1, 13, 0, 0, 0, 0) := fr fe_X7_rest_1 7 rfl
theorem i_X7_rest_13 : fetch 83 13 = some (.bipush 99, 15, 0, 0, 0, 0) := fr fe_X7_rest_1 8 rfl
theorem i_X7_rest_15 : fetch 83 15 = some (.invokestatic 112, 18, 110, 0, 0, 554) := fr fe_X7_rest_1 9 rfl
theorem i_X7_rest_18 : fetch 83 18 = some (.ifCond .eq 20, 21, 0, 0, 0, 0) := fr fe_X7_rest_1 10 rfl
theorem i_X7_rest_21 : fetch 83 21 = some (.iload_n 2, 22, 0, 0, 0, 0) := fr fe_X7_rest_1 11 rfl
theorem i_X7_rest_22 : fetch 83 22 = some (.bipush 10, 24, 0, 0, 0, 0) := fr fe_X7_rest_1 12 rfl
theorem i_X7_rest_24 : fetch 83 24 = some (.irem, 25, 0, 0, 0, 0) := fr fe_X7_rest_1 13 rfl
theorem i_X7_rest_25 : fetch 83 25 = some (.ifCond .eq 13, 28, 0, 0, 0, 0) := fr fe_X7_rest_1 14 rfl
theorem i_X7_rest_28 : fetch 83 28 = some (.iload_n 3, 29, 0, 0, 0, 0) := fr fe_X7_rest_1 15 rfl
theorem i_X7_rest_29 : fetch 83 29 = some (.iconst 0, 30, 0, 0, 0, 0) := fr fe_X7_rest_1 16 rfl
theorem i_X7_rest_30 : fetch 83 30 = some (.bipush 100, 32, 0, 0, 0, 0) := fr fe_X7_rest_1 17 rfl
theorem i_X7_rest_32 : fetch 83 32 = some (.invokestatic 112, 35, 110, 0, 0, 554) := fr fe_X7_rest_1 18 rfl
theorem i_X7_rest_35 : fetch 83 35 = some (.ifCond .ne 6, 38, 0, 0, 0, 0) := fr fe_X7_rest_1 19 rfl
theorem i_X7_rest_38 : fetch 83 38 = some (.bipush (-7), 40, 0, 0, 0, 0) := fr fe_X7_rest_1 20 rfl
theorem i_X7_rest_40 : fetch 83 40 = some (.ireturn, 41, 0, 0, 0, 0) := fr fe_X7_rest_1 21 rfl
theorem i_X7_rest_41 : fetch 83 41 = some (.aload_n 0, 42, 0, 0, 0, 0) := fr fe_X7_rest_1 22 rfl
theorem i_X7_rest_42 : fetch 83 42 = some (.aload_n 0, 43, 0, 0, 0, 0) := fr fe_X7_rest_1 23 rfl
theorem i_X7_rest_43 : fetch 83 43 = some (.getfield 10, 46, 7, 0, 0, 503) := fr fe_X7_rest_1 24 rfl
theorem i_X7_rest_46 : fetch 83 46 = some (.iload_n 1, 47, 0, 0, 0, 0) := fr fe_X7_rest_2 0 rfl
theorem i_X7_rest_47 : fetch 83 47 = some (.iconst (-1), 48, 0, 0, 0, 0) := fr fe_X7_rest_2 1 rfl
theorem i_X7_rest_48 : fetch 83 48 = some (.iconst (-1), 49, 0, 0, 0, 0) := fr fe_X7_rest_2 2 rfl
theorem i_X7_rest_49 : fetch 83 49 = some (.invokevirtual 154, 52, 118, 0, 0, 624) := fr fe_X7_rest_2 3 rfl
theorem i_X7_rest_52 : fetch 83 52 = some (.iconst 0, 53, 0, 0, 0, 0) := fr fe_X7_rest_2 4 rfl
theorem i_X7_rest_53 : fetch 83 53 = some (.istore 4, 55, 0, 0, 0, 0) := fr fe_X7_rest_2 5 rfl
theorem i_X7_rest_55 : fetch 83 55 = some (.iload 4, 57, 0, 0, 0, 0) := fr fe_X7_rest_2 6 rfl
theorem i_X7_rest_57 : fetch 83 57 = some (.bipush 30, 59, 0, 0, 0, 0) := fr fe_X7_rest_2 7 rfl
theorem i_X7_rest_59 : fetch 83 59 = some (.if_icmp .gt 79, 62, 0, 0, 0, 0) := fr fe_X7_rest_2 8 rfl
theorem i_X7_rest_62 : fetch 83 62 = some (.aload_n 0, 63, 0, 0, 0, 0) := fr fe_X7_rest_2 9 rfl
theorem i_X7_rest_63 : fetch 83 63 = some (.getfield 86, 66, 7, 8, 0, 511) := fr fe_X7_rest_2 10 rfl
theorem i_X7_rest_66 : fetch 83 66 = some (.aload_n 0, 67, 0, 0, 0, 0) := fr fe_X7_rest_2 11 rfl
theorem i_X7_rest_67 : fetch 83 67 = some (.getfield 82, 70, 7, 7, 0, 510) := fr fe_X7_rest_2 12 rfl
theorem i_X7_rest_70 : fetch 83 70 = some (.invokevirtual 222, 73, 29, 0, 0, 790) := fr fe_X7_rest_2 13 rfl
theorem i_X7_rest_73 : fetch 83 73 = some (.aload_n 0, 74, 0, 0, 0, 0) := fr fe_X7_rest_2 14 rfl
theorem i_X7_rest_74 : fetch 83 74 = some (.getfield 86, 77, 7, 8, 0, 511) := fr fe_X7_rest_2 15 rfl
theorem i_X7_rest_77 : fetch 83 77 = some (.iload 4, 79, 0, 0, 0, 0) := fr fe_X7_rest_2 16 rfl
theorem i_X7_rest_79 : fetch 83 79 = some (.invokevirtual 225, 82, 31, 0, 0, 808) := fr fe_X7_rest_2 17 rfl
theorem i_X7_rest_82 : fetch 83 82 = some (.aload_n 0, 83, 0, 0, 0, 0) := fr fe_X7_rest_2 18 rfl
theorem i_X7_rest_83 : fetch 83 83 = some (.getfield 86, 86, 7, 8, 0, 511) := fr fe_X7_rest_2 19 rfl
theorem i_X7_rest_86 : fetch 83 86 = some (.aload_n 0, 87, 0, 0, 0, 0) := fr fe_X7_rest_2 20 rfl
theorem i_X7_rest_87 : fetch 83 87 = some (.getfield 86, 90, 7, 8, 0, 511) := fr fe_X7_rest_2 21 rfl
theorem i_X7_rest_90 : fetch 83 90 = some (.iload_n 2, 91, 0, 0, 0, 0) := fr fe_X7_rest_2 22 rfl
theorem i_X7_rest_91 : fetch 83 91 = some (.bipush 10, 93, 0, 0, 0, 0) := fr fe_X7_rest_2 23 rfl
theorem i_X7_rest_93 : fetch 83 93 = some (.idiv, 94, 0, 0, 0, 0) := fr fe_X7_rest_2 24 rfl
theorem i_X7_rest_94 : fetch 83 94 = some (.invokevirtual 228, 97, 45, 0, 0, 794) := fr fe_X7_rest_3 0 rfl
theorem i_X7_rest_97 : fetch 83 97 = some (.iload_n 2, 98, 0, 0, 0, 0) := fr fe_X7_rest_3 1 rfl
theorem i_X7_rest_98 : fetch 83 98 = some (.bipush 10, 100, 0, 0, 0, 0) := fr fe_X7_rest_3 2 rfl
theorem i_X7_rest_100 : fetch 83 100 = some (.irem, 101, 0, 0, 0, 0) := fr fe_X7_rest_3 3 rfl
theorem i_X7_rest_101 : fetch 83 101 = some (.invokevirtual 232, 104, 32, 0, 0, 795) := fr fe_X7_rest_3 4 rfl
theorem i_X7_rest_104 : fetch 83 104 = some (.aload_n 0, 105, 0, 0, 0, 0) := fr fe_X7_rest_3 5 rfl
theorem i_X7_rest_105 : fetch 83 105 = some (.getfield 86, 108, 7, 8, 0, 511) := fr fe_X7_rest_3 6 rfl
theorem i_X7_rest_108 : fetch 83 108 = some (.getfield 197, 111, 3, 10, 0, 261) := fr fe_X7_rest_3 7 rfl
theorem i_X7_rest_111 : fetch 83 111 = some (.ldc2_w 210, 114, 0, 0, 100, 776) := fr fe_X7_rest_3 8 rfl
theorem i_X7_rest_114 : fetch 83 114 = some (.lmul, 115, 0, 0, 0, 0) := fr fe_X7_rest_3 9 rfl
theorem i_X7_rest_115 : fetch 83 115 = some (.aload_n 0, 116, 0, 0, 0, 0) := fr fe_X7_rest_3 10 rfl
theorem i_X7_rest_116 : fetch 83 116 = some (.getfield 82, 119, 7, 7, 0, 510) := fr fe_X7_rest_3 11 rfl
theorem i_X7_rest_119 : fetch 83 119 = some (.getfield 197, 122, 3, 10, 0, 261) := fr fe_X7_rest_3 12 rfl
theorem i_X7_rest_122 : fetch 83 122 = some (.iload_n 3, 123, 0, 0, 0, 0) := fr fe_X7_rest_3 13 rfl
theorem i_X7_rest_123 : fetch 83 123 = some (.i2l, 124, 0, 0, 0, 0) := fr fe_X7_rest_3 14 rfl
theorem i_X7_rest_124 : fetch 83 124 = some (.lmul, 125, 0, 0, 0, 0) := fr fe_X7_rest_3 15 rfl
theorem i_X7_rest_125 : fetch 83 125 = some (.lcmp, 126, 0, 0, 0, 0) := fr fe_X7_rest_3 16 rfl
theorem i_X7_rest_126 : fetch 83 126 = some (.ifCond .lt 6, 129, 0, 0, 0, 0) := fr fe_X7_rest_3 17 rfl
theorem i_X7_rest_129 : fetch 83 129 = some (.iload 4, 131, 0, 0, 0, 0) := fr fe_X7_rest_3 18 rfl
theorem i_X7_rest_131 : fetch 83 131 = some (.ireturn, 132, 0, 0, 0, 0) := fr fe_X7_rest_3 19 rfl
theorem i_X7_rest_132 : fetch 83 132 = some (.iinc 4 1, 135, 0, 0, 0, 0) := fr fe_X7_rest_3 20 rfl
theorem i_X7_rest_135 : fetch 83 135 = some (.goto (-80), 138, 0, 0, 0, 0) := fr fe_X7_rest_3 21 rfl
theorem i_X7_rest_138 : fetch 83 138 = some (.iconst (-1), 139, 0, 0, 0, 0) := fr fe_X7_rest_3 22 rfl
theorem i_X7_rest_139 : fetch 83 139 = some (.ireturn, 140, 0, 0, 0, 0) := fr fe_X7_rest_3 23 rfl
theorem i_X7_dust_0 : fetch 84 0 = some (.aload_n 0, 1, 0, 0, 0, 0) := fr fe_X7_dust_1 0 rfl
theorem i_X7_dust_1 : fetch 84 1 = some (.iload_n 1, 2, 0, 0, 0, 0) := fr fe_X7_dust_1 1 rfl
theorem i_X7_dust_2 : fetch 84 2 = some (.invokevirtual 151, 5, 113, 0, 0, 620) := fr fe_X7_dust_1 2 rfl
theorem i_X7_dust_5 : fetch 84 5 = some (.ifCond .ne 6, 8, 0, 0, 0, 0) := fr fe_X7_dust_1 3 rfl
theorem i_X7_dust_8 : fetch 84 8 = some (.bipush (-5), 10, 0, 0, 0, 0) := fr fe_X7_dust_1 4 rfl
theorem i_X7_dust_10 : fetch 84 10 = some (.ireturn, 11, 0, 0, 0, 0) := fr fe_X7_dust_1 5 rfl
theorem i_X7_dust_11 : fetch 84 11 = some (.iload_n 2, 12, 0, 0, 0, 0) := fr fe_X7_dust_1 6 rfl
theorem i_X7_dust_12 : fetch 84 12 = some (.iconst 0, 13, 0, 0, 0, 0) := fr fe_X7_dust_1 7 rfl
theorem i_X7_dust_13 : fetch 84 13 = some (.bipush 100, 15, 0, 0, 0, 0) := fr fe_X7_dust_1 8 rfl
theorem i_X7_dust_15 : fetch 84 15 = some (.invokestatic 112, 18, 110, 0, 0, 554) := fr fe_X7_dust_1 9 rfl
theorem i_X7_dust_18 : fetch 84 18 = some (.ifCond .ne 6, 21, 0, 0, 0, 0) := fr fe_X7_dust_1 10 rfl
theorem i_X7_dust_21 : fetch 84 21 = some (.bipush (-7), 23, 0, 0, 0, 0) := fr fe_X7_dust_1 11 rfl
theorem i_X7_dust_23 : fetch 84 23 = some (.ireturn, 24, 0, 0, 0, 0) := fr fe_X7_dust_1 12 rfl
theorem i_X7_dust_24 : fetch 84 24 = some (.aload_n 0, 25, 0, 0, 0, 0) := fr fe_X7_dust_1 13 rfl
theorem i_X7_dust_25 : fetch 84 25 = some (.aload_n 0, 26, 0, 0, 0, 0) := fr fe_X7_dust_1 14 rfl
theorem i_X7_dust_26 : fetch 84 26 = some (.getfield 10, 29, 7, 0, 0, 503) := fr fe_X7_dust_1 15 rfl
theorem i_X7_dust_29 : fetch 84 29 = some (.iload_n 1, 30, 0, 0, 0, 0) := fr fe_X7_dust_1 16 rfl
theorem i_X7_dust_30 : fetch 84 30 = some (.iconst (-1), 31, 0, 0, 0, 0) := fr fe_X7_dust_1 17 rfl
theorem i_X7_dust_31 : fetch 84 31 = some (.iconst (-1), 32, 0, 0, 0, 0) := fr fe_X7_dust_1 18 rfl
theorem i_X7_dust_32 : fetch 84 32 = some (.invokevirtual 154, 35, 118, 0, 0, 624) := fr fe_X7_dust_1 19 rfl
theorem i_X7_dust_35 : fetch 84 35 = some (.iconst 0, 36, 0, 0, 0, 0) := fr fe_X7_dust_1 20 rfl
theorem i_X7_dust_36 : fetch 84 36 = some (.istore_n 3, 37, 0, 0, 0, 0) := fr fe_X7_dust_1 21 rfl
theorem i_X7_dust_37 : fetch 84 37 = some (.iload_n 3, 38, 0, 0, 0, 0) := fr fe_X7_dust_1 22 rfl
theorem i_X7_dust_38 : fetch 84 38 = some (.bipush 99, 40, 0, 0, 0, 0) := fr fe_X7_dust_1 23 rfl
theorem i_X7_dust_40 : fetch 84 40 = some (.if_icmp .gt 70, 43, 0, 0, 0, 0) := fr fe_X7_dust_1 24 rfl
theorem i_X7_dust_43 : fetch 84 43 = some (.aload_n 0, 44, 0, 0, 0, 0) := fr fe_X7_dust_2 0 rfl
theorem i_X7_dust_44 : fetch 84 44 = some (.getfield 86, 47, 7, 8, 0, 511) := fr fe_X7_dust_2 1 rfl
theorem i_X7_dust_47 : fetch 84 47 = some (.aload_n 0, 48, 0, 0, 0, 0) := fr fe_X7_dust_2 2 rfl
theorem i_X7_dust_48 : fetch 84 48 = some (.getfield 82, 51, 7, 7, 0, 510) := fr fe_X7_dust_2 3 rfl
theorem i_X7_dust_51 : fetch 84 51 = some (.invokevirtual 222, 54, 29, 0, 0, 790) := fr fe_X7_dust_2 4 rfl
theorem i_X7_dust_54 : fetch 84 54 = some (.aload_n 0, 55, 0, 0, 0, 0) := fr fe_X7_dust_2 5 rfl
theorem i_X7_dust_55 : fetch 84 55 = some (.getfield 86, 58, 7, 8, 0, 511) := fr fe_X7_dust_2 6 rfl
theorem i_X7_dust_58 : fetch 84 58 = some (.iload_n 3, 59, 0, 0, 0, 0) := fr fe_X7_dust_2 7 rfl
theorem i_X7_dust_59 : fetch 84 59 = some (.invokevirtual 236, 62, 37, 0, 0, 813) := fr fe_X7_dust_2 8 rfl
theorem i_X7_dust_62 : fetch 84 62 = some (.aload_n 0, 63, 0, 0, 0, 0) := fr fe_X7_dust_2 9 rfl
theorem i_X7_dust_63 : fetch 84 63 = some (.getfield 86, 66, 7, 8, 0, 511) := fr fe_X7_dust_2 10 rfl
theorem i_X7_dust_66 : fetch 84 66 = some (.invokevirtual 239, 69, 35, 0, 0, 814) := fr fe_X7_dust_2 11 rfl
theorem i_X7_dust_69 : fetch 84 69 = some (.aload_n 0, 70, 0, 0, 0, 0) := fr fe_X7_dust_2 12 rfl
theorem i_X7_dust_70 : fetch 84 70 = some (.getfield 82, 73, 7, 7, 0, 510) := fr fe_X7_dust_2 13 rfl
theorem i_X7_dust_73 : fetch 84 73 = some (.getfield 201, 76, 3, 11, 0, 263) := fr fe_X7_dust_2 14 rfl
theorem i_X7_dust_76 : fetch 84 76 = some (.aload_n 0, 77, 0, 0, 0, 0) := fr fe_X7_dust_2 15 rfl
theorem i_X7_dust_77 : fetch 84 77 = some (.getfield 86, 80, 7, 8, 0, 511) := fr fe_X7_dust_2 16 rfl
theorem i_X7_dust_80 : fetch 84 80 = some (.getfield 201, 83, 3, 11, 0, 263) := fr fe_X7_dust_2 17 rfl
theorem i_X7_dust_83 : fetch 84 83 = some (.lsub, 84, 0, 0, 0, 0) := fr fe_X7_dust_2 18 rfl
theorem i_X7_dust_84 : fetch 84 84 = some (.ldc2_w 210, 87, 0, 0, 100, 776) := fr fe_X7_dust_2 19 rfl
theorem i_X7_dust_87 : fetch 84 87 = some (.lmul, 88, 0, 0, 0, 0) := fr fe_X7_dust_2 20 rfl
theorem i_X7_dust_88 : fetch 84 88 = some (.aload_n 0, 89, 0, 0, 0, 0) := fr fe_X7_dust_2 21 rfl
theorem i_X7_dust_89 : fetch 84 89 = some (.getfield 82, 92, 7, 7, 0, 510) := fr fe_X7_dust_2 22 rfl
theorem i_X7_dust_92 : fetch 84 92 = some (.getfield 201, 95, 3, 11, 0, 263) := fr fe_X7_dust_2 23 rfl
theorem i_X7_dust_95 : fetch 84 95 = some (.iload_n 2, 96, 0, 0, 0, 0) := fr fe_X7_dust_2 24 rfl
theorem i_X7_dust_96 : fetch 84 96 = some (.i2l, 97, 0, 0, 0, 0) := fr fe_X7_dust_3 0 rfl
theorem i_X7_dust_97 : fetch 84 97 = some (.lmul, 98, 0, 0, 0, 0) := fr fe_X7_dust_3 1 rfl
theorem i_X7_dust_98 : fetch 84 98 = some (.lcmp, 99, 0, 0, 0, 0) := fr fe_X7_dust_3 2 rfl
theorem i_X7_dust_99 : fetch 84 99 = some (.ifCond .gt 5, 102, 0, 0, 0, 0) := fr fe_X7_dust_3 3 rfl
theorem i_X7_dust_102 : fetch 84 102 = some (.iload_n 3, 103, 0, 0, 0, 0) := fr fe_X7_dust_3 4 rfl
theorem i_X7_dust_103 : fetch 84 103 = some (.ireturn, 104, 0, 0, 0, 0) := fr fe_X7_dust_3 5 rfl
theorem i_X7_dust_104 : fetch 84 104 = some (.iinc 3 1, 107, 0, 0, 0, 0) := fr fe_X7_dust_3 6 rfl
theorem i_X7_dust_107 : fetch 84 107 = some (.goto (-70), 110, 0, 0, 0, 0) := fr fe_X7_dust_3 7 rfl
theorem i_X7_dust_110 : fetch 84 110 = some (.iconst (-1), 111, 0, 0, 0, 0) := fr fe_X7_dust_3 8 rfl
theorem i_X7_dust_111 : fetch 84 111 = some (.ireturn, 112, 0, 0, 0, 0) := fr fe_X7_dust_3 9 rfl
theorem i_X7_doublings_0 : fetch 85 0 = some (.aload_n 0, 1, 0, 0, 0, 0) := fr fe_X7_doublings_1 0 rfl
theorem i_X7_doublings_1 : fetch 85 1 = some (.iload_n 1, 2, 0, 0, 0, 0) := fr fe_X7_doublings_1 1 rfl
theorem i_X7_doublings_2 : fetch 85 2 = some (.invokevirtual 151, 5, 113, 0, 0, 620) := fr fe_X7_doublings_1 2 rfl
theorem i_X7_doublings_5 : fetch 85 5 = some (.ifCond .ne 6, 8, 0, 0, 0, 0) := fr fe_X7_doublings_1 3 rfl
theorem i_X7_doublings_8 : fetch 85 8 = some (.bipush (-5), 10, 0, 0, 0, 0) := fr fe_X7_doublings_1 4 rfl
theorem i_X7_doublings_10 : fetch 85 10 = some (.ireturn, 11, 0, 0, 0, 0) := fr fe_X7_doublings_1 5 rfl
theorem i_X7_doublings_11 : fetch 85 11 = some (.iload_n 2, 12, 0, 0, 0, 0) := fr fe_X7_doublings_1 6 rfl
theorem i_X7_doublings_12 : fetch 85 12 = some (.iconst 1, 13, 0, 0, 0, 0) := fr fe_X7_doublings_1 7 rfl
theorem i_X7_doublings_13 : fetch 85 13 = some (.bipush 9, 15, 0, 0, 0, 0) := fr fe_X7_doublings_1 8 rfl
theorem i_X7_doublings_15 : fetch 85 15 = some (.invokestatic 112, 18, 110, 0, 0, 554) := fr fe_X7_doublings_1 9 rfl
theorem i_X7_doublings_18 : fetch 85 18 = some (.ifCond .eq 14, 21, 0, 0, 0, 0) := fr fe_X7_doublings_1 10 rfl
theorem i_X7_doublings_21 : fetch 85 21 = some (.iload_n 3, 22, 0, 0, 0, 0) := fr fe_X7_doublings_1 11 rfl
theorem i_X7_doublings_22 : fetch 85 22 = some (.iconst 1, 23, 0, 0, 0, 0) := fr fe_X7_doublings_1 12 rfl
theorem i_X7_doublings_23 : fetch 85 23 = some (.sipush 9999, 26, 0, 0, 0, 0) := fr fe_X7_doublings_1 13 rfl
theorem i_X7_doublings_26 : fetch 85 26 = some (.invokestatic 112, 29, 110, 0, 0, 554) := fr fe_X7_doublings_1 14 rfl
theorem i_X7_doublings_29 : fetch 85 29 = some (.ifCond .ne 6, 32, 0, 0, 0, 0) := fr fe_X7_doublings_1 15 rfl
theorem i_X7_doublings_32 : fetch 85 32 = some (.bipush (-7), 34, 0, 0, 0, 0) := fr fe_X7_doublings_1 16 rfl
theorem i_X7_doublings_34 : fetch 85 34 = some (.ireturn, 35, 0, 0, 0, 0) := fr fe_X7_doublings_1 17 rfl
theorem i_X7_doublings_35 : fetch 85 35 = some (.aload_n 0, 36, 0, 0, 0, 0) := fr fe_X7_doublings_1 18 rfl
theorem i_X7_doublings_36 : fetch 85 36 = some (.aload_n 0, 37, 0, 0, 0, 0) := fr fe_X7_doublings_1 19 rfl
theorem i_X7_doublings_37 : fetch 85 37 = some (.getfield 10, 40, 7, 0, 0, 503) := fr fe_X7_doublings_1 20 rfl
theorem i_X7_doublings_40 : fetch 85 40 = some (.iload_n 1, 41, 0, 0, 0, 0) := fr fe_X7_doublings_1 21 rfl
theorem i_X7_doublings_41 : fetch 85 41 = some (.iconst (-1), 42, 0, 0, 0, 0) := fr fe_X7_doublings_1 22 rfl
theorem i_X7_doublings_42 : fetch 85 42 = some (.iconst (-1), 43, 0, 0, 0, 0) := fr fe_X7_doublings_1 23 rfl
theorem i_X7_doublings_43 : fetch 85 43 = some (.invokevirtual 154, 46, 118, 0, 0, 624) := fr fe_X7_doublings_1 24 rfl
theorem i_X7_doublings_46 : fetch 85 46 = some (.iconst 0, 47, 0, 0, 0, 0) := fr fe_X7_doublings_2 0 rfl
theorem i_X7_doublings_47 : fetch 85 47 = some (.istore 4, 49, 0, 0, 0, 0) := fr fe_X7_doublings_2 1 rfl
theorem i_X7_doublings_49 : fetch 85 49 = some (.iload 4, 51, 0, 0, 0, 0) := fr fe_X7_doublings_2 2 rfl
theorem i_X7_doublings_51 : fetch 85 51 = some (.bipush 20, 53, 0, 0, 0, 0) := fr fe_X7_doublings_2 3 rfl
theorem i_X7_doublings_53 : fetch 85 53 = some (.if_icmp .ge 52, 56, 0, 0, 0, 0) := fr fe_X7_doublings_2 4 rfl
theorem i_X7_doublings_56 : fetch 85 56 = some (.aload_n 0, 57, 0, 0, 0, 0) := fr fe_X7_doublings_2 5 rfl
theorem i_X7_doublings_57 : fetch 85 57 = some (.getfield 82, 60, 7, 7, 0, 510) := fr fe_X7_doublings_2 6 rfl
theorem i_X7_doublings_60 : fetch 85 60 = some (.aload_n 0, 61, 0, 0, 0, 0) := fr fe_X7_doublings_2 7 rfl
theorem i_X7_doublings_61 : fetch 85 61 = some (.getfield 82, 64, 7, 7, 0, 510) := fr fe_X7_doublings_2 8 rfl
theorem i_X7_doublings_64 : fetch 85 64 = some (.invokevirtual 182, 67, 44, 0, 0, 758) := fr fe_X7_doublings_2 9 rfl
theorem i_X7_doublings_67 : fetch 85 67 = some (.iload_n 2, 68, 0, 0, 0, 0) := fr fe_X7_doublings_2 10 rfl
theorem i_X7_doublings_68 : fetch 85 68 = some (.invokevirtual 232, 71, 32, 0, 0, 795) := fr fe_X7_doublings_2 11 rfl
theorem i_X7_doublings_71 : fetch 85 71 = some (.aload_n 0, 72, 0, 0, 0, 0) := fr fe_X7_doublings_2 12 rfl
theorem i_X7_doublings_72 : fetch 85 72 = some (.getfield 82, 75, 7, 7, 0, 510) := fr fe_X7_doublings_2 13 rfl
theorem i_X7_doublings_75 : fetch 85 75 = some (.invokevirtual 239, 78, 35, 0, 0, 814) := fr fe_X7_doublings_2 14 rfl
theorem i_X7_doublings_78 : fetch 85 78 = some (.aload_n 0, 79, 0, 0, 0, 0) := fr fe_X7_doublings_2 15 rfl
theorem i_X7_doublings_79 : fetch 85 79 = some (.getfield 82, 82, 7, 7, 0, 510) := fr fe_X7_doublings_2 16 rfl
theorem i_X7_doublings_82 : fetch 85 82 = some (.aload_n 0, 83, 0, 0, 0, 0) := fr fe_X7_doublings_2 17 rfl
theorem i_X7_doublings_83 : fetch 85 83 = some (.getfield 82, 86, 7, 7, 0, 510) := fr fe_X7_doublings_2 18 rfl
theorem i_X7_doublings_86 : fetch 85 86 = some (.invokevirtual 170, 89, 40, 0, 0, 743) := fr fe_X7_doublings_2 19 rfl
theorem i_X7_doublings_89 : fetch 85 89 = some (.invokevirtual 158, 92, 39, 0, 0, 736) := fr fe_X7_doublings_2 20 rfl
theorem i_X7_doublings_92 : fetch 85 92 = some (.iload_n 3, 93, 0, 0, 0, 0) := fr fe_X7_doublings_2 21 rfl
theorem i_X7_doublings_93 : fetch 85 93 = some (.if_icmp .ge 6, 96, 0, 0, 0, 0) := fr fe_X7_doublings_2 22 rfl
theorem i_X7_doublings_96 : fetch 85 96 = some (.iload 4, 98, 0, 0, 0, 0) := fr fe_X7_doublings_2 23 rfl
theorem i_X7_doublings_98 : fetch 85 98 = some (.ireturn, 99, 0, 0, 0, 0) := fr fe_X7_doublings_2 24 rfl
theorem i_X7_doublings_99 : fetch 85 99 = some (.iinc 4 1, 102, 0, 0, 0, 0) := fr fe_X7_doublings_3 0 rfl
theorem i_X7_doublings_102 : fetch 85 102 = some (.goto (-53), 105, 0, 0, 0, 0) := fr fe_X7_doublings_3 1 rfl
theorem i_X7_doublings_105 : fetch 85 105 = some (.bipush 20, 107, 0, 0, 0, 0) := fr fe_X7_doublings_3 2 rfl
theorem i_X7_doublings_107 : fetch 85 107 = some (.ireturn, 108, 0, 0, 0, 0) := fr fe_X7_doublings_3 3 rfl
theorem i_X7_isSheet_0 : fetch 114 0 = some (.iload_n 0, 1, 0, 0, 0, 0) := fr fe_X7_isSheet 0 rfl
theorem i_X7_isSheet_1 : fetch 114 1 = some (.iconst 0, 2, 0, 0, 0, 0) := fr fe_X7_isSheet 1 rfl
theorem i_X7_isSheet_2 : fetch 114 2 = some (.iconst 3, 3, 0, 0, 0, 0) := fr fe_X7_isSheet 2 rfl
theorem i_X7_isSheet_3 : fetch 114 3 = some (.invokestatic 112, 6, 110, 0, 0, 554) := fr fe_X7_isSheet 3 rfl
theorem i_X7_isSheet_6 : fetch 114 6 = some (.ireturn, 7, 0, 0, 0, 0) := fr fe_X7_isSheet 4 rfl
theorem i_X7_refusalOfTest_0 : fetch 117 0 = some (.aload_n 0, 1, 0, 0, 0, 0) := fr fe_X7_refusalOfTest_1 0 rfl
theorem i_X7_refusalOfTest_1 : fetch 117 1 = some (.iload_n 1, 2, 0, 0, 0, 0) := fr fe_X7_refusalOfTest_1 1 rfl
theorem i_X7_refusalOfTest_2 : fetch 117 2 = some (.invokevirtual 151, 5, 113, 0, 0, 620) := fr fe_X7_refusalOfTest_1 2 rfl
theorem i_X7_refusalOfTest_5 : fetch 117 5 = some (.ifCond .ne 6, 8, 0, 0, 0, 0) := fr fe_X7_refusalOfTest_1 3 rfl
theorem i_X7_refusalOfTest_8 : fetch 117 8 = some (.bipush (-5), 10, 0, 0, 0, 0) := fr fe_X7_refusalOfTest_1 4 rfl
theorem i_X7_refusalOfTest_10 : fetch 117 10 = some (.ireturn, 11, 0, 0, 0, 0) := fr fe_X7_refusalOfTest_1 5 rfl
theorem i_X7_refusalOfTest_11 : fetch 117 11 = some (.iload_n 2, 12, 0, 0, 0, 0) := fr fe_X7_refusalOfTest_1 6 rfl
theorem i_X7_refusalOfTest_12 : fetch 117 12 = some (.invokestatic 250, 15, 114, 0, 0, 843) := fr fe_X7_refusalOfTest_1 7 rfl
theorem i_X7_refusalOfTest_15 : fetch 117 15 = some (.ifCond .ne 6, 18, 0, 0, 0, 0) := fr fe_X7_refusalOfTest_1 8 rfl
theorem i_X7_refusalOfTest_18 : fetch 117 18 = some (.bipush (-2), 20, 0, 0, 0, 0) := fr fe_X7_refusalOfTest_1 9 rfl
theorem i_X7_refusalOfTest_20 : fetch 117 20 = some (.ireturn, 21, 0, 0, 0, 0) := fr fe_X7_refusalOfTest_1 10 rfl
theorem i_X7_refusalOfTest_21 : fetch 117 21 = some (.aload_n 0, 22, 0, 0, 0, 0) := fr fe_X7_refusalOfTest_1 11 rfl
theorem i_X7_refusalOfTest_22 : fetch 117 22 = some (.getfield 43, 25, 7, 9, 0, 512) := fr fe_X7_refusalOfTest_1 12 rfl
theorem i_X7_refusalOfTest_25 : fetch 117 25 = some (.iload_n 2, 26, 0, 0, 0, 0) := fr fe_X7_refusalOfTest_1 13 rfl
theorem i_X7_refusalOfTest_26 : fetch 117 26 = some (.aaload, 27, 0, 0, 0, 0) := fr fe_X7_refusalOfTest_1 14 rfl
theorem i_X7_refusalOfTest_27 : fetch 117 27 = some (.getfield 302, 30, 4, 1, 0, 196) := fr fe_X7_refusalOfTest_1 15 rfl
theorem i_X7_refusalOfTest_30 : fetch 117 30 = some (.iconst (-1), 31, 0, 0, 0, 0) := fr fe_X7_refusalOfTest_1 16 rfl
theorem i_X7_refusalOfTest_31 : fetch 117 31 = some (.if_icmp .ne 6, 34, 0, 0, 0, 0) := fr fe_X7_refusalOfTest_1 17 rfl
theorem i_X7_refusalOfTest_34 : fetch 117 34 = some (.bipush (-11), 36, 0, 0, 0, 0) := fr fe_X7_refusalOfTest_1 18 rfl
theorem i_X7_refusalOfTest_36 : fetch 117 36 = some (.ireturn, 37, 0, 0, 0, 0) := fr fe_X7_refusalOfTest_1 19 rfl
theorem i_X7_refusalOfTest_37 : fetch 117 37 = some (.aload_n 0, 38, 0, 0, 0, 0) := fr fe_X7_refusalOfTest_1 20 rfl
theorem i_X7_refusalOfTest_38 : fetch 117 38 = some (.getfield 43, 41, 7, 9, 0, 512) := fr fe_X7_refusalOfTest_1 21 rfl
theorem i_X7_refusalOfTest_41 : fetch 117 41 = some (.iload_n 2, 42, 0, 0, 0, 0) := fr fe_X7_refusalOfTest_1 22 rfl
theorem i_X7_refusalOfTest_42 : fetch 117 42 = some (.aaload, 43, 0, 0, 0, 0) := fr fe_X7_refusalOfTest_1 23 rfl
theorem i_X7_refusalOfTest_43 : fetch 117 43 = some (.getfield 324, 46, 4, 2, 0, 198) := fr fe_X7_refusalOfTest_1 24 rfl
theorem i_X7_refusalOfTest_46 : fetch 117 46 = some (.bipush 12, 48, 0, 0, 0, 0) := fr fe_X7_refusalOfTest_2 0 rfl
theorem i_X7_refusalOfTest_48 : fetch 117 48 = some (.if_icmp .ne 7, 51, 0, 0, 0, 0) := fr fe_X7_refusalOfTest_2 1 rfl
theorem i_X7_refusalOfTest_51 : fetch 117 51 = some (.iconst 0, 52, 0, 0, 0, 0) := fr fe_X7_refusalOfTest_2 2 rfl
theorem i_X7_refusalOfTest_52 : fetch 117 52 = some (.goto 5, 55, 0, 0, 0, 0) := fr fe_X7_refusalOfTest_2 3 rfl
theorem i_X7_refusalOfTest_55 : fetch 117 55 = some (.bipush (-2), 57, 0, 0, 0, 0) := fr fe_X7_refusalOfTest_2 4 rfl
theorem i_X7_refusalOfTest_57 : fetch 117 57 = some (.ireturn, 58, 0, 0, 0, 0) := fr fe_X7_refusalOfTest_2 5 rfl
theorem i_X7_judge_0 : fetch 86 0 = some (.aload_n 0, 1, 0, 0, 0, 0) := fr fe_X7_judge_1 0 rfl
theorem i_X7_judge_1 : fetch 86 1 = some (.iload_n 1, 2, 0, 0, 0, 0) := fr fe_X7_judge_1 1 rfl
theorem i_X7_judge_2 : fetch 86 2 = some (.iload_n 2, 3, 0, 0, 0, 0) := fr fe_X7_judge_1 2 rfl
theorem i_X7_judge_3 : fetch 86 3 = some (.invokevirtual 242, 6, 117, 0, 0, 839) := fr fe_X7_judge_1 3 rfl
theorem i_X7_judge_6 : fetch 86 6 = some (.istore 4, 8, 0, 0, 0, 0) := fr fe_X7_judge_1 4 rfl
theorem i_X7_judge_8 : fetch 86 8 = some (.iload 4, 10, 0, 0, 0, 0) := fr fe_X7_judge_1 5 rfl
theorem i_X7_judge_10 : fetch 86 10 = some (.ifCond .eq 6, 13, 0, 0, 0, 0) := fr fe_X7_judge_1 6 rfl
theorem i_X7_judge_13 : fetch 86 13 = some (.iload 4, 15, 0, 0, 0, 0) := fr fe_X7_judge_1 7 rfl
theorem i_X7_judge_15 : fetch 86 15 = some (.ireturn, 16, 0, 0, 0, 0) := fr fe_X7_judge_1 8 rfl
theorem i_X7_judge_16 : fetch 86 16 = some (.iload_n 3, 17, 0, 0, 0, 0) := fr fe_X7_judge_1 9 rfl
theorem i_X7_judge_17 : fetch 86 17 = some (.iconst 0, 18, 0, 0, 0, 0) := fr fe_X7_judge_1 10 rfl
theorem i_X7_judge_18 : fetch 86 18 = some (.sipush 9999, 21, 0, 0, 0, 0) := fr fe_X7_judge_1 11 rfl
theorem i_X7_judge_21 : fetch 86 21 = some (.invokestatic 112, 24, 110, 0, 0, 554) := fr fe_X7_judge_1 12 rfl
theorem i_X7_judge_24 : fetch 86 24 = some (.ifCond .ne 6, 27, 0, 0, 0, 0) := fr fe_X7_judge_1 13 rfl
theorem i_X7_judge_27 : fetch 86 27 = some (.bipush (-7), 29, 0, 0, 0, 0) := fr fe_X7_judge_1 14 rfl
theorem i_X7_judge_29 : fetch 86 29 = some (.ireturn, 30, 0, 0, 0, 0) := fr fe_X7_judge_1 15 rfl
theorem i_X7_judge_30 : fetch 86 30 = some (.aload_n 0, 31, 0, 0, 0, 0) := fr fe_X7_judge_1 16 rfl
theorem i_X7_judge_31 : fetch 86 31 = some (.aload_n 0, 32, 0, 0, 0, 0) := fr fe_X7_judge_1 17 rfl
theorem i_X7_judge_32 : fetch 86 32 = some (.getfield 10, 35, 7, 0, 0, 503) := fr fe_X7_judge_1 18 rfl
theorem i_X7_judge_35 : fetch 86 35 = some (.iload_n 1, 36, 0, 0, 0, 0) := fr fe_X7_judge_1 19 rfl
theorem i_X7_judge_36 : fetch 86 36 = some (.iconst (-1), 37, 0, 0, 0, 0) := fr fe_X7_judge_1 20 rfl
theorem i_X7_judge_37 : fetch 86 37 = some (.iconst (-1), 38, 0, 0, 0, 0) := fr fe_X7_judge_1 21 rfl
theorem i_X7_judge_38 : fetch 86 38 = some (.invokevirtual 154, 41, 118, 0, 0, 624) := fr fe_X7_judge_1 22 rfl
theorem i_X7_judge_41 : fetch 86 41 = some (.aload_n 0, 42, 0, 0, 0, 0) := fr fe_X7_judge_1 23 rfl
theorem i_X7_judge_42 : fetch 86 42 = some (.getfield 82, 45, 7, 7, 0, 510) := fr fe_X7_judge_1 24 rfl
theorem i_X7_judge_45 : fetch 86 45 = some (.aload_n 0, 46, 0, 0, 0, 0) := fr fe_X7_judge_2 0 rfl
theorem i_X7_judge_46 : fetch 86 46 = some (.getfield 43, 49, 7, 9, 0, 512) := fr fe_X7_judge_2 1 rfl
theorem i_X7_judge_49 : fetch 86 49 = some (.iload_n 2, 50, 0, 0, 0, 0) := fr fe_X7_judge_2 2 rfl
theorem i_X7_judge_50 : fetch 86 50 = some (.aaload, 51, 0, 0, 0, 0) := fr fe_X7_judge_2 3 rfl
theorem i_X7_judge_51 : fetch 86 51 = some (.iload_n 3, 52, 0, 0, 0, 0) := fr fe_X7_judge_2 4 rfl
theorem i_X7_judge_52 : fetch 86 52 = some (.invokevirtual 246, 55, 48, 0, 0, 846) := fr fe_X7_judge_2 5 rfl
theorem i_X7_judge_55 : fetch 86 55 = some (.ireturn, 56, 0, 0, 0, 0) := fr fe_X7_judge_2 6 rfl
theorem i_X7_film_0 : fetch 87 0 = some (.aload_n 0, 1, 0, 0, 0, 0) := fr fe_X7_film_1 0 rfl
theorem i_X7_film_1 : fetch 87 1 = some (.iload_n 1, 2, 0, 0, 0, 0) := fr fe_X7_film_1 1 rfl
theorem i_X7_film_2 : fetch 87 2 = some (.invokevirtual 151, 5, 113, 0, 0, 620) := fr fe_X7_film_1 2 rfl
theorem i_X7_film_5 : fetch 87 5 = some (.ifCond .ne 6, 8, 0, 0, 0, 0) := fr fe_X7_film_1 3 rfl
theorem i_X7_film_8 : fetch 87 8 = some (.bipush (-5), 10, 0, 0, 0, 0) := fr fe_X7_film_1 4 rfl
theorem i_X7_film_10 : fetch 87 10 = some (.ireturn, 11, 0, 0, 0, 0) := fr fe_X7_film_1 5 rfl
theorem i_X7_film_11 : fetch 87 11 = some (.iload_n 2, 12, 0, 0, 0, 0) := fr fe_X7_film_1 6 rfl
theorem i_X7_film_12 : fetch 87 12 = some (.invokestatic 250, 15, 114, 0, 0, 843) := fr fe_X7_film_1 7 rfl
theorem i_X7_film_15 : fetch 87 15 = some (.ifCond .ne 6, 18, 0, 0, 0, 0) := fr fe_X7_film_1 8 rfl
theorem i_X7_film_18 : fetch 87 18 = some (.bipush (-2), 20, 0, 0, 0, 0) := fr fe_X7_film_1 9 rfl
theorem i_X7_film_20 : fetch 87 20 = some (.ireturn, 21, 0, 0, 0, 0) := fr fe_X7_film_1 10 rfl
theorem i_X7_film_21 : fetch 87 21 = some (.aload_n 0, 22, 0, 0, 0, 0) := fr fe_X7_film_1 11 rfl
theorem i_X7_film_22 : fetch 87 22 = some (.aload_n 0, 23, 0, 0, 0, 0) := fr fe_X7_film_1 12 rfl
theorem i_X7_film_23 : fetch 87 23 = some (.getfield 10, 26, 7, 0, 0, 503) := fr fe_X7_film_1 13 rfl
theorem i_X7_film_26 : fetch 87 26 = some (.iload_n 1, 27, 0, 0, 0, 0) := fr fe_X7_film_1 14 rfl
theorem i_X7_film_27 : fetch 87 27 = some (.iconst (-1), 28, 0, 0, 0, 0) := fr fe_X7_film_1 15 rfl
theorem i_X7_film_28 : fetch 87 28 = some (.iconst (-1), 29, 0, 0, 0, 0) := fr fe_X7_film_1 16 rfl
theorem i_X7_film_29 : fetch 87 29 = some (.invokevirtual 154, 32, 118, 0, 0, 624) := fr fe_X7_film_1 17 rfl
theorem i_X7_film_32 : fetch 87 32 = some (.aload_n 0, 33, 0, 0, 0, 0) := fr fe_X7_film_1 18 rfl
theorem i_X7_film_33 : fetch 87 33 = some (.getfield 43, 36, 7, 9, 0, 512) := fr fe_X7_film_1 19 rfl
theorem i_X7_film_36 : fetch 87 36 = some (.iload_n 2, 37, 0, 0, 0, 0) := fr fe_X7_film_1 20 rfl
theorem i_X7_film_37 : fetch 87 37 = some (.aaload, 38, 0, 0, 0, 0) := fr fe_X7_film_1 21 rfl
theorem i_X7_film_38 : fetch 87 38 = some (.iconst 2, 39, 0, 0, 0, 0) := fr fe_X7_film_1 22 rfl
theorem i_X7_film_39 : fetch 87 39 = some (.bipush 12, 41, 0, 0, 0, 0) := fr fe_X7_film_1 23 rfl
theorem i_X7_film_41 : fetch 87 41 = some (.invokevirtual 253, 44, 51, 0, 0, 854) := fr fe_X7_film_1 24 rfl
theorem i_X7_film_44 : fetch 87 44 = some (.iconst 0, 45, 0, 0, 0, 0) := fr fe_X7_film_2 0 rfl
theorem i_X7_film_45 : fetch 87 45 = some (.istore_n 3, 46, 0, 0, 0, 0) := fr fe_X7_film_2 1 rfl
theorem i_X7_film_46 : fetch 87 46 = some (.iload_n 3, 47, 0, 0, 0, 0) := fr fe_X7_film_2 2 rfl
theorem i_X7_film_47 : fetch 87 47 = some (.bipush 12, 49, 0, 0, 0, 0) := fr fe_X7_film_2 3 rfl
theorem i_X7_film_49 : fetch 87 49 = some (.if_icmp .ge 27, 52, 0, 0, 0, 0) := fr fe_X7_film_2 4 rfl
theorem i_X7_film_52 : fetch 87 52 = some (.aload_n 0, 53, 0, 0, 0, 0) := fr fe_X7_film_2 5 rfl
theorem i_X7_film_53 : fetch 87 53 = some (.getfield 43, 56, 7, 9, 0, 512) := fr fe_X7_film_2 6 rfl
theorem i_X7_film_56 : fetch 87 56 = some (.iload_n 2, 57, 0, 0, 0, 0) := fr fe_X7_film_2 7 rfl
theorem i_X7_film_57 : fetch 87 57 = some (.aaload, 58, 0, 0, 0, 0) := fr fe_X7_film_2 8 rfl
theorem i_X7_film_58 : fetch 87 58 = some (.iload_n 3, 59, 0, 0, 0, 0) := fr fe_X7_film_2 9 rfl
theorem i_X7_film_59 : fetch 87 59 = some (.aload_n 0, 60, 0, 0, 0, 0) := fr fe_X7_film_2 10 rfl
theorem i_X7_film_60 : fetch 87 60 = some (.getfield 82, 63, 7, 7, 0, 510) := fr fe_X7_film_2 11 rfl
theorem i_X7_film_63 : fetch 87 63 = some (.iload_n 3, 64, 0, 0, 0, 0) := fr fe_X7_film_2 12 rfl
theorem i_X7_film_64 : fetch 87 64 = some (.invokevirtual 158, 67, 39, 0, 0, 736) := fr fe_X7_film_2 13 rfl
theorem i_X7_film_67 : fetch 87 67 = some (.invokevirtual 255, 70, 53, 0, 0, 860) := fr fe_X7_film_2 14 rfl
theorem i_X7_film_70 : fetch 87 70 = some (.iinc 3 1, 73, 0, 0, 0, 0) := fr fe_X7_film_2 15 rfl
theorem i_X7_film_73 : fetch 87 73 = some (.goto (-27), 76, 0, 0, 0, 0) := fr fe_X7_film_2 16 rfl
theorem i_X7_film_76 : fetch 87 76 = some (.bipush 12, 78, 0, 0, 0, 0) := fr fe_X7_film_2 17 rfl
theorem i_X7_film_78 : fetch 87 78 = some (.ireturn, 79, 0, 0, 0, 0) := fr fe_X7_film_2 18 rfl
theorem i_X7_serves_0 : fetch 88 0 = some (.aload_n 0, 1, 0, 0, 0, 0) := fr fe_X7_serves_1 0 rfl
theorem i_X7_serves_1 : fetch 88 1 = some (.iload_n 1, 2, 0, 0, 0, 0) := fr fe_X7_serves_1 1 rfl
theorem i_X7_serves_2 : fetch 88 2 = some (.iload_n 2, 3, 0, 0, 0, 0) := fr fe_X7_serves_1 2 rfl
theorem i_X7_serves_3 : fetch 88 3 = some (.invokevirtual 242, 6, 117, 0, 0, 839) := fr fe_X7_serves_1 3 rfl
theorem i_X7_serves_6 : fetch 88 6 = some (.istore 4, 8, 0, 0, 0, 0) := fr fe_X7_serves_1 4 rfl
theorem i_X7_serves_8 : fetch 88 8 = some (.iload 4, 10, 0, 0, 0, 0) := fr fe_X7_serves_1 5 rfl
theorem i_X7_serves_10 : fetch 88 10 = some (.ifCond .eq 6, 13, 0, 0, 0, 0) := fr fe_X7_serves_1 6 rfl
theorem i_X7_serves_13 : fetch 88 13 = some (.iload 4, 15, 0, 0, 0, 0) := fr fe_X7_serves_1 7 rfl
theorem i_X7_serves_15 : fetch 88 15 = some (.ireturn, 16, 0, 0, 0, 0) := fr fe_X7_serves_1 8 rfl
theorem i_X7_serves_16 : fetch 88 16 = some (.iload_n 3, 17, 0, 0, 0, 0) := fr fe_X7_serves_1 9 rfl
theorem i_X7_serves_17 : fetch 88 17 = some (.iconst 0, 18, 0, 0, 0, 0) := fr fe_X7_serves_1 10 rfl
theorem i_X7_serves_18 : fetch 88 18 = some (.iconst 2, 19, 0, 0, 0, 0) := fr fe_X7_serves_1 11 rfl
theorem i_X7_serves_19 : fetch 88 19 = some (.invokestatic 112, 22, 110, 0, 0, 554) := fr fe_X7_serves_1 12 rfl
theorem i_X7_serves_22 : fetch 88 22 = some (.ifCond .ne 6, 25, 0, 0, 0, 0) := fr fe_X7_serves_1 13 rfl
theorem i_X7_serves_25 : fetch 88 25 = some (.bipush (-7), 27, 0, 0, 0, 0) := fr fe_X7_serves_1 14 rfl
theorem i_X7_serves_27 : fetch 88 27 = some (.ireturn, 28, 0, 0, 0, 0) := fr fe_X7_serves_1 15 rfl
theorem i_X7_serves_28 : fetch 88 28 = some (.aload_n 0, 29, 0, 0, 0, 0) := fr fe_X7_serves_1 16 rfl
theorem i_X7_serves_29 : fetch 88 29 = some (.getfield 19, 32, 7, 2, 0, 505) := fr fe_X7_serves_1 17 rfl
theorem i_X7_serves_32 : fetch 88 32 = some (.aload_n 0, 33, 0, 0, 0, 0) := fr fe_X7_serves_1 18 rfl
theorem i_X7_serves_33 : fetch 88 33 = some (.getfield 10, 36, 7, 0, 0, 503) := fr fe_X7_serves_1 19 rfl
theorem i_X7_serves_36 : fetch 88 36 = some (.invokevirtual 258, 39, 2, 0, 0, 872) := fr fe_X7_serves_1 20 rfl
theorem i_X7_serves_39 : fetch 88 39 = some (.iconst 0, 40, 0, 0, 0, 0) := fr fe_X7_serves_1 21 rfl
theorem i_X7_serves_40 : fetch 88 40 = some (.istore 5, 42, 0, 0, 0, 0) := fr fe_X7_serves_1 22 rfl
theorem i_X7_serves_42 : fetch 88 42 = some (.iconst 0, 43, 0, 0, 0, 0) := fr fe_X7_serves_1 23 rfl
theorem i_X7_serves_43 : fetch 88 43 = some (.istore 6, 45, 0, 0, 0, 0) := fr fe_X7_serves_1 24 rfl
theorem i_X7_serves_45 : fetch 88 45 = some (.iload 6, 47, 0, 0, 0, 0) := fr fe_X7_serves_2 0 rfl
theorem i_X7_serves_47 : fetch 88 47 = some (.bipush 9, 49, 0, 0, 0, 0) := fr fe_X7_serves_2 1 rfl
theorem i_X7_serves_49 : fetch 88 49 = some (.if_icmp .gt 56, 52, 0, 0, 0, 0) := fr fe_X7_serves_2 2 rfl
theorem i_X7_serves_52 : fetch 88 52 = some (.aload_n 0, 53, 0, 0, 0, 0) := fr fe_X7_serves_2 3 rfl
theorem i_X7_serves_53 : fetch 88 53 = some (.getfield 19, 56, 7, 2, 0, 505) := fr fe_X7_serves_2 4 rfl
theorem i_X7_serves_56 : fetch 88 56 = some (.getfield 122, 59, 0, 2, 0, 103) := fr fe_X7_serves_2 5 rfl
theorem i_X7_serves_59 : fetch 88 59 = some (.iload_n 3, 60, 0, 0, 0, 0) := fr fe_X7_serves_2 6 rfl
theorem i_X7_serves_60 : fetch 88 60 = some (.iload 6, 62, 0, 0, 0, 0) := fr fe_X7_serves_2 7 rfl
theorem i_X7_serves_62 : fetch 88 62 = some (.iastore, 63, 0, 0, 0, 0) := fr fe_X7_serves_2 8 rfl
theorem i_X7_serves_63 : fetch 88 63 = some (.aload_n 0, 64, 0, 0, 0, 0) := fr fe_X7_serves_2 9 rfl
theorem i_X7_serves_64 : fetch 88 64 = some (.aload_n 0, 65, 0, 0, 0, 0) := fr fe_X7_serves_2 10 rfl
theorem i_X7_serves_65 : fetch 88 65 = some (.getfield 19, 68, 7, 2, 0, 505) := fr fe_X7_serves_2 11 rfl
theorem i_X7_serves_68 : fetch 88 68 = some (.iload_n 1, 69, 0, 0, 0, 0) := fr fe_X7_serves_2 12 rfl
theorem i_X7_serves_69 : fetch 88 69 = some (.iconst (-1), 70, 0, 0, 0, 0) := fr fe_X7_serves_2 13 rfl
theorem i_X7_serves_70 : fetch 88 70 = some (.iconst (-1), 71, 0, 0, 0, 0) := fr fe_X7_serves_2 14 rfl
theorem i_X7_serves_71 : fetch 88 71 = some (.invokevirtual 154, 74, 118, 0, 0, 624) := fr fe_X7_serves_2 15 rfl
theorem i_X7_serves_74 : fetch 88 74 = some (.aload_n 0, 75, 0, 0, 0, 0) := fr fe_X7_serves_2 16 rfl
theorem i_X7_serves_75 : fetch 88 75 = some (.getfield 82, 78, 7, 7, 0, 510) := fr fe_X7_serves_2 17 rfl
theorem i_X7_serves_78 : fetch 88 78 = some (.aload_n 0, 79, 0, 0, 0, 0) := fr fe_X7_serves_2 18 rfl
theorem i_X7_serves_79 : fetch 88 79 = some (.getfield 43, 82, 7, 9, 0, 512) := fr fe_X7_serves_2 19 rfl
theorem i_X7_serves_82 : fetch 88 82 = some (.iload_n 2, 83, 0, 0, 0, 0) := fr fe_X7_serves_2 20 rfl
theorem i_X7_serves_83 : fetch 88 83 = some (.aaload, 84, 0, 0, 0, 0) := fr fe_X7_serves_2 21 rfl
theorem i_X7_serves_84 : fetch 88 84 = some (.invokevirtual 261, 87, 49, 0, 0, 877) := fr fe_X7_serves_2 22 rfl
theorem i_X7_serves_87 : fetch 88 87 = some (.ifCond .eq 12, 90, 0, 0, 0, 0) := fr fe_X7_serves_2 23 rfl
theorem i_X7_serves_90 : fetch 88 90 = some (.iload 5, 92, 0, 0, 0, 0) := fr fe_X7_serves_2 24 rfl
theorem i_X7_serves_92 : fetch 88 92 = some (.iconst 1, 93, 0, 0, 0, 0) := fr fe_X7_serves_3 0 rfl
theorem i_X7_serves_93 : fetch 88 93 = some (.iload 6, 95, 0, 0, 0, 0) := fr fe_X7_serves_3 1 rfl
theorem i_X7_serves_95 : fetch 88 95 = some (.ishl, 96, 0, 0, 0, 0) := fr fe_X7_serves_3 2 rfl
theorem i_X7_serves_96 : fetch 88 96 = some (.ior, 97, 0, 0, 0, 0) := fr fe_X7_serves_3 3 rfl
theorem i_X7_serves_97 : fetch 88 97 = some (.istore 5, 99, 0, 0, 0, 0) := fr fe_X7_serves_3 4 rfl
theorem i_X7_serves_99 : fetch 88 99 = some (.iinc 6 1, 102, 0, 0, 0, 0) := fr fe_X7_serves_3 5 rfl
theorem i_X7_serves_102 : fetch 88 102 = some (.goto (-57), 105, 0, 0, 0, 0) := fr fe_X7_serves_3 6 rfl
theorem i_X7_serves_105 : fetch 88 105 = some (.iload 5, 107, 0, 0, 0, 0) := fr fe_X7_serves_3 7 rfl
theorem i_X7_serves_107 : fetch 88 107 = some (.ireturn, 108, 0, 0, 0, 0) := fr fe_X7_serves_3 8 rfl
theorem i_X7_which_0 : fetch 89 0 = some (.aload_n 0, 1, 0, 0, 0, 0) := fr fe_X7_which_1 0 rfl
theorem i_X7_which_1 : fetch 89 1 = some (.iload_n 1, 2, 0, 0, 0, 0) := fr fe_X7_which_1 1 rfl
theorem i_X7_which_2 : fetch 89 2 = some (.iload_n 2, 3, 0, 0, 0, 0) := fr fe_X7_which_1 2 rfl
theorem i_X7_which_3 : fetch 89 3 = some (.invokevirtual 242, 6, 117, 0, 0, 839) := fr fe_X7_which_1 3 rfl
theorem i_X7_which_6 : fetch 89 6 = some (.istore_n 3, 7, 0, 0, 0, 0) := fr fe_X7_which_1 4 rfl
theorem i_X7_which_7 : fetch 89 7 = some (.iload_n 3, 8, 0, 0, 0, 0) := fr fe_X7_which_1 5 rfl
theorem i_X7_which_8 : fetch 89 8 = some (.ifCond .eq 5, 11, 0, 0, 0, 0) := fr fe_X7_which_1 6 rfl
theorem i_X7_which_11 : fetch 89 11 = some (.iload_n 3, 12, 0, 0, 0, 0) := fr fe_X7_which_1 7 rfl
theorem i_X7_which_12 : fetch 89 12 = some (.ireturn, 13, 0, 0, 0, 0) := fr fe_X7_which_1 8 rfl
theorem i_X7_which_13 : fetch 89 13 = some (.aload_n 0, 14, 0, 0, 0, 0) := fr fe_X7_which_1 9 rfl
theorem i_X7_which_14 : fetch 89 14 = some (.getfield 19, 17, 7, 2, 0, 505) := fr fe_X7_which_1 10 rfl
theorem i_X7_which_17 : fetch 89 17 = some (.aload_n 0, 18, 0, 0, 0, 0) := fr fe_X7_which_1 11 rfl
theorem i_X7_which_18 : fetch 89 18 = some (.getfield 10, 21, 7, 0, 0, 503) := fr fe_X7_which_1 12 rfl
theorem i_X7_which_21 : fetch 89 21 = some (.invokevirtual 258, 24, 2, 0, 0, 872) := fr fe_X7_which_1 13 rfl
theorem i_X7_which_24 : fetch 89 24 = some (.iconst 0, 25, 0, 0, 0, 0) := fr fe_X7_which_1 14 rfl
theorem i_X7_which_25 : fetch 89 25 = some (.istore 4, 27, 0, 0, 0, 0) := fr fe_X7_which_1 15 rfl
theorem i_X7_which_27 : fetch 89 27 = some (.iconst 0, 28, 0, 0, 0, 0) := fr fe_X7_which_1 16 rfl
theorem i_X7_which_28 : fetch 89 28 = some (.istore 5, 30, 0, 0, 0, 0) := fr fe_X7_which_1 17 rfl
theorem i_X7_which_30 : fetch 89 30 = some (.iload 5, 32, 0, 0, 0, 0) := fr fe_X7_which_1 18 rfl
theorem i_X7_which_32 : fetch 89 32 = some (.aload_n 0, 33, 0, 0, 0, 0) := fr fe_X7_which_1 19 rfl
theorem i_X7_which_33 : fetch 89 33 = some (.getfield 58, 36, 7, 13, 0, 516) := fr fe_X7_which_1 20 rfl
theorem i_X7_which_36 : fetch 89 36 = some (.if_icmp .ge 61, 39, 0, 0, 0, 0) := fr fe_X7_which_1 21 rfl
theorem i_X7_which_39 : fetch 89 39 = some (.iload 5, 41, 0, 0, 0, 0) := fr fe_X7_which_1 22 rfl
theorem i_X7_which_41 : fetch 89 41 = some (.bipush 6, 43, 0, 0, 0, 0) := fr fe_X7_which_1 23 rfl
theorem i_X7_which_43 : fetch 89 43 = some (.if_icmp .ge 54, 46, 0, 0, 0, 0) := fr fe_X7_which_1 24 rfl
theorem i_X7_which_46 : fetch 89 46 = some (.aload_n 0, 47, 0, 0, 0, 0) := fr fe_X7_which_2 0 rfl
theorem i_X7_which_47 : fetch 89 47 = some (.getfield 19, 50, 7, 2, 0, 505) := fr fe_X7_which_2 1 rfl
theorem i_X7_which_50 : fetch 89 50 = some (.iload 5, 52, 0, 0, 0, 0) := fr fe_X7_which_2 2 rfl
theorem i_X7_which_52 : fetch 89 52 = some (.putfield 125, 55, 0, 3, 0, 105) := fr fe_X7_which_2 3 rfl
theorem i_X7_which_55 : fetch 89 55 = some (.aload_n 0, 56, 0, 0, 0, 0) := fr fe_X7_which_2 4 rfl
theorem i_X7_which_56 : fetch 89 56 = some (.aload_n 0, 57, 0, 0, 0, 0) := fr fe_X7_which_2 5 rfl
theorem i_X7_which_57 : fetch 89 57 = some (.getfield 19, 60, 7, 2, 0, 505) := fr fe_X7_which_2 6 rfl
theorem i_X7_which_60 : fetch 89 60 = some (.iload_n 1, 61, 0, 0, 0, 0) := fr fe_X7_which_2 7 rfl
theorem i_X7_which_61 : fetch 89 61 = some (.iconst (-1), 62, 0, 0, 0, 0) := fr fe_X7_which_2 8 rfl
theorem i_X7_which_62 : fetch 89 62 = some (.iconst (-1), 63, 0, 0, 0, 0) := fr fe_X7_which_2 9 rfl
theorem i_X7_which_63 : fetch 89 63 = some (.invokevirtual 154, 66, 118, 0, 0, 624) := fr fe_X7_which_2 10 rfl
theorem i_X7_which_66 : fetch 89 66 = some (.aload_n 0, 67, 0, 0, 0, 0) := fr fe_X7_which_2 11 rfl
theorem i_X7_which_67 : fetch 89 67 = some (.getfield 82, 70, 7, 7, 0, 510) := fr fe_X7_which_2 12 rfl
theorem i_X7_which_70 : fetch 89 70 = some (.aload_n 0, 71, 0, 0, 0, 0) := fr fe_X7_which_2 13 rfl
theorem i_X7_which_71 : fetch 89 71 = some (.getfield 43, 74, 7, 9, 0, 512) := fr fe_X7_which_2 14 rfl
theorem i_X7_which_74 : fetch 89 74 = some (.iload_n 2, 75, 0, 0, 0, 0) := fr fe_X7_which_2 15 rfl
theorem i_X7_which_75 : fetch 89 75 = some (.aaload, 76, 0, 0, 0, 0) := fr fe_X7_which_2 16 rfl
theorem i_X7_which_76 : fetch 89 76 = some (.invokevirtual 261, 79, 49, 0, 0, 877) := fr fe_X7_which_2 17 rfl
theorem i_X7_which_79 : fetch 89 79 = some (.ifCond .eq 12, 82, 0, 0, 0, 0) := fr fe_X7_which_2 18 rfl
theorem i_X7_which_82 : fetch 89 82 = some (.iload 4, 84, 0, 0, 0, 0) := fr fe_X7_which_2 19 rfl
theorem i_X7_which_84 : fetch 89 84 = some (.iconst 1, 85, 0, 0, 0, 0) := fr fe_X7_which_2 20 rfl
theorem i_X7_which_85 : fetch 89 85 = some (.iload 5, 87, 0, 0, 0, 0) := fr fe_X7_which_2 21 rfl
theorem i_X7_which_87 : fetch 89 87 = some (.ishl, 88, 0, 0, 0, 0) := fr fe_X7_which_2 22 rfl
theorem i_X7_which_88 : fetch 89 88 = some (.ior, 89, 0, 0, 0, 0) := fr fe_X7_which_2 23 rfl
theorem i_X7_which_89 : fetch 89 89 = some (.istore 4, 91, 0, 0, 0, 0) := fr fe_X7_which_2 24 rfl
theorem i_X7_which_91 : fetch 89 91 = some (.iinc 5 1, 94, 0, 0, 0, 0) := fr fe_X7_which_3 0 rfl
theorem i_X7_which_94 : fetch 89 94 = some (.goto (-64), 97, 0, 0, 0, 0) := fr fe_X7_which_3 1 rfl
theorem i_X7_which_97 : fetch 89 97 = some (.iload 4, 99, 0, 0, 0, 0) := fr fe_X7_which_3 2 rfl
theorem i_X7_which_99 : fetch 89 99 = some (.ireturn, 100, 0, 0, 0, 0) := fr fe_X7_which_3 3 rfl
