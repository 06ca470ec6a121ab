theorem i_X7_fault_0 : fetch 90 0 = some (.aload_n 0, 1, 0, 0, 0, 0) := fr fe_X7_fault_1 0 rfl
theorem i_X7_fault_1 : fetch 90 1 = some (.iload_n 1, 2, 0, 0, 0, 0) := fr fe_X7_fault_1 1 rfl
theorem i_X7_fault_2 : fetch 90 2 = some (.iload_n 2, 3, 0, 0, 0, 0) := fr fe_X7_fault_1 2 rfl
theorem i_X7_fault_3 : fetch 90 3 = some (.invokevirtual 242, 6, 117, 0, 0, 839) := fr fe_X7_fault_1 3 rfl
theorem i_X7_fault_6 : fetch 90 6 = some (.istore_n 3, 7, 0, 0, 0, 0) := fr fe_X7_fault_1 4 rfl
theorem i_X7_fault_7 : fetch 90 7 = some (.iload_n 3, 8, 0, 0, 0, 0) := fr fe_X7_fault_1 5 rfl
theorem i_X7_fault_8 : fetch 90 8 = some (.ifCond .eq 5, 11, 0, 0, 0, 0) := fr fe_X7_fault_1 6 rfl
theorem i_X7_fault_11 : fetch 90 11 = some (.iload_n 3, 12, 0, 0, 0, 0) := fr fe_X7_fault_1 7 rfl
theorem i_X7_fault_12 : fetch 90 12 = some (.ireturn, 13, 0, 0, 0, 0) := fr fe_X7_fault_1 8 rfl
theorem i_X7_fault_13 : fetch 90 13 = some (.iconst 0, 14, 0, 0, 0, 0) := fr fe_X7_fault_1 9 rfl
theorem i_X7_fault_14 : fetch 90 14 = some (.istore 4, 16, 0, 0, 0, 0) := fr fe_X7_fault_1 10 rfl
theorem i_X7_fault_16 : fetch 90 16 = some (.iload 4, 18, 0, 0, 0, 0) := fr fe_X7_fault_1 11 rfl
theorem i_X7_fault_18 : fetch 90 18 = some (.iload_n 1, 19, 0, 0, 0, 0) := fr fe_X7_fault_1 12 rfl
theorem i_X7_fault_19 : fetch 90 19 = some (.if_icmp .ge 40, 22, 0, 0, 0, 0) := fr fe_X7_fault_1 13 rfl
theorem i_X7_fault_22 : fetch 90 22 = some (.aload_n 0, 23, 0, 0, 0, 0) := fr fe_X7_fault_1 14 rfl
theorem i_X7_fault_23 : fetch 90 23 = some (.aload_n 0, 24, 0, 0, 0, 0) := fr fe_X7_fault_1 15 rfl
theorem i_X7_fault_24 : fetch 90 24 = some (.getfield 10, 27, 7, 0, 0, 503) := fr fe_X7_fault_1 16 rfl
theorem i_X7_fault_27 : fetch 90 27 = some (.iload_n 1, 28, 0, 0, 0, 0) := fr fe_X7_fault_1 17 rfl
theorem i_X7_fault_28 : fetch 90 28 = some (.iload 4, 30, 0, 0, 0, 0) := fr fe_X7_fault_1 18 rfl
theorem i_X7_fault_30 : fetch 90 30 = some (.iconst (-1), 31, 0, 0, 0, 0) := fr fe_X7_fault_1 19 rfl
theorem i_X7_fault_31 : fetch 90 31 = some (.invokevirtual 154, 34, 118, 0, 0, 624) := fr fe_X7_fault_1 20 rfl
theorem i_X7_fault_34 : fetch 90 34 = some (.aload_n 0, 35, 0, 0, 0, 0) := fr fe_X7_fault_1 21 rfl
theorem i_X7_fault_35 : fetch 90 35 = some (.getfield 82, 38, 7, 7, 0, 510) := fr fe_X7_fault_1 22 rfl
theorem i_X7_fault_38 : fetch 90 38 = some (.aload_n 0, 39, 0, 0, 0, 0) := fr fe_X7_fault_1 23 rfl
theorem i_X7_fault_39 : fetch 90 39 = some (.getfield 43, 42, 7, 9, 0, 512) := fr fe_X7_fault_1 24 rfl
theorem i_X7_fault_42 : fetch 90 42 = some (.iload_n 2, 43, 0, 0, 0, 0) := fr fe_X7_fault_2 0 rfl
theorem i_X7_fault_43 : fetch 90 43 = some (.aaload, 44, 0, 0, 0, 0) := fr fe_X7_fault_2 1 rfl
theorem i_X7_fault_44 : fetch 90 44 = some (.invokevirtual 261, 47, 49, 0, 0, 877) := fr fe_X7_fault_2 2 rfl
theorem i_X7_fault_47 : fetch 90 47 = some (.ifCond .eq 6, 50, 0, 0, 0, 0) := fr fe_X7_fault_2 3 rfl
theorem i_X7_fault_50 : fetch 90 50 = some (.iload 4, 52, 0, 0, 0, 0) := fr fe_X7_fault_2 4 rfl
theorem i_X7_fault_52 : fetch 90 52 = some (.ireturn, 53, 0, 0, 0, 0) := fr fe_X7_fault_2 5 rfl
theorem i_X7_fault_53 : fetch 90 53 = some (.iinc 4 1, 56, 0, 0, 0, 0) := fr fe_X7_fault_2 6 rfl
theorem i_X7_fault_56 : fetch 90 56 = some (.goto (-40), 59, 0, 0, 0, 0) := fr fe_X7_fault_2 7 rfl
theorem i_X7_fault_59 : fetch 90 59 = some (.iconst (-1), 60, 0, 0, 0, 0) := fr fe_X7_fault_2 8 rfl
theorem i_X7_fault_60 : fetch 90 60 = some (.ireturn, 61, 0, 0, 0, 0) := fr fe_X7_fault_2 9 rfl
theorem i_X7_uneven_0 : fetch 91 0 = some (.aload_n 0, 1, 0, 0, 0, 0) := fr fe_X7_uneven_1 0 rfl
theorem i_X7_uneven_1 : fetch 91 1 = some (.iload_n 1, 2, 0, 0, 0, 0) := fr fe_X7_uneven_1 1 rfl
theorem i_X7_uneven_2 : fetch 91 2 = some (.invokevirtual 151, 5, 113, 0, 0, 620) := fr fe_X7_uneven_1 2 rfl
theorem i_X7_uneven_5 : fetch 91 5 = some (.ifCond .ne 6, 8, 0, 0, 0, 0) := fr fe_X7_uneven_1 3 rfl
theorem i_X7_uneven_8 : fetch 91 8 = some (.bipush (-5), 10, 0, 0, 0, 0) := fr fe_X7_uneven_1 4 rfl
theorem i_X7_uneven_10 : fetch 91 10 = some (.ireturn, 11, 0, 0, 0, 0) := fr fe_X7_uneven_1 5 rfl
theorem i_X7_uneven_11 : fetch 91 11 = some (.iload_n 2, 12, 0, 0, 0, 0) := fr fe_X7_uneven_1 6 rfl
theorem i_X7_uneven_12 : fetch 91 12 = some (.iconst 0, 13, 0, 0, 0, 0) := fr fe_X7_uneven_1 7 rfl
theorem i_X7_uneven_13 : fetch 91 13 = some (.iconst 1, 14, 0, 0, 0, 0) := fr fe_X7_uneven_1 8 rfl
theorem i_X7_uneven_14 : fetch 91 14 = some (.invokestatic 112, 17, 110, 0, 0, 554) := fr fe_X7_uneven_1 9 rfl
theorem i_X7_uneven_17 : fetch 91 17 = some (.ifCond .ne 6, 20, 0, 0, 0, 0) := fr fe_X7_uneven_1 10 rfl
theorem i_X7_uneven_20 : fetch 91 20 = some (.bipush (-7), 22, 0, 0, 0, 0) := fr fe_X7_uneven_1 11 rfl
theorem i_X7_uneven_22 : fetch 91 22 = some (.ireturn, 23, 0, 0, 0, 0) := fr fe_X7_uneven_1 12 rfl
theorem i_X7_uneven_23 : fetch 91 23 = some (.aload_n 0, 24, 0, 0, 0, 0) := fr fe_X7_uneven_1 13 rfl
theorem i_X7_uneven_24 : fetch 91 24 = some (.aload_n 0, 25, 0, 0, 0, 0) := fr fe_X7_uneven_1 14 rfl
theorem i_X7_uneven_25 : fetch 91 25 = some (.getfield 10, 28, 7, 0, 0, 503) := fr fe_X7_uneven_1 15 rfl
theorem i_X7_uneven_28 : fetch 91 28 = some (.iload_n 1, 29, 0, 0, 0, 0) := fr fe_X7_uneven_1 16 rfl
theorem i_X7_uneven_29 : fetch 91 29 = some (.iconst (-1), 30, 0, 0, 0, 0) := fr fe_X7_uneven_1 17 rfl
theorem i_X7_uneven_30 : fetch 91 30 = some (.iconst (-1), 31, 0, 0, 0, 0) := fr fe_X7_uneven_1 18 rfl
theorem i_X7_uneven_31 : fetch 91 31 = some (.invokevirtual 154, 34, 118, 0, 0, 624) := fr fe_X7_uneven_1 19 rfl
theorem i_X7_uneven_34 : fetch 91 34 = some (.aload_n 0, 35, 0, 0, 0, 0) := fr fe_X7_uneven_1 20 rfl
theorem i_X7_uneven_35 : fetch 91 35 = some (.getfield 82, 38, 7, 7, 0, 510) := fr fe_X7_uneven_1 21 rfl
theorem i_X7_uneven_38 : fetch 91 38 = some (.invokevirtual 176, 41, 42, 0, 0, 752) := fr fe_X7_uneven_1 22 rfl
theorem i_X7_uneven_41 : fetch 91 41 = some (.istore_n 3, 42, 0, 0, 0, 0) := fr fe_X7_uneven_1 23 rfl
theorem i_X7_uneven_42 : fetch 91 42 = some (.iconst 0, 43, 0, 0, 0, 0) := fr fe_X7_uneven_1 24 rfl
theorem i_X7_uneven_43 : fetch 91 43 = some (.istore 4, 45, 0, 0, 0, 0) := fr fe_X7_uneven_2 0 rfl
theorem i_X7_uneven_45 : fetch 91 45 = some (.iconst 0, 46, 0, 0, 0, 0) := fr fe_X7_uneven_2 1 rfl
theorem i_X7_uneven_46 : fetch 91 46 = some (.istore 5, 48, 0, 0, 0, 0) := fr fe_X7_uneven_2 2 rfl
theorem i_X7_uneven_48 : fetch 91 48 = some (.iconst 0, 49, 0, 0, 0, 0) := fr fe_X7_uneven_2 3 rfl
theorem i_X7_uneven_49 : fetch 91 49 = some (.istore 6, 51, 0, 0, 0, 0) := fr fe_X7_uneven_2 4 rfl
theorem i_X7_uneven_51 : fetch 91 51 = some (.iload 6, 53, 0, 0, 0, 0) := fr fe_X7_uneven_2 5 rfl
theorem i_X7_uneven_53 : fetch 91 53 = some (.bipush 12, 55, 0, 0, 0, 0) := fr fe_X7_uneven_2 6 rfl
theorem i_X7_uneven_55 : fetch 91 55 = some (.if_icmp .ge 86, 58, 0, 0, 0, 0) := fr fe_X7_uneven_2 7 rfl
theorem i_X7_uneven_58 : fetch 91 58 = some (.aload_n 0, 59, 0, 0, 0, 0) := fr fe_X7_uneven_2 8 rfl
theorem i_X7_uneven_59 : fetch 91 59 = some (.getfield 19, 62, 7, 2, 0, 505) := fr fe_X7_uneven_2 9 rfl
theorem i_X7_uneven_62 : fetch 91 62 = some (.aload_n 0, 63, 0, 0, 0, 0) := fr fe_X7_uneven_2 10 rfl
theorem i_X7_uneven_63 : fetch 91 63 = some (.getfield 10, 66, 7, 0, 0, 503) := fr fe_X7_uneven_2 11 rfl
theorem i_X7_uneven_66 : fetch 91 66 = some (.invokevirtual 258, 69, 2, 0, 0, 872) := fr fe_X7_uneven_2 12 rfl
theorem i_X7_uneven_69 : fetch 91 69 = some (.aload_n 0, 70, 0, 0, 0, 0) := fr fe_X7_uneven_2 13 rfl
theorem i_X7_uneven_70 : fetch 91 70 = some (.getfield 19, 73, 7, 2, 0, 505) := fr fe_X7_uneven_2 14 rfl
theorem i_X7_uneven_73 : fetch 91 73 = some (.getfield 117, 76, 0, 0, 0, 98) := fr fe_X7_uneven_2 15 rfl
theorem i_X7_uneven_76 : fetch 91 76 = some (.iload 6, 78, 0, 0, 0, 0) := fr fe_X7_uneven_2 16 rfl
theorem i_X7_uneven_78 : fetch 91 78 = some (.dup2, 79, 0, 0, 0, 0) := fr fe_X7_uneven_2 17 rfl
theorem i_X7_uneven_79 : fetch 91 79 = some (.iaload, 80, 0, 0, 0, 0) := fr fe_X7_uneven_2 18 rfl
theorem i_X7_uneven_80 : fetch 91 80 = some (.aload_n 0, 81, 0, 0, 0, 0) := fr fe_X7_uneven_2 19 rfl
theorem i_X7_uneven_81 : fetch 91 81 = some (.getfield 10, 84, 7, 0, 0, 503) := fr fe_X7_uneven_2 20 rfl
theorem i_X7_uneven_84 : fetch 91 84 = some (.getfield 117, 87, 0, 0, 0, 98) := fr fe_X7_uneven_2 21 rfl
theorem i_X7_uneven_87 : fetch 91 87 = some (.iload 6, 89, 0, 0, 0, 0) := fr fe_X7_uneven_2 22 rfl
theorem i_X7_uneven_89 : fetch 91 89 = some (.iaload, 90, 0, 0, 0, 0) := fr fe_X7_uneven_2 23 rfl
theorem i_X7_uneven_90 : fetch 91 90 = some (.bipush 10, 92, 0, 0, 0, 0) := fr fe_X7_uneven_2 24 rfl
theorem i_X7_uneven_92 : fetch 91 92 = some (.idiv, 93, 0, 0, 0, 0) := fr fe_X7_uneven_3 0 rfl
theorem i_X7_uneven_93 : fetch 91 93 = some (.iadd, 94, 0, 0, 0, 0) := fr fe_X7_uneven_3 1 rfl
theorem i_X7_uneven_94 : fetch 91 94 = some (.iastore, 95, 0, 0, 0, 0) := fr fe_X7_uneven_3 2 rfl
theorem i_X7_uneven_95 : fetch 91 95 = some (.aload_n 0, 96, 0, 0, 0, 0) := fr fe_X7_uneven_3 3 rfl
theorem i_X7_uneven_96 : fetch 91 96 = some (.aload_n 0, 97, 0, 0, 0, 0) := fr fe_X7_uneven_3 4 rfl
theorem i_X7_uneven_97 : fetch 91 97 = some (.getfield 19, 100, 7, 2, 0, 505) := fr fe_X7_uneven_3 5 rfl
theorem i_X7_uneven_100 : fetch 91 100 = some (.iload_n 1, 101, 0, 0, 0, 0) := fr fe_X7_uneven_3 6 rfl
theorem i_X7_uneven_101 : fetch 91 101 = some (.iconst (-1), 102, 0, 0, 0, 0) := fr fe_X7_uneven_3 7 rfl
theorem i_X7_uneven_102 : fetch 91 102 = some (.iconst (-1), 103, 0, 0, 0, 0) := fr fe_X7_uneven_3 8 rfl
theorem i_X7_uneven_103 : fetch 91 103 = some (.invokevirtual 154, 106, 118, 0, 0, 624) := fr fe_X7_uneven_3 9 rfl
theorem i_X7_uneven_106 : fetch 91 106 = some (.aload_n 0, 107, 0, 0, 0, 0) := fr fe_X7_uneven_3 10 rfl
theorem i_X7_uneven_107 : fetch 91 107 = some (.getfield 82, 110, 7, 7, 0, 510) := fr fe_X7_uneven_3 11 rfl
theorem i_X7_uneven_110 : fetch 91 110 = some (.invokevirtual 176, 113, 42, 0, 0, 752) := fr fe_X7_uneven_3 12 rfl
theorem i_X7_uneven_113 : fetch 91 113 = some (.iload_n 3, 114, 0, 0, 0, 0) := fr fe_X7_uneven_3 13 rfl
theorem i_X7_uneven_114 : fetch 91 114 = some (.isub, 115, 0, 0, 0, 0) := fr fe_X7_uneven_3 14 rfl
theorem i_X7_uneven_115 : fetch 91 115 = some (.invokestatic 265, 118, 1002, 0, 0, 894) := fr fe_X7_uneven_3 15 rfl
theorem i_X7_uneven_118 : fetch 91 118 = some (.istore 7, 120, 0, 0, 0, 0) := fr fe_X7_uneven_3 16 rfl
theorem i_X7_uneven_120 : fetch 91 120 = some (.iload 7, 122, 0, 0, 0, 0) := fr fe_X7_uneven_3 17 rfl
theorem i_X7_uneven_122 : fetch 91 122 = some (.iload 5, 124, 0, 0, 0, 0) := fr fe_X7_uneven_3 18 rfl
theorem i_X7_uneven_124 : fetch 91 124 = some (.if_icmp .le 11, 127, 0, 0, 0, 0) := fr fe_X7_uneven_3 19 rfl
theorem i_X7_uneven_127 : fetch 91 127 = some (.iload 7, 129, 0, 0, 0, 0) := fr fe_X7_uneven_3 20 rfl
theorem i_X7_uneven_129 : fetch 91 129 = some (.istore 5, 131, 0, 0, 0, 0) := fr fe_X7_uneven_3 21 rfl
theorem i_X7_uneven_131 : fetch 91 131 = some (.iload 6, 133, 0, 0, 0, 0) := fr fe_X7_uneven_3 22 rfl
theorem i_X7_uneven_133 : fetch 91 133 = some (.istore 4, 135, 0, 0, 0, 0) := fr fe_X7_uneven_3 23 rfl
theorem i_X7_uneven_135 : fetch 91 135 = some (.iinc 6 1, 138, 0, 0, 0, 0) := fr fe_X7_uneven_3 24 rfl
theorem i_X7_uneven_138 : fetch 91 138 = some (.goto (-87), 141, 0, 0, 0, 0) := fr fe_X7_uneven_4 0 rfl
theorem i_X7_uneven_141 : fetch 91 141 = some (.iload_n 2, 142, 0, 0, 0, 0) := fr fe_X7_uneven_4 1 rfl
theorem i_X7_uneven_142 : fetch 91 142 = some (.ifCond .ne 8, 145, 0, 0, 0, 0) := fr fe_X7_uneven_4 2 rfl
theorem i_X7_uneven_145 : fetch 91 145 = some (.iload 4, 147, 0, 0, 0, 0) := fr fe_X7_uneven_4 3 rfl
theorem i_X7_uneven_147 : fetch 91 147 = some (.goto 5, 150, 0, 0, 0, 0) := fr fe_X7_uneven_4 4 rfl
theorem i_X7_uneven_150 : fetch 91 150 = some (.iload 5, 152, 0, 0, 0, 0) := fr fe_X7_uneven_4 5 rfl
theorem i_X7_uneven_152 : fetch 91 152 = some (.ireturn, 153, 0, 0, 0, 0) := fr fe_X7_uneven_4 6 rfl
theorem i_X7_cooks_0 : fetch 92 0 = some (.aload_n 0, 1, 0, 0, 0, 0) := fr fe_X7_cooks_1 0 rfl
theorem i_X7_cooks_1 : fetch 92 1 = some (.iload_n 1, 2, 0, 0, 0, 0) := fr fe_X7_cooks_1 1 rfl
theorem i_X7_cooks_2 : fetch 92 2 = some (.invokevirtual 151, 5, 113, 0, 0, 620) := fr fe_X7_cooks_1 2 rfl
theorem i_X7_cooks_5 : fetch 92 5 = some (.ifCond .ne 6, 8, 0, 0, 0, 0) := fr fe_X7_cooks_1 3 rfl
theorem i_X7_cooks_8 : fetch 92 8 = some (.bipush (-5), 10, 0, 0, 0, 0) := fr fe_X7_cooks_1 4 rfl
theorem i_X7_cooks_10 : fetch 92 10 = some (.ireturn, 11, 0, 0, 0, 0) := fr fe_X7_cooks_1 5 rfl
theorem i_X7_cooks_11 : fetch 92 11 = some (.iload_n 2, 12, 0, 0, 0, 0) := fr fe_X7_cooks_1 6 rfl
theorem i_X7_cooks_12 : fetch 92 12 = some (.iconst 0, 13, 0, 0, 0, 0) := fr fe_X7_cooks_1 7 rfl
theorem i_X7_cooks_13 : fetch 92 13 = some (.sipush 9999, 16, 0, 0, 0, 0) := fr fe_X7_cooks_1 8 rfl
theorem i_X7_cooks_16 : fetch 92 16 = some (.invokestatic 112, 19, 110, 0, 0, 554) := fr fe_X7_cooks_1 9 rfl
theorem i_X7_cooks_19 : fetch 92 19 = some (.ifCond .eq 12, 22, 0, 0, 0, 0) := fr fe_X7_cooks_1 10 rfl
theorem i_X7_cooks_22 : fetch 92 22 = some (.iload_n 3, 23, 0, 0, 0, 0) := fr fe_X7_cooks_1 11 rfl
theorem i_X7_cooks_23 : fetch 92 23 = some (.iconst 0, 24, 0, 0, 0, 0) := fr fe_X7_cooks_1 12 rfl
theorem i_X7_cooks_24 : fetch 92 24 = some (.iconst 2, 25, 0, 0, 0, 0) := fr fe_X7_cooks_1 13 rfl
theorem i_X7_cooks_25 : fetch 92 25 = some (.invokestatic 112, 28, 110, 0, 0, 554) := fr fe_X7_cooks_1 14 rfl
theorem i_X7_cooks_28 : fetch 92 28 = some (.ifCond .ne 6, 31, 0, 0, 0, 0) := fr fe_X7_cooks_1 15 rfl
theorem i_X7_cooks_31 : fetch 92 31 = some (.bipush (-7), 33, 0, 0, 0, 0) := fr fe_X7_cooks_1 16 rfl
theorem i_X7_cooks_33 : fetch 92 33 = some (.ireturn, 34, 0, 0, 0, 0) := fr fe_X7_cooks_1 17 rfl
theorem i_X7_cooks_34 : fetch 92 34 = some (.aload_n 0, 35, 0, 0, 0, 0) := fr fe_X7_cooks_1 18 rfl
theorem i_X7_cooks_35 : fetch 92 35 = some (.aload_n 0, 36, 0, 0, 0, 0) := fr fe_X7_cooks_1 19 rfl
theorem i_X7_cooks_36 : fetch 92 36 = some (.getfield 10, 39, 7, 0, 0, 503) := fr fe_X7_cooks_1 20 rfl
theorem i_X7_cooks_39 : fetch 92 39 = some (.iload_n 1, 40, 0, 0, 0, 0) := fr fe_X7_cooks_1 21 rfl
theorem i_X7_cooks_40 : fetch 92 40 = some (.iconst (-1), 41, 0, 0, 0, 0) := fr fe_X7_cooks_1 22 rfl
theorem i_X7_cooks_41 : fetch 92 41 = some (.iconst (-1), 42, 0, 0, 0, 0) := fr fe_X7_cooks_1 23 rfl
theorem i_X7_cooks_42 : fetch 92 42 = some (.invokevirtual 154, 45, 118, 0, 0, 624) := fr fe_X7_cooks_1 24 rfl
theorem i_X7_cooks_45 : fetch 92 45 = some (.aload_n 0, 46, 0, 0, 0, 0) := fr fe_X7_cooks_2 0 rfl
theorem i_X7_cooks_46 : fetch 92 46 = some (.getfield 82, 49, 7, 7, 0, 510) := fr fe_X7_cooks_2 1 rfl
theorem i_X7_cooks_49 : fetch 92 49 = some (.iload_n 2, 50, 0, 0, 0, 0) := fr fe_X7_cooks_2 2 rfl
theorem i_X7_cooks_50 : fetch 92 50 = some (.iload_n 3, 51, 0, 0, 0, 0) := fr fe_X7_cooks_2 3 rfl
theorem i_X7_cooks_51 : fetch 92 51 = some (.invokevirtual 270, 54, 47, 0, 0, 901) := fr fe_X7_cooks_2 4 rfl
theorem i_X7_cooks_54 : fetch 92 54 = some (.ireturn, 55, 0, 0, 0, 0) := fr fe_X7_cooks_2 5 rfl
theorem i_X7_pot_0 : fetch 93 0 = some (.aload_n 0, 1, 0, 0, 0, 0) := fr fe_X7_pot_1 0 rfl
theorem i_X7_pot_1 : fetch 93 1 = some (.iload_n 1, 2, 0, 0, 0, 0) := fr fe_X7_pot_1 1 rfl
theorem i_X7_pot_2 : fetch 93 2 = some (.invokevirtual 151, 5, 113, 0, 0, 620) := fr fe_X7_pot_1 2 rfl
theorem i_X7_pot_5 : fetch 93 5 = some (.ifCond .ne 6, 8, 0, 0, 0, 0) := fr fe_X7_pot_1 3 rfl
theorem i_X7_pot_8 : fetch 93 8 = some (.bipush (-5), 10, 0, 0, 0, 0) := fr fe_X7_pot_1 4 rfl
theorem i_X7_pot_10 : fetch 93 10 = some (.ireturn, 11, 0, 0, 0, 0) := fr fe_X7_pot_1 5 rfl
theorem i_X7_pot_11 : fetch 93 11 = some (.aload_n 0, 12, 0, 0, 0, 0) := fr fe_X7_pot_1 6 rfl
theorem i_X7_pot_12 : fetch 93 12 = some (.aload_n 0, 13, 0, 0, 0, 0) := fr fe_X7_pot_1 7 rfl
theorem i_X7_pot_13 : fetch 93 13 = some (.getfield 10, 16, 7, 0, 0, 503) := fr fe_X7_pot_1 8 rfl
theorem i_X7_pot_16 : fetch 93 16 = some (.iload_n 1, 17, 0, 0, 0, 0) := fr fe_X7_pot_1 9 rfl
theorem i_X7_pot_17 : fetch 93 17 = some (.iconst (-1), 18, 0, 0, 0, 0) := fr fe_X7_pot_1 10 rfl
theorem i_X7_pot_18 : fetch 93 18 = some (.iconst (-1), 19, 0, 0, 0, 0) := fr fe_X7_pot_1 11 rfl
theorem i_X7_pot_19 : fetch 93 19 = some (.invokevirtual 154, 22, 118, 0, 0, 624) := fr fe_X7_pot_1 12 rfl
theorem i_X7_pot_22 : fetch 93 22 = some (.iconst 0, 23, 0, 0, 0, 0) := fr fe_X7_pot_1 13 rfl
theorem i_X7_pot_23 : fetch 93 23 = some (.istore_n 2, 24, 0, 0, 0, 0) := fr fe_X7_pot_1 14 rfl
theorem i_X7_pot_24 : fetch 93 24 = some (.iconst 0, 25, 0, 0, 0, 0) := fr fe_X7_pot_1 15 rfl
theorem i_X7_pot_25 : fetch 93 25 = some (.istore_n 3, 26, 0, 0, 0, 0) := fr fe_X7_pot_1 16 rfl
theorem i_X7_pot_26 : fetch 93 26 = some (.iconst 0, 27, 0, 0, 0, 0) := fr fe_X7_pot_1 17 rfl
theorem i_X7_pot_27 : fetch 93 27 = some (.istore 4, 29, 0, 0, 0, 0) := fr fe_X7_pot_1 18 rfl
theorem i_X7_pot_29 : fetch 93 29 = some (.iload 4, 31, 0, 0, 0, 0) := fr fe_X7_pot_1 19 rfl
theorem i_X7_pot_31 : fetch 93 31 = some (.bipush 12, 33, 0, 0, 0, 0) := fr fe_X7_pot_1 20 rfl
theorem i_X7_pot_33 : fetch 93 33 = some (.if_icmp .ge 56, 36, 0, 0, 0, 0) := fr fe_X7_pot_1 21 rfl
theorem i_X7_pot_36 : fetch 93 36 = some (.aload_n 0, 37, 0, 0, 0, 0) := fr fe_X7_pot_1 22 rfl
theorem i_X7_pot_37 : fetch 93 37 = some (.getfield 82, 40, 7, 7, 0, 510) := fr fe_X7_pot_1 23 rfl
theorem i_X7_pot_40 : fetch 93 40 = some (.iload 4, 42, 0, 0, 0, 0) := fr fe_X7_pot_1 24 rfl
theorem i_X7_pot_42 : fetch 93 42 = some (.invokevirtual 158, 45, 39, 0, 0, 736) := fr fe_X7_pot_2 0 rfl
theorem i_X7_pot_45 : fetch 93 45 = some (.istore 5, 47, 0, 0, 0, 0) := fr fe_X7_pot_2 1 rfl
theorem i_X7_pot_47 : fetch 93 47 = some (.aload_n 0, 48, 0, 0, 0, 0) := fr fe_X7_pot_2 2 rfl
theorem i_X7_pot_48 : fetch 93 48 = some (.getfield 82, 51, 7, 7, 0, 510) := fr fe_X7_pot_2 3 rfl
theorem i_X7_pot_51 : fetch 93 51 = some (.iload 5, 53, 0, 0, 0, 0) := fr fe_X7_pot_2 4 rfl
theorem i_X7_pot_53 : fetch 93 53 = some (.iconst 1, 54, 0, 0, 0, 0) := fr fe_X7_pot_2 5 rfl
theorem i_X7_pot_54 : fetch 93 54 = some (.invokevirtual 270, 57, 47, 0, 0, 901) := fr fe_X7_pot_2 6 rfl
theorem i_X7_pot_57 : fetch 93 57 = some (.istore 6, 59, 0, 0, 0, 0) := fr fe_X7_pot_2 7 rfl
theorem i_X7_pot_59 : fetch 93 59 = some (.iload 6, 61, 0, 0, 0, 0) := fr fe_X7_pot_2 8 rfl
theorem i_X7_pot_61 : fetch 93 61 = some (.iload_n 3, 62, 0, 0, 0, 0) := fr fe_X7_pot_2 9 rfl
theorem i_X7_pot_62 : fetch 93 62 = some (.if_icmp .gt 15, 65, 0, 0, 0, 0) := fr fe_X7_pot_2 10 rfl
theorem i_X7_pot_65 : fetch 93 65 = some (.iload 6, 67, 0, 0, 0, 0) := fr fe_X7_pot_2 11 rfl
theorem i_X7_pot_67 : fetch 93 67 = some (.iload_n 3, 68, 0, 0, 0, 0) := fr fe_X7_pot_2 12 rfl
theorem i_X7_pot_68 : fetch 93 68 = some (.if_icmp .ne 15, 71, 0, 0, 0, 0) := fr fe_X7_pot_2 13 rfl
theorem i_X7_pot_71 : fetch 93 71 = some (.iload 5, 73, 0, 0, 0, 0) := fr fe_X7_pot_2 14 rfl
theorem i_X7_pot_73 : fetch 93 73 = some (.iload_n 2, 74, 0, 0, 0, 0) := fr fe_X7_pot_2 15 rfl
theorem i_X7_pot_74 : fetch 93 74 = some (.if_icmp .ge 9, 77, 0, 0, 0, 0) := fr fe_X7_pot_2 16 rfl
theorem i_X7_pot_77 : fetch 93 77 = some (.iload 6, 79, 0, 0, 0, 0) := fr fe_X7_pot_2 17 rfl
theorem i_X7_pot_79 : fetch 93 79 = some (.istore_n 3, 80, 0, 0, 0, 0) := fr fe_X7_pot_2 18 rfl
theorem i_X7_pot_80 : fetch 93 80 = some (.iload 5, 82, 0, 0, 0, 0) := fr fe_X7_pot_2 19 rfl
theorem i_X7_pot_82 : fetch 93 82 = some (.istore_n 2, 83, 0, 0, 0, 0) := fr fe_X7_pot_2 20 rfl
theorem i_X7_pot_83 : fetch 93 83 = some (.iinc 4 1, 86, 0, 0, 0, 0) := fr fe_X7_pot_2 21 rfl
theorem i_X7_pot_86 : fetch 93 86 = some (.goto (-57), 89, 0, 0, 0, 0) := fr fe_X7_pot_2 22 rfl
theorem i_X7_pot_89 : fetch 93 89 = some (.iload_n 2, 90, 0, 0, 0, 0) := fr fe_X7_pot_2 23 rfl
theorem i_X7_pot_90 : fetch 93 90 = some (.ireturn, 91, 0, 0, 0, 0) := fr fe_X7_pot_2 24 rfl
theorem i_X7_isPlace_0 : fetch 115 0 = some (.iload_n 0, 1, 0, 0, 0, 0) := fr fe_X7_isPlace 0 rfl
theorem i_X7_isPlace_1 : fetch 115 1 = some (.iconst 0, 2, 0, 0, 0, 0) := fr fe_X7_isPlace 1 rfl
theorem i_X7_isPlace_2 : fetch 115 2 = some (.sipush 4095, 5, 0, 0, 0, 0) := fr fe_X7_isPlace 2 rfl
theorem i_X7_isPlace_5 : fetch 115 5 = some (.invokestatic 112, 8, 110, 0, 0, 554) := fr fe_X7_isPlace 3 rfl
theorem i_X7_isPlace_8 : fetch 115 8 = some (.ireturn, 9, 0, 0, 0, 0) := fr fe_X7_isPlace 4 rfl
theorem i_X7_placeBehind_0 : fetch 121 0 = some (.iload_n 0, 1, 0, 0, 0, 0) := fr fe_X7_placeBehind 0 rfl
theorem i_X7_placeBehind_1 : fetch 121 1 = some (.istore_n 2, 2, 0, 0, 0, 0) := fr fe_X7_placeBehind 1 rfl
theorem i_X7_placeBehind_2 : fetch 121 2 = some (.iconst 0, 3, 0, 0, 0, 0) := fr fe_X7_placeBehind 2 rfl
theorem i_X7_placeBehind_3 : fetch 121 3 = some (.istore_n 3, 4, 0, 0, 0, 0) := fr fe_X7_placeBehind 3 rfl
theorem i_X7_placeBehind_4 : fetch 121 4 = some (.iload_n 3, 5, 0, 0, 0, 0) := fr fe_X7_placeBehind 4 rfl
theorem i_X7_placeBehind_5 : fetch 121 5 = some (.iload_n 1, 6, 0, 0, 0, 0) := fr fe_X7_placeBehind 5 rfl
theorem i_X7_placeBehind_6 : fetch 121 6 = some (.if_icmp .ge 32, 9, 0, 0, 0, 0) := fr fe_X7_placeBehind 6 rfl
theorem i_X7_placeBehind_9 : fetch 121 9 = some (.iload_n 2, 10, 0, 0, 0, 0) := fr fe_X7_placeBehind 7 rfl
theorem i_X7_placeBehind_10 : fetch 121 10 = some (.sipush 2048, 13, 0, 0, 0, 0) := fr fe_X7_placeBehind 8 rfl
theorem i_X7_placeBehind_13 : fetch 121 13 = some (.if_icmp .ge 9, 16, 0, 0, 0, 0) := fr fe_X7_placeBehind 9 rfl
theorem i_X7_placeBehind_16 : fetch 121 16 = some (.iconst 2, 17, 0, 0, 0, 0) := fr fe_X7_placeBehind 10 rfl
theorem i_X7_placeBehind_17 : fetch 121 17 = some (.iload_n 2, 18, 0, 0, 0, 0) := fr fe_X7_placeBehind 11 rfl
theorem i_X7_placeBehind_18 : fetch 121 18 = some (.imul, 19, 0, 0, 0, 0) := fr fe_X7_placeBehind 12 rfl
theorem i_X7_placeBehind_19 : fetch 121 19 = some (.goto 12, 22, 0, 0, 0, 0) := fr fe_X7_placeBehind 13 rfl
theorem i_X7_placeBehind_22 : fetch 121 22 = some (.iconst 2, 23, 0, 0, 0, 0) := fr fe_X7_placeBehind 14 rfl
theorem i_X7_placeBehind_23 : fetch 121 23 = some (.sipush 4095, 26, 0, 0, 0, 0) := fr fe_X7_placeBehind 15 rfl
theorem i_X7_placeBehind_26 : fetch 121 26 = some (.iload_n 2, 27, 0, 0, 0, 0) := fr fe_X7_placeBehind 16 rfl
theorem i_X7_placeBehind_27 : fetch 121 27 = some (.isub, 28, 0, 0, 0, 0) := fr fe_X7_placeBehind 17 rfl
theorem i_X7_placeBehind_28 : fetch 121 28 = some (.imul, 29, 0, 0, 0, 0) := fr fe_X7_placeBehind 18 rfl
theorem i_X7_placeBehind_29 : fetch 121 29 = some (.iconst 1, 30, 0, 0, 0, 0) := fr fe_X7_placeBehind 19 rfl
theorem i_X7_placeBehind_30 : fetch 121 30 = some (.iadd, 31, 0, 0, 0, 0) := fr fe_X7_placeBehind 20 rfl
theorem i_X7_placeBehind_31 : fetch 121 31 = some (.istore_n 2, 32, 0, 0, 0, 0) := fr fe_X7_placeBehind 21 rfl
theorem i_X7_placeBehind_32 : fetch 121 32 = some (.iinc 3 1, 35, 0, 0, 0, 0) := fr fe_X7_placeBehind 22 rfl
theorem i_X7_placeBehind_35 : fetch 121 35 = some (.goto (-31), 38, 0, 0, 0, 0) := fr fe_X7_placeBehind 23 rfl
theorem i_X7_placeBehind_38 : fetch 121 38 = some (.iload_n 2, 39, 0, 0, 0, 0) := fr fe_X7_placeBehind 24 rfl
theorem i_X7_placeBehind_39 : fetch 121 39 = some (.ireturn, 40, 0, 0, 0, 0) := fr fe_X7_placeBehind 25 rfl
theorem i_X7_place_0 : fetch 94 0 = some (.iload_n 1, 1, 0, 0, 0, 0) := fr fe_X7_place 0 rfl
theorem i_X7_place_1 : fetch 94 1 = some (.invokestatic 273, 4, 115, 0, 0, 913) := fr fe_X7_place 1 rfl
theorem i_X7_place_4 : fetch 94 4 = some (.ifCond .eq 13, 7, 0, 0, 0, 0) := fr fe_X7_place 2 rfl
theorem i_X7_place_7 : fetch 94 7 = some (.iload_n 2, 8, 0, 0, 0, 0) := fr fe_X7_place 3 rfl
theorem i_X7_place_8 : fetch 94 8 = some (.iconst 0, 9, 0, 0, 0, 0) := fr fe_X7_place 4 rfl
theorem i_X7_place_9 : fetch 94 9 = some (.bipush 64, 11, 0, 0, 0, 0) := fr fe_X7_place 5 rfl
theorem i_X7_place_11 : fetch 94 11 = some (.invokestatic 112, 14, 110, 0, 0, 554) := fr fe_X7_place 6 rfl
theorem i_X7_place_14 : fetch 94 14 = some (.ifCond .ne 6, 17, 0, 0, 0, 0) := fr fe_X7_place 7 rfl
theorem i_X7_place_17 : fetch 94 17 = some (.bipush (-2), 19, 0, 0, 0, 0) := fr fe_X7_place 8 rfl
theorem i_X7_place_19 : fetch 94 19 = some (.ireturn, 20, 0, 0, 0, 0) := fr fe_X7_place 9 rfl
theorem i_X7_place_20 : fetch 94 20 = some (.iload_n 1, 21, 0, 0, 0, 0) := fr fe_X7_place 10 rfl
theorem i_X7_place_21 : fetch 94 21 = some (.iload_n 2, 22, 0, 0, 0, 0) := fr fe_X7_place 11 rfl
theorem i_X7_place_22 : fetch 94 22 = some (.invokestatic 276, 25, 121, 0, 0, 916) := fr fe_X7_place 12 rfl
theorem i_X7_place_25 : fetch 94 25 = some (.ireturn, 26, 0, 0, 0, 0) := fr fe_X7_place 13 rfl
theorem i_X7_apart_0 : fetch 95 0 = some (.iload_n 1, 1, 0, 0, 0, 0) := fr fe_X7_apart 0 rfl
theorem i_X7_apart_1 : fetch 95 1 = some (.invokestatic 273, 4, 115, 0, 0, 913) := fr fe_X7_apart 1 rfl
theorem i_X7_apart_4 : fetch 95 4 = some (.ifCond .eq 20, 7, 0, 0, 0, 0) := fr fe_X7_apart 2 rfl
theorem i_X7_apart_7 : fetch 95 7 = some (.iload_n 2, 8, 0, 0, 0, 0) := fr fe_X7_apart 3 rfl
theorem i_X7_apart_8 : fetch 95 8 = some (.invokestatic 273, 11, 115, 0, 0, 913) := fr fe_X7_apart 4 rfl
theorem i_X7_apart_11 : fetch 95 11 = some (.ifCond .eq 13, 14, 0, 0, 0, 0) := fr fe_X7_apart 5 rfl
theorem i_X7_apart_14 : fetch 95 14 = some (.iload_n 3, 15, 0, 0, 0, 0) := fr fe_X7_apart 6 rfl
theorem i_X7_apart_15 : fetch 95 15 = some (.iconst 0, 16, 0, 0, 0, 0) := fr fe_X7_apart 7 rfl
theorem i_X7_apart_16 : fetch 95 16 = some (.bipush 64, 18, 0, 0, 0, 0) := fr fe_X7_apart 8 rfl
theorem i_X7_apart_18 : fetch 95 18 = some (.invokestatic 112, 21, 110, 0, 0, 554) := fr fe_X7_apart 9 rfl
theorem i_X7_apart_21 : fetch 95 21 = some (.ifCond .ne 6, 24, 0, 0, 0, 0) := fr fe_X7_apart 10 rfl
theorem i_X7_apart_24 : fetch 95 24 = some (.bipush (-2), 26, 0, 0, 0, 0) := fr fe_X7_apart 11 rfl
theorem i_X7_apart_26 : fetch 95 26 = some (.ireturn, 27, 0, 0, 0, 0) := fr fe_X7_apart 12 rfl
theorem i_X7_apart_27 : fetch 95 27 = some (.iload_n 1, 28, 0, 0, 0, 0) := fr fe_X7_apart 13 rfl
theorem i_X7_apart_28 : fetch 95 28 = some (.iload_n 3, 29, 0, 0, 0, 0) := fr fe_X7_apart 14 rfl
theorem i_X7_apart_29 : fetch 95 29 = some (.invokestatic 276, 32, 121, 0, 0, 916) := fr fe_X7_apart 15 rfl
theorem i_X7_apart_32 : fetch 95 32 = some (.iload_n 2, 33, 0, 0, 0, 0) := fr fe_X7_apart 16 rfl
theorem i_X7_apart_33 : fetch 95 33 = some (.iload_n 3, 34, 0, 0, 0, 0) := fr fe_X7_apart 17 rfl
theorem i_X7_apart_34 : fetch 95 34 = some (.invokestatic 276, 37, 121, 0, 0, 916) := fr fe_X7_apart 18 rfl
theorem i_X7_apart_37 : fetch 95 37 = some (.isub, 38, 0, 0, 0, 0) := fr fe_X7_apart 19 rfl
theorem i_X7_apart_38 : fetch 95 38 = some (.invokestatic 265, 41, 1002, 0, 0, 894) := fr fe_X7_apart 20 rfl
theorem i_X7_apart_41 : fetch 95 41 = some (.ireturn, 42, 0, 0, 0, 0) := fr fe_X7_apart 21 rfl
theorem i_X7_parted_0 : fetch 96 0 = some (.iload_n 1, 1, 0, 0, 0, 0) := fr fe_X7_parted_1 0 rfl
theorem i_X7_parted_1 : fetch 96 1 = some (.invokestatic 273, 4, 115, 0, 0, 913) := fr fe_X7_parted_1 1 rfl
theorem i_X7_parted_4 : fetch 96 4 = some (.ifCond .eq 17, 7, 0, 0, 0, 0) := fr fe_X7_parted_1 2 rfl
theorem i_X7_parted_7 : fetch 96 7 = some (.iload_n 2, 8, 0, 0, 0, 0) := fr fe_X7_parted_1 3 rfl
theorem i_X7_parted_8 : fetch 96 8 = some (.invokestatic 273, 11, 115, 0, 0, 913) := fr fe_X7_parted_1 4 rfl
theorem i_X7_parted_11 : fetch 96 11 = some (.ifCond .eq 10, 14, 0, 0, 0, 0) := fr fe_X7_parted_1 5 rfl
theorem i_X7_parted_14 : fetch 96 14 = some (.iload_n 3, 15, 0, 0, 0, 0) := fr fe_X7_parted_1 6 rfl
theorem i_X7_parted_15 : fetch 96 15 = some (.invokestatic 273, 18, 115, 0, 0, 913) := fr fe_X7_parted_1 7 rfl
theorem i_X7_parted_18 : fetch 96 18 = some (.ifCond .ne 6, 21, 0, 0, 0, 0) := fr fe_X7_parted_1 8 rfl
theorem i_X7_parted_21 : fetch 96 21 = some (.bipush (-2), 23, 0, 0, 0, 0) := fr fe_X7_parted_1 9 rfl
theorem i_X7_parted_23 : fetch 96 23 = some (.ireturn, 24, 0, 0, 0, 0) := fr fe_X7_parted_1 10 rfl
theorem i_X7_parted_24 : fetch 96 24 = some (.iload_n 1, 25, 0, 0, 0, 0) := fr fe_X7_parted_1 11 rfl
theorem i_X7_parted_25 : fetch 96 25 = some (.istore 4, 27, 0, 0, 0, 0) := fr fe_X7_parted_1 12 rfl
theorem i_X7_parted_27 : fetch 96 27 = some (.iload_n 2, 28, 0, 0, 0, 0) := fr fe_X7_parted_1 13 rfl
theorem i_X7_parted_28 : fetch 96 28 = some (.istore 5, 30, 0, 0, 0, 0) := fr fe_X7_parted_1 14 rfl
theorem i_X7_parted_30 : fetch 96 30 = some (.iconst 0, 31, 0, 0, 0, 0) := fr fe_X7_parted_1 15 rfl
theorem i_X7_parted_31 : fetch 96 31 = some (.istore 6, 33, 0, 0, 0, 0) := fr fe_X7_parted_1 16 rfl
theorem i_X7_parted_33 : fetch 96 33 = some (.iload 6, 35, 0, 0, 0, 0) := fr fe_X7_parted_1 17 rfl
theorem i_X7_parted_35 : fetch 96 35 = some (.bipush 64, 37, 0, 0, 0, 0) := fr fe_X7_parted_1 18 rfl
theorem i_X7_parted_37 : fetch 96 37 = some (.if_icmp .gt 40, 40, 0, 0, 0, 0) := fr fe_X7_parted_1 19 rfl
theorem i_X7_parted_40 : fetch 96 40 = some (.iload 4, 42, 0, 0, 0, 0) := fr fe_X7_parted_1 20 rfl
theorem i_X7_parted_42 : fetch 96 42 = some (.iload 5, 44, 0, 0, 0, 0) := fr fe_X7_parted_1 21 rfl
theorem i_X7_parted_44 : fetch 96 44 = some (.isub, 45, 0, 0, 0, 0) := fr fe_X7_parted_1 22 rfl
theorem i_X7_parted_45 : fetch 96 45 = some (.invokestatic 265, 48, 1002, 0, 0, 894) := fr fe_X7_parted_1 23 rfl
theorem i_X7_parted_48 : fetch 96 48 = some (.iload_n 3, 49, 0, 0, 0, 0) := fr fe_X7_parted_1 24 rfl
theorem i_X7_parted_49 : fetch 96 49 = some (.if_icmp .lt 6, 52, 0, 0, 0, 0) := fr fe_X7_parted_2 0 rfl
theorem i_X7_parted_52 : fetch 96 52 = some (.iload 6, 54, 0, 0, 0, 0) := fr fe_X7_parted_2 1 rfl
theorem i_X7_parted_54 : fetch 96 54 = some (.ireturn, 55, 0, 0, 0, 0) := fr fe_X7_parted_2 2 rfl
theorem i_X7_parted_55 : fetch 96 55 = some (.iload 4, 57, 0, 0, 0, 0) := fr fe_X7_parted_2 3 rfl
theorem i_X7_parted_57 : fetch 96 57 = some (.iconst 1, 58, 0, 0, 0, 0) := fr fe_X7_parted_2 4 rfl
theorem i_X7_parted_58 : fetch 96 58 = some (.invokestatic 276, 61, 121, 0, 0, 916) := fr fe_X7_parted_2 5 rfl
theorem i_X7_parted_61 : fetch 96 61 = some (.istore 4, 63, 0, 0, 0, 0) := fr fe_X7_parted_2 6 rfl
theorem i_X7_parted_63 : fetch 96 63 = some (.iload 5, 65, 0, 0, 0, 0) := fr fe_X7_parted_2 7 rfl
theorem i_X7_parted_65 : fetch 96 65 = some (.iconst 1, 66, 0, 0, 0, 0) := fr fe_X7_parted_2 8 rfl
theorem i_X7_parted_66 : fetch 96 66 = some (.invokestatic 276, 69, 121, 0, 0, 916) := fr fe_X7_parted_2 9 rfl
theorem i_X7_parted_69 : fetch 96 69 = some (.istore 5, 71, 0, 0, 0, 0) := fr fe_X7_parted_2 10 rfl
theorem i_X7_parted_71 : fetch 96 71 = some (.iinc 6 1, 74, 0, 0, 0, 0) := fr fe_X7_parted_2 11 rfl
theorem i_X7_parted_74 : fetch 96 74 = some (.goto (-41), 77, 0, 0, 0, 0) := fr fe_X7_parted_2 12 rfl
theorem i_X7_parted_77 : fetch 96 77 = some (.iconst (-1), 78, 0, 0, 0, 0) := fr fe_X7_parted_2 13 rfl
theorem i_X7_parted_78 : fetch 96 78 = some (.ireturn, 79, 0, 0, 0, 0) := fr fe_X7_parted_2 14 rfl
theorem i_X7_round_0 : fetch 97 0 = some (.iload_n 1, 1, 0, 0, 0, 0) := fr fe_X7_round 0 rfl
theorem i_X7_round_1 : fetch 97 1 = some (.invokestatic 273, 4, 115, 0, 0, 913) := fr fe_X7_round 1 rfl
theorem i_X7_round_4 : fetch 97 4 = some (.ifCond .ne 6, 7, 0, 0, 0, 0) := fr fe_X7_round 2 rfl
theorem i_X7_round_7 : fetch 97 7 = some (.bipush (-2), 9, 0, 0, 0, 0) := fr fe_X7_round 3 rfl
theorem i_X7_round_9 : fetch 97 9 = some (.ireturn, 10, 0, 0, 0, 0) := fr fe_X7_round 4 rfl
theorem i_X7_round_10 : fetch 97 10 = some (.iload_n 1, 11, 0, 0, 0, 0) := fr fe_X7_round 5 rfl
theorem i_X7_round_11 : fetch 97 11 = some (.istore_n 2, 12, 0, 0, 0, 0) := fr fe_X7_round 6 rfl
theorem i_X7_round_12 : fetch 97 12 = some (.iconst 1, 13, 0, 0, 0, 0) := fr fe_X7_round 7 rfl
theorem i_X7_round_13 : fetch 97 13 = some (.istore_n 3, 14, 0, 0, 0, 0) := fr fe_X7_round 8 rfl
theorem i_X7_round_14 : fetch 97 14 = some (.iload_n 3, 15, 0, 0, 0, 0) := fr fe_X7_round 9 rfl
theorem i_X7_round_15 : fetch 97 15 = some (.bipush 64, 17, 0, 0, 0, 0) := fr fe_X7_round 10 rfl
theorem i_X7_round_17 : fetch 97 17 = some (.if_icmp .gt 22, 20, 0, 0, 0, 0) := fr fe_X7_round 11 rfl
theorem i_X7_round_20 : fetch 97 20 = some (.iload_n 2, 21, 0, 0, 0, 0) := fr fe_X7_round 12 rfl
theorem i_X7_round_21 : fetch 97 21 = some (.iconst 1, 22, 0, 0, 0, 0) := fr fe_X7_round 13 rfl
theorem i_X7_round_22 : fetch 97 22 = some (.invokestatic 276, 25, 121, 0, 0, 916) := fr fe_X7_round 14 rfl
theorem i_X7_round_25 : fetch 97 25 = some (.istore_n 2, 26, 0, 0, 0, 0) := fr fe_X7_round 15 rfl
theorem i_X7_round_26 : fetch 97 26 = some (.iload_n 2, 27, 0, 0, 0, 0) := fr fe_X7_round 16 rfl
theorem i_X7_round_27 : fetch 97 27 = some (.iload_n 1, 28, 0, 0, 0, 0) := fr fe_X7_round 17 rfl
theorem i_X7_round_28 : fetch 97 28 = some (.if_icmp .ne 5, 31, 0, 0, 0, 0) := fr fe_X7_round 18 rfl
theorem i_X7_round_31 : fetch 97 31 = some (.iload_n 3, 32, 0, 0, 0, 0) := fr fe_X7_round 19 rfl
theorem i_X7_round_32 : fetch 97 32 = some (.ireturn, 33, 0, 0, 0, 0) := fr fe_X7_round 20 rfl
theorem i_X7_round_33 : fetch 97 33 = some (.iinc 3 1, 36, 0, 0, 0, 0) := fr fe_X7_round 21 rfl
theorem i_X7_round_36 : fetch 97 36 = some (.goto (-22), 39, 0, 0, 0, 0) := fr fe_X7_round 22 rfl
theorem i_X7_round_39 : fetch 97 39 = some (.iconst (-1), 40, 0, 0, 0, 0) := fr fe_X7_round 23 rfl
theorem i_X7_round_40 : fetch 97 40 = some (.ireturn, 41, 0, 0, 0, 0) := fr fe_X7_round 24 rfl
theorem i_X7_colour_0 : fetch 122 0 = some (.iconst 0, 1, 0, 0, 0, 0) := fr fe_X7_colour_1 0 rfl
theorem i_X7_colour_1 : fetch 122 1 = some (.istore_n 3, 2, 0, 0, 0, 0) := fr fe_X7_colour_1 1 rfl
theorem i_X7_colour_2 : fetch 122 2 = some (.iload_n 3, 3, 0, 0, 0, 0) := fr fe_X7_colour_1 2 rfl
theorem i_X7_colour_3 : fetch 122 3 = some (.bipush 16, 5, 0, 0, 0, 0) := fr fe_X7_colour_1 3 rfl
theorem i_X7_colour_5 : fetch 122 5 = some (.if_icmp .ge 20, 8, 0, 0, 0, 0) := fr fe_X7_colour_1 4 rfl
theorem i_X7_colour_8 : fetch 122 8 = some (.aload_n 0, 9, 0, 0, 0, 0) := fr fe_X7_colour_1 5 rfl
theorem i_X7_colour_9 : fetch 122 9 = some (.getfield 47, 12, 7, 10, 0, 513) := fr fe_X7_colour_1 6 rfl
theorem i_X7_colour_12 : fetch 122 12 = some (.iload_n 3, 13, 0, 0, 0, 0) := fr fe_X7_colour_1 7 rfl
theorem i_X7_colour_13 : fetch 122 13 = some (.iload_n 1, 14, 0, 0, 0, 0) := fr fe_X7_colour_1 8 rfl
theorem i_X7_colour_14 : fetch 122 14 = some (.iload_n 3, 15, 0, 0, 0, 0) := fr fe_X7_colour_1 9 rfl
theorem i_X7_colour_15 : fetch 122 15 = some (.ishr, 16, 0, 0, 0, 0) := fr fe_X7_colour_1 10 rfl
theorem i_X7_colour_16 : fetch 122 16 = some (.iconst 1, 17, 0, 0, 0, 0) := fr fe_X7_colour_1 11 rfl
theorem i_X7_colour_17 : fetch 122 17 = some (.iand, 18, 0, 0, 0, 0) := fr fe_X7_colour_1 12 rfl
theorem i_X7_colour_18 : fetch 122 18 = some (.iastore, 19, 0, 0, 0, 0) := fr fe_X7_colour_1 13 rfl
theorem i_X7_colour_19 : fetch 122 19 = some (.iinc 3 1, 22, 0, 0, 0, 0) := fr fe_X7_colour_1 14 rfl
theorem i_X7_colour_22 : fetch 122 22 = some (.goto (-20), 25, 0, 0, 0, 0) := fr fe_X7_colour_1 15 rfl
theorem i_X7_colour_25 : fetch 122 25 = some (.iconst 0, 26, 0, 0, 0, 0) := fr fe_X7_colour_1 16 rfl
theorem i_X7_colour_26 : fetch 122 26 = some (.istore_n 3, 27, 0, 0, 0, 0) := fr fe_X7_colour_1 17 rfl
theorem i_X7_colour_27 : fetch 122 27 = some (.iload_n 3, 28, 0, 0, 0, 0) := fr fe_X7_colour_1 18 rfl
theorem i_X7_colour_28 : fetch 122 28 = some (.iload_n 2, 29, 0, 0, 0, 0) := fr fe_X7_colour_1 19 rfl
theorem i_X7_colour_29 : fetch 122 29 = some (.if_icmp .ge 69, 32, 0, 0, 0, 0) := fr fe_X7_colour_1 20 rfl
theorem i_X7_colour_32 : fetch 122 32 = some (.iconst 0, 33, 0, 0, 0, 0) := fr fe_X7_colour_1 21 rfl
theorem i_X7_colour_33 : fetch 122 33 = some (.istore 4, 35, 0, 0, 0, 0) := fr fe_X7_colour_1 22 rfl
theorem i_X7_colour_35 : fetch 122 35 = some (.iload 4, 37, 0, 0, 0, 0) := fr fe_X7_colour_1 23 rfl
theorem i_X7_colour_37 : fetch 122 37 = some (.bipush 16, 39, 0, 0, 0, 0) := fr fe_X7_colour_1 24 rfl
theorem i_X7_colour_39 : fetch 122 39 = some (.if_icmp .ge 38, 42, 0, 0, 0, 0) := fr fe_X7_colour_2 0 rfl
theorem i_X7_colour_42 : fetch 122 42 = some (.aload_n 0, 43, 0, 0, 0, 0) := fr fe_X7_colour_2 1 rfl
theorem i_X7_colour_43 : fetch 122 43 = some (.getfield 51, 46, 7, 11, 0, 514) := fr fe_X7_colour_2 2 rfl
theorem i_X7_colour_46 : fetch 122 46 = some (.iload 4, 48, 0, 0, 0, 0) := fr fe_X7_colour_2 3 rfl
theorem i_X7_colour_48 : fetch 122 48 = some (.aload_n 0, 49, 0, 0, 0, 0) := fr fe_X7_colour_2 4 rfl
theorem i_X7_colour_49 : fetch 122 49 = some (.getfield 47, 52, 7, 10, 0, 513) := fr fe_X7_colour_2 5 rfl
theorem i_X7_colour_52 : fetch 122 52 = some (.iload 4, 54, 0, 0, 0, 0) := fr fe_X7_colour_2 6 rfl
theorem i_X7_colour_54 : fetch 122 54 = some (.iconst 2, 55, 0, 0, 0, 0) := fr fe_X7_colour_2 7 rfl
theorem i_X7_colour_55 : fetch 122 55 = some (.idiv, 56, 0, 0, 0, 0) := fr fe_X7_colour_2 8 rfl
theorem i_X7_colour_56 : fetch 122 56 = some (.iaload, 57, 0, 0, 0, 0) := fr fe_X7_colour_2 9 rfl
theorem i_X7_colour_57 : fetch 122 57 = some (.aload_n 0, 58, 0, 0, 0, 0) := fr fe_X7_colour_2 10 rfl
theorem i_X7_colour_58 : fetch 122 58 = some (.getfield 47, 61, 7, 10, 0, 513) := fr fe_X7_colour_2 11 rfl
theorem i_X7_colour_61 : fetch 122 61 = some (.bipush 15, 63, 0, 0, 0, 0) := fr fe_X7_colour_2 12 rfl
theorem i_X7_colour_63 : fetch 122 63 = some (.iload 4, 65, 0, 0, 0, 0) := fr fe_X7_colour_2 13 rfl
theorem i_X7_colour_65 : fetch 122 65 = some (.iconst 2, 66, 0, 0, 0, 0) := fr fe_X7_colour_2 14 rfl
theorem i_X7_colour_66 : fetch 122 66 = some (.idiv, 67, 0, 0, 0, 0) := fr fe_X7_colour_2 15 rfl
theorem i_X7_colour_67 : fetch 122 67 = some (.isub, 68, 0, 0, 0, 0) := fr fe_X7_colour_2 16 rfl
theorem i_X7_colour_68 : fetch 122 68 = some (.iaload, 69, 0, 0, 0, 0) := fr fe_X7_colour_2 17 rfl
theorem i_X7_colour_69 : fetch 122 69 = some (.iadd, 70, 0, 0, 0, 0) := fr fe_X7_colour_2 18 rfl
theorem i_X7_colour_70 : fetch 122 70 = some (.iastore, 71, 0, 0, 0, 0) := fr fe_X7_colour_2 19 rfl
theorem i_X7_colour_71 : fetch 122 71 = some (.iinc 4 1, 74, 0, 0, 0, 0) := fr fe_X7_colour_2 20 rfl
theorem i_X7_colour_74 : fetch 122 74 = some (.goto (-39), 77, 0, 0, 0, 0) := fr fe_X7_colour_2 21 rfl
theorem i_X7_colour_77 : fetch 122 77 = some (.aload_n 0, 78, 0, 0, 0, 0) := fr fe_X7_colour_2 22 rfl
theorem i_X7_colour_78 : fetch 122 78 = some (.getfield 51, 81, 7, 11, 0, 514) := fr fe_X7_colour_2 23 rfl
theorem i_X7_colour_81 : fetch 122 81 = some (.iconst 0, 82, 0, 0, 0, 0) := fr fe_X7_colour_2 24 rfl
theorem i_X7_colour_82 : fetch 122 82 = some (.aload_n 0, 83, 0, 0, 0, 0) := fr fe_X7_colour_3 0 rfl
theorem i_X7_colour_83 : fetch 122 83 = some (.getfield 47, 86, 7, 10, 0, 513) := fr fe_X7_colour_3 1 rfl
theorem i_X7_colour_86 : fetch 122 86 = some (.iconst 0, 87, 0, 0, 0, 0) := fr fe_X7_colour_3 2 rfl
theorem i_X7_colour_87 : fetch 122 87 = some (.bipush 16, 89, 0, 0, 0, 0) := fr fe_X7_colour_3 3 rfl
theorem i_X7_colour_89 : fetch 122 89 = some (.invokestatic 311, 92, 1001, 0, 0, 940) := fr fe_X7_colour_3 4 rfl
theorem i_X7_colour_92 : fetch 122 92 = some (.iinc 3 1, 95, 0, 0, 0, 0) := fr fe_X7_colour_3 5 rfl
theorem i_X7_colour_95 : fetch 122 95 = some (.goto (-68), 98, 0, 0, 0, 0) := fr fe_X7_colour_3 6 rfl
theorem i_X7_colour_98 : fetch 122 98 = some (.return_, 99, 0, 0, 0, 0) := fr fe_X7_colour_3 7 rfl
theorem i_X7_colours_0 : fetch 98 0 = some (.iload_n 1, 1, 0, 0, 0, 0) := fr fe_X7_colours_1 0 rfl
theorem i_X7_colours_1 : fetch 98 1 = some (.iconst 0, 2, 0, 0, 0, 0) := fr fe_X7_colours_1 1 rfl
theorem i_X7_colours_2 : fetch 98 2 = some (.ldc_w 279, 5, 0, 0, 65535, 935) := fr fe_X7_colours_1 2 rfl
theorem i_X7_colours_5 : fetch 98 5 = some (.invokestatic 112, 8, 110, 0, 0, 554) := fr fe_X7_colours_1 3 rfl
theorem i_X7_colours_8 : fetch 98 8 = some (.ifCond .eq 22, 11, 0, 0, 0, 0) := fr fe_X7_colours_1 4 rfl
theorem i_X7_colours_11 : fetch 98 11 = some (.iload_n 2, 12, 0, 0, 0, 0) := fr fe_X7_colours_1 5 rfl
theorem i_X7_colours_12 : fetch 98 12 = some (.iconst 0, 13, 0, 0, 0, 0) := fr fe_X7_colours_1 6 rfl
theorem i_X7_colours_13 : fetch 98 13 = some (.bipush 10, 15, 0, 0, 0, 0) := fr fe_X7_colours_1 7 rfl
theorem i_X7_colours_15 : fetch 98 15 = some (.invokestatic 112, 18, 110, 0, 0, 554) := fr fe_X7_colours_1 8 rfl
theorem i_X7_colours_18 : fetch 98 18 = some (.ifCond .eq 12, 21, 0, 0, 0, 0) := fr fe_X7_colours_1 9 rfl
theorem i_X7_colours_21 : fetch 98 21 = some (.iload_n 3, 22, 0, 0, 0, 0) := fr fe_X7_colours_1 10 rfl
theorem i_X7_colours_22 : fetch 98 22 = some (.iconst 0, 23, 0, 0, 0, 0) := fr fe_X7_colours_1 11 rfl
theorem i_X7_colours_23 : fetch 98 23 = some (.iconst 2, 24, 0, 0, 0, 0) := fr fe_X7_colours_1 12 rfl
theorem i_X7_colours_24 : fetch 98 24 = some (.invokestatic 112, 27, 110, 0, 0, 554) := fr fe_X7_colours_1 13 rfl
theorem i_X7_colours_27 : fetch 98 27 = some (.ifCond .ne 6, 30, 0, 0, 0, 0) := fr fe_X7_colours_1 14 rfl
theorem i_X7_colours_30 : fetch 98 30 = some (.bipush (-2), 32, 0, 0, 0, 0) := fr fe_X7_colours_1 15 rfl
theorem i_X7_colours_32 : fetch 98 32 = some (.ireturn, 33, 0, 0, 0, 0) := fr fe_X7_colours_1 16 rfl
theorem i_X7_colours_33 : fetch 98 33 = some (.aload_n 0, 34, 0, 0, 0, 0) := fr fe_X7_colours_1 17 rfl
theorem i_X7_colours_34 : fetch 98 34 = some (.iload_n 1, 35, 0, 0, 0, 0) := fr fe_X7_colours_1 18 rfl
theorem i_X7_colours_35 : fetch 98 35 = some (.iload_n 2, 36, 0, 0, 0, 0) := fr fe_X7_colours_1 19 rfl
theorem i_X7_colours_36 : fetch 98 36 = some (.invokevirtual 280, 39, 122, 0, 0, 936) := fr fe_X7_colours_1 20 rfl
theorem i_X7_colours_39 : fetch 98 39 = some (.aload_n 0, 40, 0, 0, 0, 0) := fr fe_X7_colours_1 21 rfl
theorem i_X7_colours_40 : fetch 98 40 = some (.getfield 47, 43, 7, 10, 0, 513) := fr fe_X7_colours_1 22 rfl
theorem i_X7_colours_43 : fetch 98 43 = some (.iconst 0, 44, 0, 0, 0, 0) := fr fe_X7_colours_1 23 rfl
theorem i_X7_colours_44 : fetch 98 44 = some (.iaload, 45, 0, 0, 0, 0) := fr fe_X7_colours_1 24 rfl
theorem i_X7_colours_45 : fetch 98 45 = some (.istore 4, 47, 0, 0, 0, 0) := fr fe_X7_colours_2 0 rfl
theorem i_X7_colours_47 : fetch 98 47 = some (.aload_n 0, 48, 0, 0, 0, 0) := fr fe_X7_colours_2 1 rfl
theorem i_X7_colours_48 : fetch 98 48 = some (.getfield 47, 51, 7, 10, 0, 513) := fr fe_X7_colours_2 2 rfl
theorem i_X7_colours_51 : fetch 98 51 = some (.iconst 0, 52, 0, 0, 0, 0) := fr fe_X7_colours_2 3 rfl
theorem i_X7_colours_52 : fetch 98 52 = some (.iaload, 53, 0, 0, 0, 0) := fr fe_X7_colours_2 4 rfl
theorem i_X7_colours_53 : fetch 98 53 = some (.istore 5, 55, 0, 0, 0, 0) := fr fe_X7_colours_2 5 rfl
theorem i_X7_colours_55 : fetch 98 55 = some (.iconst 0, 56, 0, 0, 0, 0) := fr fe_X7_colours_2 6 rfl
theorem i_X7_colours_56 : fetch 98 56 = some (.istore 6, 58, 0, 0, 0, 0) := fr fe_X7_colours_2 7 rfl
theorem i_X7_colours_58 : fetch 98 58 = some (.iconst 0, 59, 0, 0, 0, 0) := fr fe_X7_colours_2 8 rfl
theorem i_X7_colours_59 : fetch 98 59 = some (.istore 7, 61, 0, 0, 0, 0) := fr fe_X7_colours_2 9 rfl
theorem i_X7_colours_61 : fetch 98 61 = some (.iload 7, 63, 0, 0, 0, 0) := fr fe_X7_colours_2 10 rfl
theorem i_X7_colours_63 : fetch 98 63 = some (.bipush 16, 65, 0, 0, 0, 0) := fr fe_X7_colours_2 11 rfl
theorem i_X7_colours_65 : fetch 98 65 = some (.if_icmp .ge 59, 68, 0, 0, 0, 0) := fr fe_X7_colours_2 12 rfl
theorem i_X7_colours_68 : fetch 98 68 = some (.iload 4, 70, 0, 0, 0, 0) := fr fe_X7_colours_2 13 rfl
theorem i_X7_colours_70 : fetch 98 70 = some (.aload_n 0, 71, 0, 0, 0, 0) := fr fe_X7_colours_2 14 rfl
theorem i_X7_colours_71 : fetch 98 71 = some (.getfield 47, 74, 7, 10, 0, 513) := fr fe_X7_colours_2 15 rfl
theorem i_X7_colours_74 : fetch 98 74 = some (.iload 7, 76, 0, 0, 0, 0) := fr fe_X7_colours_2 16 rfl
theorem i_X7_colours_76 : fetch 98 76 = some (.iaload, 77, 0, 0, 0, 0) := fr fe_X7_colours_2 17 rfl
theorem i_X7_colours_77 : fetch 98 77 = some (.invokestatic 283, 80, 1005, 0, 0, 941) := fr fe_X7_colours_2 18 rfl
theorem i_X7_colours_80 : fetch 98 80 = some (.istore 4, 82, 0, 0, 0, 0) := fr fe_X7_colours_2 19 rfl
theorem i_X7_colours_82 : fetch 98 82 = some (.iload 5, 84, 0, 0, 0, 0) := fr fe_X7_colours_2 20 rfl
theorem i_X7_colours_84 : fetch 98 84 = some (.aload_n 0, 85, 0, 0, 0, 0) := fr fe_X7_colours_2 21 rfl
theorem i_X7_colours_85 : fetch 98 85 = some (.getfield 47, 88, 7, 10, 0, 513) := fr fe_X7_colours_2 22 rfl
theorem i_X7_colours_88 : fetch 98 88 = some (.iload 7, 90, 0, 0, 0, 0) := fr fe_X7_colours_2 23 rfl
theorem i_X7_colours_90 : fetch 98 90 = some (.iaload, 91, 0, 0, 0, 0) := fr fe_X7_colours_2 24 rfl
theorem i_X7_colours_91 : fetch 98 91 = some (.invokestatic 286, 94, 1003, 0, 0, 942) := fr fe_X7_colours_3 0 rfl
theorem i_X7_colours_94 : fetch 98 94 = some (.istore 5, 96, 0, 0, 0, 0) := fr fe_X7_colours_3 1 rfl
theorem i_X7_colours_96 : fetch 98 96 = some (.aload_n 0, 97, 0, 0, 0, 0) := fr fe_X7_colours_3 2 rfl
theorem i_X7_colours_97 : fetch 98 97 = some (.getfield 47, 100, 7, 10, 0, 513) := fr fe_X7_colours_3 3 rfl
theorem i_X7_colours_100 : fetch 98 100 = some (.iload 7, 102, 0, 0, 0, 0) := fr fe_X7_colours_3 4 rfl
theorem i_X7_colours_102 : fetch 98 102 = some (.iaload, 103, 0, 0, 0, 0) := fr fe_X7_colours_3 5 rfl
theorem i_X7_colours_103 : fetch 98 103 = some (.iconst 1, 104, 0, 0, 0, 0) := fr fe_X7_colours_3 6 rfl
theorem i_X7_colours_104 : fetch 98 104 = some (.iconst 1, 105, 0, 0, 0, 0) := fr fe_X7_colours_3 7 rfl
theorem i_X7_colours_105 : fetch 98 105 = some (.iload_n 2, 106, 0, 0, 0, 0) := fr fe_X7_colours_3 8 rfl
theorem i_X7_colours_106 : fetch 98 106 = some (.ishl, 107, 0, 0, 0, 0) := fr fe_X7_colours_3 9 rfl
theorem i_X7_colours_107 : fetch 98 107 = some (.iconst 1, 108, 0, 0, 0, 0) := fr fe_X7_colours_3 10 rfl
theorem i_X7_colours_108 : fetch 98 108 = some (.isub, 109, 0, 0, 0, 0) := fr fe_X7_colours_3 11 rfl
theorem i_X7_colours_109 : fetch 98 109 = some (.invokestatic 112, 112, 110, 0, 0, 554) := fr fe_X7_colours_3 12 rfl
theorem i_X7_colours_112 : fetch 98 112 = some (.ifCond .eq 6, 115, 0, 0, 0, 0) := fr fe_X7_colours_3 13 rfl
theorem i_X7_colours_115 : fetch 98 115 = some (.iinc 6 1, 118, 0, 0, 0, 0) := fr fe_X7_colours_3 14 rfl
theorem i_X7_colours_118 : fetch 98 118 = some (.iinc 7 1, 121, 0, 0, 0, 0) := fr fe_X7_colours_3 15 rfl
theorem i_X7_colours_121 : fetch 98 121 = some (.goto (-60), 124, 0, 0, 0, 0) := fr fe_X7_colours_3 16 rfl
theorem i_X7_colours_124 : fetch 98 124 = some (.iload_n 3, 125, 0, 0, 0, 0) := fr fe_X7_colours_3 17 rfl
theorem i_X7_colours_125 : fetch 98 125 = some (.ifCond .ne 8, 128, 0, 0, 0, 0) := fr fe_X7_colours_3 18 rfl
theorem i_X7_colours_128 : fetch 98 128 = some (.iload 4, 130, 0, 0, 0, 0) := fr fe_X7_colours_3 19 rfl
theorem i_X7_colours_130 : fetch 98 130 = some (.goto 15, 133, 0, 0, 0, 0) := fr fe_X7_colours_3 20 rfl
theorem i_X7_colours_133 : fetch 98 133 = some (.iload_n 3, 134, 0, 0, 0, 0) := fr fe_X7_colours_3 21 rfl
theorem i_X7_colours_134 : fetch 98 134 = some (.iconst 1, 135, 0, 0, 0, 0) := fr fe_X7_colours_3 22 rfl
theorem i_X7_colours_135 : fetch 98 135 = some (.if_icmp .ne 8, 138, 0, 0, 0, 0) := fr fe_X7_colours_3 23 rfl
theorem i_X7_colours_138 : fetch 98 138 = some (.iload 5, 140, 0, 0, 0, 0) := fr fe_X7_colours_3 24 rfl
theorem i_X7_colours_140 : fetch 98 140 = some (.goto 5, 143, 0, 0, 0, 0) := fr fe_X7_colours_4 0 rfl
theorem i_X7_colours_143 : fetch 98 143 = some (.iload 6, 145, 0, 0, 0, 0) := fr fe_X7_colours_4 1 rfl
theorem i_X7_colours_145 : fetch 98 145 = some (.ireturn, 146, 0, 0, 0, 0) := fr fe_X7_colours_4 2 rfl
theorem i_X7_inLowestTerms_0 : fetch 124 0 = some (.lload_n 0, 1, 0, 0, 0, 0) := fr fe_X7_inLowestTerms_1 0 rfl
theorem i_X7_inLowestTerms_1 : fetch 124 1 = some (.lstore 5, 3, 0, 0, 0, 0) := fr fe_X7_inLowestTerms_1 1 rfl
theorem i_X7_inLowestTerms_3 : fetch 124 3 = some (.lload_n 2, 4, 0, 0, 0, 0) := fr fe_X7_inLowestTerms_1 2 rfl
theorem i_X7_inLowestTerms_4 : fetch 124 4 = some (.lstore 7, 6, 0, 0, 0, 0) := fr fe_X7_inLowestTerms_1 3 rfl
theorem i_X7_inLowestTerms_6 : fetch 124 6 = some (.iconst 0, 7, 0, 0, 0, 0) := fr fe_X7_inLowestTerms_1 4 rfl
theorem i_X7_inLowestTerms_7 : fetch 124 7 = some (.istore 9, 9, 0, 0, 0, 0) := fr fe_X7_inLowestTerms_1 5 rfl
theorem i_X7_inLowestTerms_9 : fetch 124 9 = some (.iload 9, 11, 0, 0, 0, 0) := fr fe_X7_inLowestTerms_1 6 rfl
theorem i_X7_inLowestTerms_11 : fetch 124 11 = some (.sipush 200, 14, 0, 0, 0, 0) := fr fe_X7_inLowestTerms_1 7 rfl
theorem i_X7_inLowestTerms_14 : fetch 124 14 = some (.if_icmp .ge 31, 17, 0, 0, 0, 0) := fr fe_X7_inLowestTerms_1 8 rfl
theorem i_X7_inLowestTerms_17 : fetch 124 17 = some (.lload 7, 19, 0, 0, 0, 0) := fr fe_X7_inLowestTerms_1 9 rfl
theorem i_X7_inLowestTerms_19 : fetch 124 19 = some (.lconst 0, 20, 0, 0, 0, 0) := fr fe_X7_inLowestTerms_1 10 rfl
theorem i_X7_inLowestTerms_20 : fetch 124 20 = some (.lcmp, 21, 0, 0, 0, 0) := fr fe_X7_inLowestTerms_1 11 rfl
theorem i_X7_inLowestTerms_21 : fetch 124 21 = some (.ifCond .eq 24, 24, 0, 0, 0, 0) := fr fe_X7_inLowestTerms_1 12 rfl
theorem i_X7_inLowestTerms_24 : fetch 124 24 = some (.lload 5, 26, 0, 0, 0, 0) := fr fe_X7_inLowestTerms_1 13 rfl
theorem i_X7_inLowestTerms_26 : fetch 124 26 = some (.lload 7, 28, 0, 0, 0, 0) := fr fe_X7_inLowestTerms_1 14 rfl
theorem i_X7_inLowestTerms_28 : fetch 124 28 = some (.lrem, 29, 0, 0, 0, 0) := fr fe_X7_inLowestTerms_1 15 rfl
theorem i_X7_inLowestTerms_29 : fetch 124 29 = some (.lstore 10, 31, 0, 0, 0, 0) := fr fe_X7_inLowestTerms_1 16 rfl
theorem i_X7_inLowestTerms_31 : fetch 124 31 = some (.lload 7, 33, 0, 0, 0, 0) := fr fe_X7_inLowestTerms_1 17 rfl
theorem i_X7_inLowestTerms_33 : fetch 124 33 = some (.lstore 5, 35, 0, 0, 0, 0) := fr fe_X7_inLowestTerms_1 18 rfl
theorem i_X7_inLowestTerms_35 : fetch 124 35 = some (.lload 10, 37, 0, 0, 0, 0) := fr fe_X7_inLowestTerms_1 19 rfl
theorem i_X7_inLowestTerms_37 : fetch 124 37 = some (.lstore 7, 39, 0, 0, 0, 0) := fr fe_X7_inLowestTerms_1 20 rfl
theorem i_X7_inLowestTerms_39 : fetch 124 39 = some (.iinc 9 1, 42, 0, 0, 0, 0) := fr fe_X7_inLowestTerms_1 21 rfl
theorem i_X7_inLowestTerms_42 : fetch 124 42 = some (.goto (-33), 45, 0, 0, 0, 0) := fr fe_X7_inLowestTerms_1 22 rfl
theorem i_X7_inLowestTerms_45 : fetch 124 45 = some (.iload 4, 47, 0, 0, 0, 0) := fr fe_X7_inLowestTerms_1 23 rfl
theorem i_X7_inLowestTerms_47 : fetch 124 47 = some (.ifCond .ne 7, 50, 0, 0, 0, 0) := fr fe_X7_inLowestTerms_1 24 rfl
theorem i_X7_inLowestTerms_50 : fetch 124 50 = some (.lload_n 0, 51, 0, 0, 0, 0) := fr fe_X7_inLowestTerms_2 0 rfl
theorem i_X7_inLowestTerms_51 : fetch 124 51 = some (.goto 4, 54, 0, 0, 0, 0) := fr fe_X7_inLowestTerms_2 1 rfl
theorem i_X7_inLowestTerms_54 : fetch 124 54 = some (.lload_n 2, 55, 0, 0, 0, 0) := fr fe_X7_inLowestTerms_2 2 rfl
theorem i_X7_inLowestTerms_55 : fetch 124 55 = some (.lload 5, 57, 0, 0, 0, 0) := fr fe_X7_inLowestTerms_2 3 rfl
theorem i_X7_inLowestTerms_57 : fetch 124 57 = some (.invokestatic 340, 60, 111, 0, 0, 951) := fr fe_X7_inLowestTerms_2 4 rfl
theorem i_X7_inLowestTerms_60 : fetch 124 60 = some (.lreturn, 61, 0, 0, 0, 0) := fr fe_X7_inLowestTerms_2 5 rfl
theorem i_X7_thin_0 : fetch 99 0 = some (.iload_n 1, 1, 0, 0, 0, 0) := fr fe_X7_thin 0 rfl
theorem i_X7_thin_1 : fetch 99 1 = some (.iconst 1, 2, 0, 0, 0, 0) := fr fe_X7_thin 1 rfl
theorem i_X7_thin_2 : fetch 99 2 = some (.ldc_w 289, 5, 0, 0, 999999, 947) := fr fe_X7_thin 2 rfl
theorem i_X7_thin_5 : fetch 99 5 = some (.invokestatic 112, 8, 110, 0, 0, 554) := fr fe_X7_thin 3 rfl
theorem i_X7_thin_8 : fetch 99 8 = some (.ifCond .eq 22, 11, 0, 0, 0, 0) := fr fe_X7_thin 4 rfl
theorem i_X7_thin_11 : fetch 99 11 = some (.iload_n 2, 12, 0, 0, 0, 0) := fr fe_X7_thin 5 rfl
theorem i_X7_thin_12 : fetch 99 12 = some (.iconst 0, 13, 0, 0, 0, 0) := fr fe_X7_thin 6 rfl
theorem i_X7_thin_13 : fetch 99 13 = some (.bipush 30, 15, 0, 0, 0, 0) := fr fe_X7_thin 7 rfl
theorem i_X7_thin_15 : fetch 99 15 = some (.invokestatic 112, 18, 110, 0, 0, 554) := fr fe_X7_thin 8 rfl
theorem i_X7_thin_18 : fetch 99 18 = some (.ifCond .eq 12, 21, 0, 0, 0, 0) := fr fe_X7_thin 9 rfl
theorem i_X7_thin_21 : fetch 99 21 = some (.iload_n 3, 22, 0, 0, 0, 0) := fr fe_X7_thin 10 rfl
theorem i_X7_thin_22 : fetch 99 22 = some (.iconst 0, 23, 0, 0, 0, 0) := fr fe_X7_thin 11 rfl
theorem i_X7_thin_23 : fetch 99 23 = some (.iconst 1, 24, 0, 0, 0, 0) := fr fe_X7_thin 12 rfl
theorem i_X7_thin_24 : fetch 99 24 = some (.invokestatic 112, 27, 110, 0, 0, 554) := fr fe_X7_thin 13 rfl
theorem i_X7_thin_27 : fetch 99 27 = some (.ifCond .ne 7, 30, 0, 0, 0, 0) := fr fe_X7_thin 14 rfl
theorem i_X7_thin_30 : fetch 99 30 = some (.ldc2_w 195, 33, 0, 0, (-4611686018427387904), 767) := fr fe_X7_thin 15 rfl
theorem i_X7_thin_33 : fetch 99 33 = some (.lreturn, 34, 0, 0, 0, 0) := fr fe_X7_thin 16 rfl
theorem i_X7_thin_34 : fetch 99 34 = some (.iload_n 1, 35, 0, 0, 0, 0) := fr fe_X7_thin 17 rfl
theorem i_X7_thin_35 : fetch 99 35 = some (.i2l, 36, 0, 0, 0, 0) := fr fe_X7_thin 18 rfl
theorem i_X7_thin_36 : fetch 99 36 = some (.lconst 1, 37, 0, 0, 0, 0) := fr fe_X7_thin 19 rfl
theorem i_X7_thin_37 : fetch 99 37 = some (.iload_n 2, 38, 0, 0, 0, 0) := fr fe_X7_thin 20 rfl
theorem i_X7_thin_38 : fetch 99 38 = some (.lshl, 39, 0, 0, 0, 0) := fr fe_X7_thin 21 rfl
theorem i_X7_thin_39 : fetch 99 39 = some (.iload_n 3, 40, 0, 0, 0, 0) := fr fe_X7_thin 22 rfl
theorem i_X7_thin_40 : fetch 99 40 = some (.invokestatic 290, 43, 124, 0, 0, 948) := fr fe_X7_thin 23 rfl
theorem i_X7_thin_43 : fetch 99 43 = some (.lreturn, 44, 0, 0, 0, 0) := fr fe_X7_thin 24 rfl
theorem i_X7_areOdds_0 : fetch 116 0 = some (.iload_n 1, 1, 0, 0, 0, 0) := fr fe_X7_areOdds 0 rfl
theorem i_X7_areOdds_1 : fetch 116 1 = some (.iconst 1, 2, 0, 0, 0, 0) := fr fe_X7_areOdds 1 rfl
theorem i_X7_areOdds_2 : fetch 116 2 = some (.bipush 30, 4, 0, 0, 0, 0) := fr fe_X7_areOdds 2 rfl
theorem i_X7_areOdds_4 : fetch 116 4 = some (.invokestatic 112, 7, 110, 0, 0, 554) := fr fe_X7_areOdds 3 rfl
theorem i_X7_areOdds_7 : fetch 116 7 = some (.ifCond .eq 16, 10, 0, 0, 0, 0) := fr fe_X7_areOdds 4 rfl
theorem i_X7_areOdds_10 : fetch 116 10 = some (.iload_n 0, 11, 0, 0, 0, 0) := fr fe_X7_areOdds 5 rfl
theorem i_X7_areOdds_11 : fetch 116 11 = some (.iconst 0, 12, 0, 0, 0, 0) := fr fe_X7_areOdds 6 rfl
theorem i_X7_areOdds_12 : fetch 116 12 = some (.iload_n 1, 13, 0, 0, 0, 0) := fr fe_X7_areOdds 7 rfl
theorem i_X7_areOdds_13 : fetch 116 13 = some (.invokestatic 112, 16, 110, 0, 0, 554) := fr fe_X7_areOdds 8 rfl
theorem i_X7_areOdds_16 : fetch 116 16 = some (.ifCond .eq 7, 19, 0, 0, 0, 0) := fr fe_X7_areOdds 9 rfl
theorem i_X7_areOdds_19 : fetch 116 19 = some (.iconst 1, 20, 0, 0, 0, 0) := fr fe_X7_areOdds 10 rfl
theorem i_X7_areOdds_20 : fetch 116 20 = some (.goto 4, 23, 0, 0, 0, 0) := fr fe_X7_areOdds 11 rfl
theorem i_X7_areOdds_23 : fetch 116 23 = some (.iconst 0, 24, 0, 0, 0, 0) := fr fe_X7_areOdds 12 rfl
theorem i_X7_areOdds_24 : fetch 116 24 = some (.ireturn, 25, 0, 0, 0, 0) := fr fe_X7_areOdds 13 rfl
theorem i_X7_multiplied_0 : fetch 123 0 = some (.lconst 1, 1, 0, 0, 0, 0) := fr fe_X7_multiplied 0 rfl
theorem i_X7_multiplied_1 : fetch 123 1 = some (.lstore_n 2, 2, 0, 0, 0, 0) := fr fe_X7_multiplied 1 rfl
theorem i_X7_multiplied_2 : fetch 123 2 = some (.iconst 0, 3, 0, 0, 0, 0) := fr fe_X7_multiplied 2 rfl
theorem i_X7_multiplied_3 : fetch 123 3 = some (.istore 4, 5, 0, 0, 0, 0) := fr fe_X7_multiplied 3 rfl
theorem i_X7_multiplied_5 : fetch 123 5 = some (.iload 4, 7, 0, 0, 0, 0) := fr fe_X7_multiplied 4 rfl
theorem i_X7_multiplied_7 : fetch 123 7 = some (.iload_n 1, 8, 0, 0, 0, 0) := fr fe_X7_multiplied 5 rfl
theorem i_X7_multiplied_8 : fetch 123 8 = some (.if_icmp .ge 14, 11, 0, 0, 0, 0) := fr fe_X7_multiplied 6 rfl
theorem i_X7_multiplied_11 : fetch 123 11 = some (.lload_n 2, 12, 0, 0, 0, 0) := fr fe_X7_multiplied 7 rfl
theorem i_X7_multiplied_12 : fetch 123 12 = some (.iload_n 0, 13, 0, 0, 0, 0) := fr fe_X7_multiplied 8 rfl
theorem i_X7_multiplied_13 : fetch 123 13 = some (.i2l, 14, 0, 0, 0, 0) := fr fe_X7_multiplied 9 rfl
theorem i_X7_multiplied_14 : fetch 123 14 = some (.lmul, 15, 0, 0, 0, 0) := fr fe_X7_multiplied 10 rfl
theorem i_X7_multiplied_15 : fetch 123 15 = some (.lstore_n 2, 16, 0, 0, 0, 0) := fr fe_X7_multiplied 11 rfl
theorem i_X7_multiplied_16 : fetch 123 16 = some (.iinc 4 1, 19, 0, 0, 0, 0) := fr fe_X7_multiplied 12 rfl
theorem i_X7_multiplied_19 : fetch 123 19 = some (.goto (-14), 22, 0, 0, 0, 0) := fr fe_X7_multiplied 13 rfl
theorem i_X7_multiplied_22 : fetch 123 22 = some (.lload_n 2, 23, 0, 0, 0, 0) := fr fe_X7_multiplied 14 rfl
theorem i_X7_multiplied_23 : fetch 123 23 = some (.lreturn, 24, 0, 0, 0, 0) := fr fe_X7_multiplied 15 rfl
theorem i_X7_odds_0 : fetch 100 0 = some (.iload_n 1, 1, 0, 0, 0, 0) := fr fe_X7_odds 0 rfl
theorem i_X7_odds_1 : fetch 100 1 = some (.iload_n 2, 2, 0, 0, 0, 0) := fr fe_X7_odds 1 rfl
theorem i_X7_odds_2 : fetch 100 2 = some (.invokestatic 294, 5, 116, 0, 0, 956) := fr fe_X7_odds 2 rfl
theorem i_X7_odds_5 : fetch 100 5 = some (.ifCond .eq 23, 8, 0, 0, 0, 0) := fr fe_X7_odds 3 rfl
theorem i_X7_odds_8 : fetch 100 8 = some (.iload_n 3, 9, 0, 0, 0, 0) := fr fe_X7_odds 4 rfl
theorem i_X7_odds_9 : fetch 100 9 = some (.iconst 0, 10, 0, 0, 0, 0) := fr fe_X7_odds 5 rfl
theorem i_X7_odds_10 : fetch 100 10 = some (.bipush 10, 12, 0, 0, 0, 0) := fr fe_X7_odds 6 rfl
theorem i_X7_odds_12 : fetch 100 12 = some (.invokestatic 112, 15, 110, 0, 0, 554) := fr fe_X7_odds 7 rfl
theorem i_X7_odds_15 : fetch 100 15 = some (.ifCond .eq 13, 18, 0, 0, 0, 0) := fr fe_X7_odds 8 rfl
theorem i_X7_odds_18 : fetch 100 18 = some (.iload 4, 20, 0, 0, 0, 0) := fr fe_X7_odds 9 rfl
theorem i_X7_odds_20 : fetch 100 20 = some (.iconst 0, 21, 0, 0, 0, 0) := fr fe_X7_odds 10 rfl
theorem i_X7_odds_21 : fetch 100 21 = some (.iconst 1, 22, 0, 0, 0, 0) := fr fe_X7_odds 11 rfl
theorem i_X7_odds_22 : fetch 100 22 = some (.invokestatic 112, 25, 110, 0, 0, 554) := fr fe_X7_odds 12 rfl
theorem i_X7_odds_25 : fetch 100 25 = some (.ifCond .ne 7, 28, 0, 0, 0, 0) := fr fe_X7_odds 13 rfl
theorem i_X7_odds_28 : fetch 100 28 = some (.ldc2_w 195, 31, 0, 0, (-4611686018427387904), 767) := fr fe_X7_odds 14 rfl
theorem i_X7_odds_31 : fetch 100 31 = some (.lreturn, 32, 0, 0, 0, 0) := fr fe_X7_odds 15 rfl
theorem i_X7_odds_32 : fetch 100 32 = some (.iload_n 2, 33, 0, 0, 0, 0) := fr fe_X7_odds 16 rfl
theorem i_X7_odds_33 : fetch 100 33 = some (.iload_n 1, 34, 0, 0, 0, 0) := fr fe_X7_odds 17 rfl
theorem i_X7_odds_34 : fetch 100 34 = some (.isub, 35, 0, 0, 0, 0) := fr fe_X7_odds 18 rfl
theorem i_X7_odds_35 : fetch 100 35 = some (.iload_n 3, 36, 0, 0, 0, 0) := fr fe_X7_odds 19 rfl
theorem i_X7_odds_36 : fetch 100 36 = some (.invokestatic 298, 39, 123, 0, 0, 959) := fr fe_X7_odds 20 rfl
theorem i_X7_odds_39 : fetch 100 39 = some (.iload_n 2, 40, 0, 0, 0, 0) := fr fe_X7_odds 21 rfl
theorem i_X7_odds_40 : fetch 100 40 = some (.iload_n 3, 41, 0, 0, 0, 0) := fr fe_X7_odds 22 rfl
theorem i_X7_odds_41 : fetch 100 41 = some (.invokestatic 298, 44, 123, 0, 0, 959) := fr fe_X7_odds 23 rfl
theorem i_X7_odds_44 : fetch 100 44 = some (.iload 4, 46, 0, 0, 0, 0) := fr fe_X7_odds 24 rfl
theorem i_X7_odds_46 : fetch 100 46 = some (.invokestatic 290, 49, 124, 0, 0, 948) := fr fe_X7_odds 25 rfl
theorem i_X7_odds_49 : fetch 100 49 = some (.lreturn, 50, 0, 0, 0, 0) := fr fe_X7_odds 26 rfl
theorem i_X7_record_0 : fetch 101 0 = some (.iload_n 1, 1, 0, 0, 0, 0) := fr fe_X7_record_1 0 rfl
theorem i_X7_record_1 : fetch 101 1 = some (.iload_n 2, 2, 0, 0, 0, 0) := fr fe_X7_record_1 1 rfl
theorem i_X7_record_2 : fetch 101 2 = some (.invokestatic 294, 5, 116, 0, 0, 956) := fr fe_X7_record_1 2 rfl
theorem i_X7_record_5 : fetch 101 5 = some (.ifCond .eq 13, 8, 0, 0, 0, 0) := fr fe_X7_record_1 3 rfl
theorem i_X7_record_8 : fetch 101 8 = some (.iload_n 3, 9, 0, 0, 0, 0) := fr fe_X7_record_1 4 rfl
theorem i_X7_record_9 : fetch 101 9 = some (.iconst 0, 10, 0, 0, 0, 0) := fr fe_X7_record_1 5 rfl
theorem i_X7_record_10 : fetch 101 10 = some (.bipush 100, 12, 0, 0, 0, 0) := fr fe_X7_record_1 6 rfl
theorem i_X7_record_12 : fetch 101 12 = some (.invokestatic 112, 15, 110, 0, 0, 554) := fr fe_X7_record_1 7 rfl
theorem i_X7_record_15 : fetch 101 15 = some (.ifCond .ne 6, 18, 0, 0, 0, 0) := fr fe_X7_record_1 8 rfl
theorem i_X7_record_18 : fetch 101 18 = some (.bipush (-2), 20, 0, 0, 0, 0) := fr fe_X7_record_1 9 rfl
theorem i_X7_record_20 : fetch 101 20 = some (.ireturn, 21, 0, 0, 0, 0) := fr fe_X7_record_1 10 rfl
theorem i_X7_record_21 : fetch 101 21 = some (.iconst 0, 22, 0, 0, 0, 0) := fr fe_X7_record_1 11 rfl
theorem i_X7_record_22 : fetch 101 22 = some (.istore 4, 24, 0, 0, 0, 0) := fr fe_X7_record_1 12 rfl
theorem i_X7_record_24 : fetch 101 24 = some (.iconst 0, 25, 0, 0, 0, 0) := fr fe_X7_record_1 13 rfl
theorem i_X7_record_25 : fetch 101 25 = some (.istore 5, 27, 0, 0, 0, 0) := fr fe_X7_record_1 14 rfl
theorem i_X7_record_27 : fetch 101 27 = some (.iload 5, 29, 0, 0, 0, 0) := fr fe_X7_record_1 15 rfl
theorem i_X7_record_29 : fetch 101 29 = some (.bipush 10, 31, 0, 0, 0, 0) := fr fe_X7_record_1 16 rfl
theorem i_X7_record_31 : fetch 101 31 = some (.if_icmp .gt 38, 34, 0, 0, 0, 0) := fr fe_X7_record_1 17 rfl
theorem i_X7_record_34 : fetch 101 34 = some (.iload_n 2, 35, 0, 0, 0, 0) := fr fe_X7_record_1 18 rfl
theorem i_X7_record_35 : fetch 101 35 = some (.iload_n 1, 36, 0, 0, 0, 0) := fr fe_X7_record_1 19 rfl
theorem i_X7_record_36 : fetch 101 36 = some (.isub, 37, 0, 0, 0, 0) := fr fe_X7_record_1 20 rfl
theorem i_X7_record_37 : fetch 101 37 = some (.iload 5, 39, 0, 0, 0, 0) := fr fe_X7_record_1 21 rfl
theorem i_X7_record_39 : fetch 101 39 = some (.invokestatic 298, 42, 123, 0, 0, 959) := fr fe_X7_record_1 22 rfl
theorem i_X7_record_42 : fetch 101 42 = some (.ldc2_w 210, 45, 0, 0, 100, 776) := fr fe_X7_record_1 23 rfl
theorem i_X7_record_45 : fetch 101 45 = some (.lmul, 46, 0, 0, 0, 0) := fr fe_X7_record_1 24 rfl
theorem i_X7_record_46 : fetch 101 46 = some (.iload_n 3, 47, 0, 0, 0, 0) := fr fe_X7_record_2 0 rfl
theorem i_X7_record_47 : fetch 101 47 = some (.i2l, 48, 0, 0, 0, 0) := fr fe_X7_record_2 1 rfl
theorem i_X7_record_48 : fetch 101 48 = some (.iload_n 2, 49, 0, 0, 0, 0) := fr fe_X7_record_2 2 rfl
theorem i_X7_record_49 : fetch 101 49 = some (.iload 5, 51, 0, 0, 0, 0) := fr fe_X7_record_2 3 rfl
theorem i_X7_record_51 : fetch 101 51 = some (.invokestatic 298, 54, 123, 0, 0, 959) := fr fe_X7_record_2 4 rfl
theorem i_X7_record_54 : fetch 101 54 = some (.lmul, 55, 0, 0, 0, 0) := fr fe_X7_record_2 5 rfl
theorem i_X7_record_55 : fetch 101 55 = some (.lcmp, 56, 0, 0, 0, 0) := fr fe_X7_record_2 6 rfl
theorem i_X7_record_56 : fetch 101 56 = some (.ifCond .lt 7, 59, 0, 0, 0, 0) := fr fe_X7_record_2 7 rfl
theorem i_X7_record_59 : fetch 101 59 = some (.iload 5, 61, 0, 0, 0, 0) := fr fe_X7_record_2 8 rfl
theorem i_X7_record_61 : fetch 101 61 = some (.istore 4, 63, 0, 0, 0, 0) := fr fe_X7_record_2 9 rfl
theorem i_X7_record_63 : fetch 101 63 = some (.iinc 5 1, 66, 0, 0, 0, 0) := fr fe_X7_record_2 10 rfl
theorem i_X7_record_66 : fetch 101 66 = some (.goto (-39), 69, 0, 0, 0, 0) := fr fe_X7_record_2 11 rfl
theorem i_X7_record_69 : fetch 101 69 = some (.iload 4, 71, 0, 0, 0, 0) := fr fe_X7_record_2 12 rfl
theorem i_X7_record_71 : fetch 101 71 = some (.ireturn, 72, 0, 0, 0, 0) := fr fe_X7_record_2 13 rfl
theorem i_X7_drawn_0 : fetch 102 0 = some (.aload_n 0, 1, 0, 0, 0, 0) := fr fe_X7_drawn_1 0 rfl
theorem i_X7_drawn_1 : fetch 102 1 = some (.iload_n 1, 2, 0, 0, 0, 0) := fr fe_X7_drawn_1 1 rfl
theorem i_X7_drawn_2 : fetch 102 2 = some (.invokevirtual 151, 5, 113, 0, 0, 620) := fr fe_X7_drawn_1 2 rfl
theorem i_X7_drawn_5 : fetch 102 5 = some (.ifCond .ne 6, 8, 0, 0, 0, 0) := fr fe_X7_drawn_1 3 rfl
theorem i_X7_drawn_8 : fetch 102 8 = some (.bipush (-5), 10, 0, 0, 0, 0) := fr fe_X7_drawn_1 4 rfl
theorem i_X7_drawn_10 : fetch 102 10 = some (.ireturn, 11, 0, 0, 0, 0) := fr fe_X7_drawn_1 5 rfl
theorem i_X7_drawn_11 : fetch 102 11 = some (.iload_n 2, 12, 0, 0, 0, 0) := fr fe_X7_drawn_1 6 rfl
theorem i_X7_drawn_12 : fetch 102 12 = some (.iconst 0, 13, 0, 0, 0, 0) := fr fe_X7_drawn_1 7 rfl
theorem i_X7_drawn_13 : fetch 102 13 = some (.bipush 11, 15, 0, 0, 0, 0) := fr fe_X7_drawn_1 8 rfl
theorem i_X7_drawn_15 : fetch 102 15 = some (.invokestatic 112, 18, 110, 0, 0, 554) := fr fe_X7_drawn_1 9 rfl
theorem i_X7_drawn_18 : fetch 102 18 = some (.ifCond .eq 23, 21, 0, 0, 0, 0) := fr fe_X7_drawn_1 10 rfl
theorem i_X7_drawn_21 : fetch 102 21 = some (.iload_n 3, 22, 0, 0, 0, 0) := fr fe_X7_drawn_1 11 rfl
theorem i_X7_drawn_22 : fetch 102 22 = some (.iconst 0, 23, 0, 0, 0, 0) := fr fe_X7_drawn_1 12 rfl
theorem i_X7_drawn_23 : fetch 102 23 = some (.ldc 116, 25, 0, 0, 99999, 555) := fr fe_X7_drawn_1 13 rfl
theorem i_X7_drawn_25 : fetch 102 25 = some (.invokestatic 112, 28, 110, 0, 0, 554) := fr fe_X7_drawn_1 14 rfl
theorem i_X7_drawn_28 : fetch 102 28 = some (.ifCond .eq 13, 31, 0, 0, 0, 0) := fr fe_X7_drawn_1 15 rfl
theorem i_X7_drawn_31 : fetch 102 31 = some (.iload 4, 33, 0, 0, 0, 0) := fr fe_X7_drawn_1 16 rfl
theorem i_X7_drawn_33 : fetch 102 33 = some (.iconst 0, 34, 0, 0, 0, 0) := fr fe_X7_drawn_1 17 rfl
theorem i_X7_drawn_34 : fetch 102 34 = some (.iconst 1, 35, 0, 0, 0, 0) := fr fe_X7_drawn_1 18 rfl
theorem i_X7_drawn_35 : fetch 102 35 = some (.invokestatic 112, 38, 110, 0, 0, 554) := fr fe_X7_drawn_1 19 rfl
theorem i_X7_drawn_38 : fetch 102 38 = some (.ifCond .ne 6, 41, 0, 0, 0, 0) := fr fe_X7_drawn_1 20 rfl
theorem i_X7_drawn_41 : fetch 102 41 = some (.bipush (-7), 43, 0, 0, 0, 0) := fr fe_X7_drawn_1 21 rfl
theorem i_X7_drawn_43 : fetch 102 43 = some (.ireturn, 44, 0, 0, 0, 0) := fr fe_X7_drawn_1 22 rfl
theorem i_X7_drawn_44 : fetch 102 44 = some (.aload_n 0, 45, 0, 0, 0, 0) := fr fe_X7_drawn_1 23 rfl
theorem i_X7_drawn_45 : fetch 102 45 = some (.aload_n 0, 46, 0, 0, 0, 0) := fr fe_X7_drawn_1 24 rfl
theorem i_X7_drawn_46 : fetch 102 46 = some (.getfield 10, 49, 7, 0, 0, 503) := fr fe_X7_drawn_2 0 rfl
theorem i_X7_drawn_49 : fetch 102 49 = some (.iload_n 1, 50, 0, 0, 0, 0) := fr fe_X7_drawn_2 1 rfl
theorem i_X7_drawn_50 : fetch 102 50 = some (.iconst (-1), 51, 0, 0, 0, 0) := fr fe_X7_drawn_2 2 rfl
theorem i_X7_drawn_51 : fetch 102 51 = some (.iload_n 3, 52, 0, 0, 0, 0) := fr fe_X7_drawn_2 3 rfl
theorem i_X7_drawn_52 : fetch 102 52 = some (.invokevirtual 154, 55, 118, 0, 0, 624) := fr fe_X7_drawn_2 4 rfl
theorem i_X7_drawn_55 : fetch 102 55 = some (.iload 4, 57, 0, 0, 0, 0) := fr fe_X7_drawn_2 5 rfl
theorem i_X7_drawn_57 : fetch 102 57 = some (.ifCond .ne 14, 60, 0, 0, 0, 0) := fr fe_X7_drawn_2 6 rfl
theorem i_X7_drawn_60 : fetch 102 60 = some (.aload_n 0, 61, 0, 0, 0, 0) := fr fe_X7_drawn_2 7 rfl
theorem i_X7_drawn_61 : fetch 102 61 = some (.getfield 82, 64, 7, 7, 0, 510) := fr fe_X7_drawn_2 8 rfl
theorem i_X7_drawn_64 : fetch 102 64 = some (.iload_n 2, 65, 0, 0, 0, 0) := fr fe_X7_drawn_2 9 rfl
theorem i_X7_drawn_65 : fetch 102 65 = some (.invokevirtual 158, 68, 39, 0, 0, 736) := fr fe_X7_drawn_2 10 rfl
theorem i_X7_drawn_68 : fetch 102 68 = some (.goto 10, 71, 0, 0, 0, 0) := fr fe_X7_drawn_2 11 rfl
theorem i_X7_drawn_71 : fetch 102 71 = some (.aload_n 0, 72, 0, 0, 0, 0) := fr fe_X7_drawn_2 12 rfl
theorem i_X7_drawn_72 : fetch 102 72 = some (.getfield 82, 75, 7, 7, 0, 510) := fr fe_X7_drawn_2 13 rfl
theorem i_X7_drawn_75 : fetch 102 75 = some (.invokevirtual 176, 78, 42, 0, 0, 752) := fr fe_X7_drawn_2 14 rfl
theorem i_X7_drawn_78 : fetch 102 78 = some (.ireturn, 79, 0, 0, 0, 0) := fr fe_X7_drawn_2 15 rfl
theorem i_X7_image_0 : fetch 103 0 = some (.aload_n 0, 1, 0, 0, 0, 0) := fr fe_X7_image 0 rfl
theorem i_X7_image_1 : fetch 103 1 = some (.getfield 16, 4, 7, 1, 0, 504) := fr fe_X7_image 1 rfl
theorem i_X7_image_4 : fetch 103 4 = some (.aload_n 0, 5, 0, 0, 0, 0) := fr fe_X7_image 2 rfl
theorem i_X7_image_5 : fetch 103 5 = some (.getfield 10, 8, 7, 0, 0, 503) := fr fe_X7_image 3 rfl
theorem i_X7_image_8 : fetch 103 8 = some (.invokevirtual 258, 11, 2, 0, 0, 872) := fr fe_X7_image 4 rfl
theorem i_X7_image_11 : fetch 103 11 = some (.aload_n 0, 12, 0, 0, 0, 0) := fr fe_X7_image 5 rfl
theorem i_X7_image_12 : fetch 103 12 = some (.iconst 1, 13, 0, 0, 0, 0) := fr fe_X7_image 6 rfl
theorem i_X7_image_13 : fetch 103 13 = some (.putfield 61, 16, 7, 14, 0, 517) := fr fe_X7_image 7 rfl
theorem i_X7_image_16 : fetch 103 16 = some (.aload_n 0, 17, 0, 0, 0, 0) := fr fe_X7_image 8 rfl
theorem i_X7_image_17 : fetch 103 17 = some (.getfield 54, 20, 7, 12, 0, 515) := fr fe_X7_image 9 rfl
theorem i_X7_image_20 : fetch 103 20 = some (.ireturn, 21, 0, 0, 0, 0) := fr fe_X7_image 10 rfl
theorem i_X7_back_0 : fetch 104 0 = some (.aload_n 0, 1, 0, 0, 0, 0) := fr fe_X7_back 0 rfl
theorem i_X7_back_1 : fetch 104 1 = some (.getfield 61, 4, 7, 14, 0, 517) := fr fe_X7_back 1 rfl
theorem i_X7_back_4 : fetch 104 4 = some (.ifCond .ne 6, 7, 0, 0, 0, 0) := fr fe_X7_back 2 rfl
theorem i_X7_back_7 : fetch 104 7 = some (.bipush (-3), 9, 0, 0, 0, 0) := fr fe_X7_back 3 rfl
theorem i_X7_back_9 : fetch 104 9 = some (.ireturn, 10, 0, 0, 0, 0) := fr fe_X7_back 4 rfl
theorem i_X7_back_10 : fetch 104 10 = some (.aload_n 0, 11, 0, 0, 0, 0) := fr fe_X7_back 5 rfl
theorem i_X7_back_11 : fetch 104 11 = some (.getfield 10, 14, 7, 0, 0, 503) := fr fe_X7_back 6 rfl
theorem i_X7_back_14 : fetch 104 14 = some (.aload_n 0, 15, 0, 0, 0, 0) := fr fe_X7_back 7 rfl
theorem i_X7_back_15 : fetch 104 15 = some (.getfield 16, 18, 7, 1, 0, 504) := fr fe_X7_back 8 rfl
theorem i_X7_back_18 : fetch 104 18 = some (.invokevirtual 258, 21, 2, 0, 0, 872) := fr fe_X7_back 9 rfl
theorem i_X7_back_21 : fetch 104 21 = some (.aload_n 0, 22, 0, 0, 0, 0) := fr fe_X7_back 10 rfl
theorem i_X7_back_22 : fetch 104 22 = some (.getfield 54, 25, 7, 12, 0, 515) := fr fe_X7_back 11 rfl
theorem i_X7_back_25 : fetch 104 25 = some (.ireturn, 26, 0, 0, 0, 0) := fr fe_X7_back 12 rfl
theorem i_X7_sheet_0 : fetch 105 0 = some (.iload_n 1, 1, 0, 0, 0, 0) := fr fe_X7_sheet_1 0 rfl
theorem i_X7_sheet_1 : fetch 105 1 = some (.invokestatic 250, 4, 114, 0, 0, 843) := fr fe_X7_sheet_1 1 rfl
theorem i_X7_sheet_4 : fetch 105 4 = some (.ifCond .eq 12, 7, 0, 0, 0, 0) := fr fe_X7_sheet_1 2 rfl
theorem i_X7_sheet_7 : fetch 105 7 = some (.iload_n 2, 8, 0, 0, 0, 0) := fr fe_X7_sheet_1 3 rfl
theorem i_X7_sheet_8 : fetch 105 8 = some (.iconst (-1), 9, 0, 0, 0, 0) := fr fe_X7_sheet_1 4 rfl
theorem i_X7_sheet_9 : fetch 105 9 = some (.iconst 2, 10, 0, 0, 0, 0) := fr fe_X7_sheet_1 5 rfl
theorem i_X7_sheet_10 : fetch 105 10 = some (.invokestatic 112, 13, 110, 0, 0, 554) := fr fe_X7_sheet_1 6 rfl
theorem i_X7_sheet_13 : fetch 105 13 = some (.ifCond .ne 6, 16, 0, 0, 0, 0) := fr fe_X7_sheet_1 7 rfl
theorem i_X7_sheet_16 : fetch 105 16 = some (.bipush (-2), 18, 0, 0, 0, 0) := fr fe_X7_sheet_1 8 rfl
theorem i_X7_sheet_18 : fetch 105 18 = some (.ireturn, 19, 0, 0, 0, 0) := fr fe_X7_sheet_1 9 rfl
theorem i_X7_sheet_19 : fetch 105 19 = some (.iload_n 2, 20, 0, 0, 0, 0) := fr fe_X7_sheet_1 10 rfl
theorem i_X7_sheet_20 : fetch 105 20 = some (.iconst (-1), 21, 0, 0, 0, 0) := fr fe_X7_sheet_1 11 rfl
theorem i_X7_sheet_21 : fetch 105 21 = some (.if_icmp .ne 16, 24, 0, 0, 0, 0) := fr fe_X7_sheet_1 12 rfl
theorem i_X7_sheet_24 : fetch 105 24 = some (.aload_n 0, 25, 0, 0, 0, 0) := fr fe_X7_sheet_1 13 rfl
theorem i_X7_sheet_25 : fetch 105 25 = some (.getfield 43, 28, 7, 9, 0, 512) := fr fe_X7_sheet_1 14 rfl
theorem i_X7_sheet_28 : fetch 105 28 = some (.iload_n 1, 29, 0, 0, 0, 0) := fr fe_X7_sheet_1 15 rfl
theorem i_X7_sheet_29 : fetch 105 29 = some (.aaload, 30, 0, 0, 0, 0) := fr fe_X7_sheet_1 16 rfl
theorem i_X7_sheet_30 : fetch 105 30 = some (.iconst (-1), 31, 0, 0, 0, 0) := fr fe_X7_sheet_1 17 rfl
theorem i_X7_sheet_31 : fetch 105 31 = some (.iconst 0, 32, 0, 0, 0, 0) := fr fe_X7_sheet_1 18 rfl
theorem i_X7_sheet_32 : fetch 105 32 = some (.invokevirtual 253, 35, 51, 0, 0, 854) := fr fe_X7_sheet_1 19 rfl
theorem i_X7_sheet_35 : fetch 105 35 = some (.iconst 1, 36, 0, 0, 0, 0) := fr fe_X7_sheet_1 20 rfl
theorem i_X7_sheet_36 : fetch 105 36 = some (.ireturn, 37, 0, 0, 0, 0) := fr fe_X7_sheet_1 21 rfl
theorem i_X7_sheet_37 : fetch 105 37 = some (.iload_n 3, 38, 0, 0, 0, 0) := fr fe_X7_sheet_1 22 rfl
theorem i_X7_sheet_38 : fetch 105 38 = some (.bipush 40, 40, 0, 0, 0, 0) := fr fe_X7_sheet_1 23 rfl
theorem i_X7_sheet_40 : fetch 105 40 = some (.if_icmp .le 6, 43, 0, 0, 0, 0) := fr fe_X7_sheet_1 24 rfl
theorem i_X7_sheet_43 : fetch 105 43 = some (.bipush (-2), 45, 0, 0, 0, 0) := fr fe_X7_sheet_2 0 rfl
theorem i_X7_sheet_45 : fetch 105 45 = some (.ireturn, 46, 0, 0, 0, 0) := fr fe_X7_sheet_2 1 rfl
theorem i_X7_sheet_46 : fetch 105 46 = some (.iload_n 3, 47, 0, 0, 0, 0) := fr fe_X7_sheet_2 2 rfl
theorem i_X7_sheet_47 : fetch 105 47 = some (.ifCond .ge 6, 50, 0, 0, 0, 0) := fr fe_X7_sheet_2 3 rfl
theorem i_X7_sheet_50 : fetch 105 50 = some (.bipush (-14), 52, 0, 0, 0, 0) := fr fe_X7_sheet_2 4 rfl
theorem i_X7_sheet_52 : fetch 105 52 = some (.ireturn, 53, 0, 0, 0, 0) := fr fe_X7_sheet_2 5 rfl
theorem i_X7_sheet_53 : fetch 105 53 = some (.aload_n 0, 54, 0, 0, 0, 0) := fr fe_X7_sheet_2 6 rfl
theorem i_X7_sheet_54 : fetch 105 54 = some (.getfield 43, 57, 7, 9, 0, 512) := fr fe_X7_sheet_2 7 rfl
theorem i_X7_sheet_57 : fetch 105 57 = some (.iload_n 1, 58, 0, 0, 0, 0) := fr fe_X7_sheet_2 8 rfl
theorem i_X7_sheet_58 : fetch 105 58 = some (.aaload, 59, 0, 0, 0, 0) := fr fe_X7_sheet_2 9 rfl
theorem i_X7_sheet_59 : fetch 105 59 = some (.iload_n 2, 60, 0, 0, 0, 0) := fr fe_X7_sheet_2 10 rfl
theorem i_X7_sheet_60 : fetch 105 60 = some (.iload_n 3, 61, 0, 0, 0, 0) := fr fe_X7_sheet_2 11 rfl
theorem i_X7_sheet_61 : fetch 105 61 = some (.invokevirtual 253, 64, 51, 0, 0, 854) := fr fe_X7_sheet_2 12 rfl
theorem i_X7_sheet_64 : fetch 105 64 = some (.iconst 1, 65, 0, 0, 0, 0) := fr fe_X7_sheet_2 13 rfl
theorem i_X7_sheet_65 : fetch 105 65 = some (.ireturn, 66, 0, 0, 0, 0) := fr fe_X7_sheet_2 14 rfl
theorem i_X7_cell_0 : fetch 106 0 = some (.iload_n 1, 1, 0, 0, 0, 0) := fr fe_X7_cell_1 0 rfl
theorem i_X7_cell_1 : fetch 106 1 = some (.invokestatic 250, 4, 114, 0, 0, 843) := fr fe_X7_cell_1 1 rfl
theorem i_X7_cell_4 : fetch 106 4 = some (.ifCond .ne 6, 7, 0, 0, 0, 0) := fr fe_X7_cell_1 2 rfl
theorem i_X7_cell_7 : fetch 106 7 = some (.bipush (-2), 9, 0, 0, 0, 0) := fr fe_X7_cell_1 3 rfl
theorem i_X7_cell_9 : fetch 106 9 = some (.ireturn, 10, 0, 0, 0, 0) := fr fe_X7_cell_1 4 rfl
theorem i_X7_cell_10 : fetch 106 10 = some (.aload_n 0, 11, 0, 0, 0, 0) := fr fe_X7_cell_1 5 rfl
theorem i_X7_cell_11 : fetch 106 11 = some (.getfield 43, 14, 7, 9, 0, 512) := fr fe_X7_cell_1 6 rfl
theorem i_X7_cell_14 : fetch 106 14 = some (.iload_n 1, 15, 0, 0, 0, 0) := fr fe_X7_cell_1 7 rfl
theorem i_X7_cell_15 : fetch 106 15 = some (.aaload, 16, 0, 0, 0, 0) := fr fe_X7_cell_1 8 rfl
theorem i_X7_cell_16 : fetch 106 16 = some (.getfield 302, 19, 4, 1, 0, 196) := fr fe_X7_cell_1 9 rfl
theorem i_X7_cell_19 : fetch 106 19 = some (.iconst (-1), 20, 0, 0, 0, 0) := fr fe_X7_cell_1 10 rfl
theorem i_X7_cell_20 : fetch 106 20 = some (.if_icmp .ne 6, 23, 0, 0, 0, 0) := fr fe_X7_cell_1 11 rfl
theorem i_X7_cell_23 : fetch 106 23 = some (.bipush (-11), 25, 0, 0, 0, 0) := fr fe_X7_cell_1 12 rfl
theorem i_X7_cell_25 : fetch 106 25 = some (.ireturn, 26, 0, 0, 0, 0) := fr fe_X7_cell_1 13 rfl
theorem i_X7_cell_26 : fetch 106 26 = some (.aload_n 0, 27, 0, 0, 0, 0) := fr fe_X7_cell_1 14 rfl
theorem i_X7_cell_27 : fetch 106 27 = some (.getfield 43, 30, 7, 9, 0, 512) := fr fe_X7_cell_1 15 rfl
theorem i_X7_cell_30 : fetch 106 30 = some (.iload_n 1, 31, 0, 0, 0, 0) := fr fe_X7_cell_1 16 rfl
theorem i_X7_cell_31 : fetch 106 31 = some (.aaload, 32, 0, 0, 0, 0) := fr fe_X7_cell_1 17 rfl
theorem i_X7_cell_32 : fetch 106 32 = some (.iload_n 2, 33, 0, 0, 0, 0) := fr fe_X7_cell_1 18 rfl
theorem i_X7_cell_33 : fetch 106 33 = some (.iconst 1, 34, 0, 0, 0, 0) := fr fe_X7_cell_1 19 rfl
theorem i_X7_cell_34 : fetch 106 34 = some (.invokevirtual 305, 37, 52, 0, 0, 986) := fr fe_X7_cell_1 20 rfl
theorem i_X7_cell_37 : fetch 106 37 = some (.ifCond .ne 6, 40, 0, 0, 0, 0) := fr fe_X7_cell_1 21 rfl
theorem i_X7_cell_40 : fetch 106 40 = some (.bipush (-12), 42, 0, 0, 0, 0) := fr fe_X7_cell_1 22 rfl
theorem i_X7_cell_42 : fetch 106 42 = some (.ireturn, 43, 0, 0, 0, 0) := fr fe_X7_cell_1 23 rfl
theorem i_X7_cell_43 : fetch 106 43 = some (.aload_n 0, 44, 0, 0, 0, 0) := fr fe_X7_cell_1 24 rfl
theorem i_X7_cell_44 : fetch 106 44 = some (.getfield 43, 47, 7, 9, 0, 512) := fr fe_X7_cell_2 0 rfl
theorem i_X7_cell_47 : fetch 106 47 = some (.iload_n 1, 48, 0, 0, 0, 0) := fr fe_X7_cell_2 1 rfl
theorem i_X7_cell_48 : fetch 106 48 = some (.aaload, 49, 0, 0, 0, 0) := fr fe_X7_cell_2 2 rfl
theorem i_X7_cell_49 : fetch 106 49 = some (.iload_n 2, 50, 0, 0, 0, 0) := fr fe_X7_cell_2 3 rfl
theorem i_X7_cell_50 : fetch 106 50 = some (.iload_n 3, 51, 0, 0, 0, 0) := fr fe_X7_cell_2 4 rfl
theorem i_X7_cell_51 : fetch 106 51 = some (.invokevirtual 255, 54, 53, 0, 0, 860) := fr fe_X7_cell_2 5 rfl
theorem i_X7_cell_54 : fetch 106 54 = some (.iconst 1, 55, 0, 0, 0, 0) := fr fe_X7_cell_2 6 rfl
theorem i_X7_cell_55 : fetch 106 55 = some (.ireturn, 56, 0, 0, 0, 0) := fr fe_X7_cell_2 7 rfl
theorem i_X7_copy_0 : fetch 107 0 = some (.iload_n 1, 1, 0, 0, 0, 0) := fr fe_X7_copy_1 0 rfl
theorem i_X7_copy_1 : fetch 107 1 = some (.invokestatic 250, 4, 114, 0, 0, 843) := fr fe_X7_copy_1 1 rfl
theorem i_X7_copy_4 : fetch 107 4 = some (.ifCond .eq 10, 7, 0, 0, 0, 0) := fr fe_X7_copy_1 2 rfl
theorem i_X7_copy_7 : fetch 107 7 = some (.iload_n 3, 8, 0, 0, 0, 0) := fr fe_X7_copy_1 3 rfl
theorem i_X7_copy_8 : fetch 107 8 = some (.invokestatic 250, 11, 114, 0, 0, 843) := fr fe_X7_copy_1 4 rfl
theorem i_X7_copy_11 : fetch 107 11 = some (.ifCond .ne 6, 14, 0, 0, 0, 0) := fr fe_X7_copy_1 5 rfl
theorem i_X7_copy_14 : fetch 107 14 = some (.bipush (-2), 16, 0, 0, 0, 0) := fr fe_X7_copy_1 6 rfl
theorem i_X7_copy_16 : fetch 107 16 = some (.ireturn, 17, 0, 0, 0, 0) := fr fe_X7_copy_1 7 rfl
theorem i_X7_copy_17 : fetch 107 17 = some (.aload_n 0, 18, 0, 0, 0, 0) := fr fe_X7_copy_1 8 rfl
theorem i_X7_copy_18 : fetch 107 18 = some (.getfield 43, 21, 7, 9, 0, 512) := fr fe_X7_copy_1 9 rfl
theorem i_X7_copy_21 : fetch 107 21 = some (.iload_n 1, 22, 0, 0, 0, 0) := fr fe_X7_copy_1 10 rfl
theorem i_X7_copy_22 : fetch 107 22 = some (.aaload, 23, 0, 0, 0, 0) := fr fe_X7_copy_1 11 rfl
theorem i_X7_copy_23 : fetch 107 23 = some (.getfield 302, 26, 4, 1, 0, 196) := fr fe_X7_copy_1 12 rfl
theorem i_X7_copy_26 : fetch 107 26 = some (.iconst (-1), 27, 0, 0, 0, 0) := fr fe_X7_copy_1 13 rfl
theorem i_X7_copy_27 : fetch 107 27 = some (.if_icmp .eq 16, 30, 0, 0, 0, 0) := fr fe_X7_copy_1 14 rfl
theorem i_X7_copy_30 : fetch 107 30 = some (.aload_n 0, 31, 0, 0, 0, 0) := fr fe_X7_copy_1 15 rfl
theorem i_X7_copy_31 : fetch 107 31 = some (.getfield 43, 34, 7, 9, 0, 512) := fr fe_X7_copy_1 16 rfl
theorem i_X7_copy_34 : fetch 107 34 = some (.iload_n 3, 35, 0, 0, 0, 0) := fr fe_X7_copy_1 17 rfl
theorem i_X7_copy_35 : fetch 107 35 = some (.aaload, 36, 0, 0, 0, 0) := fr fe_X7_copy_1 18 rfl
theorem i_X7_copy_36 : fetch 107 36 = some (.getfield 302, 39, 4, 1, 0, 196) := fr fe_X7_copy_1 19 rfl
theorem i_X7_copy_39 : fetch 107 39 = some (.iconst (-1), 40, 0, 0, 0, 0) := fr fe_X7_copy_1 20 rfl
theorem i_X7_copy_40 : fetch 107 40 = some (.if_icmp .ne 6, 43, 0, 0, 0, 0) := fr fe_X7_copy_1 21 rfl
theorem i_X7_copy_43 : fetch 107 43 = some (.bipush (-11), 45, 0, 0, 0, 0) := fr fe_X7_copy_1 22 rfl
theorem i_X7_copy_45 : fetch 107 45 = some (.ireturn, 46, 0, 0, 0, 0) := fr fe_X7_copy_1 23 rfl
theorem i_X7_copy_46 : fetch 107 46 = some (.aload_n 0, 47, 0, 0, 0, 0) := fr fe_X7_copy_1 24 rfl
theorem i_X7_copy_47 : fetch 107 47 = some (.getfield 43, 50, 7, 9, 0, 512) := fr fe_X7_copy_2 0 rfl
theorem i_X7_copy_50 : fetch 107 50 = some (.iload_n 1, 51, 0, 0, 0, 0) := fr fe_X7_copy_2 1 rfl
theorem i_X7_copy_51 : fetch 107 51 = some (.aaload, 52, 0, 0, 0, 0) := fr fe_X7_copy_2 2 rfl
theorem i_X7_copy_52 : fetch 107 52 = some (.getfield 302, 55, 4, 1, 0, 196) := fr fe_X7_copy_2 3 rfl
theorem i_X7_copy_55 : fetch 107 55 = some (.aload_n 0, 56, 0, 0, 0, 0) := fr fe_X7_copy_2 4 rfl
theorem i_X7_copy_56 : fetch 107 56 = some (.getfield 43, 59, 7, 9, 0, 512) := fr fe_X7_copy_2 5 rfl
theorem i_X7_copy_59 : fetch 107 59 = some (.iload_n 3, 60, 0, 0, 0, 0) := fr fe_X7_copy_2 6 rfl
theorem i_X7_copy_60 : fetch 107 60 = some (.aaload, 61, 0, 0, 0, 0) := fr fe_X7_copy_2 7 rfl
theorem i_X7_copy_61 : fetch 107 61 = some (.getfield 302, 64, 4, 1, 0, 196) := fr fe_X7_copy_2 8 rfl
theorem i_X7_copy_64 : fetch 107 64 = some (.if_icmp .eq 6, 67, 0, 0, 0, 0) := fr fe_X7_copy_2 9 rfl
theorem i_X7_copy_67 : fetch 107 67 = some (.bipush (-13), 69, 0, 0, 0, 0) := fr fe_X7_copy_2 10 rfl
theorem i_X7_copy_69 : fetch 107 69 = some (.ireturn, 70, 0, 0, 0, 0) := fr fe_X7_copy_2 11 rfl
theorem i_X7_copy_70 : fetch 107 70 = some (.aload_n 0, 71, 0, 0, 0, 0) := fr fe_X7_copy_2 12 rfl
theorem i_X7_copy_71 : fetch 107 71 = some (.getfield 43, 74, 7, 9, 0, 512) := fr fe_X7_copy_2 13 rfl
theorem i_X7_copy_74 : fetch 107 74 = some (.iload_n 1, 75, 0, 0, 0, 0) := fr fe_X7_copy_2 14 rfl
theorem i_X7_copy_75 : fetch 107 75 = some (.aaload, 76, 0, 0, 0, 0) := fr fe_X7_copy_2 15 rfl
theorem i_X7_copy_76 : fetch 107 76 = some (.iload_n 2, 77, 0, 0, 0, 0) := fr fe_X7_copy_2 16 rfl
theorem i_X7_copy_77 : fetch 107 77 = some (.iload 5, 79, 0, 0, 0, 0) := fr fe_X7_copy_2 17 rfl
theorem i_X7_copy_79 : fetch 107 79 = some (.invokevirtual 305, 82, 52, 0, 0, 986) := fr fe_X7_copy_2 18 rfl
theorem i_X7_copy_82 : fetch 107 82 = some (.ifCond .eq 19, 85, 0, 0, 0, 0) := fr fe_X7_copy_2 19 rfl
theorem i_X7_copy_85 : fetch 107 85 = some (.aload_n 0, 86, 0, 0, 0, 0) := fr fe_X7_copy_2 20 rfl
theorem i_X7_copy_86 : fetch 107 86 = some (.getfield 43, 89, 7, 9, 0, 512) := fr fe_X7_copy_2 21 rfl
theorem i_X7_copy_89 : fetch 107 89 = some (.iload_n 3, 90, 0, 0, 0, 0) := fr fe_X7_copy_2 22 rfl
theorem i_X7_copy_90 : fetch 107 90 = some (.aaload, 91, 0, 0, 0, 0) := fr fe_X7_copy_2 23 rfl
theorem i_X7_copy_91 : fetch 107 91 = some (.iload 4, 93, 0, 0, 0, 0) := fr fe_X7_copy_2 24 rfl
theorem i_X7_copy_93 : fetch 107 93 = some (.iload 5, 95, 0, 0, 0, 0) := fr fe_X7_copy_3 0 rfl
theorem i_X7_copy_95 : fetch 107 95 = some (.invokevirtual 305, 98, 52, 0, 0, 986) := fr fe_X7_copy_3 1 rfl
theorem i_X7_copy_98 : fetch 107 98 = some (.ifCond .ne 6, 101, 0, 0, 0, 0) := fr fe_X7_copy_3 2 rfl
theorem i_X7_copy_101 : fetch 107 101 = some (.bipush (-12), 103, 0, 0, 0, 0) := fr fe_X7_copy_3 3 rfl
theorem i_X7_copy_103 : fetch 107 103 = some (.ireturn, 104, 0, 0, 0, 0) := fr fe_X7_copy_3 4 rfl
theorem i_X7_copy_104 : fetch 107 104 = some (.aload_n 0, 105, 0, 0, 0, 0) := fr fe_X7_copy_3 5 rfl
theorem i_X7_copy_105 : fetch 107 105 = some (.getfield 43, 108, 7, 9, 0, 512) := fr fe_X7_copy_3 6 rfl
theorem i_X7_copy_108 : fetch 107 108 = some (.iload_n 1, 109, 0, 0, 0, 0) := fr fe_X7_copy_3 7 rfl
theorem i_X7_copy_109 : fetch 107 109 = some (.aaload, 110, 0, 0, 0, 0) := fr fe_X7_copy_3 8 rfl
theorem i_X7_copy_110 : fetch 107 110 = some (.getfield 308, 113, 4, 0, 0, 194) := fr fe_X7_copy_3 9 rfl
theorem i_X7_copy_113 : fetch 107 113 = some (.iload_n 2, 114, 0, 0, 0, 0) := fr fe_X7_copy_3 10 rfl
theorem i_X7_copy_114 : fetch 107 114 = some (.aload_n 0, 115, 0, 0, 0, 0) := fr fe_X7_copy_3 11 rfl
theorem i_X7_copy_115 : fetch 107 115 = some (.getfield 43, 118, 7, 9, 0, 512) := fr fe_X7_copy_3 12 rfl
theorem i_X7_copy_118 : fetch 107 118 = some (.iload_n 3, 119, 0, 0, 0, 0) := fr fe_X7_copy_3 13 rfl
theorem i_X7_copy_119 : fetch 107 119 = some (.aaload, 120, 0, 0, 0, 0) := fr fe_X7_copy_3 14 rfl
theorem i_X7_copy_120 : fetch 107 120 = some (.getfield 308, 123, 4, 0, 0, 194) := fr fe_X7_copy_3 15 rfl
theorem i_X7_copy_123 : fetch 107 123 = some (.iload 4, 125, 0, 0, 0, 0) := fr fe_X7_copy_3 16 rfl
theorem i_X7_copy_125 : fetch 107 125 = some (.iload 5, 127, 0, 0, 0, 0) := fr fe_X7_copy_3 17 rfl
theorem i_X7_copy_127 : fetch 107 127 = some (.invokestatic 311, 130, 1001, 0, 0, 940) := fr fe_X7_copy_3 18 rfl
theorem i_X7_copy_130 : fetch 107 130 = some (.iload 5, 132, 0, 0, 0, 0) := fr fe_X7_copy_3 19 rfl
theorem i_X7_copy_132 : fetch 107 132 = some (.ireturn, 133, 0, 0, 0, 0) := fr fe_X7_copy_3 20 rfl
theorem i_X7_stepsBy_0 : fetch 108 0 = some (.iload_n 1, 1, 0, 0, 0, 0) := fr fe_X7_stepsBy_1 0 rfl
theorem i_X7_stepsBy_1 : fetch 108 1 = some (.invokestatic 250, 4, 114, 0, 0, 843) := fr fe_X7_stepsBy_1 1 rfl
theorem i_X7_stepsBy_4 : fetch 108 4 = some (.ifCond .eq 23, 7, 0, 0, 0, 0) := fr fe_X7_stepsBy_1 2 rfl
theorem i_X7_stepsBy_7 : fetch 108 7 = some (.iload_n 2, 8, 0, 0, 0, 0) := fr fe_X7_stepsBy_1 3 rfl
theorem i_X7_stepsBy_8 : fetch 108 8 = some (.iconst 0, 9, 0, 0, 0, 0) := fr fe_X7_stepsBy_1 4 rfl
theorem i_X7_stepsBy_9 : fetch 108 9 = some (.iconst 2, 10, 0, 0, 0, 0) := fr fe_X7_stepsBy_1 5 rfl
theorem i_X7_stepsBy_10 : fetch 108 10 = some (.invokestatic 112, 13, 110, 0, 0, 554) := fr fe_X7_stepsBy_1 6 rfl
theorem i_X7_stepsBy_13 : fetch 108 13 = some (.ifCond .eq 14, 16, 0, 0, 0, 0) := fr fe_X7_stepsBy_1 7 rfl
theorem i_X7_stepsBy_16 : fetch 108 16 = some (.iload 4, 18, 0, 0, 0, 0) := fr fe_X7_stepsBy_1 8 rfl
theorem i_X7_stepsBy_18 : fetch 108 18 = some (.iconst 0, 19, 0, 0, 0, 0) := fr fe_X7_stepsBy_1 9 rfl
theorem i_X7_stepsBy_19 : fetch 108 19 = some (.bipush 12, 21, 0, 0, 0, 0) := fr fe_X7_stepsBy_1 10 rfl
theorem i_X7_stepsBy_21 : fetch 108 21 = some (.invokestatic 112, 24, 110, 0, 0, 554) := fr fe_X7_stepsBy_1 11 rfl
theorem i_X7_stepsBy_24 : fetch 108 24 = some (.ifCond .ne 6, 27, 0, 0, 0, 0) := fr fe_X7_stepsBy_1 12 rfl
theorem i_X7_stepsBy_27 : fetch 108 27 = some (.bipush (-2), 29, 0, 0, 0, 0) := fr fe_X7_stepsBy_1 13 rfl
theorem i_X7_stepsBy_29 : fetch 108 29 = some (.ireturn, 30, 0, 0, 0, 0) := fr fe_X7_stepsBy_1 14 rfl
theorem i_X7_stepsBy_30 : fetch 108 30 = some (.aload_n 0, 31, 0, 0, 0, 0) := fr fe_X7_stepsBy_1 15 rfl
theorem i_X7_stepsBy_31 : fetch 108 31 = some (.getfield 43, 34, 7, 9, 0, 512) := fr fe_X7_stepsBy_1 16 rfl
theorem i_X7_stepsBy_34 : fetch 108 34 = some (.iload_n 1, 35, 0, 0, 0, 0) := fr fe_X7_stepsBy_1 17 rfl
theorem i_X7_stepsBy_35 : fetch 108 35 = some (.aaload, 36, 0, 0, 0, 0) := fr fe_X7_stepsBy_1 18 rfl
theorem i_X7_stepsBy_36 : fetch 108 36 = some (.getfield 302, 39, 4, 1, 0, 196) := fr fe_X7_stepsBy_1 19 rfl
theorem i_X7_stepsBy_39 : fetch 108 39 = some (.iconst (-1), 40, 0, 0, 0, 0) := fr fe_X7_stepsBy_1 20 rfl
theorem i_X7_stepsBy_40 : fetch 108 40 = some (.if_icmp .ne 6, 43, 0, 0, 0, 0) := fr fe_X7_stepsBy_1 21 rfl
theorem i_X7_stepsBy_43 : fetch 108 43 = some (.bipush (-11), 45, 0, 0, 0, 0) := fr fe_X7_stepsBy_1 22 rfl
theorem i_X7_stepsBy_45 : fetch 108 45 = some (.ireturn, 46, 0, 0, 0, 0) := fr fe_X7_stepsBy_1 23 rfl
theorem i_X7_stepsBy_46 : fetch 108 46 = some (.aload_n 0, 47, 0, 0, 0, 0) := fr fe_X7_stepsBy_1 24 rfl
theorem i_X7_stepsBy_47 : fetch 108 47 = some (.getfield 43, 50, 7, 9, 0, 512) := fr fe_X7_stepsBy_2 0 rfl
theorem i_X7_stepsBy_50 : fetch 108 50 = some (.iload_n 1, 51, 0, 0, 0, 0) := fr fe_X7_stepsBy_2 1 rfl
theorem i_X7_stepsBy_51 : fetch 108 51 = some (.aaload, 52, 0, 0, 0, 0) := fr fe_X7_stepsBy_2 2 rfl
theorem i_X7_stepsBy_52 : fetch 108 52 = some (.getfield 302, 55, 4, 1, 0, 196) := fr fe_X7_stepsBy_2 3 rfl
theorem i_X7_stepsBy_55 : fetch 108 55 = some (.iload_n 2, 56, 0, 0, 0, 0) := fr fe_X7_stepsBy_2 4 rfl
theorem i_X7_stepsBy_56 : fetch 108 56 = some (.if_icmp .eq 6, 59, 0, 0, 0, 0) := fr fe_X7_stepsBy_2 5 rfl
theorem i_X7_stepsBy_59 : fetch 108 59 = some (.bipush (-13), 61, 0, 0, 0, 0) := fr fe_X7_stepsBy_2 6 rfl
theorem i_X7_stepsBy_61 : fetch 108 61 = some (.ireturn, 62, 0, 0, 0, 0) := fr fe_X7_stepsBy_2 7 rfl
theorem i_X7_stepsBy_62 : fetch 108 62 = some (.iconst 0, 63, 0, 0, 0, 0) := fr fe_X7_stepsBy_2 8 rfl
theorem i_X7_stepsBy_63 : fetch 108 63 = some (.istore 5, 65, 0, 0, 0, 0) := fr fe_X7_stepsBy_2 9 rfl
theorem i_X7_stepsBy_65 : fetch 108 65 = some (.iload_n 3, 66, 0, 0, 0, 0) := fr fe_X7_stepsBy_2 10 rfl
theorem i_X7_stepsBy_66 : fetch 108 66 = some (.istore 6, 68, 0, 0, 0, 0) := fr fe_X7_stepsBy_2 11 rfl
theorem i_X7_stepsBy_68 : fetch 108 68 = some (.iconst 0, 69, 0, 0, 0, 0) := fr fe_X7_stepsBy_2 12 rfl
theorem i_X7_stepsBy_69 : fetch 108 69 = some (.istore 7, 71, 0, 0, 0, 0) := fr fe_X7_stepsBy_2 13 rfl
theorem i_X7_stepsBy_71 : fetch 108 71 = some (.iload 7, 73, 0, 0, 0, 0) := fr fe_X7_stepsBy_2 14 rfl
theorem i_X7_stepsBy_73 : fetch 108 73 = some (.iload 4, 75, 0, 0, 0, 0) := fr fe_X7_stepsBy_2 15 rfl
theorem i_X7_stepsBy_75 : fetch 108 75 = some (.if_icmp .ge 70, 78, 0, 0, 0, 0) := fr fe_X7_stepsBy_2 16 rfl
theorem i_X7_stepsBy_78 : fetch 108 78 = some (.aload_n 0, 79, 0, 0, 0, 0) := fr fe_X7_stepsBy_2 17 rfl
theorem i_X7_stepsBy_79 : fetch 108 79 = some (.getfield 43, 82, 7, 9, 0, 512) := fr fe_X7_stepsBy_2 18 rfl
theorem i_X7_stepsBy_82 : fetch 108 82 = some (.iload_n 1, 83, 0, 0, 0, 0) := fr fe_X7_stepsBy_2 19 rfl
theorem i_X7_stepsBy_83 : fetch 108 83 = some (.aaload, 84, 0, 0, 0, 0) := fr fe_X7_stepsBy_2 20 rfl
theorem i_X7_stepsBy_84 : fetch 108 84 = some (.iload 6, 86, 0, 0, 0, 0) := fr fe_X7_stepsBy_2 21 rfl
theorem i_X7_stepsBy_86 : fetch 108 86 = some (.iconst 3, 87, 0, 0, 0, 0) := fr fe_X7_stepsBy_2 22 rfl
theorem i_X7_stepsBy_87 : fetch 108 87 = some (.invokevirtual 305, 90, 52, 0, 0, 986) := fr fe_X7_stepsBy_2 23 rfl
theorem i_X7_stepsBy_90 : fetch 108 90 = some (.ifCond .ne 6, 93, 0, 0, 0, 0) := fr fe_X7_stepsBy_2 24 rfl
theorem i_X7_stepsBy_93 : fetch 108 93 = some (.bipush (-12), 95, 0, 0, 0, 0) := fr fe_X7_stepsBy_3 0 rfl
theorem i_X7_stepsBy_95 : fetch 108 95 = some (.ireturn, 96, 0, 0, 0, 0) := fr fe_X7_stepsBy_3 1 rfl
theorem i_X7_stepsBy_96 : fetch 108 96 = some (.aload_n 0, 97, 0, 0, 0, 0) := fr fe_X7_stepsBy_3 2 rfl
theorem i_X7_stepsBy_97 : fetch 108 97 = some (.getfield 43, 100, 7, 9, 0, 512) := fr fe_X7_stepsBy_3 3 rfl
theorem i_X7_stepsBy_100 : fetch 108 100 = some (.iload_n 1, 101, 0, 0, 0, 0) := fr fe_X7_stepsBy_3 4 rfl
theorem i_X7_stepsBy_101 : fetch 108 101 = some (.aaload, 102, 0, 0, 0, 0) := fr fe_X7_stepsBy_3 5 rfl
theorem i_X7_stepsBy_102 : fetch 108 102 = some (.getfield 308, 105, 4, 0, 0, 194) := fr fe_X7_stepsBy_3 6 rfl
theorem i_X7_stepsBy_105 : fetch 108 105 = some (.astore 8, 107, 0, 0, 0, 0) := fr fe_X7_stepsBy_3 7 rfl
theorem i_X7_stepsBy_107 : fetch 108 107 = some (.aload_n 0, 108, 0, 0, 0, 0) := fr fe_X7_stepsBy_3 8 rfl
theorem i_X7_stepsBy_108 : fetch 108 108 = some (.aload 8, 110, 0, 0, 0, 0) := fr fe_X7_stepsBy_3 9 rfl
theorem i_X7_stepsBy_110 : fetch 108 110 = some (.iload 6, 112, 0, 0, 0, 0) := fr fe_X7_stepsBy_3 10 rfl
theorem i_X7_stepsBy_112 : fetch 108 112 = some (.iaload, 113, 0, 0, 0, 0) := fr fe_X7_stepsBy_3 11 rfl
theorem i_X7_stepsBy_113 : fetch 108 113 = some (.aload 8, 115, 0, 0, 0, 0) := fr fe_X7_stepsBy_3 12 rfl
theorem i_X7_stepsBy_115 : fetch 108 115 = some (.iload 6, 117, 0, 0, 0, 0) := fr fe_X7_stepsBy_3 13 rfl
theorem i_X7_stepsBy_117 : fetch 108 117 = some (.iconst 1, 118, 0, 0, 0, 0) := fr fe_X7_stepsBy_3 14 rfl
theorem i_X7_stepsBy_118 : fetch 108 118 = some (.iadd, 119, 0, 0, 0, 0) := fr fe_X7_stepsBy_3 15 rfl
theorem i_X7_stepsBy_119 : fetch 108 119 = some (.iaload, 120, 0, 0, 0, 0) := fr fe_X7_stepsBy_3 16 rfl
theorem i_X7_stepsBy_120 : fetch 108 120 = some (.aload 8, 122, 0, 0, 0, 0) := fr fe_X7_stepsBy_3 17 rfl
theorem i_X7_stepsBy_122 : fetch 108 122 = some (.iload 6, 124, 0, 0, 0, 0) := fr fe_X7_stepsBy_3 18 rfl
theorem i_X7_stepsBy_124 : fetch 108 124 = some (.iconst 2, 125, 0, 0, 0, 0) := fr fe_X7_stepsBy_3 19 rfl
theorem i_X7_stepsBy_125 : fetch 108 125 = some (.iadd, 126, 0, 0, 0, 0) := fr fe_X7_stepsBy_3 20 rfl
theorem i_X7_stepsBy_126 : fetch 108 126 = some (.iaload, 127, 0, 0, 0, 0) := fr fe_X7_stepsBy_3 21 rfl
theorem i_X7_stepsBy_127 : fetch 108 127 = some (.invokevirtual 317, 130, 73, 0, 0, 995) := fr fe_X7_stepsBy_3 22 rfl
theorem i_X7_stepsBy_130 : fetch 108 130 = some (.ifCond .lt 6, 133, 0, 0, 0, 0) := fr fe_X7_stepsBy_3 23 rfl
theorem i_X7_stepsBy_133 : fetch 108 133 = some (.iinc 5 1, 136, 0, 0, 0, 0) := fr fe_X7_stepsBy_3 24 rfl
theorem i_X7_stepsBy_136 : fetch 108 136 = some (.iinc 6 3, 139, 0, 0, 0, 0) := fr fe_X7_stepsBy_4 0 rfl
theorem i_X7_stepsBy_139 : fetch 108 139 = some (.iinc 7 1, 142, 0, 0, 0, 0) := fr fe_X7_stepsBy_4 1 rfl
theorem i_X7_stepsBy_142 : fetch 108 142 = some (.goto (-71), 145, 0, 0, 0, 0) := fr fe_X7_stepsBy_4 2 rfl
theorem i_X7_stepsBy_145 : fetch 108 145 = some (.iload 5, 147, 0, 0, 0, 0) := fr fe_X7_stepsBy_4 3 rfl
theorem i_X7_stepsBy_147 : fetch 108 147 = some (.ireturn, 148, 0, 0, 0, 0) := fr fe_X7_stepsBy_4 4 rfl
theorem i_X7_taken_0 : fetch 109 0 = some (.iload_n 2, 1, 0, 0, 0, 0) := fr fe_X7_taken_1 0 rfl
theorem i_X7_taken_1 : fetch 109 1 = some (.iconst 0, 2, 0, 0, 0, 0) := fr fe_X7_taken_1 1 rfl
theorem i_X7_taken_2 : fetch 109 2 = some (.bipush 6, 4, 0, 0, 0, 0) := fr fe_X7_taken_1 2 rfl
theorem i_X7_taken_4 : fetch 109 4 = some (.invokestatic 112, 7, 110, 0, 0, 554) := fr fe_X7_taken_1 3 rfl
theorem i_X7_taken_7 : fetch 109 7 = some (.ifCond .ne 6, 10, 0, 0, 0, 0) := fr fe_X7_taken_1 4 rfl
theorem i_X7_taken_10 : fetch 109 10 = some (.bipush (-2), 12, 0, 0, 0, 0) := fr fe_X7_taken_1 5 rfl
theorem i_X7_taken_12 : fetch 109 12 = some (.ireturn, 13, 0, 0, 0, 0) := fr fe_X7_taken_1 6 rfl
theorem i_X7_taken_13 : fetch 109 13 = some (.iload_n 1, 14, 0, 0, 0, 0) := fr fe_X7_taken_1 7 rfl
theorem i_X7_taken_14 : fetch 109 14 = some (.iconst 0, 15, 0, 0, 0, 0) := fr fe_X7_taken_1 8 rfl
theorem i_X7_taken_15 : fetch 109 15 = some (.bipush 23, 17, 0, 0, 0, 0) := fr fe_X7_taken_1 9 rfl
theorem i_X7_taken_17 : fetch 109 17 = some (.invokestatic 112, 20, 110, 0, 0, 554) := fr fe_X7_taken_1 10 rfl
theorem i_X7_taken_20 : fetch 109 20 = some (.ifCond .ne 6, 23, 0, 0, 0, 0) := fr fe_X7_taken_1 11 rfl
theorem i_X7_taken_23 : fetch 109 23 = some (.bipush (-12), 25, 0, 0, 0, 0) := fr fe_X7_taken_1 12 rfl
theorem i_X7_taken_25 : fetch 109 25 = some (.ireturn, 26, 0, 0, 0, 0) := fr fe_X7_taken_1 13 rfl
theorem i_X7_taken_26 : fetch 109 26 = some (.iload_n 1, 27, 0, 0, 0, 0) := fr fe_X7_taken_1 14 rfl
theorem i_X7_taken_27 : fetch 109 27 = some (.bipush 12, 29, 0, 0, 0, 0) := fr fe_X7_taken_1 15 rfl
theorem i_X7_taken_29 : fetch 109 29 = some (.if_icmp .ge 24, 32, 0, 0, 0, 0) := fr fe_X7_taken_1 16 rfl
theorem i_X7_taken_32 : fetch 109 32 = some (.iload_n 2, 33, 0, 0, 0, 0) := fr fe_X7_taken_1 17 rfl
theorem i_X7_taken_33 : fetch 109 33 = some (.bipush 6, 35, 0, 0, 0, 0) := fr fe_X7_taken_1 18 rfl
theorem i_X7_taken_35 : fetch 109 35 = some (.if_icmp .ne 15, 38, 0, 0, 0, 0) := fr fe_X7_taken_1 19 rfl
theorem i_X7_taken_38 : fetch 109 38 = some (.aload_n 0, 39, 0, 0, 0, 0) := fr fe_X7_taken_1 20 rfl
theorem i_X7_taken_39 : fetch 109 39 = some (.getfield 10, 42, 7, 0, 0, 503) := fr fe_X7_taken_1 21 rfl
theorem i_X7_taken_42 : fetch 109 42 = some (.getfield 117, 45, 0, 0, 0, 98) := fr fe_X7_taken_1 22 rfl
theorem i_X7_taken_45 : fetch 109 45 = some (.iload_n 1, 46, 0, 0, 0, 0) := fr fe_X7_taken_1 23 rfl
theorem i_X7_taken_46 : fetch 109 46 = some (.iaload, 47, 0, 0, 0, 0) := fr fe_X7_taken_1 24 rfl
theorem i_X7_taken_47 : fetch 109 47 = some (.goto 5, 50, 0, 0, 0, 0) := fr fe_X7_taken_2 0 rfl
theorem i_X7_taken_50 : fetch 109 50 = some (.bipush (-13), 52, 0, 0, 0, 0) := fr fe_X7_taken_2 1 rfl
theorem i_X7_taken_52 : fetch 109 52 = some (.ireturn, 53, 0, 0, 0, 0) := fr fe_X7_taken_2 2 rfl
theorem i_X7_taken_53 : fetch 109 53 = some (.iload_n 1, 54, 0, 0, 0, 0) := fr fe_X7_taken_2 3 rfl
theorem i_X7_taken_54 : fetch 109 54 = some (.bipush 12, 56, 0, 0, 0, 0) := fr fe_X7_taken_2 4 rfl
theorem i_X7_taken_56 : fetch 109 56 = some (.isub, 57, 0, 0, 0, 0) := fr fe_X7_taken_2 5 rfl
theorem i_X7_taken_57 : fetch 109 57 = some (.istore_n 3, 58, 0, 0, 0, 0) := fr fe_X7_taken_2 6 rfl
theorem i_X7_taken_58 : fetch 109 58 = some (.aload_n 0, 59, 0, 0, 0, 0) := fr fe_X7_taken_2 7 rfl
theorem i_X7_taken_59 : fetch 109 59 = some (.iload_n 3, 60, 0, 0, 0, 0) := fr fe_X7_taken_2 8 rfl
theorem i_X7_taken_60 : fetch 109 60 = some (.invokevirtual 135, 63, 112, 0, 0, 608) := fr fe_X7_taken_2 9 rfl
theorem i_X7_taken_63 : fetch 109 63 = some (.ifCond .ne 6, 66, 0, 0, 0, 0) := fr fe_X7_taken_2 10 rfl
theorem i_X7_taken_66 : fetch 109 66 = some (.bipush (-11), 68, 0, 0, 0, 0) := fr fe_X7_taken_2 11 rfl
theorem i_X7_taken_68 : fetch 109 68 = some (.ireturn, 69, 0, 0, 0, 0) := fr fe_X7_taken_2 12 rfl
theorem i_X7_taken_69 : fetch 109 69 = some (.iload_n 2, 70, 0, 0, 0, 0) := fr fe_X7_taken_2 13 rfl
theorem i_X7_taken_70 : fetch 109 70 = some (.bipush 6, 72, 0, 0, 0, 0) := fr fe_X7_taken_2 14 rfl
theorem i_X7_taken_72 : fetch 109 72 = some (.if_icmp .ge 20, 75, 0, 0, 0, 0) := fr fe_X7_taken_2 15 rfl
theorem i_X7_taken_75 : fetch 109 75 = some (.aload_n 0, 76, 0, 0, 0, 0) := fr fe_X7_taken_2 16 rfl
theorem i_X7_taken_76 : fetch 109 76 = some (.getfield 24, 79, 7, 3, 0, 506) := fr fe_X7_taken_2 17 rfl
theorem i_X7_taken_79 : fetch 109 79 = some (.iload_n 3, 80, 0, 0, 0, 0) := fr fe_X7_taken_2 18 rfl
theorem i_X7_taken_80 : fetch 109 80 = some (.aaload, 81, 0, 0, 0, 0) := fr fe_X7_taken_2 19 rfl
theorem i_X7_taken_81 : fetch 109 81 = some (.iload_n 2, 82, 0, 0, 0, 0) := fr fe_X7_taken_2 20 rfl
theorem i_X7_taken_82 : fetch 109 82 = some (.invokevirtual 321, 85, 57, 0, 0, 1000) := fr fe_X7_taken_2 21 rfl
theorem i_X7_taken_85 : fetch 109 85 = some (.ifCond .eq 7, 88, 0, 0, 0, 0) := fr fe_X7_taken_2 22 rfl
theorem i_X7_taken_88 : fetch 109 88 = some (.iload_n 3, 89, 0, 0, 0, 0) := fr fe_X7_taken_2 23 rfl
theorem i_X7_taken_89 : fetch 109 89 = some (.goto 5, 92, 0, 0, 0, 0) := fr fe_X7_taken_2 24 rfl
theorem i_X7_taken_92 : fetch 109 92 = some (.bipush (-13), 94, 0, 0, 0, 0) := fr fe_X7_taken_3 0 rfl
theorem i_X7_taken_94 : fetch 109 94 = some (.ireturn, 95, 0, 0, 0, 0) := fr fe_X7_taken_3 1 rfl
theorem i_X8_holds_0 : fetch 141 0 = some (.aload_n 0, 1, 0, 0, 0, 0) := fr fe_X8_holds 0 rfl
theorem i_X8_holds_1 : fetch 141 1 = some (.getfield 66, 4, 8, 31, 0, 1108) := fr fe_X8_holds 1 rfl
theorem i_X8_holds_4 : fetch 141 4 = some (.aload_n 0, 5, 0, 0, 0, 0) := fr fe_X8_holds 2 rfl
theorem i_X8_holds_5 : fetch 141 5 = some (.getfield 159, 8, 8, 32, 0, 1109) := fr fe_X8_holds 3 rfl
theorem i_X8_holds_8 : fetch 141 8 = some (.iload_n 1, 9, 0, 0, 0, 0) := fr fe_X8_holds 4 rfl
theorem i_X8_holds_9 : fetch 141 9 = some (.iastore, 10, 0, 0, 0, 0) := fr fe_X8_holds 5 rfl
theorem i_X8_holds_10 : fetch 141 10 = some (.aload_n 0, 11, 0, 0, 0, 0) := fr fe_X8_holds 6 rfl
theorem i_X8_holds_11 : fetch 141 11 = some (.dup, 12, 0, 0, 0, 0) := fr fe_X8_holds 7 rfl
theorem i_X8_holds_12 : fetch 141 12 = some (.getfield 159, 15, 8, 32, 0, 1109) := fr fe_X8_holds 8 rfl
theorem i_X8_holds_15 : fetch 141 15 = some (.iconst 1, 16, 0, 0, 0, 0) := fr fe_X8_holds 9 rfl
theorem i_X8_holds_16 : fetch 141 16 = some (.iadd, 17, 0, 0, 0, 0) := fr fe_X8_holds 10 rfl
theorem i_X8_holds_17 : fetch 141 17 = some (.putfield 159, 20, 8, 32, 0, 1109) := fr fe_X8_holds 11 rfl
theorem i_X8_holds_20 : fetch 141 20 = some (.return_, 21, 0, 0, 0, 0) := fr fe_X8_holds 12 rfl
theorem i_X8_rank_0 : fetch 138 0 = some (.iload_n 0, 1, 0, 0, 0, 0) := fr fe_X8_rank_1 0 rfl
theorem i_X8_rank_1 : fetch 138 1 = some (.ifCond .ne 7, 4, 0, 0, 0, 0) := fr fe_X8_rank_1 1 rfl
theorem i_X8_rank_4 : fetch 138 4 = some (.iconst 0, 5, 0, 0, 0, 0) := fr fe_X8_rank_1 2 rfl
theorem i_X8_rank_5 : fetch 138 5 = some (.goto 66, 8, 0, 0, 0, 0) := fr fe_X8_rank_1 3 rfl
theorem i_X8_rank_8 : fetch 138 8 = some (.iload_n 0, 9, 0, 0, 0, 0) := fr fe_X8_rank_1 4 rfl
theorem i_X8_rank_9 : fetch 138 9 = some (.bipush 11, 11, 0, 0, 0, 0) := fr fe_X8_rank_1 5 rfl
theorem i_X8_rank_11 : fetch 138 11 = some (.if_icmp .ne 7, 14, 0, 0, 0, 0) := fr fe_X8_rank_1 6 rfl
theorem i_X8_rank_14 : fetch 138 14 = some (.iconst 1, 15, 0, 0, 0, 0) := fr fe_X8_rank_1 7 rfl
theorem i_X8_rank_15 : fetch 138 15 = some (.goto 56, 18, 0, 0, 0, 0) := fr fe_X8_rank_1 8 rfl
theorem i_X8_rank_18 : fetch 138 18 = some (.iload_n 0, 19, 0, 0, 0, 0) := fr fe_X8_rank_1 9 rfl
theorem i_X8_rank_19 : fetch 138 19 = some (.bipush 12, 21, 0, 0, 0, 0) := fr fe_X8_rank_1 10 rfl
theorem i_X8_rank_21 : fetch 138 21 = some (.if_icmp .ne 7, 24, 0, 0, 0, 0) := fr fe_X8_rank_1 11 rfl
theorem i_X8_rank_24 : fetch 138 24 = some (.iconst 2, 25, 0, 0, 0, 0) := fr fe_X8_rank_1 12 rfl
theorem i_X8_rank_25 : fetch 138 25 = some (.goto 46, 28, 0, 0, 0, 0) := fr fe_X8_rank_1 13 rfl
theorem i_X8_rank_28 : fetch 138 28 = some (.iload_n 0, 29, 0, 0, 0, 0) := fr fe_X8_rank_1 14 rfl
theorem i_X8_rank_29 : fetch 138 29 = some (.bipush 13, 31, 0, 0, 0, 0) := fr fe_X8_rank_1 15 rfl
theorem i_X8_rank_31 : fetch 138 31 = some (.if_icmp .ne 7, 34, 0, 0, 0, 0) := fr fe_X8_rank_1 16 rfl
theorem i_X8_rank_34 : fetch 138 34 = some (.iconst 3, 35, 0, 0, 0, 0) := fr fe_X8_rank_1 17 rfl
theorem i_X8_rank_35 : fetch 138 35 = some (.goto 36, 38, 0, 0, 0, 0) := fr fe_X8_rank_1 18 rfl
theorem i_X8_rank_38 : fetch 138 38 = some (.iload_n 0, 39, 0, 0, 0, 0) := fr fe_X8_rank_1 19 rfl
theorem i_X8_rank_39 : fetch 138 39 = some (.bipush 15, 41, 0, 0, 0, 0) := fr fe_X8_rank_1 20 rfl
theorem i_X8_rank_41 : fetch 138 41 = some (.if_icmp .gt 7, 44, 0, 0, 0, 0) := fr fe_X8_rank_1 21 rfl
theorem i_X8_rank_44 : fetch 138 44 = some (.iconst 4, 45, 0, 0, 0, 0) := fr fe_X8_rank_1 22 rfl
theorem i_X8_rank_45 : fetch 138 45 = some (.goto 26, 48, 0, 0, 0, 0) := fr fe_X8_rank_1 23 rfl
theorem i_X8_rank_48 : fetch 138 48 = some (.iload_n 0, 49, 0, 0, 0, 0) := fr fe_X8_rank_1 24 rfl
theorem i_X8_rank_49 : fetch 138 49 = some (.bipush 17, 51, 0, 0, 0, 0) := fr fe_X8_rank_2 0 rfl
theorem i_X8_rank_51 : fetch 138 51 = some (.if_icmp .gt 7, 54, 0, 0, 0, 0) := fr fe_X8_rank_2 1 rfl
theorem i_X8_rank_54 : fetch 138 54 = some (.iconst 5, 55, 0, 0, 0, 0) := fr fe_X8_rank_2 2 rfl
theorem i_X8_rank_55 : fetch 138 55 = some (.goto 16, 58, 0, 0, 0, 0) := fr fe_X8_rank_2 3 rfl
theorem i_X8_rank_58 : fetch 138 58 = some (.iload_n 0, 59, 0, 0, 0, 0) := fr fe_X8_rank_2 4 rfl
theorem i_X8_rank_59 : fetch 138 59 = some (.bipush 18, 61, 0, 0, 0, 0) := fr fe_X8_rank_2 5 rfl
theorem i_X8_rank_61 : fetch 138 61 = some (.if_icmp .ne 8, 64, 0, 0, 0, 0) := fr fe_X8_rank_2 6 rfl
theorem i_X8_rank_64 : fetch 138 64 = some (.bipush 6, 66, 0, 0, 0, 0) := fr fe_X8_rank_2 7 rfl
theorem i_X8_rank_66 : fetch 138 66 = some (.goto 5, 69, 0, 0, 0, 0) := fr fe_X8_rank_2 8 rfl
theorem i_X8_rank_69 : fetch 138 69 = some (.bipush 7, 71, 0, 0, 0, 0) := fr fe_X8_rank_2 9 rfl
theorem i_X8_rank_71 : fetch 138 71 = some (.ireturn, 72, 0, 0, 0, 0) := fr fe_X8_rank_2 10 rfl
theorem i_X8_puts_0 : fetch 139 0 = some (.aload_n 0, 1, 0, 0, 0, 0) := fr fe_X8_puts 0 rfl
theorem i_X8_puts_1 : fetch 139 1 = some (.getfield 39, 4, 8, 11, 0, 1088) := fr fe_X8_puts 1 rfl
theorem i_X8_puts_4 : fetch 139 4 = some (.sipush 200, 7, 0, 0, 0, 0) := fr fe_X8_puts 2 rfl
theorem i_X8_puts_7 : fetch 139 7 = some (.aload_n 0, 8, 0, 0, 0, 0) := fr fe_X8_puts 3 rfl
theorem i_X8_puts_8 : fetch 139 8 = some (.getfield 132, 11, 8, 13, 0, 1090) := fr fe_X8_puts 4 rfl
theorem i_X8_puts_11 : fetch 139 11 = some (.imul, 12, 0, 0, 0, 0) := fr fe_X8_puts 5 rfl
theorem i_X8_puts_12 : fetch 139 12 = some (.aload_n 0, 13, 0, 0, 0, 0) := fr fe_X8_puts 6 rfl
theorem i_X8_puts_13 : fetch 139 13 = some (.getfield 156, 16, 8, 34, 0, 1111) := fr fe_X8_puts 7 rfl
theorem i_X8_puts_16 : fetch 139 16 = some (.iadd, 17, 0, 0, 0, 0) := fr fe_X8_puts 8 rfl
theorem i_X8_puts_17 : fetch 139 17 = some (.iload_n 1, 18, 0, 0, 0, 0) := fr fe_X8_puts 9 rfl
theorem i_X8_puts_18 : fetch 139 18 = some (.iastore, 19, 0, 0, 0, 0) := fr fe_X8_puts 10 rfl
theorem i_X8_puts_19 : fetch 139 19 = some (.aload_n 0, 20, 0, 0, 0, 0) := fr fe_X8_puts 11 rfl
theorem i_X8_puts_20 : fetch 139 20 = some (.dup, 21, 0, 0, 0, 0) := fr fe_X8_puts 12 rfl
theorem i_X8_puts_21 : fetch 139 21 = some (.getfield 156, 24, 8, 34, 0, 1111) := fr fe_X8_puts 13 rfl
theorem i_X8_puts_24 : fetch 139 24 = some (.iconst 1, 25, 0, 0, 0, 0) := fr fe_X8_puts 14 rfl
theorem i_X8_puts_25 : fetch 139 25 = some (.iadd, 26, 0, 0, 0, 0) := fr fe_X8_puts 15 rfl
theorem i_X8_puts_26 : fetch 139 26 = some (.putfield 156, 29, 8, 34, 0, 1111) := fr fe_X8_puts 16 rfl
theorem i_X8_puts_29 : fetch 139 29 = some (.return_, 30, 0, 0, 0, 0) := fr fe_X8_puts 17 rfl
theorem i_X8_unwinds_0 : fetch 140 0 = some (.aload_n 0, 1, 0, 0, 0, 0) := fr fe_X8_unwinds_1 0 rfl
theorem i_X8_unwinds_1 : fetch 140 1 = some (.getfield 159, 4, 8, 32, 0, 1109) := fr fe_X8_unwinds_1 1 rfl
theorem i_X8_unwinds_4 : fetch 140 4 = some (.ifCond .le 75, 7, 0, 0, 0, 0) := fr fe_X8_unwinds_1 2 rfl
theorem i_X8_unwinds_7 : fetch 140 7 = some (.aload_n 0, 8, 0, 0, 0, 0) := fr fe_X8_unwinds_1 3 rfl
theorem i_X8_unwinds_8 : fetch 140 8 = some (.getfield 66, 11, 8, 31, 0, 1108) := fr fe_X8_unwinds_1 4 rfl
theorem i_X8_unwinds_11 : fetch 140 11 = some (.aload_n 0, 12, 0, 0, 0, 0) := fr fe_X8_unwinds_1 5 rfl
theorem i_X8_unwinds_12 : fetch 140 12 = some (.getfield 159, 15, 8, 32, 0, 1109) := fr fe_X8_unwinds_1 6 rfl
theorem i_X8_unwinds_15 : fetch 140 15 = some (.iconst 1, 16, 0, 0, 0, 0) := fr fe_X8_unwinds_1 7 rfl
theorem i_X8_unwinds_16 : fetch 140 16 = some (.isub, 17, 0, 0, 0, 0) := fr fe_X8_unwinds_1 8 rfl
theorem i_X8_unwinds_17 : fetch 140 17 = some (.iaload, 18, 0, 0, 0, 0) := fr fe_X8_unwinds_1 9 rfl
theorem i_X8_unwinds_18 : fetch 140 18 = some (.invokestatic 162, 21, 138, 0, 0, 1042) := fr fe_X8_unwinds_1 10 rfl
theorem i_X8_unwinds_21 : fetch 140 21 = some (.iload_n 1, 22, 0, 0, 0, 0) := fr fe_X8_unwinds_1 11 rfl
theorem i_X8_unwinds_22 : fetch 140 22 = some (.if_icmp .lt 57, 25, 0, 0, 0, 0) := fr fe_X8_unwinds_1 12 rfl
theorem i_X8_unwinds_25 : fetch 140 25 = some (.aload_n 0, 26, 0, 0, 0, 0) := fr fe_X8_unwinds_1 13 rfl
theorem i_X8_unwinds_26 : fetch 140 26 = some (.dup, 27, 0, 0, 0, 0) := fr fe_X8_unwinds_1 14 rfl
theorem i_X8_unwinds_27 : fetch 140 27 = some (.getfield 159, 30, 8, 32, 0, 1109) := fr fe_X8_unwinds_1 15 rfl
theorem i_X8_unwinds_30 : fetch 140 30 = some (.iconst 1, 31, 0, 0, 0, 0) := fr fe_X8_unwinds_1 16 rfl
theorem i_X8_unwinds_31 : fetch 140 31 = some (.isub, 32, 0, 0, 0, 0) := fr fe_X8_unwinds_1 17 rfl
theorem i_X8_unwinds_32 : fetch 140 32 = some (.putfield 159, 35, 8, 32, 0, 1109) := fr fe_X8_unwinds_1 18 rfl
theorem i_X8_unwinds_35 : fetch 140 35 = some (.aload_n 0, 36, 0, 0, 0, 0) := fr fe_X8_unwinds_1 19 rfl
theorem i_X8_unwinds_36 : fetch 140 36 = some (.getfield 66, 39, 8, 31, 0, 1108) := fr fe_X8_unwinds_1 20 rfl
theorem i_X8_unwinds_39 : fetch 140 39 = some (.aload_n 0, 40, 0, 0, 0, 0) := fr fe_X8_unwinds_1 21 rfl
theorem i_X8_unwinds_40 : fetch 140 40 = some (.getfield 159, 43, 8, 32, 0, 1109) := fr fe_X8_unwinds_1 22 rfl
theorem i_X8_unwinds_43 : fetch 140 43 = some (.iaload, 44, 0, 0, 0, 0) := fr fe_X8_unwinds_1 23 rfl
theorem i_X8_unwinds_44 : fetch 140 44 = some (.istore_n 2, 45, 0, 0, 0, 0) := fr fe_X8_unwinds_1 24 rfl
theorem i_X8_unwinds_45 : fetch 140 45 = some (.aload_n 0, 46, 0, 0, 0, 0) := fr fe_X8_unwinds_2 0 rfl
theorem i_X8_unwinds_46 : fetch 140 46 = some (.dup, 47, 0, 0, 0, 0) := fr fe_X8_unwinds_2 1 rfl
theorem i_X8_unwinds_47 : fetch 140 47 = some (.getfield 165, 50, 8, 33, 0, 1110) := fr fe_X8_unwinds_2 2 rfl
theorem i_X8_unwinds_50 : fetch 140 50 = some (.iload_n 2, 51, 0, 0, 0, 0) := fr fe_X8_unwinds_2 3 rfl
theorem i_X8_unwinds_51 : fetch 140 51 = some (.bipush 13, 53, 0, 0, 0, 0) := fr fe_X8_unwinds_2 4 rfl
theorem i_X8_unwinds_53 : fetch 140 53 = some (.if_icmp .eq 9, 56, 0, 0, 0, 0) := fr fe_X8_unwinds_2 5 rfl
theorem i_X8_unwinds_56 : fetch 140 56 = some (.iload_n 2, 57, 0, 0, 0, 0) := fr fe_X8_unwinds_2 6 rfl
theorem i_X8_unwinds_57 : fetch 140 57 = some (.bipush 19, 59, 0, 0, 0, 0) := fr fe_X8_unwinds_2 7 rfl
theorem i_X8_unwinds_59 : fetch 140 59 = some (.if_icmp .ne 7, 62, 0, 0, 0, 0) := fr fe_X8_unwinds_2 8 rfl
theorem i_X8_unwinds_62 : fetch 140 62 = some (.iconst 1, 63, 0, 0, 0, 0) := fr fe_X8_unwinds_2 9 rfl
theorem i_X8_unwinds_63 : fetch 140 63 = some (.goto 4, 66, 0, 0, 0, 0) := fr fe_X8_unwinds_2 10 rfl
theorem i_X8_unwinds_66 : fetch 140 66 = some (.iconst 0, 67, 0, 0, 0, 0) := fr fe_X8_unwinds_2 11 rfl
theorem i_X8_unwinds_67 : fetch 140 67 = some (.isub, 68, 0, 0, 0, 0) := fr fe_X8_unwinds_2 12 rfl
theorem i_X8_unwinds_68 : fetch 140 68 = some (.putfield 165, 71, 8, 33, 0, 1110) := fr fe_X8_unwinds_2 13 rfl
theorem i_X8_unwinds_71 : fetch 140 71 = some (.aload_n 0, 72, 0, 0, 0, 0) := fr fe_X8_unwinds_2 14 rfl
theorem i_X8_unwinds_72 : fetch 140 72 = some (.iload_n 2, 73, 0, 0, 0, 0) := fr fe_X8_unwinds_2 15 rfl
theorem i_X8_unwinds_73 : fetch 140 73 = some (.invokevirtual 168, 76, 139, 0, 0, 1034) := fr fe_X8_unwinds_2 16 rfl
theorem i_X8_unwinds_76 : fetch 140 76 = some (.goto (-76), 79, 0, 0, 0, 0) := fr fe_X8_unwinds_2 17 rfl
theorem i_X8_unwinds_79 : fetch 140 79 = some (.return_, 80, 0, 0, 0, 0) := fr fe_X8_unwinds_2 18 rfl
theorem i_X8_between_0 : fetch 143 0 = some (.aload_n 0, 1, 0, 0, 0, 0) := fr fe_X8_between_1 0 rfl
theorem i_X8_between_1 : fetch 143 1 = some (.iload_n 1, 2, 0, 0, 0, 0) := fr fe_X8_between_1 1 rfl
theorem i_X8_between_2 : fetch 143 2 = some (.invokestatic 162, 5, 138, 0, 0, 1042) := fr fe_X8_between_1 2 rfl
theorem i_X8_between_5 : fetch 143 5 = some (.iconst 4, 6, 0, 0, 0, 0) := fr fe_X8_between_1 3 rfl
theorem i_X8_between_6 : fetch 143 6 = some (.if_icmp .ne 7, 9, 0, 0, 0, 0) := fr fe_X8_between_1 4 rfl
theorem i_X8_between_9 : fetch 143 9 = some (.iconst 5, 10, 0, 0, 0, 0) := fr fe_X8_between_1 5 rfl
theorem i_X8_between_10 : fetch 143 10 = some (.goto 7, 13, 0, 0, 0, 0) := fr fe_X8_between_1 6 rfl
theorem i_X8_between_13 : fetch 143 13 = some (.iload_n 1, 14, 0, 0, 0, 0) := fr fe_X8_between_1 7 rfl
theorem i_X8_between_14 : fetch 143 14 = some (.invokestatic 162, 17, 138, 0, 0, 1042) := fr fe_X8_between_1 8 rfl
theorem i_X8_between_17 : fetch 143 17 = some (.invokevirtual 175, 20, 140, 0, 0, 1038) := fr fe_X8_between_1 9 rfl
theorem i_X8_between_20 : fetch 143 20 = some (.iload_n 1, 21, 0, 0, 0, 0) := fr fe_X8_between_1 10 rfl
theorem i_X8_between_21 : fetch 143 21 = some (.invokestatic 162, 24, 138, 0, 0, 1042) := fr fe_X8_between_1 11 rfl
theorem i_X8_between_24 : fetch 143 24 = some (.iconst 4, 25, 0, 0, 0, 0) := fr fe_X8_between_1 12 rfl
theorem i_X8_between_25 : fetch 143 25 = some (.if_icmp .ne 30, 28, 0, 0, 0, 0) := fr fe_X8_between_1 13 rfl
theorem i_X8_between_28 : fetch 143 28 = some (.aload_n 0, 29, 0, 0, 0, 0) := fr fe_X8_between_1 14 rfl
theorem i_X8_between_29 : fetch 143 29 = some (.getfield 159, 32, 8, 32, 0, 1109) := fr fe_X8_between_1 15 rfl
theorem i_X8_between_32 : fetch 143 32 = some (.ifCond .le 23, 35, 0, 0, 0, 0) := fr fe_X8_between_1 16 rfl
theorem i_X8_between_35 : fetch 143 35 = some (.aload_n 0, 36, 0, 0, 0, 0) := fr fe_X8_between_1 17 rfl
theorem i_X8_between_36 : fetch 143 36 = some (.getfield 66, 39, 8, 31, 0, 1108) := fr fe_X8_between_1 18 rfl
theorem i_X8_between_39 : fetch 143 39 = some (.aload_n 0, 40, 0, 0, 0, 0) := fr fe_X8_between_1 19 rfl
theorem i_X8_between_40 : fetch 143 40 = some (.getfield 159, 43, 8, 32, 0, 1109) := fr fe_X8_between_1 20 rfl
theorem i_X8_between_43 : fetch 143 43 = some (.iconst 1, 44, 0, 0, 0, 0) := fr fe_X8_between_1 21 rfl
theorem i_X8_between_44 : fetch 143 44 = some (.isub, 45, 0, 0, 0, 0) := fr fe_X8_between_1 22 rfl
theorem i_X8_between_45 : fetch 143 45 = some (.iaload, 46, 0, 0, 0, 0) := fr fe_X8_between_1 23 rfl
theorem i_X8_between_46 : fetch 143 46 = some (.invokestatic 162, 49, 138, 0, 0, 1042) := fr fe_X8_between_1 24 rfl
theorem i_X8_between_49 : fetch 143 49 = some (.iconst 4, 50, 0, 0, 0, 0) := fr fe_X8_between_2 0 rfl
theorem i_X8_between_50 : fetch 143 50 = some (.if_icmp .ne 5, 53, 0, 0, 0, 0) := fr fe_X8_between_2 1 rfl
theorem i_X8_between_53 : fetch 143 53 = some (.iconst 0, 54, 0, 0, 0, 0) := fr fe_X8_between_2 2 rfl
theorem i_X8_between_54 : fetch 143 54 = some (.ireturn, 55, 0, 0, 0, 0) := fr fe_X8_between_2 3 rfl
theorem i_X8_between_55 : fetch 143 55 = some (.aload_n 0, 56, 0, 0, 0, 0) := fr fe_X8_between_2 4 rfl
theorem i_X8_between_56 : fetch 143 56 = some (.iload_n 1, 57, 0, 0, 0, 0) := fr fe_X8_between_2 5 rfl
theorem i_X8_between_57 : fetch 143 57 = some (.invokevirtual 172, 60, 141, 0, 0, 1049) := fr fe_X8_between_2 6 rfl
theorem i_X8_between_60 : fetch 143 60 = some (.iconst 1, 61, 0, 0, 0, 0) := fr fe_X8_between_2 7 rfl
theorem i_X8_between_61 : fetch 143 61 = some (.ireturn, 62, 0, 0, 0, 0) := fr fe_X8_between_2 8 rfl
theorem i_X8_in_0 : fetch 126 0 = some (.iload_n 0, 1, 0, 0, 0, 0) := fr fe_X8_in 0 rfl
theorem i_X8_in_1 : fetch 126 1 = some (.iload_n 1, 2, 0, 0, 0, 0) := fr fe_X8_in 1 rfl
theorem i_X8_in_2 : fetch 126 2 = some (.if_icmp .lt 12, 5, 0, 0, 0, 0) := fr fe_X8_in 2 rfl
theorem i_X8_in_5 : fetch 126 5 = some (.iload_n 0, 6, 0, 0, 0, 0) := fr fe_X8_in 3 rfl
theorem i_X8_in_6 : fetch 126 6 = some (.iload_n 2, 7, 0, 0, 0, 0) := fr fe_X8_in 4 rfl
theorem i_X8_in_7 : fetch 126 7 = some (.if_icmp .gt 7, 10, 0, 0, 0, 0) := fr fe_X8_in 5 rfl
theorem i_X8_in_10 : fetch 126 10 = some (.iconst 1, 11, 0, 0, 0, 0) := fr fe_X8_in 6 rfl
theorem i_X8_in_11 : fetch 126 11 = some (.goto 4, 14, 0, 0, 0, 0) := fr fe_X8_in 7 rfl
theorem i_X8_in_14 : fetch 126 14 = some (.iconst 0, 15, 0, 0, 0, 0) := fr fe_X8_in 8 rfl
theorem i_X8_in_15 : fetch 126 15 = some (.ireturn, 16, 0, 0, 0, 0) := fr fe_X8_in 9 rfl
theorem i_X8_wordFrom_0 : fetch 136 0 = some (.iconst 0, 1, 0, 0, 0, 0) := fr fe_X8_wordFrom_1 0 rfl
theorem i_X8_wordFrom_1 : fetch 136 1 = some (.istore_n 3, 2, 0, 0, 0, 0) := fr fe_X8_wordFrom_1 1 rfl
theorem i_X8_wordFrom_2 : fetch 136 2 = some (.iload_n 3, 3, 0, 0, 0, 0) := fr fe_X8_wordFrom_1 2 rfl
theorem i_X8_wordFrom_3 : fetch 136 3 = some (.bipush 12, 5, 0, 0, 0, 0) := fr fe_X8_wordFrom_1 3 rfl
theorem i_X8_wordFrom_5 : fetch 136 5 = some (.if_icmp .ge 96, 8, 0, 0, 0, 0) := fr fe_X8_wordFrom_1 4 rfl
theorem i_X8_wordFrom_8 : fetch 136 8 = some (.iload_n 2, 9, 0, 0, 0, 0) := fr fe_X8_wordFrom_1 5 rfl
theorem i_X8_wordFrom_9 : fetch 136 9 = some (.iload_n 1, 10, 0, 0, 0, 0) := fr fe_X8_wordFrom_1 6 rfl
theorem i_X8_wordFrom_10 : fetch 136 10 = some (.isub, 11, 0, 0, 0, 0) := fr fe_X8_wordFrom_1 7 rfl
theorem i_X8_wordFrom_11 : fetch 136 11 = some (.bipush 8, 13, 0, 0, 0, 0) := fr fe_X8_wordFrom_1 8 rfl
theorem i_X8_wordFrom_13 : fetch 136 13 = some (.if_icmp .gt 7, 16, 0, 0, 0, 0) := fr fe_X8_wordFrom_1 9 rfl
theorem i_X8_wordFrom_16 : fetch 136 16 = some (.iconst 1, 17, 0, 0, 0, 0) := fr fe_X8_wordFrom_1 10 rfl
theorem i_X8_wordFrom_17 : fetch 136 17 = some (.goto 4, 20, 0, 0, 0, 0) := fr fe_X8_wordFrom_1 11 rfl
theorem i_X8_wordFrom_20 : fetch 136 20 = some (.iconst 0, 21, 0, 0, 0, 0) := fr fe_X8_wordFrom_1 12 rfl
theorem i_X8_wordFrom_21 : fetch 136 21 = some (.istore 4, 23, 0, 0, 0, 0) := fr fe_X8_wordFrom_1 13 rfl
theorem i_X8_wordFrom_23 : fetch 136 23 = some (.iconst 0, 24, 0, 0, 0, 0) := fr fe_X8_wordFrom_1 14 rfl
theorem i_X8_wordFrom_24 : fetch 136 24 = some (.istore 5, 26, 0, 0, 0, 0) := fr fe_X8_wordFrom_1 15 rfl
theorem i_X8_wordFrom_26 : fetch 136 26 = some (.iload 5, 28, 0, 0, 0, 0) := fr fe_X8_wordFrom_1 16 rfl
theorem i_X8_wordFrom_28 : fetch 136 28 = some (.bipush 8, 30, 0, 0, 0, 0) := fr fe_X8_wordFrom_1 17 rfl
theorem i_X8_wordFrom_30 : fetch 136 30 = some (.if_icmp .ge 58, 33, 0, 0, 0, 0) := fr fe_X8_wordFrom_1 18 rfl
theorem i_X8_wordFrom_33 : fetch 136 33 = some (.iload 4, 35, 0, 0, 0, 0) := fr fe_X8_wordFrom_1 19 rfl
theorem i_X8_wordFrom_35 : fetch 136 35 = some (.ifCond .eq 53, 38, 0, 0, 0, 0) := fr fe_X8_wordFrom_1 20 rfl
theorem i_X8_wordFrom_38 : fetch 136 38 = some (.aload_n 0, 39, 0, 0, 0, 0) := fr fe_X8_wordFrom_1 21 rfl
theorem i_X8_wordFrom_39 : fetch 136 39 = some (.getfield 63, 42, 8, 30, 0, 1107) := fr fe_X8_wordFrom_1 22 rfl
theorem i_X8_wordFrom_42 : fetch 136 42 = some (.bipush 8, 44, 0, 0, 0, 0) := fr fe_X8_wordFrom_1 23 rfl
theorem i_X8_wordFrom_44 : fetch 136 44 = some (.iload_n 3, 45, 0, 0, 0, 0) := fr fe_X8_wordFrom_1 24 rfl
theorem i_X8_wordFrom_45 : fetch 136 45 = some (.imul, 46, 0, 0, 0, 0) := fr fe_X8_wordFrom_2 0 rfl
theorem i_X8_wordFrom_46 : fetch 136 46 = some (.iload 5, 48, 0, 0, 0, 0) := fr fe_X8_wordFrom_2 1 rfl
theorem i_X8_wordFrom_48 : fetch 136 48 = some (.iadd, 49, 0, 0, 0, 0) := fr fe_X8_wordFrom_2 2 rfl
theorem i_X8_wordFrom_49 : fetch 136 49 = some (.iaload, 50, 0, 0, 0, 0) := fr fe_X8_wordFrom_2 3 rfl
theorem i_X8_wordFrom_50 : fetch 136 50 = some (.iload_n 1, 51, 0, 0, 0, 0) := fr fe_X8_wordFrom_2 4 rfl
theorem i_X8_wordFrom_51 : fetch 136 51 = some (.iload 5, 53, 0, 0, 0, 0) := fr fe_X8_wordFrom_2 5 rfl
theorem i_X8_wordFrom_53 : fetch 136 53 = some (.iadd, 54, 0, 0, 0, 0) := fr fe_X8_wordFrom_2 6 rfl
theorem i_X8_wordFrom_54 : fetch 136 54 = some (.iload_n 2, 55, 0, 0, 0, 0) := fr fe_X8_wordFrom_2 7 rfl
theorem i_X8_wordFrom_55 : fetch 136 55 = some (.if_icmp .ge 15, 58, 0, 0, 0, 0) := fr fe_X8_wordFrom_2 8 rfl
theorem i_X8_wordFrom_58 : fetch 136 58 = some (.aload_n 0, 59, 0, 0, 0, 0) := fr fe_X8_wordFrom_2 9 rfl
theorem i_X8_wordFrom_59 : fetch 136 59 = some (.getfield 36, 62, 8, 9, 0, 1070) := fr fe_X8_wordFrom_2 10 rfl
theorem i_X8_wordFrom_62 : fetch 136 62 = some (.iload_n 1, 63, 0, 0, 0, 0) := fr fe_X8_wordFrom_2 11 rfl
theorem i_X8_wordFrom_63 : fetch 136 63 = some (.iload 5, 65, 0, 0, 0, 0) := fr fe_X8_wordFrom_2 12 rfl
theorem i_X8_wordFrom_65 : fetch 136 65 = some (.iadd, 66, 0, 0, 0, 0) := fr fe_X8_wordFrom_2 13 rfl
theorem i_X8_wordFrom_66 : fetch 136 66 = some (.iaload, 67, 0, 0, 0, 0) := fr fe_X8_wordFrom_2 14 rfl
theorem i_X8_wordFrom_67 : fetch 136 67 = some (.goto 5, 70, 0, 0, 0, 0) := fr fe_X8_wordFrom_2 15 rfl
theorem i_X8_wordFrom_70 : fetch 136 70 = some (.bipush 32, 72, 0, 0, 0, 0) := fr fe_X8_wordFrom_2 16 rfl
theorem i_X8_wordFrom_72 : fetch 136 72 = some (.if_icmp .ne 7, 75, 0, 0, 0, 0) := fr fe_X8_wordFrom_2 17 rfl
theorem i_X8_wordFrom_75 : fetch 136 75 = some (.iconst 1, 76, 0, 0, 0, 0) := fr fe_X8_wordFrom_2 18 rfl
theorem i_X8_wordFrom_76 : fetch 136 76 = some (.goto 4, 79, 0, 0, 0, 0) := fr fe_X8_wordFrom_2 19 rfl
theorem i_X8_wordFrom_79 : fetch 136 79 = some (.iconst 0, 80, 0, 0, 0, 0) := fr fe_X8_wordFrom_2 20 rfl
theorem i_X8_wordFrom_80 : fetch 136 80 = some (.istore 4, 82, 0, 0, 0, 0) := fr fe_X8_wordFrom_2 21 rfl
theorem i_X8_wordFrom_82 : fetch 136 82 = some (.iinc 5 1, 85, 0, 0, 0, 0) := fr fe_X8_wordFrom_2 22 rfl
theorem i_X8_wordFrom_85 : fetch 136 85 = some (.goto (-59), 88, 0, 0, 0, 0) := fr fe_X8_wordFrom_2 23 rfl
theorem i_X8_wordFrom_88 : fetch 136 88 = some (.iload 4, 90, 0, 0, 0, 0) := fr fe_X8_wordFrom_2 24 rfl
theorem i_X8_wordFrom_90 : fetch 136 90 = some (.ifCond .eq 5, 93, 0, 0, 0, 0) := fr fe_X8_wordFrom_3 0 rfl
theorem i_X8_wordFrom_93 : fetch 136 93 = some (.iload_n 3, 94, 0, 0, 0, 0) := fr fe_X8_wordFrom_3 1 rfl
theorem i_X8_wordFrom_94 : fetch 136 94 = some (.ireturn, 95, 0, 0, 0, 0) := fr fe_X8_wordFrom_3 2 rfl
theorem i_X8_wordFrom_95 : fetch 136 95 = some (.iinc 3 1, 98, 0, 0, 0, 0) := fr fe_X8_wordFrom_3 3 rfl
theorem i_X8_wordFrom_98 : fetch 136 98 = some (.goto (-96), 101, 0, 0, 0, 0) := fr fe_X8_wordFrom_3 4 rfl
theorem i_X8_wordFrom_101 : fetch 136 101 = some (.bipush 12, 103, 0, 0, 0, 0) := fr fe_X8_wordFrom_3 5 rfl
theorem i_X8_wordFrom_103 : fetch 136 103 = some (.ireturn, 104, 0, 0, 0, 0) := fr fe_X8_wordFrom_3 6 rfl
theorem i_X8_next_0 : fetch 137 0 = some (.aload_n 0, 1, 0, 0, 0, 0) := fr fe_X8_next_1 0 rfl
theorem i_X8_next_1 : fetch 137 1 = some (.getfield 140, 4, 8, 26, 0, 1103) := fr fe_X8_next_1 1 rfl
theorem i_X8_next_4 : fetch 137 4 = some (.aload_n 0, 5, 0, 0, 0, 0) := fr fe_X8_next_1 2 rfl
theorem i_X8_next_5 : fetch 137 5 = some (.getfield 105, 8, 8, 10, 0, 1071) := fr fe_X8_next_1 3 rfl
theorem i_X8_next_8 : fetch 137 8 = some (.if_icmp .ge 44, 11, 0, 0, 0, 0) := fr fe_X8_next_1 4 rfl
theorem i_X8_next_11 : fetch 137 11 = some (.aload_n 0, 12, 0, 0, 0, 0) := fr fe_X8_next_1 5 rfl
theorem i_X8_next_12 : fetch 137 12 = some (.getfield 36, 15, 8, 9, 0, 1070) := fr fe_X8_next_1 6 rfl
theorem i_X8_next_15 : fetch 137 15 = some (.aload_n 0, 16, 0, 0, 0, 0) := fr fe_X8_next_1 7 rfl
theorem i_X8_next_16 : fetch 137 16 = some (.getfield 140, 19, 8, 26, 0, 1103) := fr fe_X8_next_1 8 rfl
theorem i_X8_next_19 : fetch 137 19 = some (.iaload, 20, 0, 0, 0, 0) := fr fe_X8_next_1 9 rfl
theorem i_X8_next_20 : fetch 137 20 = some (.bipush 32, 22, 0, 0, 0, 0) := fr fe_X8_next_1 10 rfl
theorem i_X8_next_22 : fetch 137 22 = some (.if_icmp .eq 17, 25, 0, 0, 0, 0) := fr fe_X8_next_1 11 rfl
theorem i_X8_next_25 : fetch 137 25 = some (.aload_n 0, 26, 0, 0, 0, 0) := fr fe_X8_next_1 12 rfl
theorem i_X8_next_26 : fetch 137 26 = some (.getfield 36, 29, 8, 9, 0, 1070) := fr fe_X8_next_1 13 rfl
theorem i_X8_next_29 : fetch 137 29 = some (.aload_n 0, 30, 0, 0, 0, 0) := fr fe_X8_next_1 14 rfl
theorem i_X8_next_30 : fetch 137 30 = some (.getfield 140, 33, 8, 26, 0, 1103) := fr fe_X8_next_1 15 rfl
theorem i_X8_next_33 : fetch 137 33 = some (.iaload, 34, 0, 0, 0, 0) := fr fe_X8_next_1 16 rfl
theorem i_X8_next_34 : fetch 137 34 = some (.bipush 10, 36, 0, 0, 0, 0) := fr fe_X8_next_1 17 rfl
theorem i_X8_next_36 : fetch 137 36 = some (.if_icmp .ne 16, 39, 0, 0, 0, 0) := fr fe_X8_next_1 18 rfl
theorem i_X8_next_39 : fetch 137 39 = some (.aload_n 0, 40, 0, 0, 0, 0) := fr fe_X8_next_1 19 rfl
theorem i_X8_next_40 : fetch 137 40 = some (.dup, 41, 0, 0, 0, 0) := fr fe_X8_next_1 20 rfl
theorem i_X8_next_41 : fetch 137 41 = some (.getfield 140, 44, 8, 26, 0, 1103) := fr fe_X8_next_1 21 rfl
theorem i_X8_next_44 : fetch 137 44 = some (.iconst 1, 45, 0, 0, 0, 0) := fr fe_X8_next_1 22 rfl
theorem i_X8_next_45 : fetch 137 45 = some (.iadd, 46, 0, 0, 0, 0) := fr fe_X8_next_1 23 rfl
theorem i_X8_next_46 : fetch 137 46 = some (.putfield 140, 49, 8, 26, 0, 1103) := fr fe_X8_next_1 24 rfl
theorem i_X8_next_49 : fetch 137 49 = some (.goto (-49), 52, 0, 0, 0, 0) := fr fe_X8_next_2 0 rfl
theorem i_X8_next_52 : fetch 137 52 = some (.aload_n 0, 53, 0, 0, 0, 0) := fr fe_X8_next_2 1 rfl
theorem i_X8_next_53 : fetch 137 53 = some (.aload_n 0, 54, 0, 0, 0, 0) := fr fe_X8_next_2 2 rfl
theorem i_X8_next_54 : fetch 137 54 = some (.getfield 140, 57, 8, 26, 0, 1103) := fr fe_X8_next_2 3 rfl
theorem i_X8_next_57 : fetch 137 57 = some (.putfield 143, 60, 8, 27, 0, 1104) := fr fe_X8_next_2 4 rfl
theorem i_X8_next_60 : fetch 137 60 = some (.aload_n 0, 61, 0, 0, 0, 0) := fr fe_X8_next_2 5 rfl
theorem i_X8_next_61 : fetch 137 61 = some (.iconst 0, 62, 0, 0, 0, 0) := fr fe_X8_next_2 6 rfl
theorem i_X8_next_62 : fetch 137 62 = some (.putfield 146, 65, 8, 28, 0, 1105) := fr fe_X8_next_2 7 rfl
theorem i_X8_next_65 : fetch 137 65 = some (.aload_n 0, 66, 0, 0, 0, 0) := fr fe_X8_next_2 8 rfl
theorem i_X8_next_66 : fetch 137 66 = some (.iconst 0, 67, 0, 0, 0, 0) := fr fe_X8_next_2 9 rfl
theorem i_X8_next_67 : fetch 137 67 = some (.putfield 149, 70, 8, 29, 0, 1106) := fr fe_X8_next_2 10 rfl
theorem i_X8_next_70 : fetch 137 70 = some (.aload_n 0, 71, 0, 0, 0, 0) := fr fe_X8_next_2 11 rfl
theorem i_X8_next_71 : fetch 137 71 = some (.getfield 140, 74, 8, 26, 0, 1103) := fr fe_X8_next_2 12 rfl
theorem i_X8_next_74 : fetch 137 74 = some (.aload_n 0, 75, 0, 0, 0, 0) := fr fe_X8_next_2 13 rfl
theorem i_X8_next_75 : fetch 137 75 = some (.getfield 105, 78, 8, 10, 0, 1071) := fr fe_X8_next_2 14 rfl
theorem i_X8_next_78 : fetch 137 78 = some (.if_icmp .ne 4, 81, 0, 0, 0, 0) := fr fe_X8_next_2 15 rfl
theorem i_X8_next_81 : fetch 137 81 = some (.return_, 82, 0, 0, 0, 0) := fr fe_X8_next_2 16 rfl
theorem i_X8_next_82 : fetch 137 82 = some (.aload_n 0, 83, 0, 0, 0, 0) := fr fe_X8_next_2 17 rfl
theorem i_X8_next_83 : fetch 137 83 = some (.getfield 36, 86, 8, 9, 0, 1070) := fr fe_X8_next_2 18 rfl
theorem i_X8_next_86 : fetch 137 86 = some (.aload_n 0, 87, 0, 0, 0, 0) := fr fe_X8_next_2 19 rfl
theorem i_X8_next_87 : fetch 137 87 = some (.getfield 140, 90, 8, 26, 0, 1103) := fr fe_X8_next_2 20 rfl
theorem i_X8_next_90 : fetch 137 90 = some (.iaload, 91, 0, 0, 0, 0) := fr fe_X8_next_2 21 rfl
theorem i_X8_next_91 : fetch 137 91 = some (.istore_n 1, 92, 0, 0, 0, 0) := fr fe_X8_next_2 22 rfl
theorem i_X8_next_92 : fetch 137 92 = some (.iload_n 1, 93, 0, 0, 0, 0) := fr fe_X8_next_2 23 rfl
theorem i_X8_next_93 : fetch 137 93 = some (.bipush 97, 95, 0, 0, 0, 0) := fr fe_X8_next_2 24 rfl
theorem i_X8_next_95 : fetch 137 95 = some (.bipush 122, 97, 0, 0, 0, 0) := fr fe_X8_next_3 0 rfl
theorem i_X8_next_97 : fetch 137 97 = some (.invokestatic 112, 100, 126, 0, 0, 1022) := fr fe_X8_next_3 1 rfl
theorem i_X8_next_100 : fetch 137 100 = some (.ifCond .eq 117, 103, 0, 0, 0, 0) := fr fe_X8_next_3 2 rfl
theorem i_X8_next_103 : fetch 137 103 = some (.aload_n 0, 104, 0, 0, 0, 0) := fr fe_X8_next_3 3 rfl
theorem i_X8_next_104 : fetch 137 104 = some (.getfield 140, 107, 8, 26, 0, 1103) := fr fe_X8_next_3 4 rfl
theorem i_X8_next_107 : fetch 137 107 = some (.aload_n 0, 108, 0, 0, 0, 0) := fr fe_X8_next_3 5 rfl
theorem i_X8_next_108 : fetch 137 108 = some (.getfield 105, 111, 8, 10, 0, 1071) := fr fe_X8_next_3 6 rfl
theorem i_X8_next_111 : fetch 137 111 = some (.if_icmp .ge 35, 114, 0, 0, 0, 0) := fr fe_X8_next_3 7 rfl
theorem i_X8_next_114 : fetch 137 114 = some (.aload_n 0, 115, 0, 0, 0, 0) := fr fe_X8_next_3 8 rfl
theorem i_X8_next_115 : fetch 137 115 = some (.getfield 36, 118, 8, 9, 0, 1070) := fr fe_X8_next_3 9 rfl
theorem i_X8_next_118 : fetch 137 118 = some (.aload_n 0, 119, 0, 0, 0, 0) := fr fe_X8_next_3 10 rfl
theorem i_X8_next_119 : fetch 137 119 = some (.getfield 140, 122, 8, 26, 0, 1103) := fr fe_X8_next_3 11 rfl
theorem i_X8_next_122 : fetch 137 122 = some (.iaload, 123, 0, 0, 0, 0) := fr fe_X8_next_3 12 rfl
theorem i_X8_next_123 : fetch 137 123 = some (.bipush 97, 125, 0, 0, 0, 0) := fr fe_X8_next_3 13 rfl
theorem i_X8_next_125 : fetch 137 125 = some (.bipush 122, 127, 0, 0, 0, 0) := fr fe_X8_next_3 14 rfl
theorem i_X8_next_127 : fetch 137 127 = some (.invokestatic 112, 130, 126, 0, 0, 1022) := fr fe_X8_next_3 15 rfl
theorem i_X8_next_130 : fetch 137 130 = some (.ifCond .eq 16, 133, 0, 0, 0, 0) := fr fe_X8_next_3 16 rfl
theorem i_X8_next_133 : fetch 137 133 = some (.aload_n 0, 134, 0, 0, 0, 0) := fr fe_X8_next_3 17 rfl
theorem i_X8_next_134 : fetch 137 134 = some (.dup, 135, 0, 0, 0, 0) := fr fe_X8_next_3 18 rfl
theorem i_X8_next_135 : fetch 137 135 = some (.getfield 140, 138, 8, 26, 0, 1103) := fr fe_X8_next_3 19 rfl
theorem i_X8_next_138 : fetch 137 138 = some (.iconst 1, 139, 0, 0, 0, 0) := fr fe_X8_next_3 20 rfl
theorem i_X8_next_139 : fetch 137 139 = some (.iadd, 140, 0, 0, 0, 0) := fr fe_X8_next_3 21 rfl
theorem i_X8_next_140 : fetch 137 140 = some (.putfield 140, 143, 8, 26, 0, 1103) := fr fe_X8_next_3 22 rfl
theorem i_X8_next_143 : fetch 137 143 = some (.goto (-40), 146, 0, 0, 0, 0) := fr fe_X8_next_3 23 rfl
theorem i_X8_next_146 : fetch 137 146 = some (.aload_n 0, 147, 0, 0, 0, 0) := fr fe_X8_next_3 24 rfl
theorem i_X8_next_147 : fetch 137 147 = some (.aload_n 0, 148, 0, 0, 0, 0) := fr fe_X8_next_4 0 rfl
theorem i_X8_next_148 : fetch 137 148 = some (.getfield 143, 151, 8, 27, 0, 1104) := fr fe_X8_next_4 1 rfl
theorem i_X8_next_151 : fetch 137 151 = some (.aload_n 0, 152, 0, 0, 0, 0) := fr fe_X8_next_4 2 rfl
theorem i_X8_next_152 : fetch 137 152 = some (.getfield 140, 155, 8, 26, 0, 1103) := fr fe_X8_next_4 3 rfl
theorem i_X8_next_155 : fetch 137 155 = some (.invokevirtual 152, 158, 136, 0, 0, 1025) := fr fe_X8_next_4 4 rfl
theorem i_X8_next_158 : fetch 137 158 = some (.istore_n 2, 159, 0, 0, 0, 0) := fr fe_X8_next_4 5 rfl
theorem i_X8_next_159 : fetch 137 159 = some (.aload_n 0, 160, 0, 0, 0, 0) := fr fe_X8_next_4 6 rfl
theorem i_X8_next_160 : fetch 137 160 = some (.iload_n 2, 161, 0, 0, 0, 0) := fr fe_X8_next_4 7 rfl
theorem i_X8_next_161 : fetch 137 161 = some (.iconst 3, 162, 0, 0, 0, 0) := fr fe_X8_next_4 8 rfl
theorem i_X8_next_162 : fetch 137 162 = some (.if_icmp .ge 7, 165, 0, 0, 0, 0) := fr fe_X8_next_4 9 rfl
theorem i_X8_next_165 : fetch 137 165 = some (.iconst 3, 166, 0, 0, 0, 0) := fr fe_X8_next_4 10 rfl
theorem i_X8_next_166 : fetch 137 166 = some (.goto 29, 169, 0, 0, 0, 0) := fr fe_X8_next_4 11 rfl
theorem i_X8_next_169 : fetch 137 169 = some (.iload_n 2, 170, 0, 0, 0, 0) := fr fe_X8_next_4 12 rfl
theorem i_X8_next_170 : fetch 137 170 = some (.bipush 9, 172, 0, 0, 0, 0) := fr fe_X8_next_4 13 rfl
theorem i_X8_next_172 : fetch 137 172 = some (.if_icmp .ge 7, 175, 0, 0, 0, 0) := fr fe_X8_next_4 14 rfl
theorem i_X8_next_175 : fetch 137 175 = some (.iconst 2, 176, 0, 0, 0, 0) := fr fe_X8_next_4 15 rfl
theorem i_X8_next_176 : fetch 137 176 = some (.goto 19, 179, 0, 0, 0, 0) := fr fe_X8_next_4 16 rfl
theorem i_X8_next_179 : fetch 137 179 = some (.iload_n 2, 180, 0, 0, 0, 0) := fr fe_X8_next_4 17 rfl
theorem i_X8_next_180 : fetch 137 180 = some (.bipush 12, 182, 0, 0, 0, 0) := fr fe_X8_next_4 18 rfl
theorem i_X8_next_182 : fetch 137 182 = some (.if_icmp .ne 7, 185, 0, 0, 0, 0) := fr fe_X8_next_4 19 rfl
theorem i_X8_next_185 : fetch 137 185 = some (.iconst (-1), 186, 0, 0, 0, 0) := fr fe_X8_next_4 20 rfl
theorem i_X8_next_186 : fetch 137 186 = some (.goto 9, 189, 0, 0, 0, 0) := fr fe_X8_next_4 21 rfl
theorem i_X8_next_189 : fetch 137 189 = some (.iconst 4, 190, 0, 0, 0, 0) := fr fe_X8_next_4 22 rfl
theorem i_X8_next_190 : fetch 137 190 = some (.iload_n 2, 191, 0, 0, 0, 0) := fr fe_X8_next_4 23 rfl
theorem i_X8_next_191 : fetch 137 191 = some (.iadd, 192, 0, 0, 0, 0) := fr fe_X8_next_4 24 rfl
theorem i_X8_next_192 : fetch 137 192 = some (.bipush 9, 194, 0, 0, 0, 0) := fr fe_X8_next_5 0 rfl
theorem i_X8_next_194 : fetch 137 194 = some (.isub, 195, 0, 0, 0, 0) := fr fe_X8_next_5 1 rfl
theorem i_X8_next_195 : fetch 137 195 = some (.putfield 146, 198, 8, 28, 0, 1105) := fr fe_X8_next_5 2 rfl
theorem i_X8_next_198 : fetch 137 198 = some (.aload_n 0, 199, 0, 0, 0, 0) := fr fe_X8_next_5 3 rfl
theorem i_X8_next_199 : fetch 137 199 = some (.iload_n 2, 200, 0, 0, 0, 0) := fr fe_X8_next_5 4 rfl
theorem i_X8_next_200 : fetch 137 200 = some (.iconst 3, 201, 0, 0, 0, 0) := fr fe_X8_next_5 5 rfl
theorem i_X8_next_201 : fetch 137 201 = some (.if_icmp .ge 7, 204, 0, 0, 0, 0) := fr fe_X8_next_5 6 rfl
theorem i_X8_next_204 : fetch 137 204 = some (.iload_n 2, 205, 0, 0, 0, 0) := fr fe_X8_next_5 7 rfl
theorem i_X8_next_205 : fetch 137 205 = some (.goto 6, 208, 0, 0, 0, 0) := fr fe_X8_next_5 8 rfl
theorem i_X8_next_208 : fetch 137 208 = some (.iload_n 2, 209, 0, 0, 0, 0) := fr fe_X8_next_5 9 rfl
theorem i_X8_next_209 : fetch 137 209 = some (.iconst 3, 210, 0, 0, 0, 0) := fr fe_X8_next_5 10 rfl
theorem i_X8_next_210 : fetch 137 210 = some (.isub, 211, 0, 0, 0, 0) := fr fe_X8_next_5 11 rfl
theorem i_X8_next_211 : fetch 137 211 = some (.putfield 149, 214, 8, 29, 0, 1106) := fr fe_X8_next_5 12 rfl
theorem i_X8_next_214 : fetch 137 214 = some (.goto 189, 217, 0, 0, 0, 0) := fr fe_X8_next_5 13 rfl
theorem i_X8_next_217 : fetch 137 217 = some (.iload_n 1, 218, 0, 0, 0, 0) := fr fe_X8_next_5 14 rfl
theorem i_X8_next_218 : fetch 137 218 = some (.bipush 48, 220, 0, 0, 0, 0) := fr fe_X8_next_5 15 rfl
theorem i_X8_next_220 : fetch 137 220 = some (.bipush 57, 222, 0, 0, 0, 0) := fr fe_X8_next_5 16 rfl
theorem i_X8_next_222 : fetch 137 222 = some (.invokestatic 112, 225, 126, 0, 0, 1022) := fr fe_X8_next_5 17 rfl
theorem i_X8_next_225 : fetch 137 225 = some (.ifCond .eq 101, 228, 0, 0, 0, 0) := fr fe_X8_next_5 18 rfl
theorem i_X8_next_228 : fetch 137 228 = some (.iconst 0, 229, 0, 0, 0, 0) := fr fe_X8_next_5 19 rfl
theorem i_X8_next_229 : fetch 137 229 = some (.istore_n 2, 230, 0, 0, 0, 0) := fr fe_X8_next_5 20 rfl
theorem i_X8_next_230 : fetch 137 230 = some (.aload_n 0, 231, 0, 0, 0, 0) := fr fe_X8_next_5 21 rfl
theorem i_X8_next_231 : fetch 137 231 = some (.getfield 140, 234, 8, 26, 0, 1103) := fr fe_X8_next_5 22 rfl
theorem i_X8_next_234 : fetch 137 234 = some (.aload_n 0, 235, 0, 0, 0, 0) := fr fe_X8_next_5 23 rfl
theorem i_X8_next_235 : fetch 137 235 = some (.getfield 105, 238, 8, 10, 0, 1071) := fr fe_X8_next_5 24 rfl
theorem i_X8_next_238 : fetch 137 238 = some (.if_icmp .ge 71, 241, 0, 0, 0, 0) := fr fe_X8_next_6 0 rfl
theorem i_X8_next_241 : fetch 137 241 = some (.aload_n 0, 242, 0, 0, 0, 0) := fr fe_X8_next_6 1 rfl
theorem i_X8_next_242 : fetch 137 242 = some (.getfield 36, 245, 8, 9, 0, 1070) := fr fe_X8_next_6 2 rfl
theorem i_X8_next_245 : fetch 137 245 = some (.aload_n 0, 246, 0, 0, 0, 0) := fr fe_X8_next_6 3 rfl
theorem i_X8_next_246 : fetch 137 246 = some (.getfield 140, 249, 8, 26, 0, 1103) := fr fe_X8_next_6 4 rfl
theorem i_X8_next_249 : fetch 137 249 = some (.iaload, 250, 0, 0, 0, 0) := fr fe_X8_next_6 5 rfl
theorem i_X8_next_250 : fetch 137 250 = some (.bipush 48, 252, 0, 0, 0, 0) := fr fe_X8_next_6 6 rfl
theorem i_X8_next_252 : fetch 137 252 = some (.bipush 57, 254, 0, 0, 0, 0) := fr fe_X8_next_6 7 rfl
theorem i_X8_next_254 : fetch 137 254 = some (.invokestatic 112, 257, 126, 0, 0, 1022) := fr fe_X8_next_6 8 rfl
theorem i_X8_next_257 : fetch 137 257 = some (.ifCond .eq 52, 260, 0, 0, 0, 0) := fr fe_X8_next_6 9 rfl
theorem i_X8_next_260 : fetch 137 260 = some (.aload_n 0, 261, 0, 0, 0, 0) := fr fe_X8_next_6 10 rfl
theorem i_X8_next_261 : fetch 137 261 = some (.iload_n 2, 262, 0, 0, 0, 0) := fr fe_X8_next_6 11 rfl
theorem i_X8_next_262 : fetch 137 262 = some (.iconst 4, 263, 0, 0, 0, 0) := fr fe_X8_next_6 12 rfl
theorem i_X8_next_263 : fetch 137 263 = some (.if_icmp .ge 26, 266, 0, 0, 0, 0) := fr fe_X8_next_6 13 rfl
theorem i_X8_next_266 : fetch 137 266 = some (.bipush 10, 268, 0, 0, 0, 0) := fr fe_X8_next_6 14 rfl
theorem i_X8_next_268 : fetch 137 268 = some (.aload_n 0, 269, 0, 0, 0, 0) := fr fe_X8_next_6 15 rfl
theorem i_X8_next_269 : fetch 137 269 = some (.getfield 149, 272, 8, 29, 0, 1106) := fr fe_X8_next_6 16 rfl
theorem i_X8_next_272 : fetch 137 272 = some (.imul, 273, 0, 0, 0, 0) := fr fe_X8_next_6 17 rfl
theorem i_X8_next_273 : fetch 137 273 = some (.aload_n 0, 274, 0, 0, 0, 0) := fr fe_X8_next_6 18 rfl
theorem i_X8_next_274 : fetch 137 274 = some (.getfield 36, 277, 8, 9, 0, 1070) := fr fe_X8_next_6 19 rfl
theorem i_X8_next_277 : fetch 137 277 = some (.aload_n 0, 278, 0, 0, 0, 0) := fr fe_X8_next_6 20 rfl
theorem i_X8_next_278 : fetch 137 278 = some (.getfield 140, 281, 8, 26, 0, 1103) := fr fe_X8_next_6 21 rfl
theorem i_X8_next_281 : fetch 137 281 = some (.iaload, 282, 0, 0, 0, 0) := fr fe_X8_next_6 22 rfl
theorem i_X8_next_282 : fetch 137 282 = some (.iadd, 283, 0, 0, 0, 0) := fr fe_X8_next_6 23 rfl
theorem i_X8_next_283 : fetch 137 283 = some (.bipush 48, 285, 0, 0, 0, 0) := fr fe_X8_next_6 24 rfl
theorem i_X8_next_285 : fetch 137 285 = some (.isub, 286, 0, 0, 0, 0) := fr fe_X8_next_7 0 rfl
theorem i_X8_next_286 : fetch 137 286 = some (.goto 4, 289, 0, 0, 0, 0) := fr fe_X8_next_7 1 rfl
theorem i_X8_next_289 : fetch 137 289 = some (.iconst 0, 290, 0, 0, 0, 0) := fr fe_X8_next_7 2 rfl
theorem i_X8_next_290 : fetch 137 290 = some (.putfield 149, 293, 8, 29, 0, 1106) := fr fe_X8_next_7 3 rfl
theorem i_X8_next_293 : fetch 137 293 = some (.iinc 2 1, 296, 0, 0, 0, 0) := fr fe_X8_next_7 4 rfl
theorem i_X8_next_296 : fetch 137 296 = some (.aload_n 0, 297, 0, 0, 0, 0) := fr fe_X8_next_7 5 rfl
theorem i_X8_next_297 : fetch 137 297 = some (.dup, 298, 0, 0, 0, 0) := fr fe_X8_next_7 6 rfl
theorem i_X8_next_298 : fetch 137 298 = some (.getfield 140, 301, 8, 26, 0, 1103) := fr fe_X8_next_7 7 rfl
theorem i_X8_next_301 : fetch 137 301 = some (.iconst 1, 302, 0, 0, 0, 0) := fr fe_X8_next_7 8 rfl
theorem i_X8_next_302 : fetch 137 302 = some (.iadd, 303, 0, 0, 0, 0) := fr fe_X8_next_7 9 rfl
theorem i_X8_next_303 : fetch 137 303 = some (.putfield 140, 306, 8, 26, 0, 1103) := fr fe_X8_next_7 10 rfl
theorem i_X8_next_306 : fetch 137 306 = some (.goto (-76), 309, 0, 0, 0, 0) := fr fe_X8_next_7 11 rfl
theorem i_X8_next_309 : fetch 137 309 = some (.aload_n 0, 310, 0, 0, 0, 0) := fr fe_X8_next_7 12 rfl
theorem i_X8_next_310 : fetch 137 310 = some (.iload_n 2, 311, 0, 0, 0, 0) := fr fe_X8_next_7 13 rfl
theorem i_X8_next_311 : fetch 137 311 = some (.iconst 4, 312, 0, 0, 0, 0) := fr fe_X8_next_7 14 rfl
theorem i_X8_next_312 : fetch 137 312 = some (.if_icmp .le 7, 315, 0, 0, 0, 0) := fr fe_X8_next_7 15 rfl
theorem i_X8_next_315 : fetch 137 315 = some (.iconst (-1), 316, 0, 0, 0, 0) := fr fe_X8_next_7 16 rfl
theorem i_X8_next_316 : fetch 137 316 = some (.goto 4, 319, 0, 0, 0, 0) := fr fe_X8_next_7 17 rfl
theorem i_X8_next_319 : fetch 137 319 = some (.iconst 1, 320, 0, 0, 0, 0) := fr fe_X8_next_7 18 rfl
theorem i_X8_next_320 : fetch 137 320 = some (.putfield 146, 323, 8, 28, 0, 1105) := fr fe_X8_next_7 19 rfl
theorem i_X8_next_323 : fetch 137 323 = some (.goto 80, 326, 0, 0, 0, 0) := fr fe_X8_next_7 20 rfl
theorem i_X8_next_326 : fetch 137 326 = some (.iload_n 1, 327, 0, 0, 0, 0) := fr fe_X8_next_7 21 rfl
theorem i_X8_next_327 : fetch 137 327 = some (.bipush 40, 329, 0, 0, 0, 0) := fr fe_X8_next_7 22 rfl
theorem i_X8_next_329 : fetch 137 329 = some (.if_icmp .eq 45, 332, 0, 0, 0, 0) := fr fe_X8_next_7 23 rfl
theorem i_X8_next_332 : fetch 137 332 = some (.iload_n 1, 333, 0, 0, 0, 0) := fr fe_X8_next_7 24 rfl
theorem i_X8_next_333 : fetch 137 333 = some (.bipush 41, 335, 0, 0, 0, 0) := fr fe_X8_next_8 0 rfl
theorem i_X8_next_335 : fetch 137 335 = some (.if_icmp .eq 39, 338, 0, 0, 0, 0) := fr fe_X8_next_8 1 rfl
theorem i_X8_next_338 : fetch 137 338 = some (.iload_n 1, 339, 0, 0, 0, 0) := fr fe_X8_next_8 2 rfl
theorem i_X8_next_339 : fetch 137 339 = some (.bipush 59, 341, 0, 0, 0, 0) := fr fe_X8_next_8 3 rfl
theorem i_X8_next_341 : fetch 137 341 = some (.if_icmp .eq 33, 344, 0, 0, 0, 0) := fr fe_X8_next_8 4 rfl
theorem i_X8_next_344 : fetch 137 344 = some (.iload_n 1, 345, 0, 0, 0, 0) := fr fe_X8_next_8 5 rfl
theorem i_X8_next_345 : fetch 137 345 = some (.bipush 43, 347, 0, 0, 0, 0) := fr fe_X8_next_8 6 rfl
theorem i_X8_next_347 : fetch 137 347 = some (.if_icmp .eq 27, 350, 0, 0, 0, 0) := fr fe_X8_next_8 7 rfl
theorem i_X8_next_350 : fetch 137 350 = some (.iload_n 1, 351, 0, 0, 0, 0) := fr fe_X8_next_8 8 rfl
theorem i_X8_next_351 : fetch 137 351 = some (.bipush 45, 353, 0, 0, 0, 0) := fr fe_X8_next_8 9 rfl
theorem i_X8_next_353 : fetch 137 353 = some (.if_icmp .eq 21, 356, 0, 0, 0, 0) := fr fe_X8_next_8 10 rfl
theorem i_X8_next_356 : fetch 137 356 = some (.iload_n 1, 357, 0, 0, 0, 0) := fr fe_X8_next_8 11 rfl
theorem i_X8_next_357 : fetch 137 357 = some (.bipush 42, 359, 0, 0, 0, 0) := fr fe_X8_next_8 12 rfl
theorem i_X8_next_359 : fetch 137 359 = some (.if_icmp .eq 15, 362, 0, 0, 0, 0) := fr fe_X8_next_8 13 rfl
theorem i_X8_next_362 : fetch 137 362 = some (.iload_n 1, 363, 0, 0, 0, 0) := fr fe_X8_next_8 14 rfl
theorem i_X8_next_363 : fetch 137 363 = some (.bipush 60, 365, 0, 0, 0, 0) := fr fe_X8_next_8 15 rfl
theorem i_X8_next_365 : fetch 137 365 = some (.if_icmp .eq 9, 368, 0, 0, 0, 0) := fr fe_X8_next_8 16 rfl
theorem i_X8_next_368 : fetch 137 368 = some (.iload_n 1, 369, 0, 0, 0, 0) := fr fe_X8_next_8 17 rfl
theorem i_X8_next_369 : fetch 137 369 = some (.bipush 61, 371, 0, 0, 0, 0) := fr fe_X8_next_8 18 rfl
theorem i_X8_next_371 : fetch 137 371 = some (.if_icmp .ne 7, 374, 0, 0, 0, 0) := fr fe_X8_next_8 19 rfl
theorem i_X8_next_374 : fetch 137 374 = some (.iconst 1, 375, 0, 0, 0, 0) := fr fe_X8_next_8 20 rfl
theorem i_X8_next_375 : fetch 137 375 = some (.goto 4, 378, 0, 0, 0, 0) := fr fe_X8_next_8 21 rfl
theorem i_X8_next_378 : fetch 137 378 = some (.iconst 0, 379, 0, 0, 0, 0) := fr fe_X8_next_8 22 rfl
theorem i_X8_next_379 : fetch 137 379 = some (.istore_n 2, 380, 0, 0, 0, 0) := fr fe_X8_next_8 23 rfl
theorem i_X8_next_380 : fetch 137 380 = some (.aload_n 0, 381, 0, 0, 0, 0) := fr fe_X8_next_8 24 rfl
theorem i_X8_next_381 : fetch 137 381 = some (.iload_n 2, 382, 0, 0, 0, 0) := fr fe_X8_next_9 0 rfl
theorem i_X8_next_382 : fetch 137 382 = some (.ifCond .eq 7, 385, 0, 0, 0, 0) := fr fe_X8_next_9 1 rfl
theorem i_X8_next_385 : fetch 137 385 = some (.iload_n 1, 386, 0, 0, 0, 0) := fr fe_X8_next_9 2 rfl
theorem i_X8_next_386 : fetch 137 386 = some (.goto 4, 389, 0, 0, 0, 0) := fr fe_X8_next_9 3 rfl
theorem i_X8_next_389 : fetch 137 389 = some (.iconst (-1), 390, 0, 0, 0, 0) := fr fe_X8_next_9 4 rfl
theorem i_X8_next_390 : fetch 137 390 = some (.putfield 146, 393, 8, 28, 0, 1105) := fr fe_X8_next_9 5 rfl
theorem i_X8_next_393 : fetch 137 393 = some (.aload_n 0, 394, 0, 0, 0, 0) := fr fe_X8_next_9 6 rfl
theorem i_X8_next_394 : fetch 137 394 = some (.dup, 395, 0, 0, 0, 0) := fr fe_X8_next_9 7 rfl
theorem i_X8_next_395 : fetch 137 395 = some (.getfield 140, 398, 8, 26, 0, 1103) := fr fe_X8_next_9 8 rfl
theorem i_X8_next_398 : fetch 137 398 = some (.iconst 1, 399, 0, 0, 0, 0) := fr fe_X8_next_9 9 rfl
theorem i_X8_next_399 : fetch 137 399 = some (.iadd, 400, 0, 0, 0, 0) := fr fe_X8_next_9 10 rfl
theorem i_X8_next_400 : fetch 137 400 = some (.putfield 140, 403, 8, 26, 0, 1103) := fr fe_X8_next_9 11 rfl
theorem i_X8_next_403 : fetch 137 403 = some (.return_, 404, 0, 0, 0, 0) := fr fe_X8_next_9 12 rfl
theorem i_X8_opensOne_0 : fetch 142 0 = some (.aload_n 0, 1, 0, 0, 0, 0) := fr fe_X8_opensOne 0 rfl
theorem i_X8_opensOne_1 : fetch 142 1 = some (.getfield 165, 4, 8, 33, 0, 1110) := fr fe_X8_opensOne 1 rfl
theorem i_X8_opensOne_4 : fetch 142 4 = some (.iconst 5, 5, 0, 0, 0, 0) := fr fe_X8_opensOne 2 rfl
theorem i_X8_opensOne_5 : fetch 142 5 = some (.if_icmp .ne 5, 8, 0, 0, 0, 0) := fr fe_X8_opensOne 3 rfl
theorem i_X8_opensOne_8 : fetch 142 8 = some (.iconst 0, 9, 0, 0, 0, 0) := fr fe_X8_opensOne 4 rfl
theorem i_X8_opensOne_9 : fetch 142 9 = some (.ireturn, 10, 0, 0, 0, 0) := fr fe_X8_opensOne 5 rfl
theorem i_X8_opensOne_10 : fetch 142 10 = some (.aload_n 0, 11, 0, 0, 0, 0) := fr fe_X8_opensOne 6 rfl
theorem i_X8_opensOne_11 : fetch 142 11 = some (.dup, 12, 0, 0, 0, 0) := fr fe_X8_opensOne 7 rfl
theorem i_X8_opensOne_12 : fetch 142 12 = some (.getfield 165, 15, 8, 33, 0, 1110) := fr fe_X8_opensOne 8 rfl
theorem i_X8_opensOne_15 : fetch 142 15 = some (.iconst 1, 16, 0, 0, 0, 0) := fr fe_X8_opensOne 9 rfl
theorem i_X8_opensOne_16 : fetch 142 16 = some (.iadd, 17, 0, 0, 0, 0) := fr fe_X8_opensOne 10 rfl
theorem i_X8_opensOne_17 : fetch 142 17 = some (.putfield 165, 20, 8, 33, 0, 1110) := fr fe_X8_opensOne 11 rfl
theorem i_X8_opensOne_20 : fetch 142 20 = some (.aload_n 0, 21, 0, 0, 0, 0) := fr fe_X8_opensOne 12 rfl
theorem i_X8_opensOne_21 : fetch 142 21 = some (.iload_n 1, 22, 0, 0, 0, 0) := fr fe_X8_opensOne 13 rfl
theorem i_X8_opensOne_22 : fetch 142 22 = some (.invokevirtual 172, 25, 141, 0, 0, 1049) := fr fe_X8_opensOne 14 rfl
theorem i_X8_opensOne_25 : fetch 142 25 = some (.iconst 1, 26, 0, 0, 0, 0) := fr fe_X8_opensOne 15 rfl
theorem i_X8_opensOne_26 : fetch 142 26 = some (.ireturn, 27, 0, 0, 0, 0) := fr fe_X8_opensOne 16 rfl
theorem i_X8_signOf_0 : fetch 144 0 = some (.aload_n 0, 1, 0, 0, 0, 0) := fr fe_X8_signOf_1 0 rfl
theorem i_X8_signOf_1 : fetch 144 1 = some (.getfield 146, 4, 8, 28, 0, 1105) := fr fe_X8_signOf_1 1 rfl
theorem i_X8_signOf_4 : fetch 144 4 = some (.iconst 4, 5, 0, 0, 0, 0) := fr fe_X8_signOf_1 2 rfl
theorem i_X8_signOf_5 : fetch 144 5 = some (.if_icmp .ne 8, 8, 0, 0, 0, 0) := fr fe_X8_signOf_1 3 rfl
theorem i_X8_signOf_8 : fetch 144 8 = some (.bipush 11, 10, 0, 0, 0, 0) := fr fe_X8_signOf_1 4 rfl
theorem i_X8_signOf_10 : fetch 144 10 = some (.goto 87, 13, 0, 0, 0, 0) := fr fe_X8_signOf_1 5 rfl
theorem i_X8_signOf_13 : fetch 144 13 = some (.aload_n 0, 14, 0, 0, 0, 0) := fr fe_X8_signOf_1 6 rfl
theorem i_X8_signOf_14 : fetch 144 14 = some (.getfield 146, 17, 8, 28, 0, 1105) := fr fe_X8_signOf_1 7 rfl
theorem i_X8_signOf_17 : fetch 144 17 = some (.iconst 5, 18, 0, 0, 0, 0) := fr fe_X8_signOf_1 8 rfl
theorem i_X8_signOf_18 : fetch 144 18 = some (.if_icmp .ne 8, 21, 0, 0, 0, 0) := fr fe_X8_signOf_1 9 rfl
theorem i_X8_signOf_21 : fetch 144 21 = some (.bipush 12, 23, 0, 0, 0, 0) := fr fe_X8_signOf_1 10 rfl
theorem i_X8_signOf_23 : fetch 144 23 = some (.goto 74, 26, 0, 0, 0, 0) := fr fe_X8_signOf_1 11 rfl
theorem i_X8_signOf_26 : fetch 144 26 = some (.aload_n 0, 27, 0, 0, 0, 0) := fr fe_X8_signOf_1 12 rfl
theorem i_X8_signOf_27 : fetch 144 27 = some (.getfield 146, 30, 8, 28, 0, 1105) := fr fe_X8_signOf_1 13 rfl
theorem i_X8_signOf_30 : fetch 144 30 = some (.bipush 60, 32, 0, 0, 0, 0) := fr fe_X8_signOf_1 14 rfl
theorem i_X8_signOf_32 : fetch 144 32 = some (.if_icmp .ne 8, 35, 0, 0, 0, 0) := fr fe_X8_signOf_1 15 rfl
theorem i_X8_signOf_35 : fetch 144 35 = some (.bipush 14, 37, 0, 0, 0, 0) := fr fe_X8_signOf_1 16 rfl
theorem i_X8_signOf_37 : fetch 144 37 = some (.goto 60, 40, 0, 0, 0, 0) := fr fe_X8_signOf_1 17 rfl
theorem i_X8_signOf_40 : fetch 144 40 = some (.aload_n 0, 41, 0, 0, 0, 0) := fr fe_X8_signOf_1 18 rfl
theorem i_X8_signOf_41 : fetch 144 41 = some (.getfield 146, 44, 8, 28, 0, 1105) := fr fe_X8_signOf_1 19 rfl
theorem i_X8_signOf_44 : fetch 144 44 = some (.bipush 61, 46, 0, 0, 0, 0) := fr fe_X8_signOf_1 20 rfl
theorem i_X8_signOf_46 : fetch 144 46 = some (.if_icmp .ne 8, 49, 0, 0, 0, 0) := fr fe_X8_signOf_1 21 rfl
theorem i_X8_signOf_49 : fetch 144 49 = some (.bipush 15, 51, 0, 0, 0, 0) := fr fe_X8_signOf_1 22 rfl
theorem i_X8_signOf_51 : fetch 144 51 = some (.goto 46, 54, 0, 0, 0, 0) := fr fe_X8_signOf_1 23 rfl
theorem i_X8_signOf_54 : fetch 144 54 = some (.aload_n 0, 55, 0, 0, 0, 0) := fr fe_X8_signOf_1 24 rfl
theorem i_X8_signOf_55 : fetch 144 55 = some (.getfield 146, 58, 8, 28, 0, 1105) := fr fe_X8_signOf_2 0 rfl
theorem i_X8_signOf_58 : fetch 144 58 = some (.bipush 43, 60, 0, 0, 0, 0) := fr fe_X8_signOf_2 1 rfl
theorem i_X8_signOf_60 : fetch 144 60 = some (.if_icmp .ne 8, 63, 0, 0, 0, 0) := fr fe_X8_signOf_2 2 rfl
theorem i_X8_signOf_63 : fetch 144 63 = some (.bipush 16, 65, 0, 0, 0, 0) := fr fe_X8_signOf_2 3 rfl
theorem i_X8_signOf_65 : fetch 144 65 = some (.goto 32, 68, 0, 0, 0, 0) := fr fe_X8_signOf_2 4 rfl
theorem i_X8_signOf_68 : fetch 144 68 = some (.aload_n 0, 69, 0, 0, 0, 0) := fr fe_X8_signOf_2 5 rfl
theorem i_X8_signOf_69 : fetch 144 69 = some (.getfield 146, 72, 8, 28, 0, 1105) := fr fe_X8_signOf_2 6 rfl
theorem i_X8_signOf_72 : fetch 144 72 = some (.bipush 45, 74, 0, 0, 0, 0) := fr fe_X8_signOf_2 7 rfl
theorem i_X8_signOf_74 : fetch 144 74 = some (.if_icmp .ne 8, 77, 0, 0, 0, 0) := fr fe_X8_signOf_2 8 rfl
theorem i_X8_signOf_77 : fetch 144 77 = some (.bipush 17, 79, 0, 0, 0, 0) := fr fe_X8_signOf_2 9 rfl
theorem i_X8_signOf_79 : fetch 144 79 = some (.goto 18, 82, 0, 0, 0, 0) := fr fe_X8_signOf_2 10 rfl
theorem i_X8_signOf_82 : fetch 144 82 = some (.aload_n 0, 83, 0, 0, 0, 0) := fr fe_X8_signOf_2 11 rfl
theorem i_X8_signOf_83 : fetch 144 83 = some (.getfield 146, 86, 8, 28, 0, 1105) := fr fe_X8_signOf_2 12 rfl
theorem i_X8_signOf_86 : fetch 144 86 = some (.bipush 42, 88, 0, 0, 0, 0) := fr fe_X8_signOf_2 13 rfl
theorem i_X8_signOf_88 : fetch 144 88 = some (.if_icmp .ne 8, 91, 0, 0, 0, 0) := fr fe_X8_signOf_2 14 rfl
theorem i_X8_signOf_91 : fetch 144 91 = some (.bipush 18, 93, 0, 0, 0, 0) := fr fe_X8_signOf_2 15 rfl
theorem i_X8_signOf_93 : fetch 144 93 = some (.goto 4, 96, 0, 0, 0, 0) := fr fe_X8_signOf_2 16 rfl
theorem i_X8_signOf_96 : fetch 144 96 = some (.iconst (-1), 97, 0, 0, 0, 0) := fr fe_X8_signOf_2 17 rfl
theorem i_X8_signOf_97 : fetch 144 97 = some (.ireturn, 98, 0, 0, 0, 0) := fr fe_X8_signOf_2 18 rfl
theorem i_X8_eRead_0 : fetch 145 0 = some (.aload_n 0, 1, 0, 0, 0, 0) := fr fe_X8_eRead_1 0 rfl
theorem i_X8_eRead_1 : fetch 145 1 = some (.iconst 0, 2, 0, 0, 0, 0) := fr fe_X8_eRead_1 1 rfl
theorem i_X8_eRead_2 : fetch 145 2 = some (.putfield 159, 5, 8, 32, 0, 1109) := fr fe_X8_eRead_1 2 rfl
theorem i_X8_eRead_5 : fetch 145 5 = some (.aload_n 0, 6, 0, 0, 0, 0) := fr fe_X8_eRead_1 3 rfl
theorem i_X8_eRead_6 : fetch 145 6 = some (.iconst 0, 7, 0, 0, 0, 0) := fr fe_X8_eRead_1 4 rfl
theorem i_X8_eRead_7 : fetch 145 7 = some (.putfield 165, 10, 8, 33, 0, 1110) := fr fe_X8_eRead_1 5 rfl
theorem i_X8_eRead_10 : fetch 145 10 = some (.iconst 1, 11, 0, 0, 0, 0) := fr fe_X8_eRead_1 6 rfl
theorem i_X8_eRead_11 : fetch 145 11 = some (.istore_n 1, 12, 0, 0, 0, 0) := fr fe_X8_eRead_1 7 rfl
theorem i_X8_eRead_12 : fetch 145 12 = some (.iconst 1, 13, 0, 0, 0, 0) := fr fe_X8_eRead_1 8 rfl
theorem i_X8_eRead_13 : fetch 145 13 = some (.istore_n 2, 14, 0, 0, 0, 0) := fr fe_X8_eRead_1 9 rfl
theorem i_X8_eRead_14 : fetch 145 14 = some (.aload_n 0, 15, 0, 0, 0, 0) := fr fe_X8_eRead_1 10 rfl
theorem i_X8_eRead_15 : fetch 145 15 = some (.invokevirtual 178, 18, 137, 0, 0, 1018) := fr fe_X8_eRead_1 11 rfl
theorem i_X8_eRead_18 : fetch 145 18 = some (.iload_n 1, 19, 0, 0, 0, 0) := fr fe_X8_eRead_1 12 rfl
theorem i_X8_eRead_19 : fetch 145 19 = some (.ifCond .eq 131, 22, 0, 0, 0, 0) := fr fe_X8_eRead_1 13 rfl
theorem i_X8_eRead_22 : fetch 145 22 = some (.aload_n 0, 23, 0, 0, 0, 0) := fr fe_X8_eRead_1 14 rfl
theorem i_X8_eRead_23 : fetch 145 23 = some (.getfield 146, 26, 8, 28, 0, 1105) := fr fe_X8_eRead_1 15 rfl
theorem i_X8_eRead_26 : fetch 145 26 = some (.iconst 1, 27, 0, 0, 0, 0) := fr fe_X8_eRead_1 16 rfl
theorem i_X8_eRead_27 : fetch 145 27 = some (.if_icmp .eq 11, 30, 0, 0, 0, 0) := fr fe_X8_eRead_1 17 rfl
theorem i_X8_eRead_30 : fetch 145 30 = some (.aload_n 0, 31, 0, 0, 0, 0) := fr fe_X8_eRead_1 18 rfl
theorem i_X8_eRead_31 : fetch 145 31 = some (.getfield 146, 34, 8, 28, 0, 1105) := fr fe_X8_eRead_1 19 rfl
theorem i_X8_eRead_34 : fetch 145 34 = some (.iconst 2, 35, 0, 0, 0, 0) := fr fe_X8_eRead_1 20 rfl
theorem i_X8_eRead_35 : fetch 145 35 = some (.if_icmp .ne 40, 38, 0, 0, 0, 0) := fr fe_X8_eRead_1 21 rfl
theorem i_X8_eRead_38 : fetch 145 38 = some (.aload_n 0, 39, 0, 0, 0, 0) := fr fe_X8_eRead_1 22 rfl
theorem i_X8_eRead_39 : fetch 145 39 = some (.aload_n 0, 40, 0, 0, 0, 0) := fr fe_X8_eRead_1 23 rfl
theorem i_X8_eRead_40 : fetch 145 40 = some (.getfield 146, 43, 8, 28, 0, 1105) := fr fe_X8_eRead_1 24 rfl
theorem i_X8_eRead_43 : fetch 145 43 = some (.iconst 1, 44, 0, 0, 0, 0) := fr fe_X8_eRead_2 0 rfl
theorem i_X8_eRead_44 : fetch 145 44 = some (.if_icmp .ne 13, 47, 0, 0, 0, 0) := fr fe_X8_eRead_2 1 rfl
theorem i_X8_eRead_47 : fetch 145 47 = some (.ldc 181, 49, 0, 0, 100000, 1033) := fr fe_X8_eRead_2 2 rfl
theorem i_X8_eRead_49 : fetch 145 49 = some (.aload_n 0, 50, 0, 0, 0, 0) := fr fe_X8_eRead_2 3 rfl
theorem i_X8_eRead_50 : fetch 145 50 = some (.getfield 149, 53, 8, 29, 0, 1106) := fr fe_X8_eRead_2 4 rfl
theorem i_X8_eRead_53 : fetch 145 53 = some (.iadd, 54, 0, 0, 0, 0) := fr fe_X8_eRead_2 5 rfl
theorem i_X8_eRead_54 : fetch 145 54 = some (.goto 7, 57, 0, 0, 0, 0) := fr fe_X8_eRead_2 6 rfl
theorem i_X8_eRead_57 : fetch 145 57 = some (.aload_n 0, 58, 0, 0, 0, 0) := fr fe_X8_eRead_2 7 rfl
theorem i_X8_eRead_58 : fetch 145 58 = some (.getfield 149, 61, 8, 29, 0, 1106) := fr fe_X8_eRead_2 8 rfl
theorem i_X8_eRead_61 : fetch 145 61 = some (.invokevirtual 168, 64, 139, 0, 0, 1034) := fr fe_X8_eRead_2 9 rfl
theorem i_X8_eRead_64 : fetch 145 64 = some (.aload_n 0, 65, 0, 0, 0, 0) := fr fe_X8_eRead_2 10 rfl
theorem i_X8_eRead_65 : fetch 145 65 = some (.bipush 7, 67, 0, 0, 0, 0) := fr fe_X8_eRead_2 11 rfl
theorem i_X8_eRead_67 : fetch 145 67 = some (.invokevirtual 175, 70, 140, 0, 0, 1038) := fr fe_X8_eRead_2 12 rfl
theorem i_X8_eRead_70 : fetch 145 70 = some (.iconst 0, 71, 0, 0, 0, 0) := fr fe_X8_eRead_2 13 rfl
theorem i_X8_eRead_71 : fetch 145 71 = some (.istore_n 1, 72, 0, 0, 0, 0) := fr fe_X8_eRead_2 14 rfl
theorem i_X8_eRead_72 : fetch 145 72 = some (.goto (-58), 75, 0, 0, 0, 0) := fr fe_X8_eRead_2 15 rfl
theorem i_X8_eRead_75 : fetch 145 75 = some (.aload_n 0, 76, 0, 0, 0, 0) := fr fe_X8_eRead_2 16 rfl
theorem i_X8_eRead_76 : fetch 145 76 = some (.getfield 146, 79, 8, 28, 0, 1105) := fr fe_X8_eRead_2 17 rfl
theorem i_X8_eRead_79 : fetch 145 79 = some (.bipush 6, 81, 0, 0, 0, 0) := fr fe_X8_eRead_2 18 rfl
theorem i_X8_eRead_81 : fetch 145 81 = some (.if_icmp .ne 18, 84, 0, 0, 0, 0) := fr fe_X8_eRead_2 19 rfl
theorem i_X8_eRead_84 : fetch 145 84 = some (.iload_n 2, 85, 0, 0, 0, 0) := fr fe_X8_eRead_2 20 rfl
theorem i_X8_eRead_85 : fetch 145 85 = some (.ifCond .eq 14, 88, 0, 0, 0, 0) := fr fe_X8_eRead_2 21 rfl
theorem i_X8_eRead_88 : fetch 145 88 = some (.aload_n 0, 89, 0, 0, 0, 0) := fr fe_X8_eRead_2 22 rfl
theorem i_X8_eRead_89 : fetch 145 89 = some (.bipush 13, 91, 0, 0, 0, 0) := fr fe_X8_eRead_2 23 rfl
theorem i_X8_eRead_91 : fetch 145 91 = some (.invokevirtual 182, 94, 142, 0, 0, 1045) := fr fe_X8_eRead_2 24 rfl
theorem i_X8_eRead_94 : fetch 145 94 = some (.ifCond .ne (-80), 97, 0, 0, 0, 0) := fr fe_X8_eRead_3 0 rfl
theorem i_X8_eRead_97 : fetch 145 97 = some (.iconst 0, 98, 0, 0, 0, 0) := fr fe_X8_eRead_3 1 rfl
theorem i_X8_eRead_98 : fetch 145 98 = some (.ireturn, 99, 0, 0, 0, 0) := fr fe_X8_eRead_3 2 rfl
theorem i_X8_eRead_99 : fetch 145 99 = some (.aload_n 0, 100, 0, 0, 0, 0) := fr fe_X8_eRead_3 3 rfl
theorem i_X8_eRead_100 : fetch 145 100 = some (.getfield 146, 103, 8, 28, 0, 1105) := fr fe_X8_eRead_3 4 rfl
theorem i_X8_eRead_103 : fetch 145 103 = some (.bipush 45, 105, 0, 0, 0, 0) := fr fe_X8_eRead_3 5 rfl
theorem i_X8_eRead_105 : fetch 145 105 = some (.if_icmp .ne 19, 108, 0, 0, 0, 0) := fr fe_X8_eRead_3 6 rfl
theorem i_X8_eRead_108 : fetch 145 108 = some (.aload_n 0, 109, 0, 0, 0, 0) := fr fe_X8_eRead_3 7 rfl
theorem i_X8_eRead_109 : fetch 145 109 = some (.bipush 19, 111, 0, 0, 0, 0) := fr fe_X8_eRead_3 8 rfl
theorem i_X8_eRead_111 : fetch 145 111 = some (.invokevirtual 182, 114, 142, 0, 0, 1045) := fr fe_X8_eRead_3 9 rfl
theorem i_X8_eRead_114 : fetch 145 114 = some (.ifCond .ne 5, 117, 0, 0, 0, 0) := fr fe_X8_eRead_3 10 rfl
theorem i_X8_eRead_117 : fetch 145 117 = some (.iconst 0, 118, 0, 0, 0, 0) := fr fe_X8_eRead_3 11 rfl
theorem i_X8_eRead_118 : fetch 145 118 = some (.ireturn, 119, 0, 0, 0, 0) := fr fe_X8_eRead_3 12 rfl
theorem i_X8_eRead_119 : fetch 145 119 = some (.iconst 0, 120, 0, 0, 0, 0) := fr fe_X8_eRead_3 13 rfl
theorem i_X8_eRead_120 : fetch 145 120 = some (.istore_n 2, 121, 0, 0, 0, 0) := fr fe_X8_eRead_3 14 rfl
theorem i_X8_eRead_121 : fetch 145 121 = some (.goto (-107), 124, 0, 0, 0, 0) := fr fe_X8_eRead_3 15 rfl
theorem i_X8_eRead_124 : fetch 145 124 = some (.aload_n 0, 125, 0, 0, 0, 0) := fr fe_X8_eRead_3 16 rfl
theorem i_X8_eRead_125 : fetch 145 125 = some (.getfield 146, 128, 8, 28, 0, 1105) := fr fe_X8_eRead_3 17 rfl
theorem i_X8_eRead_128 : fetch 145 128 = some (.bipush 40, 130, 0, 0, 0, 0) := fr fe_X8_eRead_3 18 rfl
theorem i_X8_eRead_130 : fetch 145 130 = some (.if_icmp .ne 18, 133, 0, 0, 0, 0) := fr fe_X8_eRead_3 19 rfl
theorem i_X8_eRead_133 : fetch 145 133 = some (.aload_n 0, 134, 0, 0, 0, 0) := fr fe_X8_eRead_3 20 rfl
theorem i_X8_eRead_134 : fetch 145 134 = some (.iconst 0, 135, 0, 0, 0, 0) := fr fe_X8_eRead_3 21 rfl
theorem i_X8_eRead_135 : fetch 145 135 = some (.invokevirtual 182, 138, 142, 0, 0, 1045) := fr fe_X8_eRead_3 22 rfl
theorem i_X8_eRead_138 : fetch 145 138 = some (.ifCond .ne 5, 141, 0, 0, 0, 0) := fr fe_X8_eRead_3 23 rfl
theorem i_X8_eRead_141 : fetch 145 141 = some (.iconst 0, 142, 0, 0, 0, 0) := fr fe_X8_eRead_3 24 rfl
theorem i_X8_eRead_142 : fetch 145 142 = some (.ireturn, 143, 0, 0, 0, 0) := fr fe_X8_eRead_4 0 rfl
theorem i_X8_eRead_143 : fetch 145 143 = some (.iconst 1, 144, 0, 0, 0, 0) := fr fe_X8_eRead_4 1 rfl
theorem i_X8_eRead_144 : fetch 145 144 = some (.istore_n 2, 145, 0, 0, 0, 0) := fr fe_X8_eRead_4 2 rfl
theorem i_X8_eRead_145 : fetch 145 145 = some (.goto (-131), 148, 0, 0, 0, 0) := fr fe_X8_eRead_4 3 rfl
theorem i_X8_eRead_148 : fetch 145 148 = some (.iconst 0, 149, 0, 0, 0, 0) := fr fe_X8_eRead_4 4 rfl
theorem i_X8_eRead_149 : fetch 145 149 = some (.ireturn, 150, 0, 0, 0, 0) := fr fe_X8_eRead_4 5 rfl
theorem i_X8_eRead_150 : fetch 145 150 = some (.aload_n 0, 151, 0, 0, 0, 0) := fr fe_X8_eRead_4 6 rfl
theorem i_X8_eRead_151 : fetch 145 151 = some (.getfield 146, 154, 8, 28, 0, 1105) := fr fe_X8_eRead_4 7 rfl
theorem i_X8_eRead_154 : fetch 145 154 = some (.bipush 59, 156, 0, 0, 0, 0) := fr fe_X8_eRead_4 8 rfl
theorem i_X8_eRead_156 : fetch 145 156 = some (.if_icmp .ne 21, 159, 0, 0, 0, 0) := fr fe_X8_eRead_4 9 rfl
theorem i_X8_eRead_159 : fetch 145 159 = some (.aload_n 0, 160, 0, 0, 0, 0) := fr fe_X8_eRead_4 10 rfl
theorem i_X8_eRead_160 : fetch 145 160 = some (.iconst 1, 161, 0, 0, 0, 0) := fr fe_X8_eRead_4 11 rfl
theorem i_X8_eRead_161 : fetch 145 161 = some (.invokevirtual 175, 164, 140, 0, 0, 1038) := fr fe_X8_eRead_4 12 rfl
theorem i_X8_eRead_164 : fetch 145 164 = some (.aload_n 0, 165, 0, 0, 0, 0) := fr fe_X8_eRead_4 13 rfl
theorem i_X8_eRead_165 : fetch 145 165 = some (.getfield 159, 168, 8, 32, 0, 1109) := fr fe_X8_eRead_4 14 rfl
theorem i_X8_eRead_168 : fetch 145 168 = some (.ifCond .ne 7, 171, 0, 0, 0, 0) := fr fe_X8_eRead_4 15 rfl
theorem i_X8_eRead_171 : fetch 145 171 = some (.iconst 1, 172, 0, 0, 0, 0) := fr fe_X8_eRead_4 16 rfl
theorem i_X8_eRead_172 : fetch 145 172 = some (.goto 4, 175, 0, 0, 0, 0) := fr fe_X8_eRead_4 17 rfl
theorem i_X8_eRead_175 : fetch 145 175 = some (.iconst 0, 176, 0, 0, 0, 0) := fr fe_X8_eRead_4 18 rfl
theorem i_X8_eRead_176 : fetch 145 176 = some (.ireturn, 177, 0, 0, 0, 0) := fr fe_X8_eRead_4 19 rfl
theorem i_X8_eRead_177 : fetch 145 177 = some (.aload_n 0, 178, 0, 0, 0, 0) := fr fe_X8_eRead_4 20 rfl
theorem i_X8_eRead_178 : fetch 145 178 = some (.getfield 146, 181, 8, 28, 0, 1105) := fr fe_X8_eRead_4 21 rfl
theorem i_X8_eRead_181 : fetch 145 181 = some (.bipush 41, 183, 0, 0, 0, 0) := fr fe_X8_eRead_4 22 rfl
theorem i_X8_eRead_183 : fetch 145 183 = some (.if_icmp .ne 46, 186, 0, 0, 0, 0) := fr fe_X8_eRead_4 23 rfl
theorem i_X8_eRead_186 : fetch 145 186 = some (.aload_n 0, 187, 0, 0, 0, 0) := fr fe_X8_eRead_4 24 rfl
theorem i_X8_eRead_187 : fetch 145 187 = some (.iconst 1, 188, 0, 0, 0, 0) := fr fe_X8_eRead_5 0 rfl
theorem i_X8_eRead_188 : fetch 145 188 = some (.invokevirtual 175, 191, 140, 0, 0, 1038) := fr fe_X8_eRead_5 1 rfl
theorem i_X8_eRead_191 : fetch 145 191 = some (.aload_n 0, 192, 0, 0, 0, 0) := fr fe_X8_eRead_5 2 rfl
theorem i_X8_eRead_192 : fetch 145 192 = some (.getfield 159, 195, 8, 32, 0, 1109) := fr fe_X8_eRead_5 3 rfl
theorem i_X8_eRead_195 : fetch 145 195 = some (.ifCond .ne 5, 198, 0, 0, 0, 0) := fr fe_X8_eRead_5 4 rfl
theorem i_X8_eRead_198 : fetch 145 198 = some (.iconst 0, 199, 0, 0, 0, 0) := fr fe_X8_eRead_5 5 rfl
theorem i_X8_eRead_199 : fetch 145 199 = some (.ireturn, 200, 0, 0, 0, 0) := fr fe_X8_eRead_5 6 rfl
theorem i_X8_eRead_200 : fetch 145 200 = some (.aload_n 0, 201, 0, 0, 0, 0) := fr fe_X8_eRead_5 7 rfl
theorem i_X8_eRead_201 : fetch 145 201 = some (.dup, 202, 0, 0, 0, 0) := fr fe_X8_eRead_5 8 rfl
theorem i_X8_eRead_202 : fetch 145 202 = some (.getfield 159, 205, 8, 32, 0, 1109) := fr fe_X8_eRead_5 9 rfl
theorem i_X8_eRead_205 : fetch 145 205 = some (.iconst 1, 206, 0, 0, 0, 0) := fr fe_X8_eRead_5 10 rfl
theorem i_X8_eRead_206 : fetch 145 206 = some (.isub, 207, 0, 0, 0, 0) := fr fe_X8_eRead_5 11 rfl
theorem i_X8_eRead_207 : fetch 145 207 = some (.putfield 159, 210, 8, 32, 0, 1109) := fr fe_X8_eRead_5 12 rfl
theorem i_X8_eRead_210 : fetch 145 210 = some (.aload_n 0, 211, 0, 0, 0, 0) := fr fe_X8_eRead_5 13 rfl
theorem i_X8_eRead_211 : fetch 145 211 = some (.dup, 212, 0, 0, 0, 0) := fr fe_X8_eRead_5 14 rfl
theorem i_X8_eRead_212 : fetch 145 212 = some (.getfield 165, 215, 8, 33, 0, 1110) := fr fe_X8_eRead_5 15 rfl
theorem i_X8_eRead_215 : fetch 145 215 = some (.iconst 1, 216, 0, 0, 0, 0) := fr fe_X8_eRead_5 16 rfl
theorem i_X8_eRead_216 : fetch 145 216 = some (.isub, 217, 0, 0, 0, 0) := fr fe_X8_eRead_5 17 rfl
theorem i_X8_eRead_217 : fetch 145 217 = some (.putfield 165, 220, 8, 33, 0, 1110) := fr fe_X8_eRead_5 18 rfl
theorem i_X8_eRead_220 : fetch 145 220 = some (.aload_n 0, 221, 0, 0, 0, 0) := fr fe_X8_eRead_5 19 rfl
theorem i_X8_eRead_221 : fetch 145 221 = some (.bipush 7, 223, 0, 0, 0, 0) := fr fe_X8_eRead_5 20 rfl
theorem i_X8_eRead_223 : fetch 145 223 = some (.invokevirtual 175, 226, 140, 0, 0, 1038) := fr fe_X8_eRead_5 21 rfl
theorem i_X8_eRead_226 : fetch 145 226 = some (.goto (-212), 229, 0, 0, 0, 0) := fr fe_X8_eRead_5 22 rfl
theorem i_X8_eRead_229 : fetch 145 229 = some (.aload_n 0, 230, 0, 0, 0, 0) := fr fe_X8_eRead_5 23 rfl
theorem i_X8_eRead_230 : fetch 145 230 = some (.invokevirtual 185, 233, 144, 0, 0, 1053) := fr fe_X8_eRead_5 24 rfl
theorem i_X8_eRead_233 : fetch 145 233 = some (.istore_n 3, 234, 0, 0, 0, 0) := fr fe_X8_eRead_6 0 rfl
theorem i_X8_eRead_234 : fetch 145 234 = some (.iload_n 3, 235, 0, 0, 0, 0) := fr fe_X8_eRead_6 1 rfl
theorem i_X8_eRead_235 : fetch 145 235 = some (.iconst (-1), 236, 0, 0, 0, 0) := fr fe_X8_eRead_6 2 rfl
theorem i_X8_eRead_236 : fetch 145 236 = some (.if_icmp .eq 11, 239, 0, 0, 0, 0) := fr fe_X8_eRead_6 3 rfl
theorem i_X8_eRead_239 : fetch 145 239 = some (.aload_n 0, 240, 0, 0, 0, 0) := fr fe_X8_eRead_6 4 rfl
theorem i_X8_eRead_240 : fetch 145 240 = some (.iload_n 3, 241, 0, 0, 0, 0) := fr fe_X8_eRead_6 5 rfl
theorem i_X8_eRead_241 : fetch 145 241 = some (.invokevirtual 188, 244, 143, 0, 0, 1057) := fr fe_X8_eRead_6 6 rfl
theorem i_X8_eRead_244 : fetch 145 244 = some (.ifCond .ne 5, 247, 0, 0, 0, 0) := fr fe_X8_eRead_6 7 rfl
theorem i_X8_eRead_247 : fetch 145 247 = some (.iconst 0, 248, 0, 0, 0, 0) := fr fe_X8_eRead_6 8 rfl
theorem i_X8_eRead_248 : fetch 145 248 = some (.ireturn, 249, 0, 0, 0, 0) := fr fe_X8_eRead_6 9 rfl
theorem i_X8_eRead_249 : fetch 145 249 = some (.iconst 1, 250, 0, 0, 0, 0) := fr fe_X8_eRead_6 10 rfl
theorem i_X8_eRead_250 : fetch 145 250 = some (.istore_n 1, 251, 0, 0, 0, 0) := fr fe_X8_eRead_6 11 rfl
theorem i_X8_eRead_251 : fetch 145 251 = some (.iload_n 3, 252, 0, 0, 0, 0) := fr fe_X8_eRead_6 12 rfl
theorem i_X8_eRead_252 : fetch 145 252 = some (.bipush 12, 254, 0, 0, 0, 0) := fr fe_X8_eRead_6 13 rfl
theorem i_X8_eRead_254 : fetch 145 254 = some (.if_icmp .gt 7, 257, 0, 0, 0, 0) := fr fe_X8_eRead_6 14 rfl
theorem i_X8_eRead_257 : fetch 145 257 = some (.iconst 1, 258, 0, 0, 0, 0) := fr fe_X8_eRead_6 15 rfl
theorem i_X8_eRead_258 : fetch 145 258 = some (.goto 4, 261, 0, 0, 0, 0) := fr fe_X8_eRead_6 16 rfl
theorem i_X8_eRead_261 : fetch 145 261 = some (.iconst 0, 262, 0, 0, 0, 0) := fr fe_X8_eRead_6 17 rfl
theorem i_X8_eRead_262 : fetch 145 262 = some (.istore_n 2, 263, 0, 0, 0, 0) := fr fe_X8_eRead_6 18 rfl
theorem i_X8_eRead_263 : fetch 145 263 = some (.goto (-249), 266, 0, 0, 0, 0) := fr fe_X8_eRead_6 19 rfl
theorem i_X8_text_0 : fetch 146 0 = some (.aload_n 0, 1, 0, 0, 0, 0) := fr fe_X8_text_1 0 rfl
theorem i_X8_text_1 : fetch 146 1 = some (.getfield 132, 4, 8, 13, 0, 1090) := fr fe_X8_text_1 1 rfl
theorem i_X8_text_4 : fetch 146 4 = some (.bipush 6, 6, 0, 0, 0, 0) := fr fe_X8_text_1 2 rfl
theorem i_X8_text_6 : fetch 146 6 = some (.if_icmp .ne 6, 9, 0, 0, 0, 0) := fr fe_X8_text_1 3 rfl
theorem i_X8_text_9 : fetch 146 9 = some (.bipush (-4), 11, 0, 0, 0, 0) := fr fe_X8_text_1 4 rfl
theorem i_X8_text_11 : fetch 146 11 = some (.ireturn, 12, 0, 0, 0, 0) := fr fe_X8_text_1 5 rfl
theorem i_X8_text_12 : fetch 146 12 = some (.aload_n 0, 13, 0, 0, 0, 0) := fr fe_X8_text_1 6 rfl
theorem i_X8_text_13 : fetch 146 13 = some (.iconst 0, 14, 0, 0, 0, 0) := fr fe_X8_text_1 7 rfl
theorem i_X8_text_14 : fetch 146 14 = some (.putfield 140, 17, 8, 26, 0, 1103) := fr fe_X8_text_1 8 rfl
theorem i_X8_text_17 : fetch 146 17 = some (.aload_n 0, 18, 0, 0, 0, 0) := fr fe_X8_text_1 9 rfl
theorem i_X8_text_18 : fetch 146 18 = some (.iconst 0, 19, 0, 0, 0, 0) := fr fe_X8_text_1 10 rfl
theorem i_X8_text_19 : fetch 146 19 = some (.putfield 156, 22, 8, 34, 0, 1111) := fr fe_X8_text_1 11 rfl
theorem i_X8_text_22 : fetch 146 22 = some (.iconst 1, 23, 0, 0, 0, 0) := fr fe_X8_text_1 12 rfl
theorem i_X8_text_23 : fetch 146 23 = some (.istore_n 1, 24, 0, 0, 0, 0) := fr fe_X8_text_1 13 rfl
theorem i_X8_text_24 : fetch 146 24 = some (.iconst 0, 25, 0, 0, 0, 0) := fr fe_X8_text_1 14 rfl
theorem i_X8_text_25 : fetch 146 25 = some (.istore_n 2, 26, 0, 0, 0, 0) := fr fe_X8_text_1 15 rfl
theorem i_X8_text_26 : fetch 146 26 = some (.iload_n 2, 27, 0, 0, 0, 0) := fr fe_X8_text_1 16 rfl
theorem i_X8_text_27 : fetch 146 27 = some (.iconst 3, 28, 0, 0, 0, 0) := fr fe_X8_text_1 17 rfl
theorem i_X8_text_28 : fetch 146 28 = some (.if_icmp .ge 73, 31, 0, 0, 0, 0) := fr fe_X8_text_1 18 rfl
theorem i_X8_text_31 : fetch 146 31 = some (.iload_n 1, 32, 0, 0, 0, 0) := fr fe_X8_text_1 19 rfl
theorem i_X8_text_32 : fetch 146 32 = some (.ifCond .eq 69, 35, 0, 0, 0, 0) := fr fe_X8_text_1 20 rfl
theorem i_X8_text_35 : fetch 146 35 = some (.aload_n 0, 36, 0, 0, 0, 0) := fr fe_X8_text_1 21 rfl
theorem i_X8_text_36 : fetch 146 36 = some (.invokevirtual 178, 39, 137, 0, 0, 1018) := fr fe_X8_text_1 22 rfl
theorem i_X8_text_39 : fetch 146 39 = some (.aload_n 0, 40, 0, 0, 0, 0) := fr fe_X8_text_1 23 rfl
theorem i_X8_text_40 : fetch 146 40 = some (.getfield 146, 43, 8, 28, 0, 1105) := fr fe_X8_text_1 24 rfl
theorem i_X8_text_43 : fetch 146 43 = some (.iconst 3, 44, 0, 0, 0, 0) := fr fe_X8_text_2 0 rfl
theorem i_X8_text_44 : fetch 146 44 = some (.if_icmp .ne 15, 47, 0, 0, 0, 0) := fr fe_X8_text_2 1 rfl
theorem i_X8_text_47 : fetch 146 47 = some (.aload_n 0, 48, 0, 0, 0, 0) := fr fe_X8_text_2 2 rfl
theorem i_X8_text_48 : fetch 146 48 = some (.getfield 149, 51, 8, 29, 0, 1106) := fr fe_X8_text_2 3 rfl
theorem i_X8_text_51 : fetch 146 51 = some (.iload_n 2, 52, 0, 0, 0, 0) := fr fe_X8_text_2 4 rfl
theorem i_X8_text_52 : fetch 146 52 = some (.if_icmp .ne 7, 55, 0, 0, 0, 0) := fr fe_X8_text_2 5 rfl
theorem i_X8_text_55 : fetch 146 55 = some (.iconst 1, 56, 0, 0, 0, 0) := fr fe_X8_text_2 6 rfl
theorem i_X8_text_56 : fetch 146 56 = some (.goto 4, 59, 0, 0, 0, 0) := fr fe_X8_text_2 7 rfl
theorem i_X8_text_59 : fetch 146 59 = some (.iconst 0, 60, 0, 0, 0, 0) := fr fe_X8_text_2 8 rfl
theorem i_X8_text_60 : fetch 146 60 = some (.istore_n 1, 61, 0, 0, 0, 0) := fr fe_X8_text_2 9 rfl
theorem i_X8_text_61 : fetch 146 61 = some (.aload_n 0, 62, 0, 0, 0, 0) := fr fe_X8_text_2 10 rfl
theorem i_X8_text_62 : fetch 146 62 = some (.getfield 42, 65, 8, 12, 0, 1089) := fr fe_X8_text_2 11 rfl
theorem i_X8_text_65 : fetch 146 65 = some (.iconst 4, 66, 0, 0, 0, 0) := fr fe_X8_text_2 12 rfl
theorem i_X8_text_66 : fetch 146 66 = some (.aload_n 0, 67, 0, 0, 0, 0) := fr fe_X8_text_2 13 rfl
theorem i_X8_text_67 : fetch 146 67 = some (.getfield 132, 70, 8, 13, 0, 1090) := fr fe_X8_text_2 14 rfl
theorem i_X8_text_70 : fetch 146 70 = some (.imul, 71, 0, 0, 0, 0) := fr fe_X8_text_2 15 rfl
theorem i_X8_text_71 : fetch 146 71 = some (.iload_n 2, 72, 0, 0, 0, 0) := fr fe_X8_text_2 16 rfl
theorem i_X8_text_72 : fetch 146 72 = some (.iadd, 73, 0, 0, 0, 0) := fr fe_X8_text_2 17 rfl
theorem i_X8_text_73 : fetch 146 73 = some (.aload_n 0, 74, 0, 0, 0, 0) := fr fe_X8_text_2 18 rfl
theorem i_X8_text_74 : fetch 146 74 = some (.getfield 156, 77, 8, 34, 0, 1111) := fr fe_X8_text_2 19 rfl
theorem i_X8_text_77 : fetch 146 77 = some (.iastore, 78, 0, 0, 0, 0) := fr fe_X8_text_2 20 rfl
theorem i_X8_text_78 : fetch 146 78 = some (.iload_n 1, 79, 0, 0, 0, 0) := fr fe_X8_text_2 21 rfl
theorem i_X8_text_79 : fetch 146 79 = some (.ifCond .eq 14, 82, 0, 0, 0, 0) := fr fe_X8_text_2 22 rfl
theorem i_X8_text_82 : fetch 146 82 = some (.aload_n 0, 83, 0, 0, 0, 0) := fr fe_X8_text_2 23 rfl
theorem i_X8_text_83 : fetch 146 83 = some (.invokevirtual 191, 86, 145, 0, 0, 1029) := fr fe_X8_text_2 24 rfl
theorem i_X8_text_86 : fetch 146 86 = some (.ifCond .eq 7, 89, 0, 0, 0, 0) := fr fe_X8_text_3 0 rfl
theorem i_X8_text_89 : fetch 146 89 = some (.iconst 1, 90, 0, 0, 0, 0) := fr fe_X8_text_3 1 rfl
theorem i_X8_text_90 : fetch 146 90 = some (.goto 4, 93, 0, 0, 0, 0) := fr fe_X8_text_3 2 rfl
theorem i_X8_text_93 : fetch 146 93 = some (.iconst 0, 94, 0, 0, 0, 0) := fr fe_X8_text_3 3 rfl
theorem i_X8_text_94 : fetch 146 94 = some (.istore_n 1, 95, 0, 0, 0, 0) := fr fe_X8_text_3 4 rfl
theorem i_X8_text_95 : fetch 146 95 = some (.iinc 2 1, 98, 0, 0, 0, 0) := fr fe_X8_text_3 5 rfl
theorem i_X8_text_98 : fetch 146 98 = some (.goto (-72), 101, 0, 0, 0, 0) := fr fe_X8_text_3 6 rfl
theorem i_X8_text_101 : fetch 146 101 = some (.iload_n 1, 102, 0, 0, 0, 0) := fr fe_X8_text_3 7 rfl
theorem i_X8_text_102 : fetch 146 102 = some (.ifCond .eq 20, 105, 0, 0, 0, 0) := fr fe_X8_text_3 8 rfl
theorem i_X8_text_105 : fetch 146 105 = some (.aload_n 0, 106, 0, 0, 0, 0) := fr fe_X8_text_3 9 rfl
theorem i_X8_text_106 : fetch 146 106 = some (.invokevirtual 178, 109, 137, 0, 0, 1018) := fr fe_X8_text_3 10 rfl
theorem i_X8_text_109 : fetch 146 109 = some (.aload_n 0, 110, 0, 0, 0, 0) := fr fe_X8_text_3 11 rfl
theorem i_X8_text_110 : fetch 146 110 = some (.getfield 146, 113, 8, 28, 0, 1105) := fr fe_X8_text_3 12 rfl
theorem i_X8_text_113 : fetch 146 113 = some (.ifCond .ne 7, 116, 0, 0, 0, 0) := fr fe_X8_text_3 13 rfl
theorem i_X8_text_116 : fetch 146 116 = some (.iconst 1, 117, 0, 0, 0, 0) := fr fe_X8_text_3 14 rfl
theorem i_X8_text_117 : fetch 146 117 = some (.goto 4, 120, 0, 0, 0, 0) := fr fe_X8_text_3 15 rfl
theorem i_X8_text_120 : fetch 146 120 = some (.iconst 0, 121, 0, 0, 0, 0) := fr fe_X8_text_3 16 rfl
theorem i_X8_text_121 : fetch 146 121 = some (.istore_n 1, 122, 0, 0, 0, 0) := fr fe_X8_text_3 17 rfl
theorem i_X8_text_122 : fetch 146 122 = some (.aload_n 0, 123, 0, 0, 0, 0) := fr fe_X8_text_3 18 rfl
theorem i_X8_text_123 : fetch 146 123 = some (.getfield 42, 126, 8, 12, 0, 1089) := fr fe_X8_text_3 19 rfl
theorem i_X8_text_126 : fetch 146 126 = some (.iconst 4, 127, 0, 0, 0, 0) := fr fe_X8_text_3 20 rfl
theorem i_X8_text_127 : fetch 146 127 = some (.aload_n 0, 128, 0, 0, 0, 0) := fr fe_X8_text_3 21 rfl
theorem i_X8_text_128 : fetch 146 128 = some (.getfield 132, 131, 8, 13, 0, 1090) := fr fe_X8_text_3 22 rfl
theorem i_X8_text_131 : fetch 146 131 = some (.imul, 132, 0, 0, 0, 0) := fr fe_X8_text_3 23 rfl
theorem i_X8_text_132 : fetch 146 132 = some (.iconst 3, 133, 0, 0, 0, 0) := fr fe_X8_text_3 24 rfl
theorem i_X8_text_133 : fetch 146 133 = some (.iadd, 134, 0, 0, 0, 0) := fr fe_X8_text_4 0 rfl
theorem i_X8_text_134 : fetch 146 134 = some (.aload_n 0, 135, 0, 0, 0, 0) := fr fe_X8_text_4 1 rfl
theorem i_X8_text_135 : fetch 146 135 = some (.getfield 156, 138, 8, 34, 0, 1111) := fr fe_X8_text_4 2 rfl
theorem i_X8_text_138 : fetch 146 138 = some (.iastore, 139, 0, 0, 0, 0) := fr fe_X8_text_4 3 rfl
theorem i_X8_text_139 : fetch 146 139 = some (.aload_n 0, 140, 0, 0, 0, 0) := fr fe_X8_text_4 4 rfl
theorem i_X8_text_140 : fetch 146 140 = some (.iconst 0, 141, 0, 0, 0, 0) := fr fe_X8_text_4 5 rfl
theorem i_X8_text_141 : fetch 146 141 = some (.putfield 105, 144, 8, 10, 0, 1071) := fr fe_X8_text_4 6 rfl
theorem i_X8_text_144 : fetch 146 144 = some (.iload_n 1, 145, 0, 0, 0, 0) := fr fe_X8_text_4 7 rfl
theorem i_X8_text_145 : fetch 146 145 = some (.ifCond .ne 11, 148, 0, 0, 0, 0) := fr fe_X8_text_4 8 rfl
theorem i_X8_text_148 : fetch 146 148 = some (.bipush (-100), 150, 0, 0, 0, 0) := fr fe_X8_text_4 9 rfl
theorem i_X8_text_150 : fetch 146 150 = some (.aload_n 0, 151, 0, 0, 0, 0) := fr fe_X8_text_4 10 rfl
theorem i_X8_text_151 : fetch 146 151 = some (.getfield 143, 154, 8, 27, 0, 1104) := fr fe_X8_text_4 11 rfl
theorem i_X8_text_154 : fetch 146 154 = some (.isub, 155, 0, 0, 0, 0) := fr fe_X8_text_4 12 rfl
theorem i_X8_text_155 : fetch 146 155 = some (.ireturn, 156, 0, 0, 0, 0) := fr fe_X8_text_4 13 rfl
theorem i_X8_text_156 : fetch 146 156 = some (.aload_n 0, 157, 0, 0, 0, 0) := fr fe_X8_text_4 14 rfl
theorem i_X8_text_157 : fetch 146 157 = some (.dup, 158, 0, 0, 0, 0) := fr fe_X8_text_4 15 rfl
theorem i_X8_text_158 : fetch 146 158 = some (.getfield 132, 161, 8, 13, 0, 1090) := fr fe_X8_text_4 16 rfl
theorem i_X8_text_161 : fetch 146 161 = some (.iconst 1, 162, 0, 0, 0, 0) := fr fe_X8_text_4 17 rfl
theorem i_X8_text_162 : fetch 146 162 = some (.iadd, 163, 0, 0, 0, 0) := fr fe_X8_text_4 18 rfl
theorem i_X8_text_163 : fetch 146 163 = some (.putfield 132, 166, 8, 13, 0, 1090) := fr fe_X8_text_4 19 rfl
theorem i_X8_text_166 : fetch 146 166 = some (.aload_n 0, 167, 0, 0, 0, 0) := fr fe_X8_text_4 20 rfl
theorem i_X8_text_167 : fetch 146 167 = some (.getfield 132, 170, 8, 13, 0, 1090) := fr fe_X8_text_4 21 rfl
theorem i_X8_text_170 : fetch 146 170 = some (.iconst 1, 171, 0, 0, 0, 0) := fr fe_X8_text_4 22 rfl
theorem i_X8_text_171 : fetch 146 171 = some (.isub, 172, 0, 0, 0, 0) := fr fe_X8_text_4 23 rfl
theorem i_X8_text_172 : fetch 146 172 = some (.ireturn, 173, 0, 0, 0, 0) := fr fe_X8_text_4 24 rfl
theorem i_X8_init_0 : fetch 125 0 = some (.aload_n 0, 1, 0, 0, 0, 0) := fr fe_X8_init_1 0 rfl
theorem i_X8_init_1 : fetch 125 1 = some (.invokespecial 1, 4, 1000, 0, 0, 1012) := fr fe_X8_init_1 1 rfl
theorem i_X8_init_4 : fetch 125 4 = some (.aload_n 0, 5, 0, 0, 0, 0) := fr fe_X8_init_1 2 rfl
theorem i_X8_init_5 : fetch 125 5 = some (.bipush 12, 7, 0, 0, 0, 0) := fr fe_X8_init_1 3 rfl
theorem i_X8_init_7 : fetch 125 7 = some (.newarray .int, 9, 9, 0, 0, 0) := fr fe_X8_init_1 4 rfl
theorem i_X8_init_9 : fetch 125 9 = some (.dup, 10, 0, 0, 0, 0) := fr fe_X8_init_1 5 rfl
theorem i_X8_init_10 : fetch 125 10 = some (.iconst 0, 11, 0, 0, 0, 0) := fr fe_X8_init_1 6 rfl
theorem i_X8_init_11 : fetch 125 11 = some (.ldc 7, 13, 0, 0, 60000, 1013) := fr fe_X8_init_1 7 rfl
theorem i_X8_init_13 : fetch 125 13 = some (.iastore, 14, 0, 0, 0, 0) := fr fe_X8_init_1 8 rfl
theorem i_X8_init_14 : fetch 125 14 = some (.dup, 15, 0, 0, 0, 0) := fr fe_X8_init_1 9 rfl
theorem i_X8_init_15 : fetch 125 15 = some (.iconst 1, 16, 0, 0, 0, 0) := fr fe_X8_init_1 10 rfl
theorem i_X8_init_16 : fetch 125 16 = some (.ldc 7, 18, 0, 0, 60000, 1013) := fr fe_X8_init_1 11 rfl
theorem i_X8_init_18 : fetch 125 18 = some (.iastore, 19, 0, 0, 0, 0) := fr fe_X8_init_1 12 rfl
theorem i_X8_init_19 : fetch 125 19 = some (.dup, 20, 0, 0, 0, 0) := fr fe_X8_init_1 13 rfl
theorem i_X8_init_20 : fetch 125 20 = some (.iconst 2, 21, 0, 0, 0, 0) := fr fe_X8_init_1 14 rfl
theorem i_X8_init_21 : fetch 125 21 = some (.ldc 7, 23, 0, 0, 60000, 1013) := fr fe_X8_init_1 15 rfl
theorem i_X8_init_23 : fetch 125 23 = some (.iastore, 24, 0, 0, 0, 0) := fr fe_X8_init_1 16 rfl
theorem i_X8_init_24 : fetch 125 24 = some (.dup, 25, 0, 0, 0, 0) := fr fe_X8_init_1 17 rfl
theorem i_X8_init_25 : fetch 125 25 = some (.iconst 3, 26, 0, 0, 0, 0) := fr fe_X8_init_1 18 rfl
theorem i_X8_init_26 : fetch 125 26 = some (.ldc 7, 28, 0, 0, 60000, 1013) := fr fe_X8_init_1 19 rfl
theorem i_X8_init_28 : fetch 125 28 = some (.iastore, 29, 0, 0, 0, 0) := fr fe_X8_init_1 20 rfl
theorem i_X8_init_29 : fetch 125 29 = some (.dup, 30, 0, 0, 0, 0) := fr fe_X8_init_1 21 rfl
theorem i_X8_init_30 : fetch 125 30 = some (.iconst 4, 31, 0, 0, 0, 0) := fr fe_X8_init_1 22 rfl
theorem i_X8_init_31 : fetch 125 31 = some (.ldc 7, 33, 0, 0, 60000, 1013) := fr fe_X8_init_1 23 rfl
theorem i_X8_init_33 : fetch 125 33 = some (.iastore, 34, 0, 0, 0, 0) := fr fe_X8_init_1 24 rfl
theorem i_X8_init_34 : fetch 125 34 = some (.dup, 35, 0, 0, 0, 0) := fr fe_X8_init_2 0 rfl
theorem i_X8_init_35 : fetch 125 35 = some (.iconst 5, 36, 0, 0, 0, 0) := fr fe_X8_init_2 1 rfl
theorem i_X8_init_36 : fetch 125 36 = some (.ldc 7, 38, 0, 0, 60000, 1013) := fr fe_X8_init_2 2 rfl
theorem i_X8_init_38 : fetch 125 38 = some (.iastore, 39, 0, 0, 0, 0) := fr fe_X8_init_2 3 rfl
theorem i_X8_init_39 : fetch 125 39 = some (.dup, 40, 0, 0, 0, 0) := fr fe_X8_init_2 4 rfl
theorem i_X8_init_40 : fetch 125 40 = some (.bipush 6, 42, 0, 0, 0, 0) := fr fe_X8_init_2 5 rfl
theorem i_X8_init_42 : fetch 125 42 = some (.ldc 7, 44, 0, 0, 60000, 1013) := fr fe_X8_init_2 6 rfl
theorem i_X8_init_44 : fetch 125 44 = some (.iastore, 45, 0, 0, 0, 0) := fr fe_X8_init_2 7 rfl
theorem i_X8_init_45 : fetch 125 45 = some (.dup, 46, 0, 0, 0, 0) := fr fe_X8_init_2 8 rfl
theorem i_X8_init_46 : fetch 125 46 = some (.bipush 7, 48, 0, 0, 0, 0) := fr fe_X8_init_2 9 rfl
theorem i_X8_init_48 : fetch 125 48 = some (.ldc 7, 50, 0, 0, 60000, 1013) := fr fe_X8_init_2 10 rfl
theorem i_X8_init_50 : fetch 125 50 = some (.iastore, 51, 0, 0, 0, 0) := fr fe_X8_init_2 11 rfl
theorem i_X8_init_51 : fetch 125 51 = some (.dup, 52, 0, 0, 0, 0) := fr fe_X8_init_2 12 rfl
theorem i_X8_init_52 : fetch 125 52 = some (.bipush 8, 54, 0, 0, 0, 0) := fr fe_X8_init_2 13 rfl
theorem i_X8_init_54 : fetch 125 54 = some (.ldc 7, 56, 0, 0, 60000, 1013) := fr fe_X8_init_2 14 rfl
theorem i_X8_init_56 : fetch 125 56 = some (.iastore, 57, 0, 0, 0, 0) := fr fe_X8_init_2 15 rfl
theorem i_X8_init_57 : fetch 125 57 = some (.dup, 58, 0, 0, 0, 0) := fr fe_X8_init_2 16 rfl
theorem i_X8_init_58 : fetch 125 58 = some (.bipush 9, 60, 0, 0, 0, 0) := fr fe_X8_init_2 17 rfl
theorem i_X8_init_60 : fetch 125 60 = some (.ldc 7, 62, 0, 0, 60000, 1013) := fr fe_X8_init_2 18 rfl
theorem i_X8_init_62 : fetch 125 62 = some (.iastore, 63, 0, 0, 0, 0) := fr fe_X8_init_2 19 rfl
theorem i_X8_init_63 : fetch 125 63 = some (.dup, 64, 0, 0, 0, 0) := fr fe_X8_init_2 20 rfl
theorem i_X8_init_64 : fetch 125 64 = some (.bipush 10, 66, 0, 0, 0, 0) := fr fe_X8_init_2 21 rfl
theorem i_X8_init_66 : fetch 125 66 = some (.ldc 7, 68, 0, 0, 60000, 1013) := fr fe_X8_init_2 22 rfl
theorem i_X8_init_68 : fetch 125 68 = some (.iastore, 69, 0, 0, 0, 0) := fr fe_X8_init_2 23 rfl
theorem i_X8_init_69 : fetch 125 69 = some (.dup, 70, 0, 0, 0, 0) := fr fe_X8_init_2 24 rfl
theorem i_X8_init_70 : fetch 125 70 = some (.bipush 11, 72, 0, 0, 0, 0) := fr fe_X8_init_3 0 rfl
theorem i_X8_init_72 : fetch 125 72 = some (.ldc 7, 74, 0, 0, 60000, 1013) := fr fe_X8_init_3 1 rfl
theorem i_X8_init_74 : fetch 125 74 = some (.iastore, 75, 0, 0, 0, 0) := fr fe_X8_init_3 2 rfl
theorem i_X8_init_75 : fetch 125 75 = some (.putfield 8, 78, 8, 0, 0, 1061) := fr fe_X8_init_3 3 rfl
theorem i_X8_init_78 : fetch 125 78 = some (.aload_n 0, 79, 0, 0, 0, 0) := fr fe_X8_init_3 4 rfl
theorem i_X8_init_79 : fetch 125 79 = some (.bipush 12, 81, 0, 0, 0, 0) := fr fe_X8_init_3 5 rfl
theorem i_X8_init_81 : fetch 125 81 = some (.newarray .int, 83, 9, 0, 0, 0) := fr fe_X8_init_3 6 rfl
theorem i_X8_init_83 : fetch 125 83 = some (.dup, 84, 0, 0, 0, 0) := fr fe_X8_init_3 7 rfl
theorem i_X8_init_84 : fetch 125 84 = some (.iconst 0, 85, 0, 0, 0, 0) := fr fe_X8_init_3 8 rfl
theorem i_X8_init_85 : fetch 125 85 = some (.bipush 100, 87, 0, 0, 0, 0) := fr fe_X8_init_3 9 rfl
theorem i_X8_init_87 : fetch 125 87 = some (.iastore, 88, 0, 0, 0, 0) := fr fe_X8_init_3 10 rfl
theorem i_X8_init_88 : fetch 125 88 = some (.dup, 89, 0, 0, 0, 0) := fr fe_X8_init_3 11 rfl
theorem i_X8_init_89 : fetch 125 89 = some (.iconst 1, 90, 0, 0, 0, 0) := fr fe_X8_init_3 12 rfl
theorem i_X8_init_90 : fetch 125 90 = some (.bipush 100, 92, 0, 0, 0, 0) := fr fe_X8_init_3 13 rfl
theorem i_X8_init_92 : fetch 125 92 = some (.iastore, 93, 0, 0, 0, 0) := fr fe_X8_init_3 14 rfl
theorem i_X8_init_93 : fetch 125 93 = some (.dup, 94, 0, 0, 0, 0) := fr fe_X8_init_3 15 rfl
theorem i_X8_init_94 : fetch 125 94 = some (.iconst 2, 95, 0, 0, 0, 0) := fr fe_X8_init_3 16 rfl
theorem i_X8_init_95 : fetch 125 95 = some (.bipush 100, 97, 0, 0, 0, 0) := fr fe_X8_init_3 17 rfl
theorem i_X8_init_97 : fetch 125 97 = some (.iastore, 98, 0, 0, 0, 0) := fr fe_X8_init_3 18 rfl
theorem i_X8_init_98 : fetch 125 98 = some (.dup, 99, 0, 0, 0, 0) := fr fe_X8_init_3 19 rfl
theorem i_X8_init_99 : fetch 125 99 = some (.iconst 3, 100, 0, 0, 0, 0) := fr fe_X8_init_3 20 rfl
theorem i_X8_init_100 : fetch 125 100 = some (.bipush 100, 102, 0, 0, 0, 0) := fr fe_X8_init_3 21 rfl
theorem i_X8_init_102 : fetch 125 102 = some (.iastore, 103, 0, 0, 0, 0) := fr fe_X8_init_3 22 rfl
theorem i_X8_init_103 : fetch 125 103 = some (.dup, 104, 0, 0, 0, 0) := fr fe_X8_init_3 23 rfl
theorem i_X8_init_104 : fetch 125 104 = some (.iconst 4, 105, 0, 0, 0, 0) := fr fe_X8_init_3 24 rfl
theorem i_X8_init_105 : fetch 125 105 = some (.bipush 100, 107, 0, 0, 0, 0) := fr fe_X8_init_4 0 rfl
theorem i_X8_init_107 : fetch 125 107 = some (.iastore, 108, 0, 0, 0, 0) := fr fe_X8_init_4 1 rfl
theorem i_X8_init_108 : fetch 125 108 = some (.dup, 109, 0, 0, 0, 0) := fr fe_X8_init_4 2 rfl
theorem i_X8_init_109 : fetch 125 109 = some (.iconst 5, 110, 0, 0, 0, 0) := fr fe_X8_init_4 3 rfl
theorem i_X8_init_110 : fetch 125 110 = some (.bipush 100, 112, 0, 0, 0, 0) := fr fe_X8_init_4 4 rfl
theorem i_X8_init_112 : fetch 125 112 = some (.iastore, 113, 0, 0, 0, 0) := fr fe_X8_init_4 5 rfl
theorem i_X8_init_113 : fetch 125 113 = some (.dup, 114, 0, 0, 0, 0) := fr fe_X8_init_4 6 rfl
theorem i_X8_init_114 : fetch 125 114 = some (.bipush 6, 116, 0, 0, 0, 0) := fr fe_X8_init_4 7 rfl
theorem i_X8_init_116 : fetch 125 116 = some (.bipush 100, 118, 0, 0, 0, 0) := fr fe_X8_init_4 8 rfl
theorem i_X8_init_118 : fetch 125 118 = some (.iastore, 119, 0, 0, 0, 0) := fr fe_X8_init_4 9 rfl
theorem i_X8_init_119 : fetch 125 119 = some (.dup, 120, 0, 0, 0, 0) := fr fe_X8_init_4 10 rfl
theorem i_X8_init_120 : fetch 125 120 = some (.bipush 7, 122, 0, 0, 0, 0) := fr fe_X8_init_4 11 rfl
theorem i_X8_init_122 : fetch 125 122 = some (.bipush 100, 124, 0, 0, 0, 0) := fr fe_X8_init_4 12 rfl
theorem i_X8_init_124 : fetch 125 124 = some (.iastore, 125, 0, 0, 0, 0) := fr fe_X8_init_4 13 rfl
theorem i_X8_init_125 : fetch 125 125 = some (.dup, 126, 0, 0, 0, 0) := fr fe_X8_init_4 14 rfl
theorem i_X8_init_126 : fetch 125 126 = some (.bipush 8, 128, 0, 0, 0, 0) := fr fe_X8_init_4 15 rfl
theorem i_X8_init_128 : fetch 125 128 = some (.bipush 100, 130, 0, 0, 0, 0) := fr fe_X8_init_4 16 rfl
theorem i_X8_init_130 : fetch 125 130 = some (.iastore, 131, 0, 0, 0, 0) := fr fe_X8_init_4 17 rfl
theorem i_X8_init_131 : fetch 125 131 = some (.dup, 132, 0, 0, 0, 0) := fr fe_X8_init_4 18 rfl
theorem i_X8_init_132 : fetch 125 132 = some (.bipush 9, 134, 0, 0, 0, 0) := fr fe_X8_init_4 19 rfl
theorem i_X8_init_134 : fetch 125 134 = some (.bipush 100, 136, 0, 0, 0, 0) := fr fe_X8_init_4 20 rfl
theorem i_X8_init_136 : fetch 125 136 = some (.iastore, 137, 0, 0, 0, 0) := fr fe_X8_init_4 21 rfl
theorem i_X8_init_137 : fetch 125 137 = some (.dup, 138, 0, 0, 0, 0) := fr fe_X8_init_4 22 rfl
theorem i_X8_init_138 : fetch 125 138 = some (.bipush 10, 140, 0, 0, 0, 0) := fr fe_X8_init_4 23 rfl
theorem i_X8_init_140 : fetch 125 140 = some (.bipush 100, 142, 0, 0, 0, 0) := fr fe_X8_init_4 24 rfl
theorem i_X8_init_142 : fetch 125 142 = some (.iastore, 143, 0, 0, 0, 0) := fr fe_X8_init_5 0 rfl
theorem i_X8_init_143 : fetch 125 143 = some (.dup, 144, 0, 0, 0, 0) := fr fe_X8_init_5 1 rfl
theorem i_X8_init_144 : fetch 125 144 = some (.bipush 11, 146, 0, 0, 0, 0) := fr fe_X8_init_5 2 rfl
theorem i_X8_init_146 : fetch 125 146 = some (.bipush 100, 148, 0, 0, 0, 0) := fr fe_X8_init_5 3 rfl
theorem i_X8_init_148 : fetch 125 148 = some (.iastore, 149, 0, 0, 0, 0) := fr fe_X8_init_5 4 rfl
theorem i_X8_init_149 : fetch 125 149 = some (.putfield 14, 152, 8, 1, 0, 1062) := fr fe_X8_init_5 5 rfl
theorem i_X8_init_152 : fetch 125 152 = some (.aload_n 0, 153, 0, 0, 0, 0) := fr fe_X8_init_5 6 rfl
theorem i_X8_init_153 : fetch 125 153 = some (.iconst 5, 154, 0, 0, 0, 0) := fr fe_X8_init_5 7 rfl
theorem i_X8_init_154 : fetch 125 154 = some (.putfield 17, 157, 8, 2, 0, 1063) := fr fe_X8_init_5 8 rfl
theorem i_X8_init_157 : fetch 125 157 = some (.aload_n 0, 158, 0, 0, 0, 0) := fr fe_X8_init_5 9 rfl
theorem i_X8_init_158 : fetch 125 158 = some (.iconst 2, 159, 0, 0, 0, 0) := fr fe_X8_init_5 10 rfl
theorem i_X8_init_159 : fetch 125 159 = some (.putfield 21, 162, 8, 3, 0, 1064) := fr fe_X8_init_5 11 rfl
theorem i_X8_init_162 : fetch 125 162 = some (.aload_n 0, 163, 0, 0, 0, 0) := fr fe_X8_init_5 12 rfl
theorem i_X8_init_163 : fetch 125 163 = some (.iconst 5, 164, 0, 0, 0, 0) := fr fe_X8_init_5 13 rfl
theorem i_X8_init_164 : fetch 125 164 = some (.putfield 24, 167, 8, 4, 0, 1065) := fr fe_X8_init_5 14 rfl
theorem i_X8_init_167 : fetch 125 167 = some (.aload_n 0, 168, 0, 0, 0, 0) := fr fe_X8_init_5 15 rfl
theorem i_X8_init_168 : fetch 125 168 = some (.bipush 12, 170, 0, 0, 0, 0) := fr fe_X8_init_5 16 rfl
theorem i_X8_init_170 : fetch 125 170 = some (.newarray .int, 172, 9, 0, 0, 0) := fr fe_X8_init_5 17 rfl
theorem i_X8_init_172 : fetch 125 172 = some (.putfield 27, 175, 8, 6, 0, 1067) := fr fe_X8_init_5 18 rfl
theorem i_X8_init_175 : fetch 125 175 = some (.aload_n 0, 176, 0, 0, 0, 0) := fr fe_X8_init_5 19 rfl
theorem i_X8_init_176 : fetch 125 176 = some (.bipush 12, 178, 0, 0, 0, 0) := fr fe_X8_init_5 20 rfl
theorem i_X8_init_178 : fetch 125 178 = some (.newarray .int, 180, 9, 0, 0, 0) := fr fe_X8_init_5 21 rfl
theorem i_X8_init_180 : fetch 125 180 = some (.putfield 30, 183, 8, 7, 0, 1068) := fr fe_X8_init_5 22 rfl
theorem i_X8_init_183 : fetch 125 183 = some (.aload_n 0, 184, 0, 0, 0, 0) := fr fe_X8_init_5 23 rfl
theorem i_X8_init_184 : fetch 125 184 = some (.bipush 12, 186, 0, 0, 0, 0) := fr fe_X8_init_5 24 rfl
theorem i_X8_init_186 : fetch 125 186 = some (.newarray .int, 188, 9, 0, 0, 0) := fr fe_X8_init_6 0 rfl
theorem i_X8_init_188 : fetch 125 188 = some (.putfield 33, 191, 8, 8, 0, 1069) := fr fe_X8_init_6 1 rfl
theorem i_X8_init_191 : fetch 125 191 = some (.aload_n 0, 192, 0, 0, 0, 0) := fr fe_X8_init_6 2 rfl
theorem i_X8_init_192 : fetch 125 192 = some (.sipush 160, 195, 0, 0, 0, 0) := fr fe_X8_init_6 3 rfl
theorem i_X8_init_195 : fetch 125 195 = some (.newarray .int, 197, 9, 0, 0, 0) := fr fe_X8_init_6 4 rfl
theorem i_X8_init_197 : fetch 125 197 = some (.putfield 36, 200, 8, 9, 0, 1070) := fr fe_X8_init_6 5 rfl
theorem i_X8_init_200 : fetch 125 200 = some (.aload_n 0, 201, 0, 0, 0, 0) := fr fe_X8_init_6 6 rfl
theorem i_X8_init_201 : fetch 125 201 = some (.sipush 1200, 204, 0, 0, 0, 0) := fr fe_X8_init_6 7 rfl
theorem i_X8_init_204 : fetch 125 204 = some (.newarray .int, 206, 9, 0, 0, 0) := fr fe_X8_init_6 8 rfl
theorem i_X8_init_206 : fetch 125 206 = some (.putfield 39, 209, 8, 11, 0, 1088) := fr fe_X8_init_6 9 rfl
theorem i_X8_init_209 : fetch 125 209 = some (.aload_n 0, 210, 0, 0, 0, 0) := fr fe_X8_init_6 10 rfl
theorem i_X8_init_210 : fetch 125 210 = some (.bipush 24, 212, 0, 0, 0, 0) := fr fe_X8_init_6 11 rfl
theorem i_X8_init_212 : fetch 125 212 = some (.newarray .int, 214, 9, 0, 0, 0) := fr fe_X8_init_6 12 rfl
theorem i_X8_init_214 : fetch 125 214 = some (.putfield 42, 217, 8, 12, 0, 1089) := fr fe_X8_init_6 13 rfl
theorem i_X8_init_217 : fetch 125 217 = some (.aload_n 0, 218, 0, 0, 0, 0) := fr fe_X8_init_6 14 rfl
theorem i_X8_init_218 : fetch 125 218 = some (.bipush 12, 220, 0, 0, 0, 0) := fr fe_X8_init_6 15 rfl
theorem i_X8_init_220 : fetch 125 220 = some (.newarray .int, 222, 9, 0, 0, 0) := fr fe_X8_init_6 16 rfl
theorem i_X8_init_222 : fetch 125 222 = some (.putfield 45, 225, 8, 20, 0, 1097) := fr fe_X8_init_6 17 rfl
theorem i_X8_init_225 : fetch 125 225 = some (.aload_n 0, 226, 0, 0, 0, 0) := fr fe_X8_init_6 18 rfl
theorem i_X8_init_226 : fetch 125 226 = some (.bipush 12, 228, 0, 0, 0, 0) := fr fe_X8_init_6 19 rfl
theorem i_X8_init_228 : fetch 125 228 = some (.newarray .int, 230, 9, 0, 0, 0) := fr fe_X8_init_6 20 rfl
theorem i_X8_init_230 : fetch 125 230 = some (.putfield 48, 233, 8, 21, 0, 1098) := fr fe_X8_init_6 21 rfl
theorem i_X8_init_233 : fetch 125 233 = some (.aload_n 0, 234, 0, 0, 0, 0) := fr fe_X8_init_6 22 rfl
theorem i_X8_init_234 : fetch 125 234 = some (.iconst 4, 235, 0, 0, 0, 0) := fr fe_X8_init_6 23 rfl
theorem i_X8_init_235 : fetch 125 235 = some (.newarray .int, 237, 9, 0, 0, 0) := fr fe_X8_init_6 24 rfl
theorem i_X8_init_237 : fetch 125 237 = some (.dup, 238, 0, 0, 0, 0) := fr fe_X8_init_7 0 rfl
theorem i_X8_init_238 : fetch 125 238 = some (.iconst 0, 239, 0, 0, 0, 0) := fr fe_X8_init_7 1 rfl
theorem i_X8_init_239 : fetch 125 239 = some (.iconst (-1), 240, 0, 0, 0, 0) := fr fe_X8_init_7 2 rfl
theorem i_X8_init_240 : fetch 125 240 = some (.iastore, 241, 0, 0, 0, 0) := fr fe_X8_init_7 3 rfl
theorem i_X8_init_241 : fetch 125 241 = some (.dup, 242, 0, 0, 0, 0) := fr fe_X8_init_7 4 rfl
theorem i_X8_init_242 : fetch 125 242 = some (.iconst 1, 243, 0, 0, 0, 0) := fr fe_X8_init_7 5 rfl
theorem i_X8_init_243 : fetch 125 243 = some (.iconst (-1), 244, 0, 0, 0, 0) := fr fe_X8_init_7 6 rfl
theorem i_X8_init_244 : fetch 125 244 = some (.iastore, 245, 0, 0, 0, 0) := fr fe_X8_init_7 7 rfl
theorem i_X8_init_245 : fetch 125 245 = some (.dup, 246, 0, 0, 0, 0) := fr fe_X8_init_7 8 rfl
theorem i_X8_init_246 : fetch 125 246 = some (.iconst 2, 247, 0, 0, 0, 0) := fr fe_X8_init_7 9 rfl
theorem i_X8_init_247 : fetch 125 247 = some (.iconst (-1), 248, 0, 0, 0, 0) := fr fe_X8_init_7 10 rfl
theorem i_X8_init_248 : fetch 125 248 = some (.iastore, 249, 0, 0, 0, 0) := fr fe_X8_init_7 11 rfl
theorem i_X8_init_249 : fetch 125 249 = some (.dup, 250, 0, 0, 0, 0) := fr fe_X8_init_7 12 rfl
theorem i_X8_init_250 : fetch 125 250 = some (.iconst 3, 251, 0, 0, 0, 0) := fr fe_X8_init_7 13 rfl
theorem i_X8_init_251 : fetch 125 251 = some (.iconst (-1), 252, 0, 0, 0, 0) := fr fe_X8_init_7 14 rfl
theorem i_X8_init_252 : fetch 125 252 = some (.iastore, 253, 0, 0, 0, 0) := fr fe_X8_init_7 15 rfl
theorem i_X8_init_253 : fetch 125 253 = some (.putfield 51, 256, 8, 22, 0, 1099) := fr fe_X8_init_7 16 rfl
theorem i_X8_init_256 : fetch 125 256 = some (.aload_n 0, 257, 0, 0, 0, 0) := fr fe_X8_init_7 17 rfl
theorem i_X8_init_257 : fetch 125 257 = some (.iconst 4, 258, 0, 0, 0, 0) := fr fe_X8_init_7 18 rfl
theorem i_X8_init_258 : fetch 125 258 = some (.newarray .int, 260, 9, 0, 0, 0) := fr fe_X8_init_7 19 rfl
theorem i_X8_init_260 : fetch 125 260 = some (.putfield 54, 263, 8, 23, 0, 1100) := fr fe_X8_init_7 20 rfl
theorem i_X8_init_263 : fetch 125 263 = some (.aload_n 0, 264, 0, 0, 0, 0) := fr fe_X8_init_7 21 rfl
theorem i_X8_init_264 : fetch 125 264 = some (.sipush 160, 267, 0, 0, 0, 0) := fr fe_X8_init_7 22 rfl
theorem i_X8_init_267 : fetch 125 267 = some (.newarray .int, 269, 9, 0, 0, 0) := fr fe_X8_init_7 23 rfl
theorem i_X8_init_269 : fetch 125 269 = some (.putfield 57, 272, 8, 24, 0, 1101) := fr fe_X8_init_7 24 rfl
theorem i_X8_init_272 : fetch 125 272 = some (.aload_n 0, 273, 0, 0, 0, 0) := fr fe_X8_init_8 0 rfl
theorem i_X8_init_273 : fetch 125 273 = some (.bipush 83, 275, 0, 0, 0, 0) := fr fe_X8_init_8 1 rfl
theorem i_X8_init_275 : fetch 125 275 = some (.newarray .int, 277, 9, 0, 0, 0) := fr fe_X8_init_8 2 rfl
theorem i_X8_init_277 : fetch 125 277 = some (.dup, 278, 0, 0, 0, 0) := fr fe_X8_init_8 3 rfl
theorem i_X8_init_278 : fetch 125 278 = some (.iconst 0, 279, 0, 0, 0, 0) := fr fe_X8_init_8 4 rfl
theorem i_X8_init_279 : fetch 125 279 = some (.bipush 100, 281, 0, 0, 0, 0) := fr fe_X8_init_8 5 rfl
theorem i_X8_init_281 : fetch 125 281 = some (.iastore, 282, 0, 0, 0, 0) := fr fe_X8_init_8 6 rfl
theorem i_X8_init_282 : fetch 125 282 = some (.dup, 283, 0, 0, 0, 0) := fr fe_X8_init_8 7 rfl
theorem i_X8_init_283 : fetch 125 283 = some (.iconst 1, 284, 0, 0, 0, 0) := fr fe_X8_init_8 8 rfl
theorem i_X8_init_284 : fetch 125 284 = some (.bipush 114, 286, 0, 0, 0, 0) := fr fe_X8_init_8 9 rfl
theorem i_X8_init_286 : fetch 125 286 = some (.iastore, 287, 0, 0, 0, 0) := fr fe_X8_init_8 10 rfl
theorem i_X8_init_287 : fetch 125 287 = some (.dup, 288, 0, 0, 0, 0) := fr fe_X8_init_8 11 rfl
theorem i_X8_init_288 : fetch 125 288 = some (.iconst 2, 289, 0, 0, 0, 0) := fr fe_X8_init_8 12 rfl
theorem i_X8_init_289 : fetch 125 289 = some (.bipush 97, 291, 0, 0, 0, 0) := fr fe_X8_init_8 13 rfl
theorem i_X8_init_291 : fetch 125 291 = some (.iastore, 292, 0, 0, 0, 0) := fr fe_X8_init_8 14 rfl
theorem i_X8_init_292 : fetch 125 292 = some (.dup, 293, 0, 0, 0, 0) := fr fe_X8_init_8 15 rfl
theorem i_X8_init_293 : fetch 125 293 = some (.iconst 3, 294, 0, 0, 0, 0) := fr fe_X8_init_8 16 rfl
theorem i_X8_init_294 : fetch 125 294 = some (.bipush 119, 296, 0, 0, 0, 0) := fr fe_X8_init_8 17 rfl
theorem i_X8_init_296 : fetch 125 296 = some (.iastore, 297, 0, 0, 0, 0) := fr fe_X8_init_8 18 rfl
theorem i_X8_init_297 : fetch 125 297 = some (.dup, 298, 0, 0, 0, 0) := fr fe_X8_init_8 19 rfl
theorem i_X8_init_298 : fetch 125 298 = some (.iconst 4, 299, 0, 0, 0, 0) := fr fe_X8_init_8 20 rfl
theorem i_X8_init_299 : fetch 125 299 = some (.bipush 32, 301, 0, 0, 0, 0) := fr fe_X8_init_8 21 rfl
theorem i_X8_init_301 : fetch 125 301 = some (.iastore, 302, 0, 0, 0, 0) := fr fe_X8_init_8 22 rfl
theorem i_X8_init_302 : fetch 125 302 = some (.dup, 303, 0, 0, 0, 0) := fr fe_X8_init_8 23 rfl
theorem i_X8_init_303 : fetch 125 303 = some (.iconst 5, 304, 0, 0, 0, 0) := fr fe_X8_init_8 24 rfl
theorem i_X8_init_304 : fetch 125 304 = some (.bipush 50, 306, 0, 0, 0, 0) := fr fe_X8_init_9 0 rfl
theorem i_X8_init_306 : fetch 125 306 = some (.iastore, 307, 0, 0, 0, 0) := fr fe_X8_init_9 1 rfl
theorem i_X8_init_307 : fetch 125 307 = some (.dup, 308, 0, 0, 0, 0) := fr fe_X8_init_9 2 rfl
theorem i_X8_init_308 : fetch 125 308 = some (.bipush 6, 310, 0, 0, 0, 0) := fr fe_X8_init_9 3 rfl
theorem i_X8_init_310 : fetch 125 310 = some (.bipush 48, 312, 0, 0, 0, 0) := fr fe_X8_init_9 4 rfl
theorem i_X8_init_312 : fetch 125 312 = some (.iastore, 313, 0, 0, 0, 0) := fr fe_X8_init_9 5 rfl
theorem i_X8_init_313 : fetch 125 313 = some (.dup, 314, 0, 0, 0, 0) := fr fe_X8_init_9 6 rfl
theorem i_X8_init_314 : fetch 125 314 = some (.bipush 7, 316, 0, 0, 0, 0) := fr fe_X8_init_9 7 rfl
theorem i_X8_init_316 : fetch 125 316 = some (.bipush 32, 318, 0, 0, 0, 0) := fr fe_X8_init_9 8 rfl
theorem i_X8_init_318 : fetch 125 318 = some (.iastore, 319, 0, 0, 0, 0) := fr fe_X8_init_9 9 rfl
theorem i_X8_init_319 : fetch 125 319 = some (.dup, 320, 0, 0, 0, 0) := fr fe_X8_init_9 10 rfl
theorem i_X8_init_320 : fetch 125 320 = some (.bipush 8, 322, 0, 0, 0, 0) := fr fe_X8_init_9 11 rfl
theorem i_X8_init_322 : fetch 125 322 = some (.bipush 43, 324, 0, 0, 0, 0) := fr fe_X8_init_9 12 rfl
theorem i_X8_init_324 : fetch 125 324 = some (.iastore, 325, 0, 0, 0, 0) := fr fe_X8_init_9 13 rfl
theorem i_X8_init_325 : fetch 125 325 = some (.dup, 326, 0, 0, 0, 0) := fr fe_X8_init_9 14 rfl
theorem i_X8_init_326 : fetch 125 326 = some (.bipush 9, 328, 0, 0, 0, 0) := fr fe_X8_init_9 15 rfl
theorem i_X8_init_328 : fetch 125 328 = some (.bipush 32, 330, 0, 0, 0, 0) := fr fe_X8_init_9 16 rfl
theorem i_X8_init_330 : fetch 125 330 = some (.iastore, 331, 0, 0, 0, 0) := fr fe_X8_init_9 17 rfl
theorem i_X8_init_331 : fetch 125 331 = some (.dup, 332, 0, 0, 0, 0) := fr fe_X8_init_9 18 rfl
theorem i_X8_init_332 : fetch 125 332 = some (.bipush 10, 334, 0, 0, 0, 0) := fr fe_X8_init_9 19 rfl
theorem i_X8_init_334 : fetch 125 334 = some (.bipush 119, 336, 0, 0, 0, 0) := fr fe_X8_init_9 20 rfl
theorem i_X8_init_336 : fetch 125 336 = some (.iastore, 337, 0, 0, 0, 0) := fr fe_X8_init_9 21 rfl
theorem i_X8_init_337 : fetch 125 337 = some (.dup, 338, 0, 0, 0, 0) := fr fe_X8_init_9 22 rfl
theorem i_X8_init_338 : fetch 125 338 = some (.bipush 11, 340, 0, 0, 0, 0) := fr fe_X8_init_9 23 rfl
theorem i_X8_init_340 : fetch 125 340 = some (.bipush 101, 342, 0, 0, 0, 0) := fr fe_X8_init_9 24 rfl
theorem i_X8_init_342 : fetch 125 342 = some (.iastore, 343, 0, 0, 0, 0) := fr fe_X8_init_10 0 rfl
theorem i_X8_init_343 : fetch 125 343 = some (.dup, 344, 0, 0, 0, 0) := fr fe_X8_init_10 1 rfl
theorem i_X8_init_344 : fetch 125 344 = some (.bipush 12, 346, 0, 0, 0, 0) := fr fe_X8_init_10 2 rfl
theorem i_X8_init_346 : fetch 125 346 = some (.bipush 116, 348, 0, 0, 0, 0) := fr fe_X8_init_10 3 rfl
theorem i_X8_init_348 : fetch 125 348 = some (.iastore, 349, 0, 0, 0, 0) := fr fe_X8_init_10 4 rfl
theorem i_X8_init_349 : fetch 125 349 = some (.dup, 350, 0, 0, 0, 0) := fr fe_X8_init_10 5 rfl
theorem i_X8_init_350 : fetch 125 350 = some (.bipush 13, 352, 0, 0, 0, 0) := fr fe_X8_init_10 6 rfl
theorem i_X8_init_352 : fetch 125 352 = some (.bipush 32, 354, 0, 0, 0, 0) := fr fe_X8_init_10 7 rfl
theorem i_X8_init_354 : fetch 125 354 = some (.iastore, 355, 0, 0, 0, 0) := fr fe_X8_init_10 8 rfl
theorem i_X8_init_355 : fetch 125 355 = some (.dup, 356, 0, 0, 0, 0) := fr fe_X8_init_10 9 rfl
theorem i_X8_init_356 : fetch 125 356 = some (.bipush 14, 358, 0, 0, 0, 0) := fr fe_X8_init_10 10 rfl
theorem i_X8_init_358 : fetch 125 358 = some (.bipush 42, 360, 0, 0, 0, 0) := fr fe_X8_init_10 11 rfl
theorem i_X8_init_360 : fetch 125 360 = some (.iastore, 361, 0, 0, 0, 0) := fr fe_X8_init_10 12 rfl
theorem i_X8_init_361 : fetch 125 361 = some (.dup, 362, 0, 0, 0, 0) := fr fe_X8_init_10 13 rfl
theorem i_X8_init_362 : fetch 125 362 = some (.bipush 15, 364, 0, 0, 0, 0) := fr fe_X8_init_10 14 rfl
theorem i_X8_init_364 : fetch 125 364 = some (.bipush 32, 366, 0, 0, 0, 0) := fr fe_X8_init_10 15 rfl
theorem i_X8_init_366 : fetch 125 366 = some (.iastore, 367, 0, 0, 0, 0) := fr fe_X8_init_10 16 rfl
theorem i_X8_init_367 : fetch 125 367 = some (.dup, 368, 0, 0, 0, 0) := fr fe_X8_init_10 17 rfl
theorem i_X8_init_368 : fetch 125 368 = some (.bipush 16, 370, 0, 0, 0, 0) := fr fe_X8_init_10 18 rfl
theorem i_X8_init_370 : fetch 125 370 = some (.bipush 50, 372, 0, 0, 0, 0) := fr fe_X8_init_10 19 rfl
theorem i_X8_init_372 : fetch 125 372 = some (.iastore, 373, 0, 0, 0, 0) := fr fe_X8_init_10 20 rfl
theorem i_X8_init_373 : fetch 125 373 = some (.dup, 374, 0, 0, 0, 0) := fr fe_X8_init_10 21 rfl
theorem i_X8_init_374 : fetch 125 374 = some (.bipush 17, 376, 0, 0, 0, 0) := fr fe_X8_init_10 22 rfl
theorem i_X8_init_376 : fetch 125 376 = some (.bipush 32, 378, 0, 0, 0, 0) := fr fe_X8_init_10 23 rfl
theorem i_X8_init_378 : fetch 125 378 = some (.iastore, 379, 0, 0, 0, 0) := fr fe_X8_init_10 24 rfl
theorem i_X8_init_379 : fetch 125 379 = some (.dup, 380, 0, 0, 0, 0) := fr fe_X8_init_11 0 rfl
theorem i_X8_init_380 : fetch 125 380 = some (.bipush 18, 382, 0, 0, 0, 0) := fr fe_X8_init_11 1 rfl
theorem i_X8_init_382 : fetch 125 382 = some (.bipush 45, 384, 0, 0, 0, 0) := fr fe_X8_init_11 2 rfl
theorem i_X8_init_384 : fetch 125 384 = some (.iastore, 385, 0, 0, 0, 0) := fr fe_X8_init_11 3 rfl
theorem i_X8_init_385 : fetch 125 385 = some (.dup, 386, 0, 0, 0, 0) := fr fe_X8_init_11 4 rfl
theorem i_X8_init_386 : fetch 125 386 = some (.bipush 19, 388, 0, 0, 0, 0) := fr fe_X8_init_11 5 rfl
theorem i_X8_init_388 : fetch 125 388 = some (.bipush 32, 390, 0, 0, 0, 0) := fr fe_X8_init_11 6 rfl
theorem i_X8_init_390 : fetch 125 390 = some (.iastore, 391, 0, 0, 0, 0) := fr fe_X8_init_11 7 rfl
theorem i_X8_init_391 : fetch 125 391 = some (.dup, 392, 0, 0, 0, 0) := fr fe_X8_init_11 8 rfl
theorem i_X8_init_392 : fetch 125 392 = some (.bipush 20, 394, 0, 0, 0, 0) := fr fe_X8_init_11 9 rfl
theorem i_X8_init_394 : fetch 125 394 = some (.bipush 115, 396, 0, 0, 0, 0) := fr fe_X8_init_11 10 rfl
theorem i_X8_init_396 : fetch 125 396 = some (.iastore, 397, 0, 0, 0, 0) := fr fe_X8_init_11 11 rfl
theorem i_X8_init_397 : fetch 125 397 = some (.dup, 398, 0, 0, 0, 0) := fr fe_X8_init_11 12 rfl
theorem i_X8_init_398 : fetch 125 398 = some (.bipush 21, 400, 0, 0, 0, 0) := fr fe_X8_init_11 13 rfl
theorem i_X8_init_400 : fetch 125 400 = some (.bipush 116, 402, 0, 0, 0, 0) := fr fe_X8_init_11 14 rfl
theorem i_X8_init_402 : fetch 125 402 = some (.iastore, 403, 0, 0, 0, 0) := fr fe_X8_init_11 15 rfl
theorem i_X8_init_403 : fetch 125 403 = some (.dup, 404, 0, 0, 0, 0) := fr fe_X8_init_11 16 rfl
theorem i_X8_init_404 : fetch 125 404 = some (.bipush 22, 406, 0, 0, 0, 0) := fr fe_X8_init_11 17 rfl
theorem i_X8_init_406 : fetch 125 406 = some (.bipush 105, 408, 0, 0, 0, 0) := fr fe_X8_init_11 18 rfl
theorem i_X8_init_408 : fetch 125 408 = some (.iastore, 409, 0, 0, 0, 0) := fr fe_X8_init_11 19 rfl
theorem i_X8_init_409 : fetch 125 409 = some (.dup, 410, 0, 0, 0, 0) := fr fe_X8_init_11 20 rfl
theorem i_X8_init_410 : fetch 125 410 = some (.bipush 23, 412, 0, 0, 0, 0) := fr fe_X8_init_11 21 rfl
theorem i_X8_init_412 : fetch 125 412 = some (.bipush 102, 414, 0, 0, 0, 0) := fr fe_X8_init_11 22 rfl
theorem i_X8_init_414 : fetch 125 414 = some (.iastore, 415, 0, 0, 0, 0) := fr fe_X8_init_11 23 rfl
theorem i_X8_init_415 : fetch 125 415 = some (.dup, 416, 0, 0, 0, 0) := fr fe_X8_init_11 24 rfl
theorem i_X8_init_416 : fetch 125 416 = some (.bipush 24, 418, 0, 0, 0, 0) := fr fe_X8_init_12 0 rfl
theorem i_X8_init_418 : fetch 125 418 = some (.bipush 102, 420, 0, 0, 0, 0) := fr fe_X8_init_12 1 rfl
theorem i_X8_init_420 : fetch 125 420 = some (.iastore, 421, 0, 0, 0, 0) := fr fe_X8_init_12 2 rfl
theorem i_X8_init_421 : fetch 125 421 = some (.dup, 422, 0, 0, 0, 0) := fr fe_X8_init_12 3 rfl
theorem i_X8_init_422 : fetch 125 422 = some (.bipush 25, 424, 0, 0, 0, 0) := fr fe_X8_init_12 4 rfl
theorem i_X8_init_424 : fetch 125 424 = some (.bipush 32, 426, 0, 0, 0, 0) := fr fe_X8_init_12 5 rfl
theorem i_X8_init_426 : fetch 125 426 = some (.iastore, 427, 0, 0, 0, 0) := fr fe_X8_init_12 6 rfl
theorem i_X8_init_427 : fetch 125 427 = some (.dup, 428, 0, 0, 0, 0) := fr fe_X8_init_12 7 rfl
theorem i_X8_init_428 : fetch 125 428 = some (.bipush 26, 430, 0, 0, 0, 0) := fr fe_X8_init_12 8 rfl
theorem i_X8_init_430 : fetch 125 430 = some (.bipush 59, 432, 0, 0, 0, 0) := fr fe_X8_init_12 9 rfl
theorem i_X8_init_432 : fetch 125 432 = some (.iastore, 433, 0, 0, 0, 0) := fr fe_X8_init_12 10 rfl
theorem i_X8_init_433 : fetch 125 433 = some (.dup, 434, 0, 0, 0, 0) := fr fe_X8_init_12 11 rfl
theorem i_X8_init_434 : fetch 125 434 = some (.bipush 27, 436, 0, 0, 0, 0) := fr fe_X8_init_12 12 rfl
theorem i_X8_init_436 : fetch 125 436 = some (.bipush 32, 438, 0, 0, 0, 0) := fr fe_X8_init_12 13 rfl
theorem i_X8_init_438 : fetch 125 438 = some (.iastore, 439, 0, 0, 0, 0) := fr fe_X8_init_12 14 rfl
theorem i_X8_init_439 : fetch 125 439 = some (.dup, 440, 0, 0, 0, 0) := fr fe_X8_init_12 15 rfl
theorem i_X8_init_440 : fetch 125 440 = some (.bipush 28, 442, 0, 0, 0, 0) := fr fe_X8_init_12 16 rfl
theorem i_X8_init_442 : fetch 125 442 = some (.bipush 116, 444, 0, 0, 0, 0) := fr fe_X8_init_12 17 rfl
theorem i_X8_init_444 : fetch 125 444 = some (.iastore, 445, 0, 0, 0, 0) := fr fe_X8_init_12 18 rfl
theorem i_X8_init_445 : fetch 125 445 = some (.dup, 446, 0, 0, 0, 0) := fr fe_X8_init_12 19 rfl
theorem i_X8_init_446 : fetch 125 446 = some (.bipush 29, 448, 0, 0, 0, 0) := fr fe_X8_init_12 20 rfl
theorem i_X8_init_448 : fetch 125 448 = some (.bipush 101, 450, 0, 0, 0, 0) := fr fe_X8_init_12 21 rfl
theorem i_X8_init_450 : fetch 125 450 = some (.iastore, 451, 0, 0, 0, 0) := fr fe_X8_init_12 22 rfl
theorem i_X8_init_451 : fetch 125 451 = some (.dup, 452, 0, 0, 0, 0) := fr fe_X8_init_12 23 rfl
theorem i_X8_init_452 : fetch 125 452 = some (.bipush 30, 454, 0, 0, 0, 0) := fr fe_X8_init_12 24 rfl
theorem i_X8_init_454 : fetch 125 454 = some (.bipush 97, 456, 0, 0, 0, 0) := fr fe_X8_init_13 0 rfl
theorem i_X8_init_456 : fetch 125 456 = some (.iastore, 457, 0, 0, 0, 0) := fr fe_X8_init_13 1 rfl
theorem i_X8_init_457 : fetch 125 457 = some (.dup, 458, 0, 0, 0, 0) := fr fe_X8_init_13 2 rfl
theorem i_X8_init_458 : fetch 125 458 = some (.bipush 31, 460, 0, 0, 0, 0) := fr fe_X8_init_13 3 rfl
theorem i_X8_init_460 : fetch 125 460 = some (.bipush 114, 462, 0, 0, 0, 0) := fr fe_X8_init_13 4 rfl
theorem i_X8_init_462 : fetch 125 462 = some (.iastore, 463, 0, 0, 0, 0) := fr fe_X8_init_13 5 rfl
theorem i_X8_init_463 : fetch 125 463 = some (.dup, 464, 0, 0, 0, 0) := fr fe_X8_init_13 6 rfl
theorem i_X8_init_464 : fetch 125 464 = some (.bipush 32, 466, 0, 0, 0, 0) := fr fe_X8_init_13 7 rfl
theorem i_X8_init_466 : fetch 125 466 = some (.bipush 115, 468, 0, 0, 0, 0) := fr fe_X8_init_13 8 rfl
theorem i_X8_init_468 : fetch 125 468 = some (.iastore, 469, 0, 0, 0, 0) := fr fe_X8_init_13 9 rfl
theorem i_X8_init_469 : fetch 125 469 = some (.dup, 470, 0, 0, 0, 0) := fr fe_X8_init_13 10 rfl
theorem i_X8_init_470 : fetch 125 470 = some (.bipush 33, 472, 0, 0, 0, 0) := fr fe_X8_init_13 11 rfl
theorem i_X8_init_472 : fetch 125 472 = some (.bipush 32, 474, 0, 0, 0, 0) := fr fe_X8_init_13 12 rfl
theorem i_X8_init_474 : fetch 125 474 = some (.iastore, 475, 0, 0, 0, 0) := fr fe_X8_init_13 13 rfl
theorem i_X8_init_475 : fetch 125 475 = some (.dup, 476, 0, 0, 0, 0) := fr fe_X8_init_13 14 rfl
theorem i_X8_init_476 : fetch 125 476 = some (.bipush 34, 478, 0, 0, 0, 0) := fr fe_X8_init_13 15 rfl
theorem i_X8_init_478 : fetch 125 478 = some (.bipush 52, 480, 0, 0, 0, 0) := fr fe_X8_init_13 16 rfl
theorem i_X8_init_480 : fetch 125 480 = some (.iastore, 481, 0, 0, 0, 0) := fr fe_X8_init_13 17 rfl
theorem i_X8_init_481 : fetch 125 481 = some (.dup, 482, 0, 0, 0, 0) := fr fe_X8_init_13 18 rfl
theorem i_X8_init_482 : fetch 125 482 = some (.bipush 35, 484, 0, 0, 0, 0) := fr fe_X8_init_13 19 rfl
theorem i_X8_init_484 : fetch 125 484 = some (.bipush 48, 486, 0, 0, 0, 0) := fr fe_X8_init_13 20 rfl
theorem i_X8_init_486 : fetch 125 486 = some (.iastore, 487, 0, 0, 0, 0) := fr fe_X8_init_13 21 rfl
theorem i_X8_init_487 : fetch 125 487 = some (.dup, 488, 0, 0, 0, 0) := fr fe_X8_init_13 22 rfl
theorem i_X8_init_488 : fetch 125 488 = some (.bipush 36, 490, 0, 0, 0, 0) := fr fe_X8_init_13 23 rfl
theorem i_X8_init_490 : fetch 125 490 = some (.bipush 32, 492, 0, 0, 0, 0) := fr fe_X8_init_13 24 rfl
theorem i_X8_init_492 : fetch 125 492 = some (.iastore, 493, 0, 0, 0, 0) := fr fe_X8_init_14 0 rfl
theorem i_X8_init_493 : fetch 125 493 = some (.dup, 494, 0, 0, 0, 0) := fr fe_X8_init_14 1 rfl
theorem i_X8_init_494 : fetch 125 494 = some (.bipush 37, 496, 0, 0, 0, 0) := fr fe_X8_init_14 2 rfl
theorem i_X8_init_496 : fetch 125 496 = some (.bipush 60, 498, 0, 0, 0, 0) := fr fe_X8_init_14 3 rfl
theorem i_X8_init_498 : fetch 125 498 = some (.iastore, 499, 0, 0, 0, 0) := fr fe_X8_init_14 4 rfl
theorem i_X8_init_499 : fetch 125 499 = some (.dup, 500, 0, 0, 0, 0) := fr fe_X8_init_14 5 rfl
theorem i_X8_init_500 : fetch 125 500 = some (.bipush 38, 502, 0, 0, 0, 0) := fr fe_X8_init_14 6 rfl
theorem i_X8_init_502 : fetch 125 502 = some (.bipush 32, 504, 0, 0, 0, 0) := fr fe_X8_init_14 7 rfl
theorem i_X8_init_504 : fetch 125 504 = some (.iastore, 505, 0, 0, 0, 0) := fr fe_X8_init_14 8 rfl
theorem i_X8_init_505 : fetch 125 505 = some (.dup, 506, 0, 0, 0, 0) := fr fe_X8_init_14 9 rfl
theorem i_X8_init_506 : fetch 125 506 = some (.bipush 39, 508, 0, 0, 0, 0) := fr fe_X8_init_14 10 rfl
theorem i_X8_init_508 : fetch 125 508 = some (.bipush 112, 510, 0, 0, 0, 0) := fr fe_X8_init_14 11 rfl
theorem i_X8_init_510 : fetch 125 510 = some (.iastore, 511, 0, 0, 0, 0) := fr fe_X8_init_14 12 rfl
theorem i_X8_init_511 : fetch 125 511 = some (.dup, 512, 0, 0, 0, 0) := fr fe_X8_init_14 13 rfl
theorem i_X8_init_512 : fetch 125 512 = some (.bipush 40, 514, 0, 0, 0, 0) := fr fe_X8_init_14 14 rfl
theorem i_X8_init_514 : fetch 125 514 = some (.bipush 97, 516, 0, 0, 0, 0) := fr fe_X8_init_14 15 rfl
theorem i_X8_init_516 : fetch 125 516 = some (.iastore, 517, 0, 0, 0, 0) := fr fe_X8_init_14 16 rfl
theorem i_X8_init_517 : fetch 125 517 = some (.dup, 518, 0, 0, 0, 0) := fr fe_X8_init_14 17 rfl
theorem i_X8_init_518 : fetch 125 518 = some (.bipush 41, 520, 0, 0, 0, 0) := fr fe_X8_init_14 18 rfl
theorem i_X8_init_520 : fetch 125 520 = some (.bipush 99, 522, 0, 0, 0, 0) := fr fe_X8_init_14 19 rfl
theorem i_X8_init_522 : fetch 125 522 = some (.iastore, 523, 0, 0, 0, 0) := fr fe_X8_init_14 20 rfl
theorem i_X8_init_523 : fetch 125 523 = some (.dup, 524, 0, 0, 0, 0) := fr fe_X8_init_14 21 rfl
theorem i_X8_init_524 : fetch 125 524 = some (.bipush 42, 526, 0, 0, 0, 0) := fr fe_X8_init_14 22 rfl
theorem i_X8_init_526 : fetch 125 526 = some (.bipush 101, 528, 0, 0, 0, 0) := fr fe_X8_init_14 23 rfl
theorem i_X8_init_528 : fetch 125 528 = some (.iastore, 529, 0, 0, 0, 0) := fr fe_X8_init_14 24 rfl
theorem i_X8_init_529 : fetch 125 529 = some (.dup, 530, 0, 0, 0, 0) := fr fe_X8_init_15 0 rfl
theorem i_X8_init_530 : fetch 125 530 = some (.bipush 43, 532, 0, 0, 0, 0) := fr fe_X8_init_15 1 rfl
theorem i_X8_init_532 : fetch 125 532 = some (.bipush 32, 534, 0, 0, 0, 0) := fr fe_X8_init_15 2 rfl
theorem i_X8_init_534 : fetch 125 534 = some (.iastore, 535, 0, 0, 0, 0) := fr fe_X8_init_15 3 rfl
theorem i_X8_init_535 : fetch 125 535 = some (.dup, 536, 0, 0, 0, 0) := fr fe_X8_init_15 4 rfl
theorem i_X8_init_536 : fetch 125 536 = some (.bipush 44, 538, 0, 0, 0, 0) := fr fe_X8_init_15 5 rfl
theorem i_X8_init_538 : fetch 125 538 = some (.bipush 42, 540, 0, 0, 0, 0) := fr fe_X8_init_15 6 rfl
theorem i_X8_init_540 : fetch 125 540 = some (.iastore, 541, 0, 0, 0, 0) := fr fe_X8_init_15 7 rfl
theorem i_X8_init_541 : fetch 125 541 = some (.dup, 542, 0, 0, 0, 0) := fr fe_X8_init_15 8 rfl
theorem i_X8_init_542 : fetch 125 542 = some (.bipush 45, 544, 0, 0, 0, 0) := fr fe_X8_init_15 9 rfl
theorem i_X8_init_544 : fetch 125 544 = some (.bipush 32, 546, 0, 0, 0, 0) := fr fe_X8_init_15 10 rfl
theorem i_X8_init_546 : fetch 125 546 = some (.iastore, 547, 0, 0, 0, 0) := fr fe_X8_init_15 11 rfl
theorem i_X8_init_547 : fetch 125 547 = some (.dup, 548, 0, 0, 0, 0) := fr fe_X8_init_15 12 rfl
theorem i_X8_init_548 : fetch 125 548 = some (.bipush 46, 550, 0, 0, 0, 0) := fr fe_X8_init_15 13 rfl
theorem i_X8_init_550 : fetch 125 550 = some (.bipush 57, 552, 0, 0, 0, 0) := fr fe_X8_init_15 14 rfl
theorem i_X8_init_552 : fetch 125 552 = some (.iastore, 553, 0, 0, 0, 0) := fr fe_X8_init_15 15 rfl
theorem i_X8_init_553 : fetch 125 553 = some (.dup, 554, 0, 0, 0, 0) := fr fe_X8_init_15 16 rfl
theorem i_X8_init_554 : fetch 125 554 = some (.bipush 47, 556, 0, 0, 0, 0) := fr fe_X8_init_15 17 rfl
theorem i_X8_init_556 : fetch 125 556 = some (.bipush 32, 558, 0, 0, 0, 0) := fr fe_X8_init_15 18 rfl
theorem i_X8_init_558 : fetch 125 558 = some (.iastore, 559, 0, 0, 0, 0) := fr fe_X8_init_15 19 rfl
theorem i_X8_init_559 : fetch 125 559 = some (.dup, 560, 0, 0, 0, 0) := fr fe_X8_init_15 20 rfl
theorem i_X8_init_560 : fetch 125 560 = some (.bipush 48, 562, 0, 0, 0, 0) := fr fe_X8_init_15 21 rfl
theorem i_X8_init_562 : fetch 125 562 = some (.bipush 45, 564, 0, 0, 0, 0) := fr fe_X8_init_15 22 rfl
theorem i_X8_init_564 : fetch 125 564 = some (.iastore, 565, 0, 0, 0, 0) := fr fe_X8_init_15 23 rfl
theorem i_X8_init_565 : fetch 125 565 = some (.dup, 566, 0, 0, 0, 0) := fr fe_X8_init_15 24 rfl
theorem i_X8_init_566 : fetch 125 566 = some (.bipush 49, 568, 0, 0, 0, 0) := fr fe_X8_init_16 0 rfl
theorem i_X8_init_568 : fetch 125 568 = some (.bipush 32, 570, 0, 0, 0, 0) := fr fe_X8_init_16 1 rfl
theorem i_X8_init_570 : fetch 125 570 = some (.iastore, 571, 0, 0, 0, 0) := fr fe_X8_init_16 2 rfl
theorem i_X8_init_571 : fetch 125 571 = some (.dup, 572, 0, 0, 0, 0) := fr fe_X8_init_16 3 rfl
theorem i_X8_init_572 : fetch 125 572 = some (.bipush 50, 574, 0, 0, 0, 0) := fr fe_X8_init_16 4 rfl
theorem i_X8_init_574 : fetch 125 574 = some (.bipush 116, 576, 0, 0, 0, 0) := fr fe_X8_init_16 5 rfl
theorem i_X8_init_576 : fetch 125 576 = some (.iastore, 577, 0, 0, 0, 0) := fr fe_X8_init_16 6 rfl
theorem i_X8_init_577 : fetch 125 577 = some (.dup, 578, 0, 0, 0, 0) := fr fe_X8_init_16 7 rfl
theorem i_X8_init_578 : fetch 125 578 = some (.bipush 51, 580, 0, 0, 0, 0) := fr fe_X8_init_16 8 rfl
theorem i_X8_init_580 : fetch 125 580 = some (.bipush 104, 582, 0, 0, 0, 0) := fr fe_X8_init_16 9 rfl
theorem i_X8_init_582 : fetch 125 582 = some (.iastore, 583, 0, 0, 0, 0) := fr fe_X8_init_16 10 rfl
theorem i_X8_init_583 : fetch 125 583 = some (.dup, 584, 0, 0, 0, 0) := fr fe_X8_init_16 11 rfl
theorem i_X8_init_584 : fetch 125 584 = some (.bipush 52, 586, 0, 0, 0, 0) := fr fe_X8_init_16 12 rfl
theorem i_X8_init_586 : fetch 125 586 = some (.bipush 105, 588, 0, 0, 0, 0) := fr fe_X8_init_16 13 rfl
theorem i_X8_init_588 : fetch 125 588 = some (.iastore, 589, 0, 0, 0, 0) := fr fe_X8_init_16 14 rfl
theorem i_X8_init_589 : fetch 125 589 = some (.dup, 590, 0, 0, 0, 0) := fr fe_X8_init_16 15 rfl
theorem i_X8_init_590 : fetch 125 590 = some (.bipush 53, 592, 0, 0, 0, 0) := fr fe_X8_init_16 16 rfl
theorem i_X8_init_592 : fetch 125 592 = some (.bipush 99, 594, 0, 0, 0, 0) := fr fe_X8_init_16 17 rfl
theorem i_X8_init_594 : fetch 125 594 = some (.iastore, 595, 0, 0, 0, 0) := fr fe_X8_init_16 18 rfl
theorem i_X8_init_595 : fetch 125 595 = some (.dup, 596, 0, 0, 0, 0) := fr fe_X8_init_16 19 rfl
theorem i_X8_init_596 : fetch 125 596 = some (.bipush 54, 598, 0, 0, 0, 0) := fr fe_X8_init_16 20 rfl
theorem i_X8_init_598 : fetch 125 598 = some (.bipush 107, 600, 0, 0, 0, 0) := fr fe_X8_init_16 21 rfl
theorem i_X8_init_600 : fetch 125 600 = some (.iastore, 601, 0, 0, 0, 0) := fr fe_X8_init_16 22 rfl
theorem i_X8_init_601 : fetch 125 601 = some (.dup, 602, 0, 0, 0, 0) := fr fe_X8_init_16 23 rfl
theorem i_X8_init_602 : fetch 125 602 = some (.bipush 55, 604, 0, 0, 0, 0) := fr fe_X8_init_16 24 rfl
theorem i_X8_init_604 : fetch 125 604 = some (.bipush 32, 606, 0, 0, 0, 0) := fr fe_X8_init_17 0 rfl
theorem i_X8_init_606 : fetch 125 606 = some (.iastore, 607, 0, 0, 0, 0) := fr fe_X8_init_17 1 rfl
theorem i_X8_init_607 : fetch 125 607 = some (.dup, 608, 0, 0, 0, 0) := fr fe_X8_init_17 2 rfl
theorem i_X8_init_608 : fetch 125 608 = some (.bipush 56, 610, 0, 0, 0, 0) := fr fe_X8_init_17 3 rfl
theorem i_X8_init_610 : fetch 125 610 = some (.bipush 59, 612, 0, 0, 0, 0) := fr fe_X8_init_17 4 rfl
theorem i_X8_init_612 : fetch 125 612 = some (.iastore, 613, 0, 0, 0, 0) := fr fe_X8_init_17 5 rfl
theorem i_X8_init_613 : fetch 125 613 = some (.dup, 614, 0, 0, 0, 0) := fr fe_X8_init_17 6 rfl
theorem i_X8_init_614 : fetch 125 614 = some (.bipush 57, 616, 0, 0, 0, 0) := fr fe_X8_init_17 7 rfl
theorem i_X8_init_616 : fetch 125 616 = some (.bipush 32, 618, 0, 0, 0, 0) := fr fe_X8_init_17 8 rfl
theorem i_X8_init_618 : fetch 125 618 = some (.iastore, 619, 0, 0, 0, 0) := fr fe_X8_init_17 9 rfl
theorem i_X8_init_619 : fetch 125 619 = some (.dup, 620, 0, 0, 0, 0) := fr fe_X8_init_17 10 rfl
theorem i_X8_init_620 : fetch 125 620 = some (.bipush 58, 622, 0, 0, 0, 0) := fr fe_X8_init_17 11 rfl
theorem i_X8_init_622 : fetch 125 622 = some (.bipush 115, 624, 0, 0, 0, 0) := fr fe_X8_init_17 12 rfl
theorem i_X8_init_624 : fetch 125 624 = some (.iastore, 625, 0, 0, 0, 0) := fr fe_X8_init_17 13 rfl
theorem i_X8_init_625 : fetch 125 625 = some (.dup, 626, 0, 0, 0, 0) := fr fe_X8_init_17 14 rfl
theorem i_X8_init_626 : fetch 125 626 = some (.bipush 59, 628, 0, 0, 0, 0) := fr fe_X8_init_17 15 rfl
theorem i_X8_init_628 : fetch 125 628 = some (.bipush 116, 630, 0, 0, 0, 0) := fr fe_X8_init_17 16 rfl
theorem i_X8_init_630 : fetch 125 630 = some (.iastore, 631, 0, 0, 0, 0) := fr fe_X8_init_17 17 rfl
theorem i_X8_init_631 : fetch 125 631 = some (.dup, 632, 0, 0, 0, 0) := fr fe_X8_init_17 18 rfl
theorem i_X8_init_632 : fetch 125 632 = some (.bipush 60, 634, 0, 0, 0, 0) := fr fe_X8_init_17 19 rfl
theorem i_X8_init_634 : fetch 125 634 = some (.bipush 105, 636, 0, 0, 0, 0) := fr fe_X8_init_17 20 rfl
theorem i_X8_init_636 : fetch 125 636 = some (.iastore, 637, 0, 0, 0, 0) := fr fe_X8_init_17 21 rfl
theorem i_X8_init_637 : fetch 125 637 = some (.dup, 638, 0, 0, 0, 0) := fr fe_X8_init_17 22 rfl
theorem i_X8_init_638 : fetch 125 638 = some (.bipush 61, 640, 0, 0, 0, 0) := fr fe_X8_init_17 23 rfl
theorem i_X8_init_640 : fetch 125 640 = some (.bipush 99, 642, 0, 0, 0, 0) := fr fe_X8_init_17 24 rfl
theorem i_X8_init_642 : fetch 125 642 = some (.iastore, 643, 0, 0, 0, 0) := fr fe_X8_init_18 0 rfl
theorem i_X8_init_643 : fetch 125 643 = some (.dup, 644, 0, 0, 0, 0) := fr fe_X8_init_18 1 rfl
theorem i_X8_init_644 : fetch 125 644 = some (.bipush 62, 646, 0, 0, 0, 0) := fr fe_X8_init_18 2 rfl
theorem i_X8_init_646 : fetch 125 646 = some (.bipush 107, 648, 0, 0, 0, 0) := fr fe_X8_init_18 3 rfl
theorem i_X8_init_648 : fetch 125 648 = some (.iastore, 649, 0, 0, 0, 0) := fr fe_X8_init_18 4 rfl
theorem i_X8_init_649 : fetch 125 649 = some (.dup, 650, 0, 0, 0, 0) := fr fe_X8_init_18 5 rfl
theorem i_X8_init_650 : fetch 125 650 = some (.bipush 63, 652, 0, 0, 0, 0) := fr fe_X8_init_18 6 rfl
theorem i_X8_init_652 : fetch 125 652 = some (.bipush 115, 654, 0, 0, 0, 0) := fr fe_X8_init_18 7 rfl
theorem i_X8_init_654 : fetch 125 654 = some (.iastore, 655, 0, 0, 0, 0) := fr fe_X8_init_18 8 rfl
theorem i_X8_init_655 : fetch 125 655 = some (.dup, 656, 0, 0, 0, 0) := fr fe_X8_init_18 9 rfl
theorem i_X8_init_656 : fetch 125 656 = some (.bipush 64, 658, 0, 0, 0, 0) := fr fe_X8_init_18 10 rfl
theorem i_X8_init_658 : fetch 125 658 = some (.bipush 32, 660, 0, 0, 0, 0) := fr fe_X8_init_18 11 rfl
theorem i_X8_init_660 : fetch 125 660 = some (.iastore, 661, 0, 0, 0, 0) := fr fe_X8_init_18 12 rfl
theorem i_X8_init_661 : fetch 125 661 = some (.dup, 662, 0, 0, 0, 0) := fr fe_X8_init_18 13 rfl
theorem i_X8_init_662 : fetch 125 662 = some (.bipush 65, 664, 0, 0, 0, 0) := fr fe_X8_init_18 14 rfl
theorem i_X8_init_664 : fetch 125 664 = some (.bipush 102, 666, 0, 0, 0, 0) := fr fe_X8_init_18 15 rfl
theorem i_X8_init_666 : fetch 125 666 = some (.iastore, 667, 0, 0, 0, 0) := fr fe_X8_init_18 16 rfl
theorem i_X8_init_667 : fetch 125 667 = some (.dup, 668, 0, 0, 0, 0) := fr fe_X8_init_18 17 rfl
theorem i_X8_init_668 : fetch 125 668 = some (.bipush 66, 670, 0, 0, 0, 0) := fr fe_X8_init_18 18 rfl
theorem i_X8_init_670 : fetch 125 670 = some (.bipush 111, 672, 0, 0, 0, 0) := fr fe_X8_init_18 19 rfl
theorem i_X8_init_672 : fetch 125 672 = some (.iastore, 673, 0, 0, 0, 0) := fr fe_X8_init_18 20 rfl
theorem i_X8_init_673 : fetch 125 673 = some (.dup, 674, 0, 0, 0, 0) := fr fe_X8_init_18 21 rfl
theorem i_X8_init_674 : fetch 125 674 = some (.bipush 67, 676, 0, 0, 0, 0) := fr fe_X8_init_18 22 rfl
theorem i_X8_init_676 : fetch 125 676 = some (.bipush 108, 678, 0, 0, 0, 0) := fr fe_X8_init_18 23 rfl
theorem i_X8_init_678 : fetch 125 678 = some (.iastore, 679, 0, 0, 0, 0) := fr fe_X8_init_18 24 rfl
theorem i_X8_init_679 : fetch 125 679 = some (.dup, 680, 0, 0, 0, 0) := fr fe_X8_init_19 0 rfl
theorem i_X8_init_680 : fetch 125 680 = some (.bipush 68, 682, 0, 0, 0, 0) := fr fe_X8_init_19 1 rfl
theorem i_X8_init_682 : fetch 125 682 = some (.bipush 100, 684, 0, 0, 0, 0) := fr fe_X8_init_19 2 rfl
theorem i_X8_init_684 : fetch 125 684 = some (.iastore, 685, 0, 0, 0, 0) := fr fe_X8_init_19 3 rfl
theorem i_X8_init_685 : fetch 125 685 = some (.dup, 686, 0, 0, 0, 0) := fr fe_X8_init_19 4 rfl
theorem i_X8_init_686 : fetch 125 686 = some (.bipush 69, 688, 0, 0, 0, 0) := fr fe_X8_init_19 5 rfl
theorem i_X8_init_688 : fetch 125 688 = some (.bipush 115, 690, 0, 0, 0, 0) := fr fe_X8_init_19 6 rfl
theorem i_X8_init_690 : fetch 125 690 = some (.iastore, 691, 0, 0, 0, 0) := fr fe_X8_init_19 7 rfl
theorem i_X8_init_691 : fetch 125 691 = some (.dup, 692, 0, 0, 0, 0) := fr fe_X8_init_19 8 rfl
theorem i_X8_init_692 : fetch 125 692 = some (.bipush 70, 694, 0, 0, 0, 0) := fr fe_X8_init_19 9 rfl
theorem i_X8_init_694 : fetch 125 694 = some (.bipush 32, 696, 0, 0, 0, 0) := fr fe_X8_init_19 10 rfl
theorem i_X8_init_696 : fetch 125 696 = some (.iastore, 697, 0, 0, 0, 0) := fr fe_X8_init_19 11 rfl
theorem i_X8_init_697 : fetch 125 697 = some (.dup, 698, 0, 0, 0, 0) := fr fe_X8_init_19 12 rfl
theorem i_X8_init_698 : fetch 125 698 = some (.bipush 71, 700, 0, 0, 0, 0) := fr fe_X8_init_19 13 rfl
theorem i_X8_init_700 : fetch 125 700 = some (.bipush 42, 702, 0, 0, 0, 0) := fr fe_X8_init_19 14 rfl
theorem i_X8_init_702 : fetch 125 702 = some (.iastore, 703, 0, 0, 0, 0) := fr fe_X8_init_19 15 rfl
theorem i_X8_init_703 : fetch 125 703 = some (.dup, 704, 0, 0, 0, 0) := fr fe_X8_init_19 16 rfl
theorem i_X8_init_704 : fetch 125 704 = some (.bipush 72, 706, 0, 0, 0, 0) := fr fe_X8_init_19 17 rfl
theorem i_X8_init_706 : fetch 125 706 = some (.bipush 32, 708, 0, 0, 0, 0) := fr fe_X8_init_19 18 rfl
theorem i_X8_init_708 : fetch 125 708 = some (.iastore, 709, 0, 0, 0, 0) := fr fe_X8_init_19 19 rfl
theorem i_X8_init_709 : fetch 125 709 = some (.dup, 710, 0, 0, 0, 0) := fr fe_X8_init_19 20 rfl
theorem i_X8_init_710 : fetch 125 710 = some (.bipush 73, 712, 0, 0, 0, 0) := fr fe_X8_init_19 21 rfl
theorem i_X8_init_712 : fetch 125 712 = some (.bipush 50, 714, 0, 0, 0, 0) := fr fe_X8_init_19 22 rfl
theorem i_X8_init_714 : fetch 125 714 = some (.iastore, 715, 0, 0, 0, 0) := fr fe_X8_init_19 23 rfl
theorem i_X8_init_715 : fetch 125 715 = some (.dup, 716, 0, 0, 0, 0) := fr fe_X8_init_19 24 rfl
theorem i_X8_init_716 : fetch 125 716 = some (.bipush 74, 718, 0, 0, 0, 0) := fr fe_X8_init_20 0 rfl
theorem i_X8_init_718 : fetch 125 718 = some (.bipush 32, 720, 0, 0, 0, 0) := fr fe_X8_init_20 1 rfl
theorem i_X8_init_720 : fetch 125 720 = some (.iastore, 721, 0, 0, 0, 0) := fr fe_X8_init_20 2 rfl
theorem i_X8_init_721 : fetch 125 721 = some (.dup, 722, 0, 0, 0, 0) := fr fe_X8_init_20 3 rfl
theorem i_X8_init_722 : fetch 125 722 = some (.bipush 75, 724, 0, 0, 0, 0) := fr fe_X8_init_20 4 rfl
theorem i_X8_init_724 : fetch 125 724 = some (.bipush 45, 726, 0, 0, 0, 0) := fr fe_X8_init_20 5 rfl
theorem i_X8_init_726 : fetch 125 726 = some (.iastore, 727, 0, 0, 0, 0) := fr fe_X8_init_20 6 rfl
theorem i_X8_init_727 : fetch 125 727 = some (.dup, 728, 0, 0, 0, 0) := fr fe_X8_init_20 7 rfl
theorem i_X8_init_728 : fetch 125 728 = some (.bipush 76, 730, 0, 0, 0, 0) := fr fe_X8_init_20 8 rfl
theorem i_X8_init_730 : fetch 125 730 = some (.bipush 32, 732, 0, 0, 0, 0) := fr fe_X8_init_20 9 rfl
theorem i_X8_init_732 : fetch 125 732 = some (.iastore, 733, 0, 0, 0, 0) := fr fe_X8_init_20 10 rfl
theorem i_X8_init_733 : fetch 125 733 = some (.dup, 734, 0, 0, 0, 0) := fr fe_X8_init_20 11 rfl
theorem i_X8_init_734 : fetch 125 734 = some (.bipush 77, 736, 0, 0, 0, 0) := fr fe_X8_init_20 12 rfl
theorem i_X8_init_736 : fetch 125 736 = some (.bipush 100, 738, 0, 0, 0, 0) := fr fe_X8_init_20 13 rfl
theorem i_X8_init_738 : fetch 125 738 = some (.iastore, 739, 0, 0, 0, 0) := fr fe_X8_init_20 14 rfl
theorem i_X8_init_739 : fetch 125 739 = some (.dup, 740, 0, 0, 0, 0) := fr fe_X8_init_20 15 rfl
theorem i_X8_init_740 : fetch 125 740 = some (.bipush 78, 742, 0, 0, 0, 0) := fr fe_X8_init_20 16 rfl
theorem i_X8_init_742 : fetch 125 742 = some (.bipush 117, 744, 0, 0, 0, 0) := fr fe_X8_init_20 17 rfl
theorem i_X8_init_744 : fetch 125 744 = some (.iastore, 745, 0, 0, 0, 0) := fr fe_X8_init_20 18 rfl
theorem i_X8_init_745 : fetch 125 745 = some (.dup, 746, 0, 0, 0, 0) := fr fe_X8_init_20 19 rfl
theorem i_X8_init_746 : fetch 125 746 = some (.bipush 79, 748, 0, 0, 0, 0) := fr fe_X8_init_20 20 rfl
theorem i_X8_init_748 : fetch 125 748 = some (.bipush 115, 750, 0, 0, 0, 0) := fr fe_X8_init_20 21 rfl
theorem i_X8_init_750 : fetch 125 750 = some (.iastore, 751, 0, 0, 0, 0) := fr fe_X8_init_20 22 rfl
theorem i_X8_init_751 : fetch 125 751 = some (.dup, 752, 0, 0, 0, 0) := fr fe_X8_init_20 23 rfl
theorem i_X8_init_752 : fetch 125 752 = some (.bipush 80, 754, 0, 0, 0, 0) := fr fe_X8_init_20 24 rfl
theorem i_X8_init_754 : fetch 125 754 = some (.bipush 116, 756, 0, 0, 0, 0) := fr fe_X8_init_21 0 rfl
theorem i_X8_init_756 : fetch 125 756 = some (.iastore, 757, 0, 0, 0, 0) := fr fe_X8_init_21 1 rfl
theorem i_X8_init_757 : fetch 125 757 = some (.dup, 758, 0, 0, 0, 0) := fr fe_X8_init_21 2 rfl
theorem i_X8_init_758 : fetch 125 758 = some (.bipush 81, 760, 0, 0, 0, 0) := fr fe_X8_init_21 3 rfl
theorem i_X8_init_760 : fetch 125 760 = some (.bipush 32, 762, 0, 0, 0, 0) := fr fe_X8_init_21 4 rfl
theorem i_X8_init_762 : fetch 125 762 = some (.iastore, 763, 0, 0, 0, 0) := fr fe_X8_init_21 5 rfl
theorem i_X8_init_763 : fetch 125 763 = some (.dup, 764, 0, 0, 0, 0) := fr fe_X8_init_21 6 rfl
theorem i_X8_init_764 : fetch 125 764 = some (.bipush 82, 766, 0, 0, 0, 0) := fr fe_X8_init_21 7 rfl
theorem i_X8_init_766 : fetch 125 766 = some (.bipush 59, 768, 0, 0, 0, 0) := fr fe_X8_init_21 8 rfl
theorem i_X8_init_768 : fetch 125 768 = some (.iastore, 769, 0, 0, 0, 0) := fr fe_X8_init_21 9 rfl
theorem i_X8_init_769 : fetch 125 769 = some (.putfield 60, 772, 8, 25, 0, 1102) := fr fe_X8_init_21 10 rfl
theorem i_X8_init_772 : fetch 125 772 = some (.aload_n 0, 773, 0, 0, 0, 0) := fr fe_X8_init_21 11 rfl
theorem i_X8_init_773 : fetch 125 773 = some (.bipush 96, 775, 0, 0, 0, 0) := fr fe_X8_init_21 12 rfl
theorem i_X8_init_775 : fetch 125 775 = some (.newarray .int, 777, 9, 0, 0, 0) := fr fe_X8_init_21 13 rfl
theorem i_X8_init_777 : fetch 125 777 = some (.dup, 778, 0, 0, 0, 0) := fr fe_X8_init_21 14 rfl
theorem i_X8_init_778 : fetch 125 778 = some (.iconst 0, 779, 0, 0, 0, 0) := fr fe_X8_init_21 15 rfl
theorem i_X8_init_779 : fetch 125 779 = some (.bipush 100, 781, 0, 0, 0, 0) := fr fe_X8_init_21 16 rfl
theorem i_X8_init_781 : fetch 125 781 = some (.iastore, 782, 0, 0, 0, 0) := fr fe_X8_init_21 17 rfl
theorem i_X8_init_782 : fetch 125 782 = some (.dup, 783, 0, 0, 0, 0) := fr fe_X8_init_21 18 rfl
theorem i_X8_init_783 : fetch 125 783 = some (.iconst 1, 784, 0, 0, 0, 0) := fr fe_X8_init_21 19 rfl
theorem i_X8_init_784 : fetch 125 784 = some (.bipush 114, 786, 0, 0, 0, 0) := fr fe_X8_init_21 20 rfl
theorem i_X8_init_786 : fetch 125 786 = some (.iastore, 787, 0, 0, 0, 0) := fr fe_X8_init_21 21 rfl
theorem i_X8_init_787 : fetch 125 787 = some (.dup, 788, 0, 0, 0, 0) := fr fe_X8_init_21 22 rfl
theorem i_X8_init_788 : fetch 125 788 = some (.iconst 2, 789, 0, 0, 0, 0) := fr fe_X8_init_21 23 rfl
theorem i_X8_init_789 : fetch 125 789 = some (.bipush 97, 791, 0, 0, 0, 0) := fr fe_X8_init_21 24 rfl
theorem i_X8_init_791 : fetch 125 791 = some (.iastore, 792, 0, 0, 0, 0) := fr fe_X8_init_22 0 rfl
theorem i_X8_init_792 : fetch 125 792 = some (.dup, 793, 0, 0, 0, 0) := fr fe_X8_init_22 1 rfl
theorem i_X8_init_793 : fetch 125 793 = some (.iconst 3, 794, 0, 0, 0, 0) := fr fe_X8_init_22 2 rfl
theorem i_X8_init_794 : fetch 125 794 = some (.bipush 119, 796, 0, 0, 0, 0) := fr fe_X8_init_22 3 rfl
theorem i_X8_init_796 : fetch 125 796 = some (.iastore, 797, 0, 0, 0, 0) := fr fe_X8_init_22 4 rfl
theorem i_X8_init_797 : fetch 125 797 = some (.dup, 798, 0, 0, 0, 0) := fr fe_X8_init_22 5 rfl
theorem i_X8_init_798 : fetch 125 798 = some (.iconst 4, 799, 0, 0, 0, 0) := fr fe_X8_init_22 6 rfl
theorem i_X8_init_799 : fetch 125 799 = some (.bipush 32, 801, 0, 0, 0, 0) := fr fe_X8_init_22 7 rfl
theorem i_X8_init_801 : fetch 125 801 = some (.iastore, 802, 0, 0, 0, 0) := fr fe_X8_init_22 8 rfl
theorem i_X8_init_802 : fetch 125 802 = some (.dup, 803, 0, 0, 0, 0) := fr fe_X8_init_22 9 rfl
theorem i_X8_init_803 : fetch 125 803 = some (.iconst 5, 804, 0, 0, 0, 0) := fr fe_X8_init_22 10 rfl
theorem i_X8_init_804 : fetch 125 804 = some (.bipush 32, 806, 0, 0, 0, 0) := fr fe_X8_init_22 11 rfl
theorem i_X8_init_806 : fetch 125 806 = some (.iastore, 807, 0, 0, 0, 0) := fr fe_X8_init_22 12 rfl
theorem i_X8_init_807 : fetch 125 807 = some (.dup, 808, 0, 0, 0, 0) := fr fe_X8_init_22 13 rfl
theorem i_X8_init_808 : fetch 125 808 = some (.bipush 6, 810, 0, 0, 0, 0) := fr fe_X8_init_22 14 rfl
theorem i_X8_init_810 : fetch 125 810 = some (.bipush 32, 812, 0, 0, 0, 0) := fr fe_X8_init_22 15 rfl
theorem i_X8_init_812 : fetch 125 812 = some (.iastore, 813, 0, 0, 0, 0) := fr fe_X8_init_22 16 rfl
theorem i_X8_init_813 : fetch 125 813 = some (.dup, 814, 0, 0, 0, 0) := fr fe_X8_init_22 17 rfl
theorem i_X8_init_814 : fetch 125 814 = some (.bipush 7, 816, 0, 0, 0, 0) := fr fe_X8_init_22 18 rfl
theorem i_X8_init_816 : fetch 125 816 = some (.bipush 32, 818, 0, 0, 0, 0) := fr fe_X8_init_22 19 rfl
theorem i_X8_init_818 : fetch 125 818 = some (.iastore, 819, 0, 0, 0, 0) := fr fe_X8_init_22 20 rfl
theorem i_X8_init_819 : fetch 125 819 = some (.dup, 820, 0, 0, 0, 0) := fr fe_X8_init_22 21 rfl
theorem i_X8_init_820 : fetch 125 820 = some (.bipush 8, 822, 0, 0, 0, 0) := fr fe_X8_init_22 22 rfl
theorem i_X8_init_822 : fetch 125 822 = some (.bipush 116, 824, 0, 0, 0, 0) := fr fe_X8_init_22 23 rfl
theorem i_X8_init_824 : fetch 125 824 = some (.iastore, 825, 0, 0, 0, 0) := fr fe_X8_init_22 24 rfl
theorem i_X8_init_825 : fetch 125 825 = some (.dup, 826, 0, 0, 0, 0) := fr fe_X8_init_23 0 rfl
theorem i_X8_init_826 : fetch 125 826 = some (.bipush 9, 828, 0, 0, 0, 0) := fr fe_X8_init_23 1 rfl
theorem i_X8_init_828 : fetch 125 828 = some (.bipush 101, 830, 0, 0, 0, 0) := fr fe_X8_init_23 2 rfl
theorem i_X8_init_830 : fetch 125 830 = some (.iastore, 831, 0, 0, 0, 0) := fr fe_X8_init_23 3 rfl
theorem i_X8_init_831 : fetch 125 831 = some (.dup, 832, 0, 0, 0, 0) := fr fe_X8_init_23 4 rfl
theorem i_X8_init_832 : fetch 125 832 = some (.bipush 10, 834, 0, 0, 0, 0) := fr fe_X8_init_23 5 rfl
theorem i_X8_init_834 : fetch 125 834 = some (.bipush 97, 836, 0, 0, 0, 0) := fr fe_X8_init_23 6 rfl
theorem i_X8_init_836 : fetch 125 836 = some (.iastore, 837, 0, 0, 0, 0) := fr fe_X8_init_23 7 rfl
theorem i_X8_init_837 : fetch 125 837 = some (.dup, 838, 0, 0, 0, 0) := fr fe_X8_init_23 8 rfl
theorem i_X8_init_838 : fetch 125 838 = some (.bipush 11, 840, 0, 0, 0, 0) := fr fe_X8_init_23 9 rfl
theorem i_X8_init_840 : fetch 125 840 = some (.bipush 114, 842, 0, 0, 0, 0) := fr fe_X8_init_23 10 rfl
theorem i_X8_init_842 : fetch 125 842 = some (.iastore, 843, 0, 0, 0, 0) := fr fe_X8_init_23 11 rfl
theorem i_X8_init_843 : fetch 125 843 = some (.dup, 844, 0, 0, 0, 0) := fr fe_X8_init_23 12 rfl
theorem i_X8_init_844 : fetch 125 844 = some (.bipush 12, 846, 0, 0, 0, 0) := fr fe_X8_init_23 13 rfl
theorem i_X8_init_846 : fetch 125 846 = some (.bipush 115, 848, 0, 0, 0, 0) := fr fe_X8_init_23 14 rfl
theorem i_X8_init_848 : fetch 125 848 = some (.iastore, 849, 0, 0, 0, 0) := fr fe_X8_init_23 15 rfl
theorem i_X8_init_849 : fetch 125 849 = some (.dup, 850, 0, 0, 0, 0) := fr fe_X8_init_23 16 rfl
theorem i_X8_init_850 : fetch 125 850 = some (.bipush 13, 852, 0, 0, 0, 0) := fr fe_X8_init_23 17 rfl
theorem i_X8_init_852 : fetch 125 852 = some (.bipush 32, 854, 0, 0, 0, 0) := fr fe_X8_init_23 18 rfl
theorem i_X8_init_854 : fetch 125 854 = some (.iastore, 855, 0, 0, 0, 0) := fr fe_X8_init_23 19 rfl
theorem i_X8_init_855 : fetch 125 855 = some (.dup, 856, 0, 0, 0, 0) := fr fe_X8_init_23 20 rfl
theorem i_X8_init_856 : fetch 125 856 = some (.bipush 14, 858, 0, 0, 0, 0) := fr fe_X8_init_23 21 rfl
theorem i_X8_init_858 : fetch 125 858 = some (.bipush 32, 860, 0, 0, 0, 0) := fr fe_X8_init_23 22 rfl
theorem i_X8_init_860 : fetch 125 860 = some (.iastore, 861, 0, 0, 0, 0) := fr fe_X8_init_23 23 rfl
theorem i_X8_init_861 : fetch 125 861 = some (.dup, 862, 0, 0, 0, 0) := fr fe_X8_init_23 24 rfl
theorem i_X8_init_862 : fetch 125 862 = some (.bipush 15, 864, 0, 0, 0, 0) := fr fe_X8_init_24 0 rfl
theorem i_X8_init_864 : fetch 125 864 = some (.bipush 32, 866, 0, 0, 0, 0) := fr fe_X8_init_24 1 rfl
theorem i_X8_init_866 : fetch 125 866 = some (.iastore, 867, 0, 0, 0, 0) := fr fe_X8_init_24 2 rfl
theorem i_X8_init_867 : fetch 125 867 = some (.dup, 868, 0, 0, 0, 0) := fr fe_X8_init_24 3 rfl
theorem i_X8_init_868 : fetch 125 868 = some (.bipush 16, 870, 0, 0, 0, 0) := fr fe_X8_init_24 4 rfl
theorem i_X8_init_870 : fetch 125 870 = some (.bipush 115, 872, 0, 0, 0, 0) := fr fe_X8_init_24 5 rfl
theorem i_X8_init_872 : fetch 125 872 = some (.iastore, 873, 0, 0, 0, 0) := fr fe_X8_init_24 6 rfl
theorem i_X8_init_873 : fetch 125 873 = some (.dup, 874, 0, 0, 0, 0) := fr fe_X8_init_24 7 rfl
theorem i_X8_init_874 : fetch 125 874 = some (.bipush 17, 876, 0, 0, 0, 0) := fr fe_X8_init_24 8 rfl
theorem i_X8_init_876 : fetch 125 876 = some (.bipush 116, 878, 0, 0, 0, 0) := fr fe_X8_init_24 9 rfl
theorem i_X8_init_878 : fetch 125 878 = some (.iastore, 879, 0, 0, 0, 0) := fr fe_X8_init_24 10 rfl
theorem i_X8_init_879 : fetch 125 879 = some (.dup, 880, 0, 0, 0, 0) := fr fe_X8_init_24 11 rfl
theorem i_X8_init_880 : fetch 125 880 = some (.bipush 18, 882, 0, 0, 0, 0) := fr fe_X8_init_24 12 rfl
theorem i_X8_init_882 : fetch 125 882 = some (.bipush 105, 884, 0, 0, 0, 0) := fr fe_X8_init_24 13 rfl
theorem i_X8_init_884 : fetch 125 884 = some (.iastore, 885, 0, 0, 0, 0) := fr fe_X8_init_24 14 rfl
theorem i_X8_init_885 : fetch 125 885 = some (.dup, 886, 0, 0, 0, 0) := fr fe_X8_init_24 15 rfl
theorem i_X8_init_886 : fetch 125 886 = some (.bipush 19, 888, 0, 0, 0, 0) := fr fe_X8_init_24 16 rfl
theorem i_X8_init_888 : fetch 125 888 = some (.bipush 99, 890, 0, 0, 0, 0) := fr fe_X8_init_24 17 rfl
theorem i_X8_init_890 : fetch 125 890 = some (.iastore, 891, 0, 0, 0, 0) := fr fe_X8_init_24 18 rfl
theorem i_X8_init_891 : fetch 125 891 = some (.dup, 892, 0, 0, 0, 0) := fr fe_X8_init_24 19 rfl
theorem i_X8_init_892 : fetch 125 892 = some (.bipush 20, 894, 0, 0, 0, 0) := fr fe_X8_init_24 20 rfl
theorem i_X8_init_894 : fetch 125 894 = some (.bipush 107, 896, 0, 0, 0, 0) := fr fe_X8_init_24 21 rfl
theorem i_X8_init_896 : fetch 125 896 = some (.iastore, 897, 0, 0, 0, 0) := fr fe_X8_init_24 22 rfl
theorem i_X8_init_897 : fetch 125 897 = some (.dup, 898, 0, 0, 0, 0) := fr fe_X8_init_24 23 rfl
theorem i_X8_init_898 : fetch 125 898 = some (.bipush 21, 900, 0, 0, 0, 0) := fr fe_X8_init_24 24 rfl
theorem i_X8_init_900 : fetch 125 900 = some (.bipush 115, 902, 0, 0, 0, 0) := fr fe_X8_init_25 0 rfl
theorem i_X8_init_902 : fetch 125 902 = some (.iastore, 903, 0, 0, 0, 0) := fr fe_X8_init_25 1 rfl
theorem i_X8_init_903 : fetch 125 903 = some (.dup, 904, 0, 0, 0, 0) := fr fe_X8_init_25 2 rfl
theorem i_X8_init_904 : fetch 125 904 = some (.bipush 22, 906, 0, 0, 0, 0) := fr fe_X8_init_25 3 rfl
theorem i_X8_init_906 : fetch 125 906 = some (.bipush 32, 908, 0, 0, 0, 0) := fr fe_X8_init_25 4 rfl
theorem i_X8_init_908 : fetch 125 908 = some (.iastore, 909, 0, 0, 0, 0) := fr fe_X8_init_25 5 rfl
theorem i_X8_init_909 : fetch 125 909 = some (.dup, 910, 0, 0, 0, 0) := fr fe_X8_init_25 6 rfl
theorem i_X8_init_910 : fetch 125 910 = some (.bipush 23, 912, 0, 0, 0, 0) := fr fe_X8_init_25 7 rfl
theorem i_X8_init_912 : fetch 125 912 = some (.bipush 32, 914, 0, 0, 0, 0) := fr fe_X8_init_25 8 rfl
theorem i_X8_init_914 : fetch 125 914 = some (.iastore, 915, 0, 0, 0, 0) := fr fe_X8_init_25 9 rfl
theorem i_X8_init_915 : fetch 125 915 = some (.dup, 916, 0, 0, 0, 0) := fr fe_X8_init_25 10 rfl
theorem i_X8_init_916 : fetch 125 916 = some (.bipush 24, 918, 0, 0, 0, 0) := fr fe_X8_init_25 11 rfl
theorem i_X8_init_918 : fetch 125 918 = some (.bipush 119, 920, 0, 0, 0, 0) := fr fe_X8_init_25 12 rfl
theorem i_X8_init_920 : fetch 125 920 = some (.iastore, 921, 0, 0, 0, 0) := fr fe_X8_init_25 13 rfl
theorem i_X8_init_921 : fetch 125 921 = some (.dup, 922, 0, 0, 0, 0) := fr fe_X8_init_25 14 rfl
theorem i_X8_init_922 : fetch 125 922 = some (.bipush 25, 924, 0, 0, 0, 0) := fr fe_X8_init_25 15 rfl
theorem i_X8_init_924 : fetch 125 924 = some (.bipush 101, 926, 0, 0, 0, 0) := fr fe_X8_init_25 16 rfl
theorem i_X8_init_926 : fetch 125 926 = some (.iastore, 927, 0, 0, 0, 0) := fr fe_X8_init_25 17 rfl
theorem i_X8_init_927 : fetch 125 927 = some (.dup, 928, 0, 0, 0, 0) := fr fe_X8_init_25 18 rfl
theorem i_X8_init_928 : fetch 125 928 = some (.bipush 26, 930, 0, 0, 0, 0) := fr fe_X8_init_25 19 rfl
theorem i_X8_init_930 : fetch 125 930 = some (.bipush 116, 932, 0, 0, 0, 0) := fr fe_X8_init_25 20 rfl
theorem i_X8_init_932 : fetch 125 932 = some (.iastore, 933, 0, 0, 0, 0) := fr fe_X8_init_25 21 rfl
theorem i_X8_init_933 : fetch 125 933 = some (.dup, 934, 0, 0, 0, 0) := fr fe_X8_init_25 22 rfl
theorem i_X8_init_934 : fetch 125 934 = some (.bipush 27, 936, 0, 0, 0, 0) := fr fe_X8_init_25 23 rfl
theorem i_X8_init_936 : fetch 125 936 = some (.bipush 32, 938, 0, 0, 0, 0) := fr fe_X8_init_25 24 rfl
theorem i_X8_init_938 : fetch 125 938 = some (.iastore, 939, 0, 0, 0, 0) := fr fe_X8_init_26 0 rfl
theorem i_X8_init_939 : fetch 125 939 = some (.dup, 940, 0, 0, 0, 0) := fr fe_X8_init_26 1 rfl
theorem i_X8_init_940 : fetch 125 940 = some (.bipush 28, 942, 0, 0, 0, 0) := fr fe_X8_init_26 2 rfl
theorem i_X8_init_942 : fetch 125 942 = some (.bipush 32, 944, 0, 0, 0, 0) := fr fe_X8_init_26 3 rfl
theorem i_X8_init_944 : fetch 125 944 = some (.iastore, 945, 0, 0, 0, 0) := fr fe_X8_init_26 4 rfl
theorem i_X8_init_945 : fetch 125 945 = some (.dup, 946, 0, 0, 0, 0) := fr fe_X8_init_26 5 rfl
theorem i_X8_init_946 : fetch 125 946 = some (.bipush 29, 948, 0, 0, 0, 0) := fr fe_X8_init_26 6 rfl
theorem i_X8_init_948 : fetch 125 948 = some (.bipush 32, 950, 0, 0, 0, 0) := fr fe_X8_init_26 7 rfl
theorem i_X8_init_950 : fetch 125 950 = some (.iastore, 951, 0, 0, 0, 0) := fr fe_X8_init_26 8 rfl
theorem i_X8_init_951 : fetch 125 951 = some (.dup, 952, 0, 0, 0, 0) := fr fe_X8_init_26 9 rfl
theorem i_X8_init_952 : fetch 125 952 = some (.bipush 30, 954, 0, 0, 0, 0) := fr fe_X8_init_26 10 rfl
theorem i_X8_init_954 : fetch 125 954 = some (.bipush 32, 956, 0, 0, 0, 0) := fr fe_X8_init_26 11 rfl
theorem i_X8_init_956 : fetch 125 956 = some (.iastore, 957, 0, 0, 0, 0) := fr fe_X8_init_26 12 rfl
theorem i_X8_init_957 : fetch 125 957 = some (.dup, 958, 0, 0, 0, 0) := fr fe_X8_init_26 13 rfl
theorem i_X8_init_958 : fetch 125 958 = some (.bipush 31, 960, 0, 0, 0, 0) := fr fe_X8_init_26 14 rfl
theorem i_X8_init_960 : fetch 125 960 = some (.bipush 32, 962, 0, 0, 0, 0) := fr fe_X8_init_26 15 rfl
theorem i_X8_init_962 : fetch 125 962 = some (.iastore, 963, 0, 0, 0, 0) := fr fe_X8_init_26 16 rfl
theorem i_X8_init_963 : fetch 125 963 = some (.dup, 964, 0, 0, 0, 0) := fr fe_X8_init_26 17 rfl
theorem i_X8_init_964 : fetch 125 964 = some (.bipush 32, 966, 0, 0, 0, 0) := fr fe_X8_init_26 18 rfl
theorem i_X8_init_966 : fetch 125 966 = some (.bipush 116, 968, 0, 0, 0, 0) := fr fe_X8_init_26 19 rfl
theorem i_X8_init_968 : fetch 125 968 = some (.iastore, 969, 0, 0, 0, 0) := fr fe_X8_init_26 20 rfl
theorem i_X8_init_969 : fetch 125 969 = some (.dup, 970, 0, 0, 0, 0) := fr fe_X8_init_26 21 rfl
theorem i_X8_init_970 : fetch 125 970 = some (.bipush 33, 972, 0, 0, 0, 0) := fr fe_X8_init_26 22 rfl
theorem i_X8_init_972 : fetch 125 972 = some (.bipush 104, 974, 0, 0, 0, 0) := fr fe_X8_init_26 23 rfl
theorem i_X8_init_974 : fetch 125 974 = some (.iastore, 975, 0, 0, 0, 0) := fr fe_X8_init_26 24 rfl
theorem i_X8_init_975 : fetch 125 975 = some (.dup, 976, 0, 0, 0, 0) := fr fe_X8_init_27 0 rfl
theorem i_X8_init_976 : fetch 125 976 = some (.bipush 34, 978, 0, 0, 0, 0) := fr fe_X8_init_27 1 rfl
theorem i_X8_init_978 : fetch 125 978 = some (.bipush 105, 980, 0, 0, 0, 0) := fr fe_X8_init_27 2 rfl
theorem i_X8_init_980 : fetch 125 980 = some (.iastore, 981, 0, 0, 0, 0) := fr fe_X8_init_27 3 rfl
theorem i_X8_init_981 : fetch 125 981 = some (.dup, 982, 0, 0, 0, 0) := fr fe_X8_init_27 4 rfl
theorem i_X8_init_982 : fetch 125 982 = some (.bipush 35, 984, 0, 0, 0, 0) := fr fe_X8_init_27 5 rfl
theorem i_X8_init_984 : fetch 125 984 = some (.bipush 99, 986, 0, 0, 0, 0) := fr fe_X8_init_27 6 rfl
theorem i_X8_init_986 : fetch 125 986 = some (.iastore, 987, 0, 0, 0, 0) := fr fe_X8_init_27 7 rfl
theorem i_X8_init_987 : fetch 125 987 = some (.dup, 988, 0, 0, 0, 0) := fr fe_X8_init_27 8 rfl
theorem i_X8_init_988 : fetch 125 988 = some (.bipush 36, 990, 0, 0, 0, 0) := fr fe_X8_init_27 9 rfl
theorem i_X8_init_990 : fetch 125 990 = some (.bipush 107, 992, 0, 0, 0, 0) := fr fe_X8_init_27 10 rfl
theorem i_X8_init_992 : fetch 125 992 = some (.iastore, 993, 0, 0, 0, 0) := fr fe_X8_init_27 11 rfl
theorem i_X8_init_993 : fetch 125 993 = some (.dup, 994, 0, 0, 0, 0) := fr fe_X8_init_27 12 rfl
theorem i_X8_init_994 : fetch 125 994 = some (.bipush 37, 996, 0, 0, 0, 0) := fr fe_X8_init_27 13 rfl
theorem i_X8_init_996 : fetch 125 996 = some (.bipush 32, 998, 0, 0, 0, 0) := fr fe_X8_init_27 14 rfl
theorem i_X8_init_998 : fetch 125 998 = some (.iastore, 999, 0, 0, 0, 0) := fr fe_X8_init_27 15 rfl
theorem i_X8_init_999 : fetch 125 999 = some (.dup, 1000, 0, 0, 0, 0) := fr fe_X8_init_27 16 rfl
theorem i_X8_init_1000 : fetch 125 1000 = some (.bipush 38, 1002, 0, 0, 0, 0) := fr fe_X8_init_27 17 rfl
theorem i_X8_init_1002 : fetch 125 1002 = some (.bipush 32, 1004, 0, 0, 0, 0) := fr fe_X8_init_27 18 rfl
theorem i_X8_init_1004 : fetch 125 1004 = some (.iastore, 1005, 0, 0, 0, 0) := fr fe_X8_init_27 19 rfl
theorem i_X8_init_1005 : fetch 125 1005 = some (.dup, 1006, 0, 0, 0, 0) := fr fe_X8_init_27 20 rfl
theorem i_X8_init_1006 : fetch 125 1006 = some (.bipush 39, 1008, 0, 0, 0, 0) := fr fe_X8_init_27 21 rfl
theorem i_X8_init_1008 : fetch 125 1008 = some (.bipush 32, 1010, 0, 0, 0, 0) := fr fe_X8_init_27 22 rfl
theorem i_X8_init_1010 : fetch 125 1010 = some (.iastore, 1011, 0, 0, 0, 0) := fr fe_X8_init_27 23 rfl
theorem i_X8_init_1011 : fetch 125 1011 = some (.dup, 1012, 0, 0, 0, 0) := fr fe_X8_init_27 24 rfl
theorem i_X8_init_1012 : fetch 125 1012 = some (.bipush 40, 1014, 0, 0, 0, 0) := fr fe_X8_init_28 0 rfl
theorem i_X8_init_1014 : fetch 125 1014 = some (.bipush 115, 1016, 0, 0, 0, 0) := fr fe_X8_init_28 1 rfl
theorem i_X8_init_1016 : fetch 125 1016 = some (.iastore, 1017, 0, 0, 0, 0) := fr fe_X8_init_28 2 rfl
theorem i_X8_init_1017 : fetch 125 1017 = some (.dup, 1018, 0, 0, 0, 0) := fr fe_X8_init_28 3 rfl
theorem i_X8_init_1018 : fetch 125 1018 = some (.bipush 41, 1020, 0, 0, 0, 0) := fr fe_X8_init_28 4 rfl
theorem i_X8_init_1020 : fetch 125 1020 = some (.bipush 116, 1022, 0, 0, 0, 0) := fr fe_X8_init_28 5 rfl
theorem i_X8_init_1022 : fetch 125 1022 = some (.iastore, 1023, 0, 0, 0, 0) := fr fe_X8_init_28 6 rfl
theorem i_X8_init_1023 : fetch 125 1023 = some (.dup, 1024, 0, 0, 0, 0) := fr fe_X8_init_28 7 rfl
theorem i_X8_init_1024 : fetch 125 1024 = some (.bipush 42, 1026, 0, 0, 0, 0) := fr fe_X8_init_28 8 rfl
theorem i_X8_init_1026 : fetch 125 1026 = some (.bipush 105, 1028, 0, 0, 0, 0) := fr fe_X8_init_28 9 rfl
theorem i_X8_init_1028 : fetch 125 1028 = some (.iastore, 1029, 0, 0, 0, 0) := fr fe_X8_init_28 10 rfl
theorem i_X8_init_1029 : fetch 125 1029 = some (.dup, 1030, 0, 0, 0, 0) := fr fe_X8_init_28 11 rfl
theorem i_X8_init_1030 : fetch 125 1030 = some (.bipush 43, 1032, 0, 0, 0, 0) := fr fe_X8_init_28 12 rfl
theorem i_X8_init_1032 : fetch 125 1032 = some (.bipush 102, 1034, 0, 0, 0, 0) := fr fe_X8_init_28 13 rfl
theorem i_X8_init_1034 : fetch 125 1034 = some (.iastore, 1035, 0, 0, 0, 0) := fr fe_X8_init_28 14 rfl
theorem i_X8_init_1035 : fetch 125 1035 = some (.dup, 1036, 0, 0, 0, 0) := fr fe_X8_init_28 15 rfl
theorem i_X8_init_1036 : fetch 125 1036 = some (.bipush 44, 1038, 0, 0, 0, 0) := fr fe_X8_init_28 16 rfl
theorem i_X8_init_1038 : fetch 125 1038 = some (.bipush 102, 1040, 0, 0, 0, 0) := fr fe_X8_init_28 17 rfl
theorem i_X8_init_1040 : fetch 125 1040 = some (.iastore, 1041, 0, 0, 0, 0) := fr fe_X8_init_28 18 rfl
theorem i_X8_init_1041 : fetch 125 1041 = some (.dup, 1042, 0, 0, 0, 0) := fr fe_X8_init_28 19 rfl
theorem i_X8_init_1042 : fetch 125 1042 = some (.bipush 45, 1044, 0, 0, 0, 0) := fr fe_X8_init_28 20 rfl
theorem i_X8_init_1044 : fetch 125 1044 = some (.bipush 32, 1046, 0, 0, 0, 0) := fr fe_X8_init_28 21 rfl
theorem i_X8_init_1046 : fetch 125 1046 = some (.iastore, 1047, 0, 0, 0, 0) := fr fe_X8_init_28 22 rfl
theorem i_X8_init_1047 : fetch 125 1047 = some (.dup, 1048, 0, 0, 0, 0) := fr fe_X8_init_28 23 rfl
theorem i_X8_init_1048 : fetch 125 1048 = some (.bipush 46, 1050, 0, 0, 0, 0) := fr fe_X8_init_28 24 rfl
theorem i_X8_init_1050 : fetch 125 1050 = some (.bipush 32, 1052, 0, 0, 0, 0) := fr fe_X8_init_29 0 rfl
theorem i_X8_init_1052 : fetch 125 1052 = some (.iastore, 1053, 0, 0, 0, 0) := fr fe_X8_init_29 1 rfl
theorem i_X8_init_1053 : fetch 125 1053 = some (.dup, 1054, 0, 0, 0, 0) := fr fe_X8_init_29 2 rfl
theorem i_X8_init_1054 : fetch 125 1054 = some (.bipush 47, 1056, 0, 0, 0, 0) := fr fe_X8_init_29 3 rfl
theorem i_X8_init_1056 : fetch 125 1056 = some (.bipush 32, 1058, 0, 0, 0, 0) := fr fe_X8_init_29 4 rfl
theorem i_X8_init_1058 : fetch 125 1058 = some (.iastore, 1059, 0, 0, 0, 0) := fr fe_X8_init_29 5 rfl
theorem i_X8_init_1059 : fetch 125 1059 = some (.dup, 1060, 0, 0, 0, 0) := fr fe_X8_init_29 6 rfl
theorem i_X8_init_1060 : fetch 125 1060 = some (.bipush 48, 1062, 0, 0, 0, 0) := fr fe_X8_init_29 7 rfl
theorem i_X8_init_1062 : fetch 125 1062 = some (.bipush 112, 1064, 0, 0, 0, 0) := fr fe_X8_init_29 8 rfl
theorem i_X8_init_1064 : fetch 125 1064 = some (.iastore, 1065, 0, 0, 0, 0) := fr fe_X8_init_29 9 rfl
theorem i_X8_init_1065 : fetch 125 1065 = some (.dup, 1066, 0, 0, 0, 0) := fr fe_X8_init_29 10 rfl
theorem i_X8_init_1066 : fetch 125 1066 = some (.bipush 49, 1068, 0, 0, 0, 0) := fr fe_X8_init_29 11 rfl
theorem i_X8_init_1068 : fetch 125 1068 = some (.bipush 97, 1070, 0, 0, 0, 0) := fr fe_X8_init_29 12 rfl
theorem i_X8_init_1070 : fetch 125 1070 = some (.iastore, 1071, 0, 0, 0, 0) := fr fe_X8_init_29 13 rfl
theorem i_X8_init_1071 : fetch 125 1071 = some (.dup, 1072, 0, 0, 0, 0) := fr fe_X8_init_29 14 rfl
theorem i_X8_init_1072 : fetch 125 1072 = some (.bipush 50, 1074, 0, 0, 0, 0) := fr fe_X8_init_29 15 rfl
theorem i_X8_init_1074 : fetch 125 1074 = some (.bipush 99, 1076, 0, 0, 0, 0) := fr fe_X8_init_29 16 rfl
theorem i_X8_init_1076 : fetch 125 1076 = some (.iastore, 1077, 0, 0, 0, 0) := fr fe_X8_init_29 17 rfl
theorem i_X8_init_1077 : fetch 125 1077 = some (.dup, 1078, 0, 0, 0, 0) := fr fe_X8_init_29 18 rfl
theorem i_X8_init_1078 : fetch 125 1078 = some (.bipush 51, 1080, 0, 0, 0, 0) := fr fe_X8_init_29 19 rfl
theorem i_X8_init_1080 : fetch 125 1080 = some (.bipush 101, 1082, 0, 0, 0, 0) := fr fe_X8_init_29 20 rfl
theorem i_X8_init_1082 : fetch 125 1082 = some (.iastore, 1083, 0, 0, 0, 0) := fr fe_X8_init_29 21 rfl
theorem i_X8_init_1083 : fetch 125 1083 = some (.dup, 1084, 0, 0, 0, 0) := fr fe_X8_init_29 22 rfl
theorem i_X8_init_1084 : fetch 125 1084 = some (.bipush 52, 1086, 0, 0, 0, 0) := fr fe_X8_init_29 23 rfl
theorem i_X8_init_1086 : fetch 125 1086 = some (.bipush 32, 1088, 0, 0, 0, 0) := fr fe_X8_init_29 24 rfl
theorem i_X8_init_1088 : fetch 125 1088 = some (.iastore, 1089, 0, 0, 0, 0) := fr fe_X8_init_30 0 rfl
theorem i_X8_init_1089 : fetch 125 1089 = some (.dup, 1090, 0, 0, 0, 0) := fr fe_X8_init_30 1 rfl
theorem i_X8_init_1090 : fetch 125 1090 = some (.bipush 53, 1092, 0, 0, 0, 0) := fr fe_X8_init_30 2 rfl
theorem i_X8_init_1092 : fetch 125 1092 = some (.bipush 32, 1094, 0, 0, 0, 0) := fr fe_X8_init_30 3 rfl
theorem i_X8_init_1094 : fetch 125 1094 = some (.iastore, 1095, 0, 0, 0, 0) := fr fe_X8_init_30 4 rfl
theorem i_X8_init_1095 : fetch 125 1095 = some (.dup, 1096, 0, 0, 0, 0) := fr fe_X8_init_30 5 rfl
theorem i_X8_init_1096 : fetch 125 1096 = some (.bipush 54, 1098, 0, 0, 0, 0) := fr fe_X8_init_30 6 rfl
theorem i_X8_init_1098 : fetch 125 1098 = some (.bipush 32, 1100, 0, 0, 0, 0) := fr fe_X8_init_30 7 rfl
theorem i_X8_init_1100 : fetch 125 1100 = some (.iastore, 1101, 0, 0, 0, 0) := fr fe_X8_init_30 8 rfl
theorem i_X8_init_1101 : fetch 125 1101 = some (.dup, 1102, 0, 0, 0, 0) := fr fe_X8_init_30 9 rfl
theorem i_X8_init_1102 : fetch 125 1102 = some (.bipush 55, 1104, 0, 0, 0, 0) := fr fe_X8_init_30 10 rfl
theorem i_X8_init_1104 : fetch 125 1104 = some (.bipush 32, 1106, 0, 0, 0, 0) := fr fe_X8_init_30 11 rfl
theorem i_X8_init_1106 : fetch 125 1106 = some (.iastore, 1107, 0, 0, 0, 0) := fr fe_X8_init_30 12 rfl
theorem i_X8_init_1107 : fetch 125 1107 = some (.dup, 1108, 0, 0, 0, 0) := fr fe_X8_init_30 13 rfl
theorem i_X8_init_1108 : fetch 125 1108 = some (.bipush 56, 1110, 0, 0, 0, 0) := fr fe_X8_init_30 14 rfl
theorem i_X8_init_1110 : fetch 125 1110 = some (.bipush 102, 1112, 0, 0, 0, 0) := fr fe_X8_init_30 15 rfl
theorem i_X8_init_1112 : fetch 125 1112 = some (.iastore, 1113, 0, 0, 0, 0) := fr fe_X8_init_30 16 rfl
theorem i_X8_init_1113 : fetch 125 1113 = some (.dup, 1114, 0, 0, 0, 0) := fr fe_X8_init_30 17 rfl
theorem i_X8_init_1114 : fetch 125 1114 = some (.bipush 57, 1116, 0, 0, 0, 0) := fr fe_X8_init_30 18 rfl
theorem i_X8_init_1116 : fetch 125 1116 = some (.bipush 111, 1118, 0, 0, 0, 0) := fr fe_X8_init_30 19 rfl
theorem i_X8_init_1118 : fetch 125 1118 = some (.iastore, 1119, 0, 0, 0, 0) := fr fe_X8_init_30 20 rfl
theorem i_X8_init_1119 : fetch 125 1119 = some (.dup, 1120, 0, 0, 0, 0) := fr fe_X8_init_30 21 rfl
theorem i_X8_init_1120 : fetch 125 1120 = some (.bipush 58, 1122, 0, 0, 0, 0) := fr fe_X8_init_30 22 rfl
theorem i_X8_init_1122 : fetch 125 1122 = some (.bipush 108, 1124, 0, 0, 0, 0) := fr fe_X8_init_30 23 rfl
theorem i_X8_init_1124 : fetch 125 1124 = some (.iastore, 1125, 0, 0, 0, 0) := fr fe_X8_init_30 24 rfl
theorem i_X8_init_1125 : fetch 125 1125 = some (.dup, 1126, 0, 0, 0, 0) := fr fe_X8_init_31 0 rfl
theorem i_X8_init_1126 : fetch 125 1126 = some (.bipush 59, 1128, 0, 0, 0, 0) := fr fe_X8_init_31 1 rfl
theorem i_X8_init_1128 : fetch 125 1128 = some (.bipush 100, 1130, 0, 0, 0, 0) := fr fe_X8_init_31 2 rfl
theorem i_X8_init_1130 : fetch 125 1130 = some (.iastore, 1131, 0, 0, 0, 0) := fr fe_X8_init_31 3 rfl
theorem i_X8_init_1131 : fetch 125 1131 = some (.dup, 1132, 0, 0, 0, 0) := fr fe_X8_init_31 4 rfl
theorem i_X8_init_1132 : fetch 125 1132 = some (.bipush 60, 1134, 0, 0, 0, 0) := fr fe_X8_init_31 5 rfl
theorem i_X8_init_1134 : fetch 125 1134 = some (.bipush 115, 1136, 0, 0, 0, 0) := fr fe_X8_init_31 6 rfl
theorem i_X8_init_1136 : fetch 125 1136 = some (.iastore, 1137, 0, 0, 0, 0) := fr fe_X8_init_31 7 rfl
theorem i_X8_init_1137 : fetch 125 1137 = some (.dup, 1138, 0, 0, 0, 0) := fr fe_X8_init_31 8 rfl
theorem i_X8_init_1138 : fetch 125 1138 = some (.bipush 61, 1140, 0, 0, 0, 0) := fr fe_X8_init_31 9 rfl
theorem i_X8_init_1140 : fetch 125 1140 = some (.bipush 32, 1142, 0, 0, 0, 0) := fr fe_X8_init_31 10 rfl
theorem i_X8_init_1142 : fetch 125 1142 = some (.iastore, 1143, 0, 0, 0, 0) := fr fe_X8_init_31 11 rfl
theorem i_X8_init_1143 : fetch 125 1143 = some (.dup, 1144, 0, 0, 0, 0) := fr fe_X8_init_31 12 rfl
theorem i_X8_init_1144 : fetch 125 1144 = some (.bipush 62, 1146, 0, 0, 0, 0) := fr fe_X8_init_31 13 rfl
theorem i_X8_init_1146 : fetch 125 1146 = some (.bipush 32, 1148, 0, 0, 0, 0) := fr fe_X8_init_31 14 rfl
theorem i_X8_init_1148 : fetch 125 1148 = some (.iastore, 1149, 0, 0, 0, 0) := fr fe_X8_init_31 15 rfl
theorem i_X8_init_1149 : fetch 125 1149 = some (.dup, 1150, 0, 0, 0, 0) := fr fe_X8_init_31 16 rfl
theorem i_X8_init_1150 : fetch 125 1150 = some (.bipush 63, 1152, 0, 0, 0, 0) := fr fe_X8_init_31 17 rfl
theorem i_X8_init_1152 : fetch 125 1152 = some (.bipush 32, 1154, 0, 0, 0, 0) := fr fe_X8_init_31 18 rfl
theorem i_X8_init_1154 : fetch 125 1154 = some (.iastore, 1155, 0, 0, 0, 0) := fr fe_X8_init_31 19 rfl
theorem i_X8_init_1155 : fetch 125 1155 = some (.dup, 1156, 0, 0, 0, 0) := fr fe_X8_init_31 20 rfl
theorem i_X8_init_1156 : fetch 125 1156 = some (.bipush 64, 1158, 0, 0, 0, 0) := fr fe_X8_init_31 21 rfl
theorem i_X8_init_1158 : fetch 125 1158 = some (.bipush 100, 1160, 0, 0, 0, 0) := fr fe_X8_init_31 22 rfl
theorem i_X8_init_1160 : fetch 125 1160 = some (.iastore, 1161, 0, 0, 0, 0) := fr fe_X8_init_31 23 rfl
theorem i_X8_init_1161 : fetch 125 1161 = some (.dup, 1162, 0, 0, 0, 0) := fr fe_X8_init_31 24 rfl
theorem i_X8_init_1162 : fetch 125 1162 = some (.bipush 65, 1164, 0, 0, 0, 0) := fr fe_X8_init_32 0 rfl
theorem i_X8_init_1164 : fetch 125 1164 = some (.bipush 117, 1166, 0, 0, 0, 0) := fr fe_X8_init_32 1 rfl
theorem i_X8_init_1166 : fetch 125 1166 = some (.iastore, 1167, 0, 0, 0, 0) := fr fe_X8_init_32 2 rfl
theorem i_X8_init_1167 : fetch 125 1167 = some (.dup, 1168, 0, 0, 0, 0) := fr fe_X8_init_32 3 rfl
theorem i_X8_init_1168 : fetch 125 1168 = some (.bipush 66, 1170, 0, 0, 0, 0) := fr fe_X8_init_32 4 rfl
theorem i_X8_init_1170 : fetch 125 1170 = some (.bipush 115, 1172, 0, 0, 0, 0) := fr fe_X8_init_32 5 rfl
theorem i_X8_init_1172 : fetch 125 1172 = some (.iastore, 1173, 0, 0, 0, 0) := fr fe_X8_init_32 6 rfl
theorem i_X8_init_1173 : fetch 125 1173 = some (.dup, 1174, 0, 0, 0, 0) := fr fe_X8_init_32 7 rfl
theorem i_X8_init_1174 : fetch 125 1174 = some (.bipush 67, 1176, 0, 0, 0, 0) := fr fe_X8_init_32 8 rfl
theorem i_X8_init_1176 : fetch 125 1176 = some (.bipush 116, 1178, 0, 0, 0, 0) := fr fe_X8_init_32 9 rfl
theorem i_X8_init_1178 : fetch 125 1178 = some (.iastore, 1179, 0, 0, 0, 0) := fr fe_X8_init_32 10 rfl
theorem i_X8_init_1179 : fetch 125 1179 = some (.dup, 1180, 0, 0, 0, 0) := fr fe_X8_init_32 11 rfl
theorem i_X8_init_1180 : fetch 125 1180 = some (.bipush 68, 1182, 0, 0, 0, 0) := fr fe_X8_init_32 12 rfl
theorem i_X8_init_1182 : fetch 125 1182 = some (.bipush 32, 1184, 0, 0, 0, 0) := fr fe_X8_init_32 13 rfl
theorem i_X8_init_1184 : fetch 125 1184 = some (.iastore, 1185, 0, 0, 0, 0) := fr fe_X8_init_32 14 rfl
theorem i_X8_init_1185 : fetch 125 1185 = some (.dup, 1186, 0, 0, 0, 0) := fr fe_X8_init_32 15 rfl
theorem i_X8_init_1186 : fetch 125 1186 = some (.bipush 69, 1188, 0, 0, 0, 0) := fr fe_X8_init_32 16 rfl
theorem i_X8_init_1188 : fetch 125 1188 = some (.bipush 32, 1190, 0, 0, 0, 0) := fr fe_X8_init_32 17 rfl
theorem i_X8_init_1190 : fetch 125 1190 = some (.iastore, 1191, 0, 0, 0, 0) := fr fe_X8_init_32 18 rfl
theorem i_X8_init_1191 : fetch 125 1191 = some (.dup, 1192, 0, 0, 0, 0) := fr fe_X8_init_32 19 rfl
theorem i_X8_init_1192 : fetch 125 1192 = some (.bipush 70, 1194, 0, 0, 0, 0) := fr fe_X8_init_32 20 rfl
theorem i_X8_init_1194 : fetch 125 1194 = some (.bipush 32, 1196, 0, 0, 0, 0) := fr fe_X8_init_32 21 rfl
theorem i_X8_init_1196 : fetch 125 1196 = some (.iastore, 1197, 0, 0, 0, 0) := fr fe_X8_init_32 22 rfl
theorem i_X8_init_1197 : fetch 125 1197 = some (.dup, 1198, 0, 0, 0, 0) := fr fe_X8_init_32 23 rfl
theorem i_X8_init_1198 : fetch 125 1198 = some (.bipush 71, 1200, 0, 0, 0, 0) := fr fe_X8_init_32 24 rfl
theorem i_X8_init_1200 : fetch 125 1200 = some (.bipush 32, 1202, 0, 0, 0, 0) := fr fe_X8_init_33 0 rfl
theorem i_X8_init_1202 : fetch 125 1202 = some (.iastore, 1203, 0, 0, 0, 0) := fr fe_X8_init_33 1 rfl
theorem i_X8_init_1203 : fetch 125 1203 = some (.dup, 1204, 0, 0, 0, 0) := fr fe_X8_init_33 2 rfl
theorem i_X8_init_1204 : fetch 125 1204 = some (.bipush 72, 1206, 0, 0, 0, 0) := fr fe_X8_init_33 3 rfl
theorem i_X8_init_1206 : fetch 125 1206 = some (.bipush 111, 1208, 0, 0, 0, 0) := fr fe_X8_init_33 4 rfl
theorem i_X8_init_1208 : fetch 125 1208 = some (.iastore, 1209, 0, 0, 0, 0) := fr fe_X8_init_33 5 rfl
theorem i_X8_init_1209 : fetch 125 1209 = some (.dup, 1210, 0, 0, 0, 0) := fr fe_X8_init_33 6 rfl
theorem i_X8_init_1210 : fetch 125 1210 = some (.bipush 73, 1212, 0, 0, 0, 0) := fr fe_X8_init_33 7 rfl
theorem i_X8_init_1212 : fetch 125 1212 = some (.bipush 114, 1214, 0, 0, 0, 0) := fr fe_X8_init_33 8 rfl
theorem i_X8_init_1214 : fetch 125 1214 = some (.iastore, 1215, 0, 0, 0, 0) := fr fe_X8_init_33 9 rfl
theorem i_X8_init_1215 : fetch 125 1215 = some (.dup, 1216, 0, 0, 0, 0) := fr fe_X8_init_33 10 rfl
theorem i_X8_init_1216 : fetch 125 1216 = some (.bipush 74, 1218, 0, 0, 0, 0) := fr fe_X8_init_33 11 rfl
theorem i_X8_init_1218 : fetch 125 1218 = some (.bipush 32, 1220, 0, 0, 0, 0) := fr fe_X8_init_33 12 rfl
theorem i_X8_init_1220 : fetch 125 1220 = some (.iastore, 1221, 0, 0, 0, 0) := fr fe_X8_init_33 13 rfl
theorem i_X8_init_1221 : fetch 125 1221 = some (.dup, 1222, 0, 0, 0, 0) := fr fe_X8_init_33 14 rfl
theorem i_X8_init_1222 : fetch 125 1222 = some (.bipush 75, 1224, 0, 0, 0, 0) := fr fe_X8_init_33 15 rfl
theorem i_X8_init_1224 : fetch 125 1224 = some (.bipush 32, 1226, 0, 0, 0, 0) := fr fe_X8_init_33 16 rfl
theorem i_X8_init_1226 : fetch 125 1226 = some (.iastore, 1227, 0, 0, 0, 0) := fr fe_X8_init_33 17 rfl
theorem i_X8_init_1227 : fetch 125 1227 = some (.dup, 1228, 0, 0, 0, 0) := fr fe_X8_init_33 18 rfl
theorem i_X8_init_1228 : fetch 125 1228 = some (.bipush 76, 1230, 0, 0, 0, 0) := fr fe_X8_init_33 19 rfl
theorem i_X8_init_1230 : fetch 125 1230 = some (.bipush 32, 1232, 0, 0, 0, 0) := fr fe_X8_init_33 20 rfl
theorem i_X8_init_1232 : fetch 125 1232 = some (.iastore, 1233, 0, 0, 0, 0) := fr fe_X8_init_33 21 rfl
theorem i_X8_init_1233 : fetch 125 1233 = some (.dup, 1234, 0, 0, 0, 0) := fr fe_X8_init_33 22 rfl
theorem i_X8_init_1234 : fetch 125 1234 = some (.bipush 77, 1236, 0, 0, 0, 0) := fr fe_X8_init_33 23 rfl
theorem i_X8_init_1236 : fetch 125 1236 = some (.bipush 32, 1238, 0, 0, 0, 0) := fr fe_X8_init_33 24 rfl
theorem i_X8_init_1238 : fetch 125 1238 = some (.iastore, 1239, 0, 0, 0, 0) := fr fe_X8_init_34 0 rfl
theorem i_X8_init_1239 : fetch 125 1239 = some (.dup, 1240, 0, 0, 0, 0) := fr fe_X8_init_34 1 rfl
theorem i_X8_init_1240 : fetch 125 1240 = some (.bipush 78, 1242, 0, 0, 0, 0) := fr fe_X8_init_34 2 rfl
theorem i_X8_init_1242 : fetch 125 1242 = some (.bipush 32, 1244, 0, 0, 0, 0) := fr fe_X8_init_34 3 rfl
theorem i_X8_init_1244 : fetch 125 1244 = some (.iastore, 1245, 0, 0, 0, 0) := fr fe_X8_init_34 4 rfl
theorem i_X8_init_1245 : fetch 125 1245 = some (.dup, 1246, 0, 0, 0, 0) := fr fe_X8_init_34 5 rfl
theorem i_X8_init_1246 : fetch 125 1246 = some (.bipush 79, 1248, 0, 0, 0, 0) := fr fe_X8_init_34 6 rfl
theorem i_X8_init_1248 : fetch 125 1248 = some (.bipush 32, 1250, 0, 0, 0, 0) := fr fe_X8_init_34 7 rfl
theorem i_X8_init_1250 : fetch 125 1250 = some (.iastore, 1251, 0, 0, 0, 0) := fr fe_X8_init_34 8 rfl
theorem i_X8_init_1251 : fetch 125 1251 = some (.dup, 1252, 0, 0, 0, 0) := fr fe_X8_init_34 9 rfl
theorem i_X8_init_1252 : fetch 125 1252 = some (.bipush 80, 1254, 0, 0, 0, 0) := fr fe_X8_init_34 10 rfl
theorem i_X8_init_1254 : fetch 125 1254 = some (.bipush 97, 1256, 0, 0, 0, 0) := fr fe_X8_init_34 11 rfl
theorem i_X8_init_1256 : fetch 125 1256 = some (.iastore, 1257, 0, 0, 0, 0) := fr fe_X8_init_34 12 rfl
theorem i_X8_init_1257 : fetch 125 1257 = some (.dup, 1258, 0, 0, 0, 0) := fr fe_X8_init_34 13 rfl
theorem i_X8_init_1258 : fetch 125 1258 = some (.bipush 81, 1260, 0, 0, 0, 0) := fr fe_X8_init_34 14 rfl
theorem i_X8_init_1260 : fetch 125 1260 = some (.bipush 110, 1262, 0, 0, 0, 0) := fr fe_X8_init_34 15 rfl
theorem i_X8_init_1262 : fetch 125 1262 = some (.iastore, 1263, 0, 0, 0, 0) := fr fe_X8_init_34 16 rfl
theorem i_X8_init_1263 : fetch 125 1263 = some (.dup, 1264, 0, 0, 0, 0) := fr fe_X8_init_34 17 rfl
theorem i_X8_init_1264 : fetch 125 1264 = some (.bipush 82, 1266, 0, 0, 0, 0) := fr fe_X8_init_34 18 rfl
theorem i_X8_init_1266 : fetch 125 1266 = some (.bipush 100, 1268, 0, 0, 0, 0) := fr fe_X8_init_34 19 rfl
theorem i_X8_init_1268 : fetch 125 1268 = some (.iastore, 1269, 0, 0, 0, 0) := fr fe_X8_init_34 20 rfl
theorem i_X8_init_1269 : fetch 125 1269 = some (.dup, 1270, 0, 0, 0, 0) := fr fe_X8_init_34 21 rfl
theorem i_X8_init_1270 : fetch 125 1270 = some (.bipush 83, 1272, 0, 0, 0, 0) := fr fe_X8_init_34 22 rfl
theorem i_X8_init_1272 : fetch 125 1272 = some (.bipush 32, 1274, 0, 0, 0, 0) := fr fe_X8_init_34 23 rfl
theorem i_X8_init_1274 : fetch 125 1274 = some (.iastore, 1275, 0, 0, 0, 0) := fr fe_X8_init_34 24 rfl
theorem i_X8_init_1275 : fetch 125 1275 = some (.dup, 1276, 0, 0, 0, 0) := fr fe_X8_init_35 0 rfl
theorem i_X8_init_1276 : fetch 125 1276 = some (.bipush 84, 1278, 0, 0, 0, 0) := fr fe_X8_init_35 1 rfl
theorem i_X8_init_1278 : fetch 125 1278 = some (.bipush 32, 1280, 0, 0, 0, 0) := fr fe_X8_init_35 2 rfl
theorem i_X8_init_1280 : fetch 125 1280 = some (.iastore, 1281, 0, 0, 0, 0) := fr fe_X8_init_35 3 rfl
theorem i_X8_init_1281 : fetch 125 1281 = some (.dup, 1282, 0, 0, 0, 0) := fr fe_X8_init_35 4 rfl
theorem i_X8_init_1282 : fetch 125 1282 = some (.bipush 85, 1284, 0, 0, 0, 0) := fr fe_X8_init_35 5 rfl
theorem i_X8_init_1284 : fetch 125 1284 = some (.bipush 32, 1286, 0, 0, 0, 0) := fr fe_X8_init_35 6 rfl
theorem i_X8_init_1286 : fetch 125 1286 = some (.iastore, 1287, 0, 0, 0, 0) := fr fe_X8_init_35 7 rfl
theorem i_X8_init_1287 : fetch 125 1287 = some (.dup, 1288, 0, 0, 0, 0) := fr fe_X8_init_35 8 rfl
theorem i_X8_init_1288 : fetch 125 1288 = some (.bipush 86, 1290, 0, 0, 0, 0) := fr fe_X8_init_35 9 rfl
theorem i_X8_init_1290 : fetch 125 1290 = some (.bipush 32, 1292, 0, 0, 0, 0) := fr fe_X8_init_35 10 rfl
theorem i_X8_init_1292 : fetch 125 1292 = some (.iastore, 1293, 0, 0, 0, 0) := fr fe_X8_init_35 11 rfl
theorem i_X8_init_1293 : fetch 125 1293 = some (.dup, 1294, 0, 0, 0, 0) := fr fe_X8_init_35 12 rfl
theorem i_X8_init_1294 : fetch 125 1294 = some (.bipush 87, 1296, 0, 0, 0, 0) := fr fe_X8_init_35 13 rfl
theorem i_X8_init_1296 : fetch 125 1296 = some (.bipush 32, 1298, 0, 0, 0, 0) := fr fe_X8_init_35 14 rfl
theorem i_X8_init_1298 : fetch 125 1298 = some (.iastore, 1299, 0, 0, 0, 0) := fr fe_X8_init_35 15 rfl
theorem i_X8_init_1299 : fetch 125 1299 = some (.dup, 1300, 0, 0, 0, 0) := fr fe_X8_init_35 16 rfl
theorem i_X8_init_1300 : fetch 125 1300 = some (.bipush 88, 1302, 0, 0, 0, 0) := fr fe_X8_init_35 17 rfl
theorem i_X8_init_1302 : fetch 125 1302 = some (.bipush 110, 1304, 0, 0, 0, 0) := fr fe_X8_init_35 18 rfl
theorem i_X8_init_1304 : fetch 125 1304 = some (.iastore, 1305, 0, 0, 0, 0) := fr fe_X8_init_35 19 rfl
theorem i_X8_init_1305 : fetch 125 1305 = some (.dup, 1306, 0, 0, 0, 0) := fr fe_X8_init_35 20 rfl
theorem i_X8_init_1306 : fetch 125 1306 = some (.bipush 89, 1308, 0, 0, 0, 0) := fr fe_X8_init_35 21 rfl
theorem i_X8_init_1308 : fetch 125 1308 = some (.bipush 111, 1310, 0, 0, 0, 0) := fr fe_X8_init_35 22 rfl
theorem i_X8_init_1310 : fetch 125 1310 = some (.iastore, 1311, 0, 0, 0, 0) := fr fe_X8_init_35 23 rfl
theorem i_X8_init_1311 : fetch 125 1311 = some (.dup, 1312, 0, 0, 0, 0) := fr fe_X8_init_35 24 rfl
theorem i_X8_init_1312 : fetch 125 1312 = some (.bipush 90, 1314, 0, 0, 0, 0) := fr fe_X8_init_36 0 rfl
theorem i_X8_init_1314 : fetch 125 1314 = some (.bipush 116, 1316, 0, 0, 0, 0) := fr fe_X8_init_36 1 rfl
theorem i_X8_init_1316 : fetch 125 1316 = some (.iastore, 1317, 0, 0, 0, 0) := fr fe_X8_init_36 2 rfl
theorem i_X8_init_1317 : fetch 125 1317 = some (.dup, 1318, 0, 0, 0, 0) := fr fe_X8_init_36 3 rfl
theorem i_X8_init_1318 : fetch 125 1318 = some (.bipush 91, 1320, 0, 0, 0, 0) := fr fe_X8_init_36 4 rfl
theorem i_X8_init_1320 : fetch 125 1320 = some (.bipush 32, 1322, 0, 0, 0, 0) := fr fe_X8_init_36 5 rfl
theorem i_X8_init_1322 : fetch 125 1322 = some (.iastore, 1323, 0, 0, 0, 0) := fr fe_X8_init_36 6 rfl
theorem i_X8_init_1323 : fetch 125 1323 = some (.dup, 1324, 0, 0, 0, 0) := fr fe_X8_init_36 7 rfl
theorem i_X8_init_1324 : fetch 125 1324 = some (.bipush 92, 1326, 0, 0, 0, 0) := fr fe_X8_init_36 8 rfl
theorem i_X8_init_1326 : fetch 125 1326 = some (.bipush 32, 1328, 0, 0, 0, 0) := fr fe_X8_init_36 9 rfl
theorem i_X8_init_1328 : fetch 125 1328 = some (.iastore, 1329, 0, 0, 0, 0) := fr fe_X8_init_36 10 rfl
theorem i_X8_init_1329 : fetch 125 1329 = some (.dup, 1330, 0, 0, 0, 0) := fr fe_X8_init_36 11 rfl
theorem i_X8_init_1330 : fetch 125 1330 = some (.bipush 93, 1332, 0, 0, 0, 0) := fr fe_X8_init_36 12 rfl
theorem i_X8_init_1332 : fetch 125 1332 = some (.bipush 32, 1334, 0, 0, 0, 0) := fr fe_X8_init_36 13 rfl
theorem i_X8_init_1334 : fetch 125 1334 = some (.iastore, 1335, 0, 0, 0, 0) := fr fe_X8_init_36 14 rfl
theorem i_X8_init_1335 : fetch 125 1335 = some (.dup, 1336, 0, 0, 0, 0) := fr fe_X8_init_36 15 rfl
theorem i_X8_init_1336 : fetch 125 1336 = some (.bipush 94, 1338, 0, 0, 0, 0) := fr fe_X8_init_36 16 rfl
theorem i_X8_init_1338 : fetch 125 1338 = some (.bipush 32, 1340, 0, 0, 0, 0) := fr fe_X8_init_36 17 rfl
theorem i_X8_init_1340 : fetch 125 1340 = some (.iastore, 1341, 0, 0, 0, 0) := fr fe_X8_init_36 18 rfl
theorem i_X8_init_1341 : fetch 125 1341 = some (.dup, 1342, 0, 0, 0, 0) := fr fe_X8_init_36 19 rfl
theorem i_X8_init_1342 : fetch 125 1342 = some (.bipush 95, 1344, 0, 0, 0, 0) := fr fe_X8_init_36 20 rfl
theorem i_X8_init_1344 : fetch 125 1344 = some (.bipush 32, 1346, 0, 0, 0, 0) := fr fe_X8_init_36 21 rfl
theorem i_X8_init_1346 : fetch 125 1346 = some (.iastore, 1347, 0, 0, 0, 0) := fr fe_X8_init_36 22 rfl
theorem i_X8_init_1347 : fetch 125 1347 = some (.putfield 63, 1350, 8, 30, 0, 1107) := fr fe_X8_init_36 23 rfl
theorem i_X8_init_1350 : fetch 125 1350 = some (.aload_n 0, 1351, 0, 0, 0, 0) := fr fe_X8_init_36 24 rfl
theorem i_X8_init_1351 : fetch 125 1351 = some (.sipush 200, 1354, 0, 0, 0, 0) := fr fe_X8_init_37 0 rfl
theorem i_X8_init_1354 : fetch 125 1354 = some (.newarray .int, 1356, 9, 0, 0, 0) := fr fe_X8_init_37 1 rfl
theorem i_X8_init_1356 : fetch 125 1356 = some (.putfield 66, 1359, 8, 31, 0, 1108) := fr fe_X8_init_37 2 rfl
theorem i_X8_init_1359 : fetch 125 1359 = some (.aload_n 0, 1360, 0, 0, 0, 0) := fr fe_X8_init_37 3 rfl
theorem i_X8_init_1360 : fetch 125 1360 = some (.sipush 200, 1363, 0, 0, 0, 0) := fr fe_X8_init_37 4 rfl
theorem i_X8_init_1363 : fetch 125 1363 = some (.newarray .int, 1365, 9, 0, 0, 0) := fr fe_X8_init_37 5 rfl
theorem i_X8_init_1365 : fetch 125 1365 = some (.putfield 69, 1368, 8, 35, 0, 1112) := fr fe_X8_init_37 6 rfl
theorem i_X8_init_1368 : fetch 125 1368 = some (.aload_n 0, 1369, 0, 0, 0, 0) := fr fe_X8_init_37 7 rfl
theorem i_X8_init_1369 : fetch 125 1369 = some (.bipush 6, 1371, 0, 0, 0, 0) := fr fe_X8_init_37 8 rfl
theorem i_X8_init_1371 : fetch 125 1371 = some (.newarray .int, 1373, 9, 0, 0, 0) := fr fe_X8_init_37 9 rfl
theorem i_X8_init_1373 : fetch 125 1373 = some (.putfield 72, 1376, 8, 36, 0, 1113) := fr fe_X8_init_37 10 rfl
theorem i_X8_init_1376 : fetch 125 1376 = some (.aload_n 0, 1377, 0, 0, 0, 0) := fr fe_X8_init_37 11 rfl
theorem i_X8_init_1377 : fetch 125 1377 = some (.bipush 12, 1379, 0, 0, 0, 0) := fr fe_X8_init_37 12 rfl
theorem i_X8_init_1379 : fetch 125 1379 = some (.newarray .int, 1381, 9, 0, 0, 0) := fr fe_X8_init_37 13 rfl
theorem i_X8_init_1381 : fetch 125 1381 = some (.putfield 75, 1384, 8, 37, 0, 1114) := fr fe_X8_init_37 14 rfl
theorem i_X8_init_1384 : fetch 125 1384 = some (.aload_n 0, 1385, 0, 0, 0, 0) := fr fe_X8_init_37 15 rfl
theorem i_X8_init_1385 : fetch 125 1385 = some (.bipush 12, 1387, 0, 0, 0, 0) := fr fe_X8_init_37 16 rfl
theorem i_X8_init_1387 : fetch 125 1387 = some (.newarray .int, 1389, 9, 0, 0, 0) := fr fe_X8_init_37 17 rfl
theorem i_X8_init_1389 : fetch 125 1389 = some (.putfield 78, 1392, 8, 38, 0, 1115) := fr fe_X8_init_37 18 rfl
theorem i_X8_init_1392 : fetch 125 1392 = some (.aload_n 0, 1393, 0, 0, 0, 0) := fr fe_X8_init_37 19 rfl
theorem i_X8_init_1393 : fetch 125 1393 = some (.bipush 12, 1395, 0, 0, 0, 0) := fr fe_X8_init_37 20 rfl
theorem i_X8_init_1395 : fetch 125 1395 = some (.newarray .int, 1397, 9, 0, 0, 0) := fr fe_X8_init_37 21 rfl
theorem i_X8_init_1397 : fetch 125 1397 = some (.putfield 81, 1400, 8, 39, 0, 1116) := fr fe_X8_init_37 22 rfl
theorem i_X8_init_1400 : fetch 125 1400 = some (.aload_n 0, 1401, 0, 0, 0, 0) := fr fe_X8_init_37 23 rfl
theorem i_X8_init_1401 : fetch 125 1401 = some (.bipush 12, 1403, 0, 0, 0, 0) := fr fe_X8_init_37 24 rfl
theorem i_X8_init_1403 : fetch 125 1403 = some (.newarray .int, 1405, 9, 0, 0, 0) := fr fe_X8_init_38 0 rfl
theorem i_X8_init_1405 : fetch 125 1405 = some (.putfield 84, 1408, 8, 47, 0, 1124) := fr fe_X8_init_38 1 rfl
theorem i_X8_init_1408 : fetch 125 1408 = some (.aload_n 0, 1409, 0, 0, 0, 0) := fr fe_X8_init_38 2 rfl
theorem i_X8_init_1409 : fetch 125 1409 = some (.bipush 12, 1411, 0, 0, 0, 0) := fr fe_X8_init_38 3 rfl
theorem i_X8_init_1411 : fetch 125 1411 = some (.newarray .int, 1413, 9, 0, 0, 0) := fr fe_X8_init_38 4 rfl
theorem i_X8_init_1413 : fetch 125 1413 = some (.putfield 87, 1416, 8, 48, 0, 1125) := fr fe_X8_init_38 5 rfl
theorem i_X8_init_1416 : fetch 125 1416 = some (.aload_n 0, 1417, 0, 0, 0, 0) := fr fe_X8_init_38 6 rfl
theorem i_X8_init_1417 : fetch 125 1417 = some (.bipush 12, 1419, 0, 0, 0, 0) := fr fe_X8_init_38 7 rfl
theorem i_X8_init_1419 : fetch 125 1419 = some (.newarray .int, 1421, 9, 0, 0, 0) := fr fe_X8_init_38 8 rfl
theorem i_X8_init_1421 : fetch 125 1421 = some (.putfield 90, 1424, 8, 49, 0, 1126) := fr fe_X8_init_38 9 rfl
theorem i_X8_init_1424 : fetch 125 1424 = some (.aload_n 0, 1425, 0, 0, 0, 0) := fr fe_X8_init_38 10 rfl
theorem i_X8_init_1425 : fetch 125 1425 = some (.bipush 12, 1427, 0, 0, 0, 0) := fr fe_X8_init_38 11 rfl
theorem i_X8_init_1427 : fetch 125 1427 = some (.newarray .int, 1429, 9, 0, 0, 0) := fr fe_X8_init_38 12 rfl
theorem i_X8_init_1429 : fetch 125 1429 = some (.putfield 93, 1432, 8, 50, 0, 1127) := fr fe_X8_init_38 13 rfl
theorem i_X8_init_1432 : fetch 125 1432 = some (.aload_n 0, 1433, 0, 0, 0, 0) := fr fe_X8_init_38 14 rfl
theorem i_X8_init_1433 : fetch 125 1433 = some (.bipush 12, 1435, 0, 0, 0, 0) := fr fe_X8_init_38 15 rfl
theorem i_X8_init_1435 : fetch 125 1435 = some (.newarray .int, 1437, 9, 0, 0, 0) := fr fe_X8_init_38 16 rfl
theorem i_X8_init_1437 : fetch 125 1437 = some (.putfield 96, 1440, 8, 51, 0, 1128) := fr fe_X8_init_38 17 rfl
theorem i_X8_init_1440 : fetch 125 1440 = some (.aload_n 0, 1441, 0, 0, 0, 0) := fr fe_X8_init_38 18 rfl
theorem i_X8_init_1441 : fetch 125 1441 = some (.bipush 16, 1443, 0, 0, 0, 0) := fr fe_X8_init_38 19 rfl
theorem i_X8_init_1443 : fetch 125 1443 = some (.newarray .int, 1445, 9, 0, 0, 0) := fr fe_X8_init_38 20 rfl
theorem i_X8_init_1445 : fetch 125 1445 = some (.putfield 99, 1448, 8, 52, 0, 1129) := fr fe_X8_init_38 21 rfl
theorem i_X8_init_1448 : fetch 125 1448 = some (.aload_n 0, 1449, 0, 0, 0, 0) := fr fe_X8_init_38 22 rfl
theorem i_X8_init_1449 : fetch 125 1449 = some (.bipush 16, 1451, 0, 0, 0, 0) := fr fe_X8_init_38 23 rfl
theorem i_X8_init_1451 : fetch 125 1451 = some (.newarray .int, 1453, 9, 0, 0, 0) := fr fe_X8_init_38 24 rfl
theorem i_X8_init_1453 : fetch 125 1453 = some (.putfield 102, 1456, 8, 53, 0, 1130) := fr fe_X8_init_39 0 rfl
theorem i_X8_init_1456 : fetch 125 1456 = some (.iconst 0, 1457, 0, 0, 0, 0) := fr fe_X8_init_39 1 rfl
theorem i_X8_init_1457 : fetch 125 1457 = some (.istore_n 1, 1458, 0, 0, 0, 0) := fr fe_X8_init_39 2 rfl
theorem i_X8_init_1458 : fetch 125 1458 = some (.iload_n 1, 1459, 0, 0, 0, 0) := fr fe_X8_init_39 3 rfl
theorem i_X8_init_1459 : fetch 125 1459 = some (.bipush 83, 1461, 0, 0, 0, 0) := fr fe_X8_init_39 4 rfl
theorem i_X8_init_1461 : fetch 125 1461 = some (.if_icmp .ge 21, 1464, 0, 0, 0, 0) := fr fe_X8_init_39 5 rfl
theorem i_X8_init_1464 : fetch 125 1464 = some (.aload_n 0, 1465, 0, 0, 0, 0) := fr fe_X8_init_39 6 rfl
theorem i_X8_init_1465 : fetch 125 1465 = some (.getfield 36, 1468, 8, 9, 0, 1070) := fr fe_X8_init_39 7 rfl
theorem i_X8_init_1468 : fetch 125 1468 = some (.iload_n 1, 1469, 0, 0, 0, 0) := fr fe_X8_init_39 8 rfl
theorem i_X8_init_1469 : fetch 125 1469 = some (.aload_n 0, 1470, 0, 0, 0, 0) := fr fe_X8_init_39 9 rfl
theorem i_X8_init_1470 : fetch 125 1470 = some (.getfield 60, 1473, 8, 25, 0, 1102) := fr fe_X8_init_39 10 rfl
theorem i_X8_init_1473 : fetch 125 1473 = some (.iload_n 1, 1474, 0, 0, 0, 0) := fr fe_X8_init_39 11 rfl
theorem i_X8_init_1474 : fetch 125 1474 = some (.iaload, 1475, 0, 0, 0, 0) := fr fe_X8_init_39 12 rfl
theorem i_X8_init_1475 : fetch 125 1475 = some (.iastore, 1476, 0, 0, 0, 0) := fr fe_X8_init_39 13 rfl
theorem i_X8_init_1476 : fetch 125 1476 = some (.iinc 1 1, 1479, 0, 0, 0, 0) := fr fe_X8_init_39 14 rfl
theorem i_X8_init_1479 : fetch 125 1479 = some (.goto (-21), 1482, 0, 0, 0, 0) := fr fe_X8_init_39 15 rfl
theorem i_X8_init_1482 : fetch 125 1482 = some (.aload_n 0, 1483, 0, 0, 0, 0) := fr fe_X8_init_39 16 rfl
theorem i_X8_init_1483 : fetch 125 1483 = some (.bipush 83, 1485, 0, 0, 0, 0) := fr fe_X8_init_39 17 rfl
theorem i_X8_init_1485 : fetch 125 1485 = some (.putfield 105, 1488, 8, 10, 0, 1071) := fr fe_X8_init_39 18 rfl
theorem i_X8_init_1488 : fetch 125 1488 = some (.aload_n 0, 1489, 0, 0, 0, 0) := fr fe_X8_init_39 19 rfl
theorem i_X8_init_1489 : fetch 125 1489 = some (.invokevirtual 108, 1492, 146, 0, 0, 1014) := fr fe_X8_init_39 20 rfl
theorem i_X8_init_1492 : fetch 125 1492 = some (.pop, 1493, 0, 0, 0, 0) := fr fe_X8_init_39 21 rfl
theorem i_X8_init_1493 : fetch 125 1493 = some (.return_, 1494, 0, 0, 0, 0) := fr fe_X8_init_39 22 rfl
theorem i_X8_isCell_0 : fetch 127 0 = some (.iload_n 0, 1, 0, 0, 0, 0) := fr fe_X8_isCell 0 rfl
theorem i_X8_isCell_1 : fetch 127 1 = some (.iconst 0, 2, 0, 0, 0, 0) := fr fe_X8_isCell 1 rfl
theorem i_X8_isCell_2 : fetch 127 2 = some (.bipush 11, 4, 0, 0, 0, 0) := fr fe_X8_isCell 2 rfl
theorem i_X8_isCell_4 : fetch 127 4 = some (.invokestatic 112, 7, 126, 0, 0, 1022) := fr fe_X8_isCell 3 rfl
theorem i_X8_isCell_7 : fetch 127 7 = some (.ireturn, 8, 0, 0, 0, 0) := fr fe_X8_isCell 4 rfl
theorem i_X8_areSteps_0 : fetch 128 0 = some (.iload_n 1, 1, 0, 0, 0, 0) := fr fe_X8_areSteps 0 rfl
theorem i_X8_areSteps_1 : fetch 128 1 = some (.iconst 0, 2, 0, 0, 0, 0) := fr fe_X8_areSteps 1 rfl
theorem i_X8_areSteps_2 : fetch 128 2 = some (.aload_n 0, 3, 0, 0, 0, 0) := fr fe_X8_areSteps 2 rfl
theorem i_X8_areSteps_3 : fetch 128 3 = some (.getfield 116, 6, 8, 5, 0, 1066) := fr fe_X8_areSteps 3 rfl
theorem i_X8_areSteps_6 : fetch 128 6 = some (.invokestatic 112, 9, 126, 0, 0, 1022) := fr fe_X8_areSteps 4 rfl
theorem i_X8_areSteps_9 : fetch 128 9 = some (.ireturn, 10, 0, 0, 0, 0) := fr fe_X8_areSteps 5 rfl
theorem i_X8_size_0 : fetch 129 0 = some (.iload_n 0, 1, 0, 0, 0, 0) := fr fe_X8_size 0 rfl
theorem i_X8_size_1 : fetch 129 1 = some (.ifCond .ge 8, 4, 0, 0, 0, 0) := fr fe_X8_size 1 rfl
theorem i_X8_size_4 : fetch 129 4 = some (.iload_n 0, 5, 0, 0, 0, 0) := fr fe_X8_size 2 rfl
theorem i_X8_size_5 : fetch 129 5 = some (.ineg, 6, 0, 0, 0, 0) := fr fe_X8_size 3 rfl
theorem i_X8_size_6 : fetch 129 6 = some (.goto 4, 9, 0, 0, 0, 0) := fr fe_X8_size 4 rfl
theorem i_X8_size_9 : fetch 129 9 = some (.iload_n 0, 10, 0, 0, 0, 0) := fr fe_X8_size 5 rfl
theorem i_X8_size_10 : fetch 129 10 = some (.ireturn, 11, 0, 0, 0, 0) := fr fe_X8_size 6 rfl
theorem i_X8_within_0 : fetch 130 0 = some (.iload_n 0, 1, 0, 0, 0, 0) := fr fe_X8_within 0 rfl
theorem i_X8_within_1 : fetch 130 1 = some (.iload_n 1, 2, 0, 0, 0, 0) := fr fe_X8_within 1 rfl
theorem i_X8_within_2 : fetch 130 2 = some (.if_icmp .ge 7, 5, 0, 0, 0, 0) := fr fe_X8_within 2 rfl
theorem i_X8_within_5 : fetch 130 5 = some (.iload_n 1, 6, 0, 0, 0, 0) := fr fe_X8_within 3 rfl
theorem i_X8_within_6 : fetch 130 6 = some (.goto 13, 9, 0, 0, 0, 0) := fr fe_X8_within 4 rfl
theorem i_X8_within_9 : fetch 130 9 = some (.iload_n 0, 10, 0, 0, 0, 0) := fr fe_X8_within 5 rfl
theorem i_X8_within_10 : fetch 130 10 = some (.iload_n 2, 11, 0, 0, 0, 0) := fr fe_X8_within 6 rfl
theorem i_X8_within_11 : fetch 130 11 = some (.if_icmp .le 7, 14, 0, 0, 0, 0) := fr fe_X8_within 7 rfl
theorem i_X8_within_14 : fetch 130 14 = some (.iload_n 2, 15, 0, 0, 0, 0) := fr fe_X8_within 8 rfl
theorem i_X8_within_15 : fetch 130 15 = some (.goto 4, 18, 0, 0, 0, 0) := fr fe_X8_within 9 rfl
theorem i_X8_within_18 : fetch 130 18 = some (.iload_n 0, 19, 0, 0, 0, 0) := fr fe_X8_within 10 rfl
theorem i_X8_within_19 : fetch 130 19 = some (.ireturn, 20, 0, 0, 0, 0) := fr fe_X8_within 11 rfl
theorem i_X8_roll_0 : fetch 131 0 = some (.iload_n 1, 1, 0, 0, 0, 0) := fr fe_X8_roll_1 0 rfl
theorem i_X8_roll_1 : fetch 131 1 = some (.invokestatic 119, 4, 127, 0, 0, 1244) := fr fe_X8_roll_1 1 rfl
theorem i_X8_roll_4 : fetch 131 4 = some (.ifCond .ne 6, 7, 0, 0, 0, 0) := fr fe_X8_roll_1 2 rfl
theorem i_X8_roll_7 : fetch 131 7 = some (.bipush (-5), 9, 0, 0, 0, 0) := fr fe_X8_roll_1 3 rfl
theorem i_X8_roll_9 : fetch 131 9 = some (.ireturn, 10, 0, 0, 0, 0) := fr fe_X8_roll_1 4 rfl
theorem i_X8_roll_10 : fetch 131 10 = some (.iload_n 2, 11, 0, 0, 0, 0) := fr fe_X8_roll_1 5 rfl
theorem i_X8_roll_11 : fetch 131 11 = some (.iconst 0, 12, 0, 0, 0, 0) := fr fe_X8_roll_1 6 rfl
theorem i_X8_roll_12 : fetch 131 12 = some (.iconst 1, 13, 0, 0, 0, 0) := fr fe_X8_roll_1 7 rfl
theorem i_X8_roll_13 : fetch 131 13 = some (.invokestatic 112, 16, 126, 0, 0, 1022) := fr fe_X8_roll_1 8 rfl
theorem i_X8_roll_16 : fetch 131 16 = some (.ifCond .eq 23, 19, 0, 0, 0, 0) := fr fe_X8_roll_1 9 rfl
theorem i_X8_roll_19 : fetch 131 19 = some (.iload_n 3, 20, 0, 0, 0, 0) := fr fe_X8_roll_1 10 rfl
theorem i_X8_roll_20 : fetch 131 20 = some (.iconst 1, 21, 0, 0, 0, 0) := fr fe_X8_roll_1 11 rfl
theorem i_X8_roll_21 : fetch 131 21 = some (.iload_n 2, 22, 0, 0, 0, 0) := fr fe_X8_roll_1 12 rfl
theorem i_X8_roll_22 : fetch 131 22 = some (.ifCond .ne 8, 25, 0, 0, 0, 0) := fr fe_X8_roll_1 13 rfl
theorem i_X8_roll_25 : fetch 131 25 = some (.ldc 123, 27, 0, 0, 99999, 1247) := fr fe_X8_roll_1 14 rfl
theorem i_X8_roll_27 : fetch 131 27 = some (.goto 6, 30, 0, 0, 0, 0) := fr fe_X8_roll_1 15 rfl
theorem i_X8_roll_30 : fetch 131 30 = some (.sipush 999, 33, 0, 0, 0, 0) := fr fe_X8_roll_1 16 rfl
theorem i_X8_roll_33 : fetch 131 33 = some (.invokestatic 112, 36, 126, 0, 0, 1022) := fr fe_X8_roll_1 17 rfl
theorem i_X8_roll_36 : fetch 131 36 = some (.ifCond .ne 6, 39, 0, 0, 0, 0) := fr fe_X8_roll_1 18 rfl
theorem i_X8_roll_39 : fetch 131 39 = some (.bipush (-7), 41, 0, 0, 0, 0) := fr fe_X8_roll_1 19 rfl
theorem i_X8_roll_41 : fetch 131 41 = some (.ireturn, 42, 0, 0, 0, 0) := fr fe_X8_roll_1 20 rfl
theorem i_X8_roll_42 : fetch 131 42 = some (.iload_n 2, 43, 0, 0, 0, 0) := fr fe_X8_roll_1 21 rfl
theorem i_X8_roll_43 : fetch 131 43 = some (.ifCond .ne 12, 46, 0, 0, 0, 0) := fr fe_X8_roll_1 22 rfl
theorem i_X8_roll_46 : fetch 131 46 = some (.aload_n 0, 47, 0, 0, 0, 0) := fr fe_X8_roll_1 23 rfl
theorem i_X8_roll_47 : fetch 131 47 = some (.getfield 8, 50, 8, 0, 0, 1061) := fr fe_X8_roll_1 24 rfl
theorem i_X8_roll_50 : fetch 131 50 = some (.iload_n 1, 51, 0, 0, 0, 0) := fr fe_X8_roll_2 0 rfl
theorem i_X8_roll_51 : fetch 131 51 = some (.iaload, 52, 0, 0, 0, 0) := fr fe_X8_roll_2 1 rfl
theorem i_X8_roll_52 : fetch 131 52 = some (.goto 9, 55, 0, 0, 0, 0) := fr fe_X8_roll_2 2 rfl
theorem i_X8_roll_55 : fetch 131 55 = some (.aload_n 0, 56, 0, 0, 0, 0) := fr fe_X8_roll_2 3 rfl
theorem i_X8_roll_56 : fetch 131 56 = some (.getfield 14, 59, 8, 1, 0, 1062) := fr fe_X8_roll_2 4 rfl
theorem i_X8_roll_59 : fetch 131 59 = some (.iload_n 1, 60, 0, 0, 0, 0) := fr fe_X8_roll_2 5 rfl
theorem i_X8_roll_60 : fetch 131 60 = some (.iaload, 61, 0, 0, 0, 0) := fr fe_X8_roll_2 6 rfl
theorem i_X8_roll_61 : fetch 131 61 = some (.istore 4, 63, 0, 0, 0, 0) := fr fe_X8_roll_2 7 rfl
theorem i_X8_roll_63 : fetch 131 63 = some (.aload_n 0, 64, 0, 0, 0, 0) := fr fe_X8_roll_2 8 rfl
theorem i_X8_roll_64 : fetch 131 64 = some (.getfield 8, 67, 8, 0, 0, 1061) := fr fe_X8_roll_2 9 rfl
theorem i_X8_roll_67 : fetch 131 67 = some (.iload_n 1, 68, 0, 0, 0, 0) := fr fe_X8_roll_2 10 rfl
theorem i_X8_roll_68 : fetch 131 68 = some (.iload_n 2, 69, 0, 0, 0, 0) := fr fe_X8_roll_2 11 rfl
theorem i_X8_roll_69 : fetch 131 69 = some (.ifCond .ne 7, 72, 0, 0, 0, 0) := fr fe_X8_roll_2 12 rfl
theorem i_X8_roll_72 : fetch 131 72 = some (.iload_n 3, 73, 0, 0, 0, 0) := fr fe_X8_roll_2 13 rfl
theorem i_X8_roll_73 : fetch 131 73 = some (.goto 9, 76, 0, 0, 0, 0) := fr fe_X8_roll_2 14 rfl
theorem i_X8_roll_76 : fetch 131 76 = some (.aload_n 0, 77, 0, 0, 0, 0) := fr fe_X8_roll_2 15 rfl
theorem i_X8_roll_77 : fetch 131 77 = some (.getfield 8, 80, 8, 0, 0, 1061) := fr fe_X8_roll_2 16 rfl
theorem i_X8_roll_80 : fetch 131 80 = some (.iload_n 1, 81, 0, 0, 0, 0) := fr fe_X8_roll_2 17 rfl
theorem i_X8_roll_81 : fetch 131 81 = some (.iaload, 82, 0, 0, 0, 0) := fr fe_X8_roll_2 18 rfl
theorem i_X8_roll_82 : fetch 131 82 = some (.iastore, 83, 0, 0, 0, 0) := fr fe_X8_roll_2 19 rfl
theorem i_X8_roll_83 : fetch 131 83 = some (.aload_n 0, 84, 0, 0, 0, 0) := fr fe_X8_roll_2 20 rfl
theorem i_X8_roll_84 : fetch 131 84 = some (.getfield 14, 87, 8, 1, 0, 1062) := fr fe_X8_roll_2 21 rfl
theorem i_X8_roll_87 : fetch 131 87 = some (.iload_n 1, 88, 0, 0, 0, 0) := fr fe_X8_roll_2 22 rfl
theorem i_X8_roll_88 : fetch 131 88 = some (.iload_n 2, 89, 0, 0, 0, 0) := fr fe_X8_roll_2 23 rfl
theorem i_X8_roll_89 : fetch 131 89 = some (.iconst 1, 90, 0, 0, 0, 0) := fr fe_X8_roll_2 24 rfl
theorem i_X8_roll_90 : fetch 131 90 = some (.if_icmp .ne 7, 93, 0, 0, 0, 0) := fr fe_X8_roll_3 0 rfl
theorem i_X8_roll_93 : fetch 131 93 = some (.iload_n 3, 94, 0, 0, 0, 0) := fr fe_X8_roll_3 1 rfl
theorem i_X8_roll_94 : fetch 131 94 = some (.goto 9, 97, 0, 0, 0, 0) := fr fe_X8_roll_3 2 rfl
theorem i_X8_roll_97 : fetch 131 97 = some (.aload_n 0, 98, 0, 0, 0, 0) := fr fe_X8_roll_3 3 rfl
theorem i_X8_roll_98 : fetch 131 98 = some (.getfield 14, 101, 8, 1, 0, 1062) := fr fe_X8_roll_3 4 rfl
theorem i_X8_roll_101 : fetch 131 101 = some (.iload_n 1, 102, 0, 0, 0, 0) := fr fe_X8_roll_3 5 rfl
theorem i_X8_roll_102 : fetch 131 102 = some (.iaload, 103, 0, 0, 0, 0) := fr fe_X8_roll_3 6 rfl
theorem i_X8_roll_103 : fetch 131 103 = some (.iastore, 104, 0, 0, 0, 0) := fr fe_X8_roll_3 7 rfl
theorem i_X8_roll_104 : fetch 131 104 = some (.iload 4, 106, 0, 0, 0, 0) := fr fe_X8_roll_3 8 rfl
theorem i_X8_roll_106 : fetch 131 106 = some (.ireturn, 107, 0, 0, 0, 0) := fr fe_X8_roll_3 9 rfl
theorem i_X8_count_0 : fetch 134 0 = some (.iload_n 1, 1, 0, 0, 0, 0) := fr fe_X8_count 0 rfl
theorem i_X8_count_1 : fetch 134 1 = some (.tableswitch 78 0 6 #[43, 48, 53, 58, 63, 68, 73], 44, 0, 0, 0, 0) := fr fe_X8_count 1 rfl
theorem i_X8_count_44 : fetch 134 44 = some (.aload_n 0, 45, 0, 0, 0, 0) := fr fe_X8_count 2 rfl
theorem i_X8_count_45 : fetch 134 45 = some (.getfield 17, 48, 8, 2, 0, 1063) := fr fe_X8_count 3 rfl
theorem i_X8_count_48 : fetch 134 48 = some (.ireturn, 49, 0, 0, 0, 0) := fr fe_X8_count 4 rfl
theorem i_X8_count_49 : fetch 134 49 = some (.aload_n 0, 50, 0, 0, 0, 0) := fr fe_X8_count 5 rfl
theorem i_X8_count_50 : fetch 134 50 = some (.getfield 21, 53, 8, 3, 0, 1064) := fr fe_X8_count 6 rfl
theorem i_X8_count_53 : fetch 134 53 = some (.ireturn, 54, 0, 0, 0, 0) := fr fe_X8_count 7 rfl
theorem i_X8_count_54 : fetch 134 54 = some (.aload_n 0, 55, 0, 0, 0, 0) := fr fe_X8_count 8 rfl
theorem i_X8_count_55 : fetch 134 55 = some (.getfield 24, 58, 8, 4, 0, 1065) := fr fe_X8_count 9 rfl
theorem i_X8_count_58 : fetch 134 58 = some (.ireturn, 59, 0, 0, 0, 0) := fr fe_X8_count 10 rfl
theorem i_X8_count_59 : fetch 134 59 = some (.aload_n 0, 60, 0, 0, 0, 0) := fr fe_X8_count 11 rfl
theorem i_X8_count_60 : fetch 134 60 = some (.getfield 116, 63, 8, 5, 0, 1066) := fr fe_X8_count 12 rfl
theorem i_X8_count_63 : fetch 134 63 = some (.ireturn, 64, 0, 0, 0, 0) := fr fe_X8_count 13 rfl
theorem i_X8_count_64 : fetch 134 64 = some (.aload_n 0, 65, 0, 0, 0, 0) := fr fe_X8_count 14 rfl
theorem i_X8_count_65 : fetch 134 65 = some (.getfield 132, 68, 8, 13, 0, 1090) := fr fe_X8_count 15 rfl
theorem i_X8_count_68 : fetch 134 68 = some (.ireturn, 69, 0, 0, 0, 0) := fr fe_X8_count 16 rfl
theorem i_X8_count_69 : fetch 134 69 = some (.aload_n 0, 70, 0, 0, 0, 0) := fr fe_X8_count 17 rfl
theorem i_X8_count_70 : fetch 134 70 = some (.getfield 135, 73, 8, 14, 0, 1091) := fr fe_X8_count 18 rfl
theorem i_X8_count_73 : fetch 134 73 = some (.ireturn, 74, 0, 0, 0, 0) := fr fe_X8_count 19 rfl
theorem i_X8_count_74 : fetch 134 74 = some (.aload_n 0, 75, 0, 0, 0, 0) := fr fe_X8_count 20 rfl
theorem i_X8_count_75 : fetch 134 75 = some (.getfield 105, 78, 8, 10, 0, 1071) := fr fe_X8_count 21 rfl
theorem i_X8_count_78 : fetch 134 78 = some (.ireturn, 79, 0, 0, 0, 0) := fr fe_X8_count 22 rfl
theorem i_X8_count_79 : fetch 134 79 = some (.bipush (-2), 81, 0, 0, 0, 0) := fr fe_X8_count 23 rfl
theorem i_X8_count_81 : fetch 134 81 = some (.ireturn, 82, 0, 0, 0, 0) := fr fe_X8_count 24 rfl
theorem i_X8_holds0_0 : fetch 133 0 = some (.aload_n 0, 1, 0, 0, 0, 0) := fr fe_X8_holds0 0 rfl
theorem i_X8_holds0_1 : fetch 133 1 = some (.iload_n 1, 2, 0, 0, 0, 0) := fr fe_X8_holds0 1 rfl
theorem i_X8_holds0_2 : fetch 133 2 = some (.ifCond .ne 7, 5, 0, 0, 0, 0) := fr fe_X8_holds0 2 rfl
theorem i_X8_holds0_5 : fetch 133 5 = some (.iload_n 2, 6, 0, 0, 0, 0) := fr fe_X8_holds0 3 rfl
theorem i_X8_holds0_6 : fetch 133 6 = some (.goto 7, 9, 0, 0, 0, 0) := fr fe_X8_holds0 4 rfl
theorem i_X8_holds0_9 : fetch 133 9 = some (.aload_n 0, 10, 0, 0, 0, 0) := fr fe_X8_holds0 5 rfl
theorem i_X8_holds0_10 : fetch 133 10 = some (.getfield 17, 13, 8, 2, 0, 1063) := fr fe_X8_holds0 6 rfl
theorem i_X8_holds0_13 : fetch 133 13 = some (.putfield 17, 16, 8, 2, 0, 1063) := fr fe_X8_holds0 7 rfl
theorem i_X8_holds0_16 : fetch 133 16 = some (.aload_n 0, 17, 0, 0, 0, 0) := fr fe_X8_holds0 8 rfl
theorem i_X8_holds0_17 : fetch 133 17 = some (.iload_n 1, 18, 0, 0, 0, 0) := fr fe_X8_holds0 9 rfl
theorem i_X8_holds0_18 : fetch 133 18 = some (.iconst 1, 19, 0, 0, 0, 0) := fr fe_X8_holds0 10 rfl
theorem i_X8_holds0_19 : fetch 133 19 = some (.if_icmp .ne 7, 22, 0, 0, 0, 0) := fr fe_X8_holds0 11 rfl
theorem i_X8_holds0_22 : fetch 133 22 = some (.iload_n 2, 23, 0, 0, 0, 0) := fr fe_X8_holds0 12 rfl
theorem i_X8_holds0_23 : fetch 133 23 = some (.goto 7, 26, 0, 0, 0, 0) := fr fe_X8_holds0 13 rfl
theorem i_X8_holds0_26 : fetch 133 26 = some (.aload_n 0, 27, 0, 0, 0, 0) := fr fe_X8_holds0 14 rfl
theorem i_X8_holds0_27 : fetch 133 27 = some (.getfield 21, 30, 8, 3, 0, 1064) := fr fe_X8_holds0 15 rfl
theorem i_X8_holds0_30 : fetch 133 30 = some (.putfield 21, 33, 8, 3, 0, 1064) := fr fe_X8_holds0 16 rfl
theorem i_X8_holds0_33 : fetch 133 33 = some (.aload_n 0, 34, 0, 0, 0, 0) := fr fe_X8_holds0 17 rfl
theorem i_X8_holds0_34 : fetch 133 34 = some (.iload_n 1, 35, 0, 0, 0, 0) := fr fe_X8_holds0 18 rfl
theorem i_X8_holds0_35 : fetch 133 35 = some (.iconst 2, 36, 0, 0, 0, 0) := fr fe_X8_holds0 19 rfl
theorem i_X8_holds0_36 : fetch 133 36 = some (.if_icmp .ne 7, 39, 0, 0, 0, 0) := fr fe_X8_holds0 20 rfl
theorem i_X8_holds0_39 : fetch 133 39 = some (.iload_n 2, 40, 0, 0, 0, 0) := fr fe_X8_holds0 21 rfl
theorem i_X8_holds0_40 : fetch 133 40 = some (.goto 7, 43, 0, 0, 0, 0) := fr fe_X8_holds0 22 rfl
theorem i_X8_holds0_43 : fetch 133 43 = some (.aload_n 0, 44, 0, 0, 0, 0) := fr fe_X8_holds0 23 rfl
theorem i_X8_holds0_44 : fetch 133 44 = some (.getfield 24, 47, 8, 4, 0, 1065) := fr fe_X8_holds0 24 rfl
theorem i_X8_holds0_47 : fetch 133 47 = some (.putfield 24, 50, 8, 4, 0, 1065) := fr fe_X8_holds0 25 rfl
theorem i_X8_holds0_50 : fetch 133 50 = some (.return_, 51, 0, 0, 0, 0) := fr fe_X8_holds0 26 rfl
theorem i_X8_set_0 : fetch 132 0 = some (.iload_n 1, 1, 0, 0, 0, 0) := fr fe_X8_set 0 rfl
theorem i_X8_set_1 : fetch 132 1 = some (.iconst 0, 2, 0, 0, 0, 0) := fr fe_X8_set 1 rfl
theorem i_X8_set_2 : fetch 132 2 = some (.iconst 2, 3, 0, 0, 0, 0) := fr fe_X8_set 2 rfl
theorem i_X8_set_3 : fetch 132 3 = some (.invokestatic 112, 6, 126, 0, 0, 1022) := fr fe_X8_set 3 rfl
theorem i_X8_set_6 : fetch 132 6 = some (.ifCond .ne 5, 9, 0, 0, 0, 0) := fr fe_X8_set 4 rfl
theorem i_X8_set_9 : fetch 132 9 = some (.iconst (-1), 10, 0, 0, 0, 0) := fr fe_X8_set 5 rfl
theorem i_X8_set_10 : fetch 132 10 = some (.ireturn, 11, 0, 0, 0, 0) := fr fe_X8_set 6 rfl
theorem i_X8_set_11 : fetch 132 11 = some (.iload_n 2, 12, 0, 0, 0, 0) := fr fe_X8_set 7 rfl
theorem i_X8_set_12 : fetch 132 12 = some (.iconst 0, 13, 0, 0, 0, 0) := fr fe_X8_set 8 rfl
theorem i_X8_set_13 : fetch 132 13 = some (.bipush 9, 15, 0, 0, 0, 0) := fr fe_X8_set 9 rfl
theorem i_X8_set_15 : fetch 132 15 = some (.invokestatic 112, 18, 126, 0, 0, 1022) := fr fe_X8_set 10 rfl
theorem i_X8_set_18 : fetch 132 18 = some (.ifCond .ne 6, 21, 0, 0, 0, 0) := fr fe_X8_set 11 rfl
theorem i_X8_set_21 : fetch 132 21 = some (.bipush (-2), 23, 0, 0, 0, 0) := fr fe_X8_set 12 rfl
theorem i_X8_set_23 : fetch 132 23 = some (.ireturn, 24, 0, 0, 0, 0) := fr fe_X8_set 13 rfl
theorem i_X8_set_24 : fetch 132 24 = some (.aload_n 0, 25, 0, 0, 0, 0) := fr fe_X8_set 14 rfl
theorem i_X8_set_25 : fetch 132 25 = some (.iload_n 1, 26, 0, 0, 0, 0) := fr fe_X8_set 15 rfl
theorem i_X8_set_26 : fetch 132 26 = some (.invokevirtual 124, 29, 134, 0, 0, 1252) := fr fe_X8_set 16 rfl
theorem i_X8_set_29 : fetch 132 29 = some (.istore_n 3, 30, 0, 0, 0, 0) := fr fe_X8_set 17 rfl
theorem i_X8_set_30 : fetch 132 30 = some (.aload_n 0, 31, 0, 0, 0, 0) := fr fe_X8_set 18 rfl
theorem i_X8_set_31 : fetch 132 31 = some (.iload_n 1, 32, 0, 0, 0, 0) := fr fe_X8_set 19 rfl
theorem i_X8_set_32 : fetch 132 32 = some (.iload_n 2, 33, 0, 0, 0, 0) := fr fe_X8_set 20 rfl
theorem i_X8_set_33 : fetch 132 33 = some (.invokevirtual 128, 36, 133, 0, 0, 1256) := fr fe_X8_set 21 rfl
theorem i_X8_set_36 : fetch 132 36 = some (.iload_n 3, 37, 0, 0, 0, 0) := fr fe_X8_set 22 rfl
theorem i_X8_set_37 : fetch 132 37 = some (.ireturn, 38, 0, 0, 0, 0) := fr fe_X8_set 23 rfl
theorem i_X8_feed_0 : fetch 135 0 = some (.iload_n 3, 1, 0, 0, 0, 0) := fr fe_X8_feed_1 0 rfl
theorem i_X8_feed_1 : fetch 135 1 = some (.iconst 1, 2, 0, 0, 0, 0) := fr fe_X8_feed_1 1 rfl
theorem i_X8_feed_2 : fetch 135 2 = some (.bipush 8, 4, 0, 0, 0, 0) := fr fe_X8_feed_1 2 rfl
theorem i_X8_feed_4 : fetch 135 4 = some (.invokestatic 112, 7, 126, 0, 0, 1022) := fr fe_X8_feed_1 3 rfl
theorem i_X8_feed_7 : fetch 135 7 = some (.ifCond .ne 6, 10, 0, 0, 0, 0) := fr fe_X8_feed_1 4 rfl
theorem i_X8_feed_10 : fetch 135 10 = some (.bipush (-2), 12, 0, 0, 0, 0) := fr fe_X8_feed_1 5 rfl
theorem i_X8_feed_12 : fetch 135 12 = some (.ireturn, 13, 0, 0, 0, 0) := fr fe_X8_feed_1 6 rfl
theorem i_X8_feed_13 : fetch 135 13 = some (.aload_n 0, 14, 0, 0, 0, 0) := fr fe_X8_feed_1 7 rfl
theorem i_X8_feed_14 : fetch 135 14 = some (.getfield 105, 17, 8, 10, 0, 1071) := fr fe_X8_feed_1 8 rfl
theorem i_X8_feed_17 : fetch 135 17 = some (.iload_n 3, 18, 0, 0, 0, 0) := fr fe_X8_feed_1 9 rfl
theorem i_X8_feed_18 : fetch 135 18 = some (.iadd, 19, 0, 0, 0, 0) := fr fe_X8_feed_1 10 rfl
theorem i_X8_feed_19 : fetch 135 19 = some (.sipush 160, 22, 0, 0, 0, 0) := fr fe_X8_feed_1 11 rfl
theorem i_X8_feed_22 : fetch 135 22 = some (.if_icmp .le 6, 25, 0, 0, 0, 0) := fr fe_X8_feed_1 12 rfl
theorem i_X8_feed_25 : fetch 135 25 = some (.bipush (-4), 27, 0, 0, 0, 0) := fr fe_X8_feed_1 13 rfl
theorem i_X8_feed_27 : fetch 135 27 = some (.ireturn, 28, 0, 0, 0, 0) := fr fe_X8_feed_1 14 rfl
theorem i_X8_feed_28 : fetch 135 28 = some (.iload_n 3, 29, 0, 0, 0, 0) := fr fe_X8_feed_1 15 rfl
theorem i_X8_feed_29 : fetch 135 29 = some (.iconst 1, 30, 0, 0, 0, 0) := fr fe_X8_feed_1 16 rfl
theorem i_X8_feed_30 : fetch 135 30 = some (.isub, 31, 0, 0, 0, 0) := fr fe_X8_feed_1 17 rfl
theorem i_X8_feed_31 : fetch 135 31 = some (.istore 4, 33, 0, 0, 0, 0) := fr fe_X8_feed_1 18 rfl
theorem i_X8_feed_33 : fetch 135 33 = some (.iload 4, 35, 0, 0, 0, 0) := fr fe_X8_feed_1 19 rfl
theorem i_X8_feed_35 : fetch 135 35 = some (.ifCond .lt 40, 38, 0, 0, 0, 0) := fr fe_X8_feed_1 20 rfl
theorem i_X8_feed_38 : fetch 135 38 = some (.aload_n 0, 39, 0, 0, 0, 0) := fr fe_X8_feed_1 21 rfl
theorem i_X8_feed_39 : fetch 135 39 = some (.getfield 36, 42, 8, 9, 0, 1070) := fr fe_X8_feed_1 22 rfl
theorem i_X8_feed_42 : fetch 135 42 = some (.aload_n 0, 43, 0, 0, 0, 0) := fr fe_X8_feed_1 23 rfl
theorem i_X8_feed_43 : fetch 135 43 = some (.getfield 105, 46, 8, 10, 0, 1071) := fr fe_X8_feed_1 24 rfl
theorem i_X8_feed_46 : fetch 135 46 = some (.lload_n 1, 47, 0, 0, 0, 0) := fr fe_X8_feed_2 0 rfl
theorem i_X8_feed_47 : fetch 135 47 = some (.bipush 8, 49, 0, 0, 0, 0) := fr fe_X8_feed_2 1 rfl
theorem i_X8_feed_49 : fetch 135 49 = some (.iload 4, 51, 0, 0, 0, 0) := fr fe_X8_feed_2 2 rfl
theorem i_X8_feed_51 : fetch 135 51 = some (.imul, 52, 0, 0, 0, 0) := fr fe_X8_feed_2 3 rfl
theorem i_X8_feed_52 : fetch 135 52 = some (.lshr, 53, 0, 0, 0, 0) := fr fe_X8_feed_2 4 rfl
theorem i_X8_feed_53 : fetch 135 53 = some (.ldc2_w 138, 56, 0, 0, 255, 1265) := fr fe_X8_feed_2 5 rfl
theorem i_X8_feed_56 : fetch 135 56 = some (.land, 57, 0, 0, 0, 0) := fr fe_X8_feed_2 6 rfl
theorem i_X8_feed_57 : fetch 135 57 = some (.l2i, 58, 0, 0, 0, 0) := fr fe_X8_feed_2 7 rfl
theorem i_X8_feed_58 : fetch 135 58 = some (.iastore, 59, 0, 0, 0, 0) := fr fe_X8_feed_2 8 rfl
theorem i_X8_feed_59 : fetch 135 59 = some (.aload_n 0, 60, 0, 0, 0, 0) := fr fe_X8_feed_2 9 rfl
theorem i_X8_feed_60 : fetch 135 60 = some (.dup, 61, 0, 0, 0, 0) := fr fe_X8_feed_2 10 rfl
theorem i_X8_feed_61 : fetch 135 61 = some (.getfield 105, 64, 8, 10, 0, 1071) := fr fe_X8_feed_2 11 rfl
theorem i_X8_feed_64 : fetch 135 64 = some (.iconst 1, 65, 0, 0, 0, 0) := fr fe_X8_feed_2 12 rfl
theorem i_X8_feed_65 : fetch 135 65 = some (.iadd, 66, 0, 0, 0, 0) := fr fe_X8_feed_2 13 rfl
theorem i_X8_feed_66 : fetch 135 66 = some (.putfield 105, 69, 8, 10, 0, 1071) := fr fe_X8_feed_2 14 rfl
theorem i_X8_feed_69 : fetch 135 69 = some (.iinc 4 (-1), 72, 0, 0, 0, 0) := fr fe_X8_feed_2 15 rfl
theorem i_X8_feed_72 : fetch 135 72 = some (.goto (-39), 75, 0, 0, 0, 0) := fr fe_X8_feed_2 16 rfl
theorem i_X8_feed_75 : fetch 135 75 = some (.aload_n 0, 76, 0, 0, 0, 0) := fr fe_X8_feed_2 17 rfl
theorem i_X8_feed_76 : fetch 135 76 = some (.getfield 105, 79, 8, 10, 0, 1071) := fr fe_X8_feed_2 18 rfl
theorem i_X8_feed_79 : fetch 135 79 = some (.ireturn, 80, 0, 0, 0, 0) := fr fe_X8_feed_2 19 rfl
theorem i_X8_two_0 : fetch 147 0 = some (.iload_n 0, 1, 0, 0, 0, 0) := fr fe_X8_two_1 0 rfl
theorem i_X8_two_1 : fetch 147 1 = some (.tableswitch 101 11 17 #[43, 57, 101, 71, 82, 93, 97], 44, 0, 0, 0, 0) := fr fe_X8_two_1 1 rfl
theorem i_X8_two_44 : fetch 147 44 = some (.iload_n 1, 45, 0, 0, 0, 0) := fr fe_X8_two_1 2 rfl
theorem i_X8_two_45 : fetch 147 45 = some (.ifCond .ne 7, 48, 0, 0, 0, 0) := fr fe_X8_two_1 3 rfl
theorem i_X8_two_48 : fetch 147 48 = some (.iload_n 2, 49, 0, 0, 0, 0) := fr fe_X8_two_1 4 rfl
theorem i_X8_two_49 : fetch 147 49 = some (.ifCond .eq 7, 52, 0, 0, 0, 0) := fr fe_X8_two_1 5 rfl
theorem i_X8_two_52 : fetch 147 52 = some (.iconst 1, 53, 0, 0, 0, 0) := fr fe_X8_two_1 6 rfl
theorem i_X8_two_53 : fetch 147 53 = some (.goto 4, 56, 0, 0, 0, 0) := fr fe_X8_two_1 7 rfl
theorem i_X8_two_56 : fetch 147 56 = some (.iconst 0, 57, 0, 0, 0, 0) := fr fe_X8_two_1 8 rfl
theorem i_X8_two_57 : fetch 147 57 = some (.ireturn, 58, 0, 0, 0, 0) := fr fe_X8_two_1 9 rfl
theorem i_X8_two_58 : fetch 147 58 = some (.iload_n 1, 59, 0, 0, 0, 0) := fr fe_X8_two_1 10 rfl
theorem i_X8_two_59 : fetch 147 59 = some (.ifCond .eq 11, 62, 0, 0, 0, 0) := fr fe_X8_two_1 11 rfl
theorem i_X8_two_62 : fetch 147 62 = some (.iload_n 2, 63, 0, 0, 0, 0) := fr fe_X8_two_1 12 rfl
theorem i_X8_two_63 : fetch 147 63 = some (.ifCond .eq 7, 66, 0, 0, 0, 0) := fr fe_X8_two_1 13 rfl
theorem i_X8_two_66 : fetch 147 66 = some (.iconst 1, 67, 0, 0, 0, 0) := fr fe_X8_two_1 14 rfl
theorem i_X8_two_67 : fetch 147 67 = some (.goto 4, 70, 0, 0, 0, 0) := fr fe_X8_two_1 15 rfl
theorem i_X8_two_70 : fetch 147 70 = some (.iconst 0, 71, 0, 0, 0, 0) := fr fe_X8_two_1 16 rfl
theorem i_X8_two_71 : fetch 147 71 = some (.ireturn, 72, 0, 0, 0, 0) := fr fe_X8_two_1 17 rfl
theorem i_X8_two_72 : fetch 147 72 = some (.iload_n 1, 73, 0, 0, 0, 0) := fr fe_X8_two_1 18 rfl
theorem i_X8_two_73 : fetch 147 73 = some (.iload_n 2, 74, 0, 0, 0, 0) := fr fe_X8_two_1 19 rfl
theorem i_X8_two_74 : fetch 147 74 = some (.if_icmp .ge 7, 77, 0, 0, 0, 0) := fr fe_X8_two_1 20 rfl
theorem i_X8_two_77 : fetch 147 77 = some (.iconst 1, 78, 0, 0, 0, 0) := fr fe_X8_two_1 21 rfl
theorem i_X8_two_78 : fetch 147 78 = some (.goto 4, 81, 0, 0, 0, 0) := fr fe_X8_two_1 22 rfl
theorem i_X8_two_81 : fetch 147 81 = some (.iconst 0, 82, 0, 0, 0, 0) := fr fe_X8_two_1 23 rfl
theorem i_X8_two_82 : fetch 147 82 = some (.ireturn, 83, 0, 0, 0, 0) := fr fe_X8_two_1 24 rfl
theorem i_X8_two_83 : fetch 147 83 = some (.iload_n 1, 84, 0, 0, 0, 0) := fr fe_X8_two_2 0 rfl
theorem i_X8_two_84 : fetch 147 84 = some (.iload_n 2, 85, 0, 0, 0, 0) := fr fe_X8_two_2 1 rfl
theorem i_X8_two_85 : fetch 147 85 = some (.if_icmp .ne 7, 88, 0, 0, 0, 0) := fr fe_X8_two_2 2 rfl
theorem i_X8_two_88 : fetch 147 88 = some (.iconst 1, 89, 0, 0, 0, 0) := fr fe_X8_two_2 3 rfl
theorem i_X8_two_89 : fetch 147 89 = some (.goto 4, 92, 0, 0, 0, 0) := fr fe_X8_two_2 4 rfl
theorem i_X8_two_92 : fetch 147 92 = some (.iconst 0, 93, 0, 0, 0, 0) := fr fe_X8_two_2 5 rfl
theorem i_X8_two_93 : fetch 147 93 = some (.ireturn, 94, 0, 0, 0, 0) := fr fe_X8_two_2 6 rfl
theorem i_X8_two_94 : fetch 147 94 = some (.iload_n 1, 95, 0, 0, 0, 0) := fr fe_X8_two_2 7 rfl
theorem i_X8_two_95 : fetch 147 95 = some (.iload_n 2, 96, 0, 0, 0, 0) := fr fe_X8_two_2 8 rfl
theorem i_X8_two_96 : fetch 147 96 = some (.iadd, 97, 0, 0, 0, 0) := fr fe_X8_two_2 9 rfl
theorem i_X8_two_97 : fetch 147 97 = some (.ireturn, 98, 0, 0, 0, 0) := fr fe_X8_two_2 10 rfl
theorem i_X8_two_98 : fetch 147 98 = some (.iload_n 1, 99, 0, 0, 0, 0) := fr fe_X8_two_2 11 rfl
theorem i_X8_two_99 : fetch 147 99 = some (.iload_n 2, 100, 0, 0, 0, 0) := fr fe_X8_two_2 12 rfl
theorem i_X8_two_100 : fetch 147 100 = some (.isub, 101, 0, 0, 0, 0) := fr fe_X8_two_2 13 rfl
theorem i_X8_two_101 : fetch 147 101 = some (.ireturn, 102, 0, 0, 0, 0) := fr fe_X8_two_2 14 rfl
theorem i_X8_two_102 : fetch 147 102 = some (.iload_n 1, 103, 0, 0, 0, 0) := fr fe_X8_two_2 15 rfl
theorem i_X8_two_103 : fetch 147 103 = some (.iload_n 2, 104, 0, 0, 0, 0) := fr fe_X8_two_2 16 rfl
theorem i_X8_two_104 : fetch 147 104 = some (.imul, 105, 0, 0, 0, 0) := fr fe_X8_two_2 17 rfl
theorem i_X8_two_105 : fetch 147 105 = some (.ireturn, 106, 0, 0, 0, 0) := fr fe_X8_two_2 18 rfl
theorem i_X8_worth_0 : fetch 148 0 = some (.iconst 0, 1, 0, 0, 0, 0) := fr fe_X8_worth_1 0 rfl
theorem i_X8_worth_1 : fetch 148 1 = some (.istore_n 2, 2, 0, 0, 0, 0) := fr fe_X8_worth_1 1 rfl
theorem i_X8_worth_2 : fetch 148 2 = some (.aload_n 0, 3, 0, 0, 0, 0) := fr fe_X8_worth_1 2 rfl
theorem i_X8_worth_3 : fetch 148 3 = some (.getfield 42, 6, 8, 12, 0, 1089) := fr fe_X8_worth_1 3 rfl
theorem i_X8_worth_6 : fetch 148 6 = some (.iconst 4, 7, 0, 0, 0, 0) := fr fe_X8_worth_1 4 rfl
theorem i_X8_worth_7 : fetch 148 7 = some (.aload_n 0, 8, 0, 0, 0, 0) := fr fe_X8_worth_1 5 rfl
theorem i_X8_worth_8 : fetch 148 8 = some (.getfield 135, 11, 8, 14, 0, 1091) := fr fe_X8_worth_1 6 rfl
theorem i_X8_worth_11 : fetch 148 11 = some (.imul, 12, 0, 0, 0, 0) := fr fe_X8_worth_1 7 rfl
theorem i_X8_worth_12 : fetch 148 12 = some (.iload_n 1, 13, 0, 0, 0, 0) := fr fe_X8_worth_1 8 rfl
theorem i_X8_worth_13 : fetch 148 13 = some (.iadd, 14, 0, 0, 0, 0) := fr fe_X8_worth_1 9 rfl
theorem i_X8_worth_14 : fetch 148 14 = some (.iaload, 15, 0, 0, 0, 0) := fr fe_X8_worth_1 10 rfl
theorem i_X8_worth_15 : fetch 148 15 = some (.istore_n 3, 16, 0, 0, 0, 0) := fr fe_X8_worth_1 11 rfl
theorem i_X8_worth_16 : fetch 148 16 = some (.iload_n 3, 17, 0, 0, 0, 0) := fr fe_X8_worth_1 12 rfl
theorem i_X8_worth_17 : fetch 148 17 = some (.aload_n 0, 18, 0, 0, 0, 0) := fr fe_X8_worth_1 13 rfl
theorem i_X8_worth_18 : fetch 148 18 = some (.getfield 42, 21, 8, 12, 0, 1089) := fr fe_X8_worth_1 14 rfl
theorem i_X8_worth_21 : fetch 148 21 = some (.iconst 4, 22, 0, 0, 0, 0) := fr fe_X8_worth_1 15 rfl
theorem i_X8_worth_22 : fetch 148 22 = some (.aload_n 0, 23, 0, 0, 0, 0) := fr fe_X8_worth_1 16 rfl
theorem i_X8_worth_23 : fetch 148 23 = some (.getfield 135, 26, 8, 14, 0, 1091) := fr fe_X8_worth_1 17 rfl
theorem i_X8_worth_26 : fetch 148 26 = some (.imul, 27, 0, 0, 0, 0) := fr fe_X8_worth_1 18 rfl
theorem i_X8_worth_27 : fetch 148 27 = some (.iload_n 1, 28, 0, 0, 0, 0) := fr fe_X8_worth_1 19 rfl
theorem i_X8_worth_28 : fetch 148 28 = some (.iadd, 29, 0, 0, 0, 0) := fr fe_X8_worth_1 20 rfl
theorem i_X8_worth_29 : fetch 148 29 = some (.iconst 1, 30, 0, 0, 0, 0) := fr fe_X8_worth_1 21 rfl
theorem i_X8_worth_30 : fetch 148 30 = some (.iadd, 31, 0, 0, 0, 0) := fr fe_X8_worth_1 22 rfl
theorem i_X8_worth_31 : fetch 148 31 = some (.iaload, 32, 0, 0, 0, 0) := fr fe_X8_worth_1 23 rfl
theorem i_X8_worth_32 : fetch 148 32 = some (.if_icmp .ge 165, 35, 0, 0, 0, 0) := fr fe_X8_worth_1 24 rfl
theorem i_X8_worth_35 : fetch 148 35 = some (.aload_n 0, 36, 0, 0, 0, 0) := fr fe_X8_worth_2 0 rfl
theorem i_X8_worth_36 : fetch 148 36 = some (.getfield 39, 39, 8, 11, 0, 1088) := fr fe_X8_worth_2 1 rfl
theorem i_X8_worth_39 : fetch 148 39 = some (.sipush 200, 42, 0, 0, 0, 0) := fr fe_X8_worth_2 2 rfl
theorem i_X8_worth_42 : fetch 148 42 = some (.aload_n 0, 43, 0, 0, 0, 0) := fr fe_X8_worth_2 3 rfl
theorem i_X8_worth_43 : fetch 148 43 = some (.getfield 135, 46, 8, 14, 0, 1091) := fr fe_X8_worth_2 4 rfl
theorem i_X8_worth_46 : fetch 148 46 = some (.imul, 47, 0, 0, 0, 0) := fr fe_X8_worth_2 5 rfl
theorem i_X8_worth_47 : fetch 148 47 = some (.iload_n 3, 48, 0, 0, 0, 0) := fr fe_X8_worth_2 6 rfl
theorem i_X8_worth_48 : fetch 148 48 = some (.iadd, 49, 0, 0, 0, 0) := fr fe_X8_worth_2 7 rfl
theorem i_X8_worth_49 : fetch 148 49 = some (.iaload, 50, 0, 0, 0, 0) := fr fe_X8_worth_2 8 rfl
theorem i_X8_worth_50 : fetch 148 50 = some (.istore 4, 52, 0, 0, 0, 0) := fr fe_X8_worth_2 9 rfl
theorem i_X8_worth_52 : fetch 148 52 = some (.iload 4, 54, 0, 0, 0, 0) := fr fe_X8_worth_2 10 rfl
theorem i_X8_worth_54 : fetch 148 54 = some (.ldc 181, 56, 0, 0, 100000, 1033) := fr fe_X8_worth_2 11 rfl
theorem i_X8_worth_56 : fetch 148 56 = some (.if_icmp .ge 10, 59, 0, 0, 0, 0) := fr fe_X8_worth_2 12 rfl
theorem i_X8_worth_59 : fetch 148 59 = some (.iload 4, 61, 0, 0, 0, 0) := fr fe_X8_worth_2 13 rfl
theorem i_X8_worth_61 : fetch 148 61 = some (.bipush 11, 63, 0, 0, 0, 0) := fr fe_X8_worth_2 14 rfl
theorem i_X8_worth_63 : fetch 148 63 = some (.if_icmp .ge 37, 66, 0, 0, 0, 0) := fr fe_X8_worth_2 15 rfl
theorem i_X8_worth_66 : fetch 148 66 = some (.aload_n 0, 67, 0, 0, 0, 0) := fr fe_X8_worth_2 16 rfl
theorem i_X8_worth_67 : fetch 148 67 = some (.getfield 69, 70, 8, 35, 0, 1112) := fr fe_X8_worth_2 17 rfl
theorem i_X8_worth_70 : fetch 148 70 = some (.iload_n 2, 71, 0, 0, 0, 0) := fr fe_X8_worth_2 18 rfl
theorem i_X8_worth_71 : fetch 148 71 = some (.iload 4, 73, 0, 0, 0, 0) := fr fe_X8_worth_2 19 rfl
theorem i_X8_worth_73 : fetch 148 73 = some (.bipush 11, 75, 0, 0, 0, 0) := fr fe_X8_worth_2 20 rfl
theorem i_X8_worth_75 : fetch 148 75 = some (.if_icmp .ge 13, 78, 0, 0, 0, 0) := fr fe_X8_worth_2 21 rfl
theorem i_X8_worth_78 : fetch 148 78 = some (.aload_n 0, 79, 0, 0, 0, 0) := fr fe_X8_worth_2 22 rfl
theorem i_X8_worth_79 : fetch 148 79 = some (.getfield 72, 82, 8, 36, 0, 1113) := fr fe_X8_worth_2 23 rfl
theorem i_X8_worth_82 : fetch 148 82 = some (.iload 4, 84, 0, 0, 0, 0) := fr fe_X8_worth_2 24 rfl
theorem i_X8_worth_84 : fetch 148 84 = some (.iaload, 85, 0, 0, 0, 0) := fr fe_X8_worth_3 0 rfl
theorem i_X8_worth_85 : fetch 148 85 = some (.goto 8, 88, 0, 0, 0, 0) := fr fe_X8_worth_3 1 rfl
theorem i_X8_worth_88 : fetch 148 88 = some (.iload 4, 90, 0, 0, 0, 0) := fr fe_X8_worth_3 2 rfl
theorem i_X8_worth_90 : fetch 148 90 = some (.ldc 181, 92, 0, 0, 100000, 1033) := fr fe_X8_worth_3 3 rfl
theorem i_X8_worth_92 : fetch 148 92 = some (.isub, 93, 0, 0, 0, 0) := fr fe_X8_worth_3 4 rfl
theorem i_X8_worth_93 : fetch 148 93 = some (.iastore, 94, 0, 0, 0, 0) := fr fe_X8_worth_3 5 rfl
theorem i_X8_worth_94 : fetch 148 94 = some (.iinc 2 1, 97, 0, 0, 0, 0) := fr fe_X8_worth_3 6 rfl
theorem i_X8_worth_97 : fetch 148 97 = some (.goto 94, 100, 0, 0, 0, 0) := fr fe_X8_worth_3 7 rfl
theorem i_X8_worth_100 : fetch 148 100 = some (.iload 4, 102, 0, 0, 0, 0) := fr fe_X8_worth_3 8 rfl
theorem i_X8_worth_102 : fetch 148 102 = some (.bipush 13, 104, 0, 0, 0, 0) := fr fe_X8_worth_3 9 rfl
theorem i_X8_worth_104 : fetch 148 104 = some (.if_icmp .ne 30, 107, 0, 0, 0, 0) := fr fe_X8_worth_3 10 rfl
theorem i_X8_worth_107 : fetch 148 107 = some (.aload_n 0, 108, 0, 0, 0, 0) := fr fe_X8_worth_3 11 rfl
theorem i_X8_worth_108 : fetch 148 108 = some (.getfield 69, 111, 8, 35, 0, 1112) := fr fe_X8_worth_3 12 rfl
theorem i_X8_worth_111 : fetch 148 111 = some (.iload_n 2, 112, 0, 0, 0, 0) := fr fe_X8_worth_3 13 rfl
theorem i_X8_worth_112 : fetch 148 112 = some (.iconst 1, 113, 0, 0, 0, 0) := fr fe_X8_worth_3 14 rfl
theorem i_X8_worth_113 : fetch 148 113 = some (.isub, 114, 0, 0, 0, 0) := fr fe_X8_worth_3 15 rfl
theorem i_X8_worth_114 : fetch 148 114 = some (.aload_n 0, 115, 0, 0, 0, 0) := fr fe_X8_worth_3 16 rfl
theorem i_X8_worth_115 : fetch 148 115 = some (.getfield 69, 118, 8, 35, 0, 1112) := fr fe_X8_worth_3 17 rfl
theorem i_X8_worth_118 : fetch 148 118 = some (.iload_n 2, 119, 0, 0, 0, 0) := fr fe_X8_worth_3 18 rfl
theorem i_X8_worth_119 : fetch 148 119 = some (.iconst 1, 120, 0, 0, 0, 0) := fr fe_X8_worth_3 19 rfl
theorem i_X8_worth_120 : fetch 148 120 = some (.isub, 121, 0, 0, 0, 0) := fr fe_X8_worth_3 20 rfl
theorem i_X8_worth_121 : fetch 148 121 = some (.iaload, 122, 0, 0, 0, 0) := fr fe_X8_worth_3 21 rfl
theorem i_X8_worth_122 : fetch 148 122 = some (.ifCond .ne 7, 125, 0, 0, 0, 0) := fr fe_X8_worth_3 22 rfl
theorem i_X8_worth_125 : fetch 148 125 = some (.iconst 1, 126, 0, 0, 0, 0) := fr fe_X8_worth_3 23 rfl
theorem i_X8_worth_126 : fetch 148 126 = some (.goto 4, 129, 0, 0, 0, 0) := fr fe_X8_worth_3 24 rfl
theorem i_X8_worth_129 : fetch 148 129 = some (.iconst 0, 130, 0, 0, 0, 0) := fr fe_X8_worth_4 0 rfl
theorem i_X8_worth_130 : fetch 148 130 = some (.iastore, 131, 0, 0, 0, 0) := fr fe_X8_worth_4 1 rfl
theorem i_X8_worth_131 : fetch 148 131 = some (.goto 60, 134, 0, 0, 0, 0) := fr fe_X8_worth_4 2 rfl
theorem i_X8_worth_134 : fetch 148 134 = some (.iload 4, 136, 0, 0, 0, 0) := fr fe_X8_worth_4 3 rfl
theorem i_X8_worth_136 : fetch 148 136 = some (.bipush 19, 138, 0, 0, 0, 0) := fr fe_X8_worth_4 4 rfl
theorem i_X8_worth_138 : fetch 148 138 = some (.if_icmp .ne 23, 141, 0, 0, 0, 0) := fr fe_X8_worth_4 5 rfl
theorem i_X8_worth_141 : fetch 148 141 = some (.aload_n 0, 142, 0, 0, 0, 0) := fr fe_X8_worth_4 6 rfl
theorem i_X8_worth_142 : fetch 148 142 = some (.getfield 69, 145, 8, 35, 0, 1112) := fr fe_X8_worth_4 7 rfl
theorem i_X8_worth_145 : fetch 148 145 = some (.iload_n 2, 146, 0, 0, 0, 0) := fr fe_X8_worth_4 8 rfl
theorem i_X8_worth_146 : fetch 148 146 = some (.iconst 1, 147, 0, 0, 0, 0) := fr fe_X8_worth_4 9 rfl
theorem i_X8_worth_147 : fetch 148 147 = some (.isub, 148, 0, 0, 0, 0) := fr fe_X8_worth_4 10 rfl
theorem i_X8_worth_148 : fetch 148 148 = some (.aload_n 0, 149, 0, 0, 0, 0) := fr fe_X8_worth_4 11 rfl
theorem i_X8_worth_149 : fetch 148 149 = some (.getfield 69, 152, 8, 35, 0, 1112) := fr fe_X8_worth_4 12 rfl
theorem i_X8_worth_152 : fetch 148 152 = some (.iload_n 2, 153, 0, 0, 0, 0) := fr fe_X8_worth_4 13 rfl
theorem i_X8_worth_153 : fetch 148 153 = some (.iconst 1, 154, 0, 0, 0, 0) := fr fe_X8_worth_4 14 rfl
theorem i_X8_worth_154 : fetch 148 154 = some (.isub, 155, 0, 0, 0, 0) := fr fe_X8_worth_4 15 rfl
theorem i_X8_worth_155 : fetch 148 155 = some (.iaload, 156, 0, 0, 0, 0) := fr fe_X8_worth_4 16 rfl
theorem i_X8_worth_156 : fetch 148 156 = some (.ineg, 157, 0, 0, 0, 0) := fr fe_X8_worth_4 17 rfl
theorem i_X8_worth_157 : fetch 148 157 = some (.iastore, 158, 0, 0, 0, 0) := fr fe_X8_worth_4 18 rfl
theorem i_X8_worth_158 : fetch 148 158 = some (.goto 33, 161, 0, 0, 0, 0) := fr fe_X8_worth_4 19 rfl
theorem i_X8_worth_161 : fetch 148 161 = some (.iinc 2 (-1), 164, 0, 0, 0, 0) := fr fe_X8_worth_4 20 rfl
theorem i_X8_worth_164 : fetch 148 164 = some (.aload_n 0, 165, 0, 0, 0, 0) := fr fe_X8_worth_4 21 rfl
theorem i_X8_worth_165 : fetch 148 165 = some (.getfield 69, 168, 8, 35, 0, 1112) := fr fe_X8_worth_4 22 rfl
theorem i_X8_worth_168 : fetch 148 168 = some (.iload_n 2, 169, 0, 0, 0, 0) := fr fe_X8_worth_4 23 rfl
theorem i_X8_worth_169 : fetch 148 169 = some (.iconst 1, 170, 0, 0, 0, 0) := fr fe_X8_worth_4 24 rfl
theorem i_X8_worth_170 : fetch 148 170 = some (.isub, 171, 0, 0, 0, 0) := fr fe_X8_worth_5 0 rfl
theorem i_X8_worth_171 : fetch 148 171 = some (.iload 4, 173, 0, 0, 0, 0) := fr fe_X8_worth_5 1 rfl
theorem i_X8_worth_173 : fetch 148 173 = some (.aload_n 0, 174, 0, 0, 0, 0) := fr fe_X8_worth_5 2 rfl
theorem i_X8_worth_174 : fetch 148 174 = some (.getfield 69, 177, 8, 35, 0, 1112) := fr fe_X8_worth_5 3 rfl
theorem i_X8_worth_177 : fetch 148 177 = some (.iload_n 2, 178, 0, 0, 0, 0) := fr fe_X8_worth_5 4 rfl
theorem i_X8_worth_178 : fetch 148 178 = some (.iconst 1, 179, 0, 0, 0, 0) := fr fe_X8_worth_5 5 rfl
theorem i_X8_worth_179 : fetch 148 179 = some (.isub, 180, 0, 0, 0, 0) := fr fe_X8_worth_5 6 rfl
theorem i_X8_worth_180 : fetch 148 180 = some (.iaload, 181, 0, 0, 0, 0) := fr fe_X8_worth_5 7 rfl
theorem i_X8_worth_181 : fetch 148 181 = some (.aload_n 0, 182, 0, 0, 0, 0) := fr fe_X8_worth_5 8 rfl
theorem i_X8_worth_182 : fetch 148 182 = some (.getfield 69, 185, 8, 35, 0, 1112) := fr fe_X8_worth_5 9 rfl
theorem i_X8_worth_185 : fetch 148 185 = some (.iload_n 2, 186, 0, 0, 0, 0) := fr fe_X8_worth_5 10 rfl
theorem i_X8_worth_186 : fetch 148 186 = some (.iaload, 187, 0, 0, 0, 0) := fr fe_X8_worth_5 11 rfl
theorem i_X8_worth_187 : fetch 148 187 = some (.invokestatic 195, 190, 147, 0, 0, 1348) := fr fe_X8_worth_5 12 rfl
theorem i_X8_worth_190 : fetch 148 190 = some (.iastore, 191, 0, 0, 0, 0) := fr fe_X8_worth_5 13 rfl
theorem i_X8_worth_191 : fetch 148 191 = some (.iinc 3 1, 194, 0, 0, 0, 0) := fr fe_X8_worth_5 14 rfl
theorem i_X8_worth_194 : fetch 148 194 = some (.goto (-178), 197, 0, 0, 0, 0) := fr fe_X8_worth_5 15 rfl
theorem i_X8_worth_197 : fetch 148 197 = some (.aload_n 0, 198, 0, 0, 0, 0) := fr fe_X8_worth_5 16 rfl
theorem i_X8_worth_198 : fetch 148 198 = some (.getfield 69, 201, 8, 35, 0, 1112) := fr fe_X8_worth_5 17 rfl
theorem i_X8_worth_201 : fetch 148 201 = some (.iconst 0, 202, 0, 0, 0, 0) := fr fe_X8_worth_5 18 rfl
theorem i_X8_worth_202 : fetch 148 202 = some (.iaload, 203, 0, 0, 0, 0) := fr fe_X8_worth_5 19 rfl
theorem i_X8_worth_203 : fetch 148 203 = some (.ireturn, 204, 0, 0, 0, 0) := fr fe_X8_worth_5 20 rfl
theorem i_X8_force_0 : fetch 149 0 = some (.iload_n 1, 1, 0, 0, 0, 0) := fr fe_X8_force 0 rfl
theorem i_X8_force_1 : fetch 149 1 = some (.iconst 0, 2, 0, 0, 0, 0) := fr fe_X8_force 1 rfl
theorem i_X8_force_2 : fetch 149 2 = some (.aload_n 0, 3, 0, 0, 0, 0) := fr fe_X8_force 2 rfl
theorem i_X8_force_3 : fetch 149 3 = some (.getfield 132, 6, 8, 13, 0, 1090) := fr fe_X8_force 3 rfl
theorem i_X8_force_6 : fetch 149 6 = some (.iconst 1, 7, 0, 0, 0, 0) := fr fe_X8_force 4 rfl
theorem i_X8_force_7 : fetch 149 7 = some (.isub, 8, 0, 0, 0, 0) := fr fe_X8_force 5 rfl
theorem i_X8_force_8 : fetch 149 8 = some (.invokestatic 112, 11, 126, 0, 0, 1022) := fr fe_X8_force 6 rfl
theorem i_X8_force_11 : fetch 149 11 = some (.ifCond .ne 6, 14, 0, 0, 0, 0) := fr fe_X8_force 7 rfl
theorem i_X8_force_14 : fetch 149 14 = some (.bipush (-2), 16, 0, 0, 0, 0) := fr fe_X8_force 8 rfl
theorem i_X8_force_16 : fetch 149 16 = some (.ireturn, 17, 0, 0, 0, 0) := fr fe_X8_force 9 rfl
theorem i_X8_force_17 : fetch 149 17 = some (.aload_n 0, 18, 0, 0, 0, 0) := fr fe_X8_force 10 rfl
theorem i_X8_force_18 : fetch 149 18 = some (.getfield 135, 21, 8, 14, 0, 1091) := fr fe_X8_force 11 rfl
theorem i_X8_force_21 : fetch 149 21 = some (.istore_n 2, 22, 0, 0, 0, 0) := fr fe_X8_force 12 rfl
theorem i_X8_force_22 : fetch 149 22 = some (.aload_n 0, 23, 0, 0, 0, 0) := fr fe_X8_force 13 rfl
theorem i_X8_force_23 : fetch 149 23 = some (.iload_n 1, 24, 0, 0, 0, 0) := fr fe_X8_force 14 rfl
theorem i_X8_force_24 : fetch 149 24 = some (.putfield 135, 27, 8, 14, 0, 1091) := fr fe_X8_force 15 rfl
theorem i_X8_force_27 : fetch 149 27 = some (.iload_n 2, 28, 0, 0, 0, 0) := fr fe_X8_force 16 rfl
theorem i_X8_force_28 : fetch 149 28 = some (.ireturn, 29, 0, 0, 0, 0) := fr fe_X8_force 17 rfl
theorem i_X8_step_0 : fetch 150 0 = some (.iload_n 1, 1, 0, 0, 0, 0) := fr fe_X8_step_1 0 rfl
theorem i_X8_step_1 : fetch 150 1 = some (.iconst 0, 2, 0, 0, 0, 0) := fr fe_X8_step_1 1 rfl
theorem i_X8_step_2 : fetch 150 2 = some (.iconst 5, 3, 0, 0, 0, 0) := fr fe_X8_step_1 2 rfl
theorem i_X8_step_3 : fetch 150 3 = some (.invokestatic 112, 6, 126, 0, 0, 1022) := fr fe_X8_step_1 3 rfl
theorem i_X8_step_6 : fetch 150 6 = some (.ifCond .eq 23, 9, 0, 0, 0, 0) := fr fe_X8_step_1 4 rfl
theorem i_X8_step_9 : fetch 150 9 = some (.iload_n 2, 10, 0, 0, 0, 0) := fr fe_X8_step_1 5 rfl
theorem i_X8_step_10 : fetch 150 10 = some (.iconst 0, 11, 0, 0, 0, 0) := fr fe_X8_step_1 6 rfl
theorem i_X8_step_11 : fetch 150 11 = some (.bipush 9, 13, 0, 0, 0, 0) := fr fe_X8_step_1 7 rfl
theorem i_X8_step_13 : fetch 150 13 = some (.invokestatic 112, 16, 126, 0, 0, 1022) := fr fe_X8_step_1 8 rfl
theorem i_X8_step_16 : fetch 150 16 = some (.ifCond .eq 13, 19, 0, 0, 0, 0) := fr fe_X8_step_1 9 rfl
theorem i_X8_step_19 : fetch 150 19 = some (.iload_n 3, 20, 0, 0, 0, 0) := fr fe_X8_step_1 10 rfl
theorem i_X8_step_20 : fetch 150 20 = some (.iconst 1, 21, 0, 0, 0, 0) := fr fe_X8_step_1 11 rfl
theorem i_X8_step_21 : fetch 150 21 = some (.bipush 9, 23, 0, 0, 0, 0) := fr fe_X8_step_1 12 rfl
theorem i_X8_step_23 : fetch 150 23 = some (.invokestatic 112, 26, 126, 0, 0, 1022) := fr fe_X8_step_1 13 rfl
theorem i_X8_step_26 : fetch 150 26 = some (.ifCond .ne 6, 29, 0, 0, 0, 0) := fr fe_X8_step_1 14 rfl
theorem i_X8_step_29 : fetch 150 29 = some (.bipush (-2), 31, 0, 0, 0, 0) := fr fe_X8_step_1 15 rfl
theorem i_X8_step_31 : fetch 150 31 = some (.ireturn, 32, 0, 0, 0, 0) := fr fe_X8_step_1 16 rfl
theorem i_X8_step_32 : fetch 150 32 = some (.aload_n 0, 33, 0, 0, 0, 0) := fr fe_X8_step_1 17 rfl
theorem i_X8_step_33 : fetch 150 33 = some (.getfield 116, 36, 8, 5, 0, 1066) := fr fe_X8_step_1 18 rfl
theorem i_X8_step_36 : fetch 150 36 = some (.bipush 12, 38, 0, 0, 0, 0) := fr fe_X8_step_1 19 rfl
theorem i_X8_step_38 : fetch 150 38 = some (.if_icmp .ne 6, 41, 0, 0, 0, 0) := fr fe_X8_step_1 20 rfl
theorem i_X8_step_41 : fetch 150 41 = some (.bipush (-4), 43, 0, 0, 0, 0) := fr fe_X8_step_1 21 rfl
theorem i_X8_step_43 : fetch 150 43 = some (.ireturn, 44, 0, 0, 0, 0) := fr fe_X8_step_1 22 rfl
theorem i_X8_step_44 : fetch 150 44 = some (.aload_n 0, 45, 0, 0, 0, 0) := fr fe_X8_step_1 23 rfl
theorem i_X8_step_45 : fetch 150 45 = some (.getfield 27, 48, 8, 6, 0, 1067) := fr fe_X8_step_1 24 rfl
theorem i_X8_step_48 : fetch 150 48 = some (.aload_n 0, 49, 0, 0, 0, 0) := fr fe_X8_step_2 0 rfl
theorem i_X8_step_49 : fetch 150 49 = some (.getfield 116, 52, 8, 5, 0, 1066) := fr fe_X8_step_2 1 rfl
theorem i_X8_step_52 : fetch 150 52 = some (.iload_n 1, 53, 0, 0, 0, 0) := fr fe_X8_step_2 2 rfl
theorem i_X8_step_53 : fetch 150 53 = some (.iastore, 54, 0, 0, 0, 0) := fr fe_X8_step_2 3 rfl
theorem i_X8_step_54 : fetch 150 54 = some (.aload_n 0, 55, 0, 0, 0, 0) := fr fe_X8_step_2 4 rfl
theorem i_X8_step_55 : fetch 150 55 = some (.getfield 30, 58, 8, 7, 0, 1068) := fr fe_X8_step_2 5 rfl
theorem i_X8_step_58 : fetch 150 58 = some (.aload_n 0, 59, 0, 0, 0, 0) := fr fe_X8_step_2 6 rfl
theorem i_X8_step_59 : fetch 150 59 = some (.getfield 116, 62, 8, 5, 0, 1066) := fr fe_X8_step_2 7 rfl
theorem i_X8_step_62 : fetch 150 62 = some (.iload_n 2, 63, 0, 0, 0, 0) := fr fe_X8_step_2 8 rfl
theorem i_X8_step_63 : fetch 150 63 = some (.iastore, 64, 0, 0, 0, 0) := fr fe_X8_step_2 9 rfl
theorem i_X8_step_64 : fetch 150 64 = some (.aload_n 0, 65, 0, 0, 0, 0) := fr fe_X8_step_2 10 rfl
theorem i_X8_step_65 : fetch 150 65 = some (.getfield 33, 68, 8, 8, 0, 1069) := fr fe_X8_step_2 11 rfl
theorem i_X8_step_68 : fetch 150 68 = some (.aload_n 0, 69, 0, 0, 0, 0) := fr fe_X8_step_2 12 rfl
theorem i_X8_step_69 : fetch 150 69 = some (.getfield 116, 72, 8, 5, 0, 1066) := fr fe_X8_step_2 13 rfl
theorem i_X8_step_72 : fetch 150 72 = some (.iload_n 3, 73, 0, 0, 0, 0) := fr fe_X8_step_2 14 rfl
theorem i_X8_step_73 : fetch 150 73 = some (.iastore, 74, 0, 0, 0, 0) := fr fe_X8_step_2 15 rfl
theorem i_X8_step_74 : fetch 150 74 = some (.aload_n 0, 75, 0, 0, 0, 0) := fr fe_X8_step_2 16 rfl
theorem i_X8_step_75 : fetch 150 75 = some (.dup, 76, 0, 0, 0, 0) := fr fe_X8_step_2 17 rfl
theorem i_X8_step_76 : fetch 150 76 = some (.getfield 116, 79, 8, 5, 0, 1066) := fr fe_X8_step_2 18 rfl
theorem i_X8_step_79 : fetch 150 79 = some (.iconst 1, 80, 0, 0, 0, 0) := fr fe_X8_step_2 19 rfl
theorem i_X8_step_80 : fetch 150 80 = some (.iadd, 81, 0, 0, 0, 0) := fr fe_X8_step_2 20 rfl
theorem i_X8_step_81 : fetch 150 81 = some (.putfield 116, 84, 8, 5, 0, 1066) := fr fe_X8_step_2 21 rfl
theorem i_X8_step_84 : fetch 150 84 = some (.aload_n 0, 85, 0, 0, 0, 0) := fr fe_X8_step_2 22 rfl
theorem i_X8_step_85 : fetch 150 85 = some (.getfield 116, 88, 8, 5, 0, 1066) := fr fe_X8_step_2 23 rfl
theorem i_X8_step_88 : fetch 150 88 = some (.iconst 1, 89, 0, 0, 0, 0) := fr fe_X8_step_2 24 rfl
theorem i_X8_step_89 : fetch 150 89 = some (.isub, 90, 0, 0, 0, 0) := fr fe_X8_step_3 0 rfl
theorem i_X8_step_90 : fetch 150 90 = some (.ireturn, 91, 0, 0, 0, 0) := fr fe_X8_step_3 1 rfl
theorem i_X8_forget_0 : fetch 151 0 = some (.aload_n 0, 1, 0, 0, 0, 0) := fr fe_X8_forget 0 rfl
theorem i_X8_forget_1 : fetch 151 1 = some (.getfield 116, 4, 8, 5, 0, 1066) := fr fe_X8_forget 1 rfl
theorem i_X8_forget_4 : fetch 151 4 = some (.ifCond .ne 6, 7, 0, 0, 0, 0) := fr fe_X8_forget 2 rfl
theorem i_X8_forget_7 : fetch 151 7 = some (.bipush (-3), 9, 0, 0, 0, 0) := fr fe_X8_forget 3 rfl
theorem i_X8_forget_9 : fetch 151 9 = some (.ireturn, 10, 0, 0, 0, 0) := fr fe_X8_forget 4 rfl
theorem i_X8_forget_10 : fetch 151 10 = some (.aload_n 0, 11, 0, 0, 0, 0) := fr fe_X8_forget 5 rfl
theorem i_X8_forget_11 : fetch 151 11 = some (.dup, 12, 0, 0, 0, 0) := fr fe_X8_forget 6 rfl
theorem i_X8_forget_12 : fetch 151 12 = some (.getfield 116, 15, 8, 5, 0, 1066) := fr fe_X8_forget 7 rfl
theorem i_X8_forget_15 : fetch 151 15 = some (.iconst 1, 16, 0, 0, 0, 0) := fr fe_X8_forget 8 rfl
theorem i_X8_forget_16 : fetch 151 16 = some (.isub, 17, 0, 0, 0, 0) := fr fe_X8_forget 9 rfl
theorem i_X8_forget_17 : fetch 151 17 = some (.putfield 116, 20, 8, 5, 0, 1066) := fr fe_X8_forget 10 rfl
theorem i_X8_forget_20 : fetch 151 20 = some (.aload_n 0, 21, 0, 0, 0, 0) := fr fe_X8_forget 11 rfl
theorem i_X8_forget_21 : fetch 151 21 = some (.getfield 116, 24, 8, 5, 0, 1066) := fr fe_X8_forget 12 rfl
theorem i_X8_forget_24 : fetch 151 24 = some (.ireturn, 25, 0, 0, 0, 0) := fr fe_X8_forget 13 rfl
theorem i_X8_takesOf_0 : fetch 152 0 = some (.aload_n 0, 1, 0, 0, 0, 0) := fr fe_X8_takesOf_1 0 rfl
theorem i_X8_takesOf_1 : fetch 152 1 = some (.getfield 27, 4, 8, 6, 0, 1067) := fr fe_X8_takesOf_1 1 rfl
theorem i_X8_takesOf_4 : fetch 152 4 = some (.iload_n 1, 5, 0, 0, 0, 0) := fr fe_X8_takesOf_1 2 rfl
theorem i_X8_takesOf_5 : fetch 152 5 = some (.iaload, 6, 0, 0, 0, 0) := fr fe_X8_takesOf_1 3 rfl
theorem i_X8_takesOf_6 : fetch 152 6 = some (.tableswitch 74 1 5 #[34, 44, 54, 56, 65], 40, 0, 0, 0, 0) := fr fe_X8_takesOf_1 4 rfl
theorem i_X8_takesOf_40 : fetch 152 40 = some (.bipush 10, 42, 0, 0, 0, 0) := fr fe_X8_takesOf_1 5 rfl
theorem i_X8_takesOf_42 : fetch 152 42 = some (.aload_n 0, 43, 0, 0, 0, 0) := fr fe_X8_takesOf_1 6 rfl
theorem i_X8_takesOf_43 : fetch 152 43 = some (.getfield 33, 46, 8, 8, 0, 1069) := fr fe_X8_takesOf_1 7 rfl
theorem i_X8_takesOf_46 : fetch 152 46 = some (.iload_n 1, 47, 0, 0, 0, 0) := fr fe_X8_takesOf_1 8 rfl
theorem i_X8_takesOf_47 : fetch 152 47 = some (.iaload, 48, 0, 0, 0, 0) := fr fe_X8_takesOf_1 9 rfl
theorem i_X8_takesOf_48 : fetch 152 48 = some (.isub, 49, 0, 0, 0, 0) := fr fe_X8_takesOf_1 10 rfl
theorem i_X8_takesOf_49 : fetch 152 49 = some (.ireturn, 50, 0, 0, 0, 0) := fr fe_X8_takesOf_1 11 rfl
theorem i_X8_takesOf_50 : fetch 152 50 = some (.bipush 12, 52, 0, 0, 0, 0) := fr fe_X8_takesOf_1 12 rfl
theorem i_X8_takesOf_52 : fetch 152 52 = some (.aload_n 0, 53, 0, 0, 0, 0) := fr fe_X8_takesOf_1 13 rfl
theorem i_X8_takesOf_53 : fetch 152 53 = some (.getfield 33, 56, 8, 8, 0, 1069) := fr fe_X8_takesOf_1 14 rfl
theorem i_X8_takesOf_56 : fetch 152 56 = some (.iload_n 1, 57, 0, 0, 0, 0) := fr fe_X8_takesOf_1 15 rfl
theorem i_X8_takesOf_57 : fetch 152 57 = some (.iaload, 58, 0, 0, 0, 0) := fr fe_X8_takesOf_1 16 rfl
theorem i_X8_takesOf_58 : fetch 152 58 = some (.isub, 59, 0, 0, 0, 0) := fr fe_X8_takesOf_1 17 rfl
theorem i_X8_takesOf_59 : fetch 152 59 = some (.ireturn, 60, 0, 0, 0, 0) := fr fe_X8_takesOf_1 18 rfl
theorem i_X8_takesOf_60 : fetch 152 60 = some (.iconst 3, 61, 0, 0, 0, 0) := fr fe_X8_takesOf_1 19 rfl
theorem i_X8_takesOf_61 : fetch 152 61 = some (.ireturn, 62, 0, 0, 0, 0) := fr fe_X8_takesOf_1 20 rfl
theorem i_X8_takesOf_62 : fetch 152 62 = some (.aload_n 0, 63, 0, 0, 0, 0) := fr fe_X8_takesOf_1 21 rfl
theorem i_X8_takesOf_63 : fetch 152 63 = some (.getfield 30, 66, 8, 7, 0, 1068) := fr fe_X8_takesOf_1 22 rfl
theorem i_X8_takesOf_66 : fetch 152 66 = some (.iload_n 1, 67, 0, 0, 0, 0) := fr fe_X8_takesOf_1 23 rfl
theorem i_X8_takesOf_67 : fetch 152 67 = some (.iaload, 68, 0, 0, 0, 0) := fr fe_X8_takesOf_1 24 rfl
theorem i_X8_takesOf_68 : fetch 152 68 = some (.iconst 1, 69, 0, 0, 0, 0) := fr fe_X8_takesOf_2 0 rfl
theorem i_X8_takesOf_69 : fetch 152 69 = some (.iadd, 70, 0, 0, 0, 0) := fr fe_X8_takesOf_2 1 rfl
theorem i_X8_takesOf_70 : fetch 152 70 = some (.ireturn, 71, 0, 0, 0, 0) := fr fe_X8_takesOf_2 2 rfl
theorem i_X8_takesOf_71 : fetch 152 71 = some (.iconst 3, 72, 0, 0, 0, 0) := fr fe_X8_takesOf_2 3 rfl
theorem i_X8_takesOf_72 : fetch 152 72 = some (.aload_n 0, 73, 0, 0, 0, 0) := fr fe_X8_takesOf_2 4 rfl
theorem i_X8_takesOf_73 : fetch 152 73 = some (.getfield 30, 76, 8, 7, 0, 1068) := fr fe_X8_takesOf_2 5 rfl
theorem i_X8_takesOf_76 : fetch 152 76 = some (.iload_n 1, 77, 0, 0, 0, 0) := fr fe_X8_takesOf_2 6 rfl
theorem i_X8_takesOf_77 : fetch 152 77 = some (.iaload, 78, 0, 0, 0, 0) := fr fe_X8_takesOf_2 7 rfl
theorem i_X8_takesOf_78 : fetch 152 78 = some (.iadd, 79, 0, 0, 0, 0) := fr fe_X8_takesOf_2 8 rfl
theorem i_X8_takesOf_79 : fetch 152 79 = some (.ireturn, 80, 0, 0, 0, 0) := fr fe_X8_takesOf_2 9 rfl
theorem i_X8_takesOf_80 : fetch 152 80 = some (.bipush 10, 82, 0, 0, 0, 0) := fr fe_X8_takesOf_2 10 rfl
theorem i_X8_takesOf_82 : fetch 152 82 = some (.aload_n 0, 83, 0, 0, 0, 0) := fr fe_X8_takesOf_2 11 rfl
theorem i_X8_takesOf_83 : fetch 152 83 = some (.getfield 30, 86, 8, 7, 0, 1068) := fr fe_X8_takesOf_2 12 rfl
theorem i_X8_takesOf_86 : fetch 152 86 = some (.iload_n 1, 87, 0, 0, 0, 0) := fr fe_X8_takesOf_2 13 rfl
theorem i_X8_takesOf_87 : fetch 152 87 = some (.iaload, 88, 0, 0, 0, 0) := fr fe_X8_takesOf_2 14 rfl
theorem i_X8_takesOf_88 : fetch 152 88 = some (.imul, 89, 0, 0, 0, 0) := fr fe_X8_takesOf_2 15 rfl
theorem i_X8_takesOf_89 : fetch 152 89 = some (.ireturn, 90, 0, 0, 0, 0) := fr fe_X8_takesOf_2 16 rfl
theorem i_X8_stepTold_0 : fetch 153 0 = some (.iload_n 1, 1, 0, 0, 0, 0) := fr fe_X8_stepTold_1 0 rfl
theorem i_X8_stepTold_1 : fetch 153 1 = some (.iconst 0, 2, 0, 0, 0, 0) := fr fe_X8_stepTold_1 1 rfl
theorem i_X8_stepTold_2 : fetch 153 2 = some (.aload_n 0, 3, 0, 0, 0, 0) := fr fe_X8_stepTold_1 2 rfl
theorem i_X8_stepTold_3 : fetch 153 3 = some (.getfield 116, 6, 8, 5, 0, 1066) := fr fe_X8_stepTold_1 3 rfl
theorem i_X8_stepTold_6 : fetch 153 6 = some (.iconst 1, 7, 0, 0, 0, 0) := fr fe_X8_stepTold_1 4 rfl
theorem i_X8_stepTold_7 : fetch 153 7 = some (.isub, 8, 0, 0, 0, 0) := fr fe_X8_stepTold_1 5 rfl
theorem i_X8_stepTold_8 : fetch 153 8 = some (.invokestatic 112, 11, 126, 0, 0, 1022) := fr fe_X8_stepTold_1 6 rfl
theorem i_X8_stepTold_11 : fetch 153 11 = some (.ifCond .ne 6, 14, 0, 0, 0, 0) := fr fe_X8_stepTold_1 7 rfl
theorem i_X8_stepTold_14 : fetch 153 14 = some (.bipush (-5), 16, 0, 0, 0, 0) := fr fe_X8_stepTold_1 8 rfl
theorem i_X8_stepTold_16 : fetch 153 16 = some (.ireturn, 17, 0, 0, 0, 0) := fr fe_X8_stepTold_1 9 rfl
theorem i_X8_stepTold_17 : fetch 153 17 = some (.iload_n 2, 18, 0, 0, 0, 0) := fr fe_X8_stepTold_1 10 rfl
theorem i_X8_stepTold_18 : fetch 153 18 = some (.ifCond .ne 12, 21, 0, 0, 0, 0) := fr fe_X8_stepTold_1 11 rfl
theorem i_X8_stepTold_21 : fetch 153 21 = some (.aload_n 0, 22, 0, 0, 0, 0) := fr fe_X8_stepTold_1 12 rfl
theorem i_X8_stepTold_22 : fetch 153 22 = some (.getfield 27, 25, 8, 6, 0, 1067) := fr fe_X8_stepTold_1 13 rfl
theorem i_X8_stepTold_25 : fetch 153 25 = some (.iload_n 1, 26, 0, 0, 0, 0) := fr fe_X8_stepTold_1 14 rfl
theorem i_X8_stepTold_26 : fetch 153 26 = some (.iaload, 27, 0, 0, 0, 0) := fr fe_X8_stepTold_1 15 rfl
theorem i_X8_stepTold_27 : fetch 153 27 = some (.goto 46, 30, 0, 0, 0, 0) := fr fe_X8_stepTold_1 16 rfl
theorem i_X8_stepTold_30 : fetch 153 30 = some (.iload_n 2, 31, 0, 0, 0, 0) := fr fe_X8_stepTold_1 17 rfl
theorem i_X8_stepTold_31 : fetch 153 31 = some (.iconst 1, 32, 0, 0, 0, 0) := fr fe_X8_stepTold_1 18 rfl
theorem i_X8_stepTold_32 : fetch 153 32 = some (.if_icmp .ne 12, 35, 0, 0, 0, 0) := fr fe_X8_stepTold_1 19 rfl
theorem i_X8_stepTold_35 : fetch 153 35 = some (.aload_n 0, 36, 0, 0, 0, 0) := fr fe_X8_stepTold_1 20 rfl
theorem i_X8_stepTold_36 : fetch 153 36 = some (.getfield 30, 39, 8, 7, 0, 1068) := fr fe_X8_stepTold_1 21 rfl
theorem i_X8_stepTold_39 : fetch 153 39 = some (.iload_n 1, 40, 0, 0, 0, 0) := fr fe_X8_stepTold_1 22 rfl
theorem i_X8_stepTold_40 : fetch 153 40 = some (.iaload, 41, 0, 0, 0, 0) := fr fe_X8_stepTold_1 23 rfl
theorem i_X8_stepTold_41 : fetch 153 41 = some (.goto 32, 44, 0, 0, 0, 0) := fr fe_X8_stepTold_1 24 rfl
theorem i_X8_stepTold_44 : fetch 153 44 = some (.iload_n 2, 45, 0, 0, 0, 0) := fr fe_X8_stepTold_2 0 rfl
theorem i_X8_stepTold_45 : fetch 153 45 = some (.iconst 2, 46, 0, 0, 0, 0) := fr fe_X8_stepTold_2 1 rfl
theorem i_X8_stepTold_46 : fetch 153 46 = some (.if_icmp .ne 12, 49, 0, 0, 0, 0) := fr fe_X8_stepTold_2 2 rfl
theorem i_X8_stepTold_49 : fetch 153 49 = some (.aload_n 0, 50, 0, 0, 0, 0) := fr fe_X8_stepTold_2 3 rfl
theorem i_X8_stepTold_50 : fetch 153 50 = some (.getfield 33, 53, 8, 8, 0, 1069) := fr fe_X8_stepTold_2 4 rfl
theorem i_X8_stepTold_53 : fetch 153 53 = some (.iload_n 1, 54, 0, 0, 0, 0) := fr fe_X8_stepTold_2 5 rfl
theorem i_X8_stepTold_54 : fetch 153 54 = some (.iaload, 55, 0, 0, 0, 0) := fr fe_X8_stepTold_2 6 rfl
theorem i_X8_stepTold_55 : fetch 153 55 = some (.goto 18, 58, 0, 0, 0, 0) := fr fe_X8_stepTold_2 7 rfl
theorem i_X8_stepTold_58 : fetch 153 58 = some (.iload_n 2, 59, 0, 0, 0, 0) := fr fe_X8_stepTold_2 8 rfl
theorem i_X8_stepTold_59 : fetch 153 59 = some (.iconst 3, 60, 0, 0, 0, 0) := fr fe_X8_stepTold_2 9 rfl
theorem i_X8_stepTold_60 : fetch 153 60 = some (.if_icmp .ne 11, 63, 0, 0, 0, 0) := fr fe_X8_stepTold_2 10 rfl
theorem i_X8_stepTold_63 : fetch 153 63 = some (.aload_n 0, 64, 0, 0, 0, 0) := fr fe_X8_stepTold_2 11 rfl
theorem i_X8_stepTold_64 : fetch 153 64 = some (.iload_n 1, 65, 0, 0, 0, 0) := fr fe_X8_stepTold_2 12 rfl
theorem i_X8_stepTold_65 : fetch 153 65 = some (.invokevirtual 199, 68, 152, 0, 0, 1283) := fr fe_X8_stepTold_2 13 rfl
theorem i_X8_stepTold_68 : fetch 153 68 = some (.goto 5, 71, 0, 0, 0, 0) := fr fe_X8_stepTold_2 14 rfl
theorem i_X8_stepTold_71 : fetch 153 71 = some (.bipush (-7), 73, 0, 0, 0, 0) := fr fe_X8_stepTold_2 15 rfl
theorem i_X8_stepTold_73 : fetch 153 73 = some (.ireturn, 74, 0, 0, 0, 0) := fr fe_X8_stepTold_2 16 rfl
theorem i_X8_thickOf_0 : fetch 154 0 = some (.aload_n 0, 1, 0, 0, 0, 0) := fr fe_X8_thickOf 0 rfl
theorem i_X8_thickOf_1 : fetch 154 1 = some (.getfield 75, 4, 8, 37, 0, 1114) := fr fe_X8_thickOf 1 rfl
theorem i_X8_thickOf_4 : fetch 154 4 = some (.iload_n 1, 5, 0, 0, 0, 0) := fr fe_X8_thickOf 2 rfl
theorem i_X8_thickOf_5 : fetch 154 5 = some (.iaload, 6, 0, 0, 0, 0) := fr fe_X8_thickOf 3 rfl
theorem i_X8_thickOf_6 : fetch 154 6 = some (.aload_n 0, 7, 0, 0, 0, 0) := fr fe_X8_thickOf 4 rfl
theorem i_X8_thickOf_7 : fetch 154 7 = some (.getfield 78, 10, 8, 38, 0, 1115) := fr fe_X8_thickOf 5 rfl
theorem i_X8_thickOf_10 : fetch 154 10 = some (.iload_n 1, 11, 0, 0, 0, 0) := fr fe_X8_thickOf 6 rfl
theorem i_X8_thickOf_11 : fetch 154 11 = some (.iaload, 12, 0, 0, 0, 0) := fr fe_X8_thickOf 7 rfl
theorem i_X8_thickOf_12 : fetch 154 12 = some (.idiv, 13, 0, 0, 0, 0) := fr fe_X8_thickOf 8 rfl
theorem i_X8_thickOf_13 : fetch 154 13 = some (.ireturn, 14, 0, 0, 0, 0) := fr fe_X8_thickOf 9 rfl
theorem i_X8_asks_0 : fetch 155 0 = some (.aload_n 0, 1, 0, 0, 0, 0) := fr fe_X8_asks_1 0 rfl
theorem i_X8_asks_1 : fetch 155 1 = some (.getfield 72, 4, 8, 36, 0, 1113) := fr fe_X8_asks_1 1 rfl
theorem i_X8_asks_4 : fetch 155 4 = some (.iconst 0, 5, 0, 0, 0, 0) := fr fe_X8_asks_1 2 rfl
theorem i_X8_asks_5 : fetch 155 5 = some (.aload_n 0, 6, 0, 0, 0, 0) := fr fe_X8_asks_1 3 rfl
theorem i_X8_asks_6 : fetch 155 6 = some (.getfield 17, 9, 8, 2, 0, 1063) := fr fe_X8_asks_1 4 rfl
theorem i_X8_asks_9 : fetch 155 9 = some (.iastore, 10, 0, 0, 0, 0) := fr fe_X8_asks_1 5 rfl
theorem i_X8_asks_10 : fetch 155 10 = some (.aload_n 0, 11, 0, 0, 0, 0) := fr fe_X8_asks_1 6 rfl
theorem i_X8_asks_11 : fetch 155 11 = some (.getfield 72, 14, 8, 36, 0, 1113) := fr fe_X8_asks_1 7 rfl
theorem i_X8_asks_14 : fetch 155 14 = some (.iconst 1, 15, 0, 0, 0, 0) := fr fe_X8_asks_1 8 rfl
theorem i_X8_asks_15 : fetch 155 15 = some (.aload_n 0, 16, 0, 0, 0, 0) := fr fe_X8_asks_1 9 rfl
theorem i_X8_asks_16 : fetch 155 16 = some (.iload_n 2, 17, 0, 0, 0, 0) := fr fe_X8_asks_1 10 rfl
theorem i_X8_asks_17 : fetch 155 17 = some (.invokevirtual 202, 20, 154, 0, 0, 1324) := fr fe_X8_asks_1 11 rfl
theorem i_X8_asks_20 : fetch 155 20 = some (.iastore, 21, 0, 0, 0, 0) := fr fe_X8_asks_1 12 rfl
theorem i_X8_asks_21 : fetch 155 21 = some (.aload_n 0, 22, 0, 0, 0, 0) := fr fe_X8_asks_1 13 rfl
theorem i_X8_asks_22 : fetch 155 22 = some (.getfield 72, 25, 8, 36, 0, 1113) := fr fe_X8_asks_1 14 rfl
theorem i_X8_asks_25 : fetch 155 25 = some (.iconst 2, 26, 0, 0, 0, 0) := fr fe_X8_asks_1 15 rfl
theorem i_X8_asks_26 : fetch 155 26 = some (.aload_n 0, 27, 0, 0, 0, 0) := fr fe_X8_asks_1 16 rfl
theorem i_X8_asks_27 : fetch 155 27 = some (.getfield 81, 30, 8, 39, 0, 1116) := fr fe_X8_asks_1 17 rfl
theorem i_X8_asks_30 : fetch 155 30 = some (.iload_n 2, 31, 0, 0, 0, 0) := fr fe_X8_asks_1 18 rfl
theorem i_X8_asks_31 : fetch 155 31 = some (.iaload, 32, 0, 0, 0, 0) := fr fe_X8_asks_1 19 rfl
theorem i_X8_asks_32 : fetch 155 32 = some (.iastore, 33, 0, 0, 0, 0) := fr fe_X8_asks_1 20 rfl
theorem i_X8_asks_33 : fetch 155 33 = some (.aload_n 0, 34, 0, 0, 0, 0) := fr fe_X8_asks_1 21 rfl
theorem i_X8_asks_34 : fetch 155 34 = some (.getfield 72, 37, 8, 36, 0, 1113) := fr fe_X8_asks_1 22 rfl
theorem i_X8_asks_37 : fetch 155 37 = some (.iconst 3, 38, 0, 0, 0, 0) := fr fe_X8_asks_1 23 rfl
theorem i_X8_asks_38 : fetch 155 38 = some (.iload_n 3, 39, 0, 0, 0, 0) := fr fe_X8_asks_1 24 rfl
theorem i_X8_asks_39 : fetch 155 39 = some (.iastore, 40, 0, 0, 0, 0) := fr fe_X8_asks_2 0 rfl
theorem i_X8_asks_40 : fetch 155 40 = some (.aload_n 0, 41, 0, 0, 0, 0) := fr fe_X8_asks_2 1 rfl
theorem i_X8_asks_41 : fetch 155 41 = some (.getfield 72, 44, 8, 36, 0, 1113) := fr fe_X8_asks_2 2 rfl
theorem i_X8_asks_44 : fetch 155 44 = some (.iconst 4, 45, 0, 0, 0, 0) := fr fe_X8_asks_2 3 rfl
theorem i_X8_asks_45 : fetch 155 45 = some (.aload_n 0, 46, 0, 0, 0, 0) := fr fe_X8_asks_2 4 rfl
theorem i_X8_asks_46 : fetch 155 46 = some (.getfield 205, 49, 8, 40, 0, 1117) := fr fe_X8_asks_2 5 rfl
theorem i_X8_asks_49 : fetch 155 49 = some (.iastore, 50, 0, 0, 0, 0) := fr fe_X8_asks_2 6 rfl
theorem i_X8_asks_50 : fetch 155 50 = some (.aload_n 0, 51, 0, 0, 0, 0) := fr fe_X8_asks_2 7 rfl
theorem i_X8_asks_51 : fetch 155 51 = some (.getfield 72, 54, 8, 36, 0, 1113) := fr fe_X8_asks_2 8 rfl
theorem i_X8_asks_54 : fetch 155 54 = some (.iconst 5, 55, 0, 0, 0, 0) := fr fe_X8_asks_2 9 rfl
theorem i_X8_asks_55 : fetch 155 55 = some (.aload_n 0, 56, 0, 0, 0, 0) := fr fe_X8_asks_2 10 rfl
theorem i_X8_asks_56 : fetch 155 56 = some (.getfield 208, 59, 8, 41, 0, 1118) := fr fe_X8_asks_2 11 rfl
theorem i_X8_asks_59 : fetch 155 59 = some (.iastore, 60, 0, 0, 0, 0) := fr fe_X8_asks_2 12 rfl
theorem i_X8_asks_60 : fetch 155 60 = some (.aload_n 0, 61, 0, 0, 0, 0) := fr fe_X8_asks_2 13 rfl
theorem i_X8_asks_61 : fetch 155 61 = some (.iload_n 1, 62, 0, 0, 0, 0) := fr fe_X8_asks_2 14 rfl
theorem i_X8_asks_62 : fetch 155 62 = some (.invokevirtual 211, 65, 148, 0, 0, 1344) := fr fe_X8_asks_2 15 rfl
theorem i_X8_asks_65 : fetch 155 65 = some (.ireturn, 66, 0, 0, 0, 0) := fr fe_X8_asks_2 16 rfl
theorem i_X8_allLength_0 : fetch 156 0 = some (.iconst 0, 1, 0, 0, 0, 0) := fr fe_X8_allLength 0 rfl
theorem i_X8_allLength_1 : fetch 156 1 = some (.istore_n 1, 2, 0, 0, 0, 0) := fr fe_X8_allLength 1 rfl
theorem i_X8_allLength_2 : fetch 156 2 = some (.iconst 0, 3, 0, 0, 0, 0) := fr fe_X8_allLength 2 rfl
theorem i_X8_allLength_3 : fetch 156 3 = some (.istore_n 2, 4, 0, 0, 0, 0) := fr fe_X8_allLength 3 rfl
theorem i_X8_allLength_4 : fetch 156 4 = some (.iload_n 2, 5, 0, 0, 0, 0) := fr fe_X8_allLength 4 rfl
theorem i_X8_allLength_5 : fetch 156 5 = some (.bipush 12, 7, 0, 0, 0, 0) := fr fe_X8_allLength 5 rfl
theorem i_X8_allLength_7 : fetch 156 7 = some (.if_icmp .ge 18, 10, 0, 0, 0, 0) := fr fe_X8_allLength 6 rfl
theorem i_X8_allLength_10 : fetch 156 10 = some (.iload_n 1, 11, 0, 0, 0, 0) := fr fe_X8_allLength 7 rfl
theorem i_X8_allLength_11 : fetch 156 11 = some (.aload_n 0, 12, 0, 0, 0, 0) := fr fe_X8_allLength 8 rfl
theorem i_X8_allLength_12 : fetch 156 12 = some (.getfield 78, 15, 8, 38, 0, 1115) := fr fe_X8_allLength 9 rfl
theorem i_X8_allLength_15 : fetch 156 15 = some (.iload_n 2, 16, 0, 0, 0, 0) := fr fe_X8_allLength 10 rfl
theorem i_X8_allLength_16 : fetch 156 16 = some (.iaload, 17, 0, 0, 0, 0) := fr fe_X8_allLength 11 rfl
theorem i_X8_allLength_17 : fetch 156 17 = some (.iadd, 18, 0, 0, 0, 0) := fr fe_X8_allLength 12 rfl
theorem i_X8_allLength_18 : fetch 156 18 = some (.istore_n 1, 19, 0, 0, 0, 0) := fr fe_X8_allLength 13 rfl
theorem i_X8_allLength_19 : fetch 156 19 = some (.iinc 2 1, 22, 0, 0, 0, 0) := fr fe_X8_allLength 14 rfl
theorem i_X8_allLength_22 : fetch 156 22 = some (.goto (-18), 25, 0, 0, 0, 0) := fr fe_X8_allLength 15 rfl
theorem i_X8_allLength_25 : fetch 156 25 = some (.iload_n 1, 26, 0, 0, 0, 0) := fr fe_X8_allLength 16 rfl
theorem i_X8_allLength_26 : fetch 156 26 = some (.ireturn, 27, 0, 0, 0, 0) := fr fe_X8_allLength 17 rfl
theorem i_X8_drawsMore_0 : fetch 157 0 = some (.aload_n 0, 1, 0, 0, 0, 0) := fr fe_X8_drawsMore 0 rfl
theorem i_X8_drawsMore_1 : fetch 157 1 = some (.getfield 214, 4, 8, 45, 0, 1122) := fr fe_X8_drawsMore 1 rfl
theorem i_X8_drawsMore_4 : fetch 157 4 = some (.ifCond .ne 5, 7, 0, 0, 0, 0) := fr fe_X8_drawsMore 2 rfl
theorem i_X8_drawsMore_7 : fetch 157 7 = some (.iconst 0, 8, 0, 0, 0, 0) := fr fe_X8_drawsMore 3 rfl
theorem i_X8_drawsMore_8 : fetch 157 8 = some (.ireturn, 9, 0, 0, 0, 0) := fr fe_X8_drawsMore 4 rfl
theorem i_X8_drawsMore_9 : fetch 157 9 = some (.aload_n 0, 10, 0, 0, 0, 0) := fr fe_X8_drawsMore 5 rfl
theorem i_X8_drawsMore_10 : fetch 157 10 = some (.aload_n 0, 11, 0, 0, 0, 0) := fr fe_X8_drawsMore 6 rfl
theorem i_X8_drawsMore_11 : fetch 157 11 = some (.getfield 218, 14, 8, 46, 0, 1123) := fr fe_X8_drawsMore 7 rfl
theorem i_X8_drawsMore_14 : fetch 157 14 = some (.ldc2_w 222, 17, 0, 0, 48271, 1355) := fr fe_X8_drawsMore 8 rfl
theorem i_X8_drawsMore_17 : fetch 157 17 = some (.lmul, 18, 0, 0, 0, 0) := fr fe_X8_drawsMore 9 rfl
theorem i_X8_drawsMore_18 : fetch 157 18 = some (.ldc2_w 224, 21, 0, 0, 2147483647, 1356) := fr fe_X8_drawsMore 10 rfl
theorem i_X8_drawsMore_21 : fetch 157 21 = some (.lrem, 22, 0, 0, 0, 0) := fr fe_X8_drawsMore 11 rfl
theorem i_X8_drawsMore_22 : fetch 157 22 = some (.putfield 218, 25, 8, 46, 0, 1123) := fr fe_X8_drawsMore 12 rfl
theorem i_X8_drawsMore_25 : fetch 157 25 = some (.aload_n 0, 26, 0, 0, 0, 0) := fr fe_X8_drawsMore 13 rfl
theorem i_X8_drawsMore_26 : fetch 157 26 = some (.getfield 218, 29, 8, 46, 0, 1123) := fr fe_X8_drawsMore 14 rfl
theorem i_X8_drawsMore_29 : fetch 157 29 = some (.ldc2_w 226, 32, 0, 0, 5, 1357) := fr fe_X8_drawsMore 15 rfl
theorem i_X8_drawsMore_32 : fetch 157 32 = some (.lrem, 33, 0, 0, 0, 0) := fr fe_X8_drawsMore 16 rfl
theorem i_X8_drawsMore_33 : fetch 157 33 = some (.l2i, 34, 0, 0, 0, 0) := fr fe_X8_drawsMore 17 rfl
theorem i_X8_drawsMore_34 : fetch 157 34 = some (.iconst 2, 35, 0, 0, 0, 0) := fr fe_X8_drawsMore 18 rfl
theorem i_X8_drawsMore_35 : fetch 157 35 = some (.isub, 36, 0, 0, 0, 0) := fr fe_X8_drawsMore 19 rfl
theorem i_X8_drawsMore_36 : fetch 157 36 = some (.ireturn, 37, 0, 0, 0, 0) := fr fe_X8_drawsMore 20 rfl
theorem i_X8_draws_0 : fetch 158 0 = some (.iconst 0, 1, 0, 0, 0, 0) := fr fe_X8_draws_1 0 rfl
theorem i_X8_draws_1 : fetch 158 1 = some (.istore_n 3, 2, 0, 0, 0, 0) := fr fe_X8_draws_1 1 rfl
theorem i_X8_draws_2 : fetch 158 2 = some (.iconst 0, 3, 0, 0, 0, 0) := fr fe_X8_draws_1 2 rfl
theorem i_X8_draws_3 : fetch 158 3 = some (.istore 4, 5, 0, 0, 0, 0) := fr fe_X8_draws_1 3 rfl
theorem i_X8_draws_5 : fetch 158 5 = some (.iload 4, 7, 0, 0, 0, 0) := fr fe_X8_draws_1 4 rfl
theorem i_X8_draws_7 : fetch 158 7 = some (.bipush 12, 9, 0, 0, 0, 0) := fr fe_X8_draws_1 5 rfl
theorem i_X8_draws_9 : fetch 158 9 = some (.if_icmp .ge 45, 12, 0, 0, 0, 0) := fr fe_X8_draws_1 6 rfl
theorem i_X8_draws_12 : fetch 158 12 = some (.aload_n 0, 13, 0, 0, 0, 0) := fr fe_X8_draws_1 7 rfl
theorem i_X8_draws_13 : fetch 158 13 = some (.getfield 84, 16, 8, 47, 0, 1124) := fr fe_X8_draws_1 8 rfl
theorem i_X8_draws_16 : fetch 158 16 = some (.iload 4, 18, 0, 0, 0, 0) := fr fe_X8_draws_1 9 rfl
theorem i_X8_draws_18 : fetch 158 18 = some (.aload_n 0, 19, 0, 0, 0, 0) := fr fe_X8_draws_1 10 rfl
theorem i_X8_draws_19 : fetch 158 19 = some (.iconst 0, 20, 0, 0, 0, 0) := fr fe_X8_draws_1 11 rfl
theorem i_X8_draws_20 : fetch 158 20 = some (.iload 4, 22, 0, 0, 0, 0) := fr fe_X8_draws_1 12 rfl
theorem i_X8_draws_22 : fetch 158 22 = some (.iload_n 2, 23, 0, 0, 0, 0) := fr fe_X8_draws_1 13 rfl
theorem i_X8_draws_23 : fetch 158 23 = some (.invokevirtual 228, 26, 155, 0, 0, 1320) := fr fe_X8_draws_1 14 rfl
theorem i_X8_draws_26 : fetch 158 26 = some (.aload_n 0, 27, 0, 0, 0, 0) := fr fe_X8_draws_1 15 rfl
theorem i_X8_draws_27 : fetch 158 27 = some (.invokevirtual 231, 30, 157, 0, 0, 1351) := fr fe_X8_draws_1 16 rfl
theorem i_X8_draws_30 : fetch 158 30 = some (.iadd, 31, 0, 0, 0, 0) := fr fe_X8_draws_1 17 rfl
theorem i_X8_draws_31 : fetch 158 31 = some (.iconst 1, 32, 0, 0, 0, 0) := fr fe_X8_draws_1 18 rfl
theorem i_X8_draws_32 : fetch 158 32 = some (.bipush 99, 34, 0, 0, 0, 0) := fr fe_X8_draws_1 19 rfl
theorem i_X8_draws_34 : fetch 158 34 = some (.invokestatic 234, 37, 130, 0, 0, 1358) := fr fe_X8_draws_1 20 rfl
theorem i_X8_draws_37 : fetch 158 37 = some (.iastore, 38, 0, 0, 0, 0) := fr fe_X8_draws_1 21 rfl
theorem i_X8_draws_38 : fetch 158 38 = some (.iload_n 3, 39, 0, 0, 0, 0) := fr fe_X8_draws_1 22 rfl
theorem i_X8_draws_39 : fetch 158 39 = some (.aload_n 0, 40, 0, 0, 0, 0) := fr fe_X8_draws_1 23 rfl
theorem i_X8_draws_40 : fetch 158 40 = some (.getfield 84, 43, 8, 47, 0, 1124) := fr fe_X8_draws_1 24 rfl
theorem i_X8_draws_43 : fetch 158 43 = some (.iload 4, 45, 0, 0, 0, 0) := fr fe_X8_draws_2 0 rfl
theorem i_X8_draws_45 : fetch 158 45 = some (.iaload, 46, 0, 0, 0, 0) := fr fe_X8_draws_2 1 rfl
theorem i_X8_draws_46 : fetch 158 46 = some (.iadd, 47, 0, 0, 0, 0) := fr fe_X8_draws_2 2 rfl
theorem i_X8_draws_47 : fetch 158 47 = some (.istore_n 3, 48, 0, 0, 0, 0) := fr fe_X8_draws_2 3 rfl
theorem i_X8_draws_48 : fetch 158 48 = some (.iinc 4 1, 51, 0, 0, 0, 0) := fr fe_X8_draws_2 4 rfl
theorem i_X8_draws_51 : fetch 158 51 = some (.goto (-46), 54, 0, 0, 0, 0) := fr fe_X8_draws_2 5 rfl
theorem i_X8_draws_54 : fetch 158 54 = some (.iload_n 1, 55, 0, 0, 0, 0) := fr fe_X8_draws_2 6 rfl
theorem i_X8_draws_55 : fetch 158 55 = some (.istore 4, 57, 0, 0, 0, 0) := fr fe_X8_draws_2 7 rfl
theorem i_X8_draws_57 : fetch 158 57 = some (.iconst 0, 58, 0, 0, 0, 0) := fr fe_X8_draws_2 8 rfl
theorem i_X8_draws_58 : fetch 158 58 = some (.istore 5, 60, 0, 0, 0, 0) := fr fe_X8_draws_2 9 rfl
theorem i_X8_draws_60 : fetch 158 60 = some (.iload 5, 62, 0, 0, 0, 0) := fr fe_X8_draws_2 10 rfl
theorem i_X8_draws_62 : fetch 158 62 = some (.bipush 12, 64, 0, 0, 0, 0) := fr fe_X8_draws_2 11 rfl
theorem i_X8_draws_64 : fetch 158 64 = some (.if_icmp .ge 43, 67, 0, 0, 0, 0) := fr fe_X8_draws_2 12 rfl
theorem i_X8_draws_67 : fetch 158 67 = some (.aload_n 0, 68, 0, 0, 0, 0) := fr fe_X8_draws_2 13 rfl
theorem i_X8_draws_68 : fetch 158 68 = some (.getfield 87, 71, 8, 48, 0, 1125) := fr fe_X8_draws_2 14 rfl
theorem i_X8_draws_71 : fetch 158 71 = some (.iload 5, 73, 0, 0, 0, 0) := fr fe_X8_draws_2 15 rfl
theorem i_X8_draws_73 : fetch 158 73 = some (.iload_n 1, 74, 0, 0, 0, 0) := fr fe_X8_draws_2 16 rfl
theorem i_X8_draws_74 : fetch 158 74 = some (.i2l, 75, 0, 0, 0, 0) := fr fe_X8_draws_2 17 rfl
theorem i_X8_draws_75 : fetch 158 75 = some (.aload_n 0, 76, 0, 0, 0, 0) := fr fe_X8_draws_2 18 rfl
theorem i_X8_draws_76 : fetch 158 76 = some (.getfield 84, 79, 8, 47, 0, 1124) := fr fe_X8_draws_2 19 rfl
theorem i_X8_draws_79 : fetch 158 79 = some (.iload 5, 81, 0, 0, 0, 0) := fr fe_X8_draws_2 20 rfl
theorem i_X8_draws_81 : fetch 158 81 = some (.iaload, 82, 0, 0, 0, 0) := fr fe_X8_draws_2 21 rfl
theorem i_X8_draws_82 : fetch 158 82 = some (.i2l, 83, 0, 0, 0, 0) := fr fe_X8_draws_2 22 rfl
theorem i_X8_draws_83 : fetch 158 83 = some (.lmul, 84, 0, 0, 0, 0) := fr fe_X8_draws_2 23 rfl
theorem i_X8_draws_84 : fetch 158 84 = some (.iload_n 3, 85, 0, 0, 0, 0) := fr fe_X8_draws_2 24 rfl
theorem i_X8_draws_85 : fetch 158 85 = some (.i2l, 86, 0, 0, 0, 0) := fr fe_X8_draws_3 0 rfl
theorem i_X8_draws_86 : fetch 158 86 = some (.ldiv, 87, 0, 0, 0, 0) := fr fe_X8_draws_3 1 rfl
theorem i_X8_draws_87 : fetch 158 87 = some (.l2i, 88, 0, 0, 0, 0) := fr fe_X8_draws_3 2 rfl
theorem i_X8_draws_88 : fetch 158 88 = some (.iastore, 89, 0, 0, 0, 0) := fr fe_X8_draws_3 3 rfl
theorem i_X8_draws_89 : fetch 158 89 = some (.iload 4, 91, 0, 0, 0, 0) := fr fe_X8_draws_3 4 rfl
theorem i_X8_draws_91 : fetch 158 91 = some (.aload_n 0, 92, 0, 0, 0, 0) := fr fe_X8_draws_3 5 rfl
theorem i_X8_draws_92 : fetch 158 92 = some (.getfield 87, 95, 8, 48, 0, 1125) := fr fe_X8_draws_3 6 rfl
theorem i_X8_draws_95 : fetch 158 95 = some (.iload 5, 97, 0, 0, 0, 0) := fr fe_X8_draws_3 7 rfl
theorem i_X8_draws_97 : fetch 158 97 = some (.iaload, 98, 0, 0, 0, 0) := fr fe_X8_draws_3 8 rfl
theorem i_X8_draws_98 : fetch 158 98 = some (.isub, 99, 0, 0, 0, 0) := fr fe_X8_draws_3 9 rfl
theorem i_X8_draws_99 : fetch 158 99 = some (.istore 4, 101, 0, 0, 0, 0) := fr fe_X8_draws_3 10 rfl
theorem i_X8_draws_101 : fetch 158 101 = some (.iinc 5 1, 104, 0, 0, 0, 0) := fr fe_X8_draws_3 11 rfl
theorem i_X8_draws_104 : fetch 158 104 = some (.goto (-44), 107, 0, 0, 0, 0) := fr fe_X8_draws_3 12 rfl
theorem i_X8_draws_107 : fetch 158 107 = some (.iconst 0, 108, 0, 0, 0, 0) := fr fe_X8_draws_3 13 rfl
theorem i_X8_draws_108 : fetch 158 108 = some (.istore 5, 110, 0, 0, 0, 0) := fr fe_X8_draws_3 14 rfl
theorem i_X8_draws_110 : fetch 158 110 = some (.iload 5, 112, 0, 0, 0, 0) := fr fe_X8_draws_3 15 rfl
theorem i_X8_draws_112 : fetch 158 112 = some (.bipush 12, 114, 0, 0, 0, 0) := fr fe_X8_draws_3 16 rfl
theorem i_X8_draws_114 : fetch 158 114 = some (.if_icmp .ge 69, 117, 0, 0, 0, 0) := fr fe_X8_draws_3 17 rfl
theorem i_X8_draws_117 : fetch 158 117 = some (.aload_n 0, 118, 0, 0, 0, 0) := fr fe_X8_draws_3 18 rfl
theorem i_X8_draws_118 : fetch 158 118 = some (.getfield 87, 121, 8, 48, 0, 1125) := fr fe_X8_draws_3 19 rfl
theorem i_X8_draws_121 : fetch 158 121 = some (.iload 5, 123, 0, 0, 0, 0) := fr fe_X8_draws_3 20 rfl
theorem i_X8_draws_123 : fetch 158 123 = some (.dup2, 124, 0, 0, 0, 0) := fr fe_X8_draws_3 21 rfl
theorem i_X8_draws_124 : fetch 158 124 = some (.iaload, 125, 0, 0, 0, 0) := fr fe_X8_draws_3 22 rfl
theorem i_X8_draws_125 : fetch 158 125 = some (.iload 5, 127, 0, 0, 0, 0) := fr fe_X8_draws_3 23 rfl
theorem i_X8_draws_127 : fetch 158 127 = some (.iload 4, 129, 0, 0, 0, 0) := fr fe_X8_draws_3 24 rfl
theorem i_X8_draws_129 : fetch 158 129 = some (.if_icmp .ge 7, 132, 0, 0, 0, 0) := fr fe_X8_draws_4 0 rfl
theorem i_X8_draws_132 : fetch 158 132 = some (.iconst 1, 133, 0, 0, 0, 0) := fr fe_X8_draws_4 1 rfl
theorem i_X8_draws_133 : fetch 158 133 = some (.goto 4, 136, 0, 0, 0, 0) := fr fe_X8_draws_4 2 rfl
theorem i_X8_draws_136 : fetch 158 136 = some (.iconst 0, 137, 0, 0, 0, 0) := fr fe_X8_draws_4 3 rfl
theorem i_X8_draws_137 : fetch 158 137 = some (.iadd, 138, 0, 0, 0, 0) := fr fe_X8_draws_4 4 rfl
theorem i_X8_draws_138 : fetch 158 138 = some (.iastore, 139, 0, 0, 0, 0) := fr fe_X8_draws_4 5 rfl
theorem i_X8_draws_139 : fetch 158 139 = some (.aload_n 0, 140, 0, 0, 0, 0) := fr fe_X8_draws_4 6 rfl
theorem i_X8_draws_140 : fetch 158 140 = some (.getfield 78, 143, 8, 38, 0, 1115) := fr fe_X8_draws_4 7 rfl
theorem i_X8_draws_143 : fetch 158 143 = some (.iload 5, 145, 0, 0, 0, 0) := fr fe_X8_draws_4 8 rfl
theorem i_X8_draws_145 : fetch 158 145 = some (.iaload, 146, 0, 0, 0, 0) := fr fe_X8_draws_4 9 rfl
theorem i_X8_draws_146 : fetch 158 146 = some (.aload_n 0, 147, 0, 0, 0, 0) := fr fe_X8_draws_4 10 rfl
theorem i_X8_draws_147 : fetch 158 147 = some (.getfield 87, 150, 8, 48, 0, 1125) := fr fe_X8_draws_4 11 rfl
theorem i_X8_draws_150 : fetch 158 150 = some (.iload 5, 152, 0, 0, 0, 0) := fr fe_X8_draws_4 12 rfl
theorem i_X8_draws_152 : fetch 158 152 = some (.iaload, 153, 0, 0, 0, 0) := fr fe_X8_draws_4 13 rfl
theorem i_X8_draws_153 : fetch 158 153 = some (.iadd, 154, 0, 0, 0, 0) := fr fe_X8_draws_4 14 rfl
theorem i_X8_draws_154 : fetch 158 154 = some (.istore 6, 156, 0, 0, 0, 0) := fr fe_X8_draws_4 15 rfl
theorem i_X8_draws_156 : fetch 158 156 = some (.aload_n 0, 157, 0, 0, 0, 0) := fr fe_X8_draws_4 16 rfl
theorem i_X8_draws_157 : fetch 158 157 = some (.getfield 78, 160, 8, 38, 0, 1115) := fr fe_X8_draws_4 17 rfl
theorem i_X8_draws_160 : fetch 158 160 = some (.iload 5, 162, 0, 0, 0, 0) := fr fe_X8_draws_4 18 rfl
theorem i_X8_draws_162 : fetch 158 162 = some (.iload 6, 164, 0, 0, 0, 0) := fr fe_X8_draws_4 19 rfl
theorem i_X8_draws_164 : fetch 158 164 = some (.ldc 237, 166, 0, 0, 1000000, 1361) := fr fe_X8_draws_4 20 rfl
theorem i_X8_draws_166 : fetch 158 166 = some (.if_icmp .le 8, 169, 0, 0, 0, 0) := fr fe_X8_draws_4 21 rfl
theorem i_X8_draws_169 : fetch 158 169 = some (.ldc 237, 171, 0, 0, 1000000, 1361) := fr fe_X8_draws_4 22 rfl
theorem i_X8_draws_171 : fetch 158 171 = some (.goto 5, 174, 0, 0, 0, 0) := fr fe_X8_draws_4 23 rfl
theorem i_X8_draws_174 : fetch 158 174 = some (.iload 6, 176, 0, 0, 0, 0) := fr fe_X8_draws_4 24 rfl
theorem i_X8_draws_176 : fetch 158 176 = some (.iastore, 177, 0, 0, 0, 0) := fr fe_X8_draws_5 0 rfl
theorem i_X8_draws_177 : fetch 158 177 = some (.iinc 5 1, 180, 0, 0, 0, 0) := fr fe_X8_draws_5 1 rfl
theorem i_X8_draws_180 : fetch 158 180 = some (.goto (-70), 183, 0, 0, 0, 0) := fr fe_X8_draws_5 2 rfl
theorem i_X8_draws_183 : fetch 158 183 = some (.iconst 0, 184, 0, 0, 0, 0) := fr fe_X8_draws_5 3 rfl
theorem i_X8_draws_184 : fetch 158 184 = some (.istore 5, 186, 0, 0, 0, 0) := fr fe_X8_draws_5 4 rfl
theorem i_X8_draws_186 : fetch 158 186 = some (.iload 5, 188, 0, 0, 0, 0) := fr fe_X8_draws_5 5 rfl
theorem i_X8_draws_188 : fetch 158 188 = some (.bipush 12, 190, 0, 0, 0, 0) := fr fe_X8_draws_5 6 rfl
theorem i_X8_draws_190 : fetch 158 190 = some (.if_icmp .ge 65, 193, 0, 0, 0, 0) := fr fe_X8_draws_5 7 rfl
theorem i_X8_draws_193 : fetch 158 193 = some (.aload_n 0, 194, 0, 0, 0, 0) := fr fe_X8_draws_5 8 rfl
theorem i_X8_draws_194 : fetch 158 194 = some (.getfield 81, 197, 8, 39, 0, 1116) := fr fe_X8_draws_5 9 rfl
theorem i_X8_draws_197 : fetch 158 197 = some (.iload 5, 199, 0, 0, 0, 0) := fr fe_X8_draws_5 10 rfl
theorem i_X8_draws_199 : fetch 158 199 = some (.iaload, 200, 0, 0, 0, 0) := fr fe_X8_draws_5 11 rfl
theorem i_X8_draws_200 : fetch 158 200 = some (.aload_n 0, 201, 0, 0, 0, 0) := fr fe_X8_draws_5 12 rfl
theorem i_X8_draws_201 : fetch 158 201 = some (.getfield 87, 204, 8, 48, 0, 1125) := fr fe_X8_draws_5 13 rfl
theorem i_X8_draws_204 : fetch 158 204 = some (.iload 5, 206, 0, 0, 0, 0) := fr fe_X8_draws_5 14 rfl
theorem i_X8_draws_206 : fetch 158 206 = some (.iaload, 207, 0, 0, 0, 0) := fr fe_X8_draws_5 15 rfl
theorem i_X8_draws_207 : fetch 158 207 = some (.i2l, 208, 0, 0, 0, 0) := fr fe_X8_draws_5 16 rfl
theorem i_X8_draws_208 : fetch 158 208 = some (.iload_n 2, 209, 0, 0, 0, 0) := fr fe_X8_draws_5 17 rfl
theorem i_X8_draws_209 : fetch 158 209 = some (.i2l, 210, 0, 0, 0, 0) := fr fe_X8_draws_5 18 rfl
theorem i_X8_draws_210 : fetch 158 210 = some (.lmul, 211, 0, 0, 0, 0) := fr fe_X8_draws_5 19 rfl
theorem i_X8_draws_211 : fetch 158 211 = some (.ldc2_w 238, 214, 0, 0, 10, 1362) := fr fe_X8_draws_5 20 rfl
theorem i_X8_draws_214 : fetch 158 214 = some (.lmul, 215, 0, 0, 0, 0) := fr fe_X8_draws_5 21 rfl
theorem i_X8_draws_215 : fetch 158 215 = some (.aload_n 0, 216, 0, 0, 0, 0) := fr fe_X8_draws_5 22 rfl
theorem i_X8_draws_216 : fetch 158 216 = some (.getfield 78, 219, 8, 38, 0, 1115) := fr fe_X8_draws_5 23 rfl
theorem i_X8_draws_219 : fetch 158 219 = some (.iload 5, 221, 0, 0, 0, 0) := fr fe_X8_draws_5 24 rfl
theorem i_X8_draws_221 : fetch 158 221 = some (.iaload, 222, 0, 0, 0, 0) := fr fe_X8_draws_6 0 rfl
theorem i_X8_draws_222 : fetch 158 222 = some (.i2l, 223, 0, 0, 0, 0) := fr fe_X8_draws_6 1 rfl
theorem i_X8_draws_223 : fetch 158 223 = some (.ldiv, 224, 0, 0, 0, 0) := fr fe_X8_draws_6 2 rfl
theorem i_X8_draws_224 : fetch 158 224 = some (.l2i, 225, 0, 0, 0, 0) := fr fe_X8_draws_6 3 rfl
theorem i_X8_draws_225 : fetch 158 225 = some (.iadd, 226, 0, 0, 0, 0) := fr fe_X8_draws_6 4 rfl
theorem i_X8_draws_226 : fetch 158 226 = some (.istore 6, 228, 0, 0, 0, 0) := fr fe_X8_draws_6 5 rfl
theorem i_X8_draws_228 : fetch 158 228 = some (.aload_n 0, 229, 0, 0, 0, 0) := fr fe_X8_draws_6 6 rfl
theorem i_X8_draws_229 : fetch 158 229 = some (.getfield 81, 232, 8, 39, 0, 1116) := fr fe_X8_draws_6 7 rfl
theorem i_X8_draws_232 : fetch 158 232 = some (.iload 5, 234, 0, 0, 0, 0) := fr fe_X8_draws_6 8 rfl
theorem i_X8_draws_234 : fetch 158 234 = some (.iload 6, 236, 0, 0, 0, 0) := fr fe_X8_draws_6 9 rfl
theorem i_X8_draws_236 : fetch 158 236 = some (.bipush 99, 238, 0, 0, 0, 0) := fr fe_X8_draws_6 10 rfl
theorem i_X8_draws_238 : fetch 158 238 = some (.if_icmp .le 8, 241, 0, 0, 0, 0) := fr fe_X8_draws_6 11 rfl
theorem i_X8_draws_241 : fetch 158 241 = some (.bipush 99, 243, 0, 0, 0, 0) := fr fe_X8_draws_6 12 rfl
theorem i_X8_draws_243 : fetch 158 243 = some (.goto 5, 246, 0, 0, 0, 0) := fr fe_X8_draws_6 13 rfl
theorem i_X8_draws_246 : fetch 158 246 = some (.iload 6, 248, 0, 0, 0, 0) := fr fe_X8_draws_6 14 rfl
theorem i_X8_draws_248 : fetch 158 248 = some (.iastore, 249, 0, 0, 0, 0) := fr fe_X8_draws_6 15 rfl
theorem i_X8_draws_249 : fetch 158 249 = some (.iinc 5 1, 252, 0, 0, 0, 0) := fr fe_X8_draws_6 16 rfl
theorem i_X8_draws_252 : fetch 158 252 = some (.goto (-66), 255, 0, 0, 0, 0) := fr fe_X8_draws_6 17 rfl
theorem i_X8_draws_255 : fetch 158 255 = some (.iconst 0, 256, 0, 0, 0, 0) := fr fe_X8_draws_6 18 rfl
theorem i_X8_draws_256 : fetch 158 256 = some (.istore 5, 258, 0, 0, 0, 0) := fr fe_X8_draws_6 19 rfl
theorem i_X8_draws_258 : fetch 158 258 = some (.iload 5, 260, 0, 0, 0, 0) := fr fe_X8_draws_6 20 rfl
theorem i_X8_draws_260 : fetch 158 260 = some (.bipush 12, 262, 0, 0, 0, 0) := fr fe_X8_draws_6 21 rfl
theorem i_X8_draws_262 : fetch 158 262 = some (.if_icmp .ge 40, 265, 0, 0, 0, 0) := fr fe_X8_draws_6 22 rfl
theorem i_X8_draws_265 : fetch 158 265 = some (.aload_n 0, 266, 0, 0, 0, 0) := fr fe_X8_draws_6 23 rfl
theorem i_X8_draws_266 : fetch 158 266 = some (.aload_n 0, 267, 0, 0, 0, 0) := fr fe_X8_draws_6 24 rfl
theorem i_X8_draws_267 : fetch 158 267 = some (.getfield 240, 270, 8, 43, 0, 1120) := fr fe_X8_draws_7 0 rfl
theorem i_X8_draws_270 : fetch 158 270 = some (.bipush 100, 272, 0, 0, 0, 0) := fr fe_X8_draws_7 1 rfl
theorem i_X8_draws_272 : fetch 158 272 = some (.aload_n 0, 273, 0, 0, 0, 0) := fr fe_X8_draws_7 2 rfl
theorem i_X8_draws_273 : fetch 158 273 = some (.iconst 1, 274, 0, 0, 0, 0) := fr fe_X8_draws_7 3 rfl
theorem i_X8_draws_274 : fetch 158 274 = some (.iload 5, 276, 0, 0, 0, 0) := fr fe_X8_draws_7 4 rfl
theorem i_X8_draws_276 : fetch 158 276 = some (.iload_n 2, 277, 0, 0, 0, 0) := fr fe_X8_draws_7 5 rfl
theorem i_X8_draws_277 : fetch 158 277 = some (.invokevirtual 228, 280, 155, 0, 0, 1320) := fr fe_X8_draws_7 6 rfl
theorem i_X8_draws_280 : fetch 158 280 = some (.iconst 0, 281, 0, 0, 0, 0) := fr fe_X8_draws_7 7 rfl
theorem i_X8_draws_281 : fetch 158 281 = some (.bipush 100, 283, 0, 0, 0, 0) := fr fe_X8_draws_7 8 rfl
theorem i_X8_draws_283 : fetch 158 283 = some (.invokestatic 234, 286, 130, 0, 0, 1358) := fr fe_X8_draws_7 9 rfl
theorem i_X8_draws_286 : fetch 158 286 = some (.isub, 287, 0, 0, 0, 0) := fr fe_X8_draws_7 10 rfl
theorem i_X8_draws_287 : fetch 158 287 = some (.i2l, 288, 0, 0, 0, 0) := fr fe_X8_draws_7 11 rfl
theorem i_X8_draws_288 : fetch 158 288 = some (.lmul, 289, 0, 0, 0, 0) := fr fe_X8_draws_7 12 rfl
theorem i_X8_draws_289 : fetch 158 289 = some (.ldc2_w 243, 292, 0, 0, 100, 1363) := fr fe_X8_draws_7 13 rfl
theorem i_X8_draws_292 : fetch 158 292 = some (.ldiv, 293, 0, 0, 0, 0) := fr fe_X8_draws_7 14 rfl
theorem i_X8_draws_293 : fetch 158 293 = some (.putfield 240, 296, 8, 43, 0, 1120) := fr fe_X8_draws_7 15 rfl
theorem i_X8_draws_296 : fetch 158 296 = some (.iinc 5 1, 299, 0, 0, 0, 0) := fr fe_X8_draws_7 16 rfl
theorem i_X8_draws_299 : fetch 158 299 = some (.goto (-41), 302, 0, 0, 0, 0) := fr fe_X8_draws_7 17 rfl
theorem i_X8_draws_302 : fetch 158 302 = some (.return_, 303, 0, 0, 0, 0) := fr fe_X8_draws_7 18 rfl
