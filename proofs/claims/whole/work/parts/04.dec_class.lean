theorem d_Coast_init_0 : decode prog_2_method_1_code 0 = .ok (.aload_n 0, 1) := by decide +kernel
theorem d_Coast_init_1 : decode prog_2_method_1_code 1 = .ok (.invokespecial 3, 3) := by decide +kernel
theorem d_Coast_init_4 : decode prog_2_method_1_code 4 = .ok (.aload_n 0, 1) := by decide +kernel
theorem d_Coast_init_5 : decode prog_2_method_1_code 5 = .ok (.new 9, 3) := by decide +kernel
theorem d_Coast_init_8 : decode prog_2_method_1_code 8 = .ok (.dup, 1) := by decide +kernel
theorem d_Coast_init_9 : decode prog_2_method_1_code 9 = .ok (.bipush 6, 2) := by decide +kernel
theorem d_Coast_init_11 : decode prog_2_method_1_code 11 = .ok (.invokespecial 13, 3) := by decide +kernel
theorem d_Coast_init_14 : decode prog_2_method_1_code 14 = .ok (.putfield 16, 3) := by decide +kernel
theorem d_Coast_init_17 : decode prog_2_method_1_code 17 = .ok (.aload_n 0, 1) := by decide +kernel
theorem d_Coast_init_18 : decode prog_2_method_1_code 18 = .ok (.new 9, 3) := by decide +kernel
theorem d_Coast_init_21 : decode prog_2_method_1_code 21 = .ok (.dup, 1) := by decide +kernel
theorem d_Coast_init_22 : decode prog_2_method_1_code 22 = .ok (.bipush 12, 2) := by decide +kernel
theorem d_Coast_init_24 : decode prog_2_method_1_code 24 = .ok (.invokespecial 13, 3) := by decide +kernel
theorem d_Coast_init_27 : decode prog_2_method_1_code 27 = .ok (.putfield 20, 3) := by decide +kernel
theorem d_Coast_init_30 : decode prog_2_method_1_code 30 = .ok (.aload_n 0, 1) := by decide +kernel
theorem d_Coast_init_31 : decode prog_2_method_1_code 31 = .ok (.new 9, 3) := by decide +kernel
theorem d_Coast_init_34 : decode prog_2_method_1_code 34 = .ok (.dup, 1) := by decide +kernel
theorem d_Coast_init_35 : decode prog_2_method_1_code 35 = .ok (.bipush 6, 2) := by decide +kernel
theorem d_Coast_init_37 : decode prog_2_method_1_code 37 = .ok (.invokespecial 13, 3) := by decide +kernel
theorem d_Coast_init_40 : decode prog_2_method_1_code 40 = .ok (.putfield 23, 3) := by decide +kernel
theorem d_Coast_init_43 : decode prog_2_method_1_code 43 = .ok (.aload_n 0, 1) := by decide +kernel
theorem d_Coast_init_44 : decode prog_2_method_1_code 44 = .ok (.new 9, 3) := by decide +kernel
theorem d_Coast_init_47 : decode prog_2_method_1_code 47 = .ok (.dup, 1) := by decide +kernel
theorem d_Coast_init_48 : decode prog_2_method_1_code 48 = .ok (.bipush 6, 2) := by decide +kernel
theorem d_Coast_init_50 : decode prog_2_method_1_code 50 = .ok (.invokespecial 13, 3) := by decide +kernel
theorem d_Coast_init_53 : decode prog_2_method_1_code 53 = .ok (.putfield 26, 3) := by decide +kernel
theorem d_Coast_init_56 : decode prog_2_method_1_code 56 = .ok (.aload_n 0, 1) := by decide +kernel
theorem d_Coast_init_57 : decode prog_2_method_1_code 57 = .ok (.new 9, 3) := by decide +kernel
theorem d_Coast_init_60 : decode prog_2_method_1_code 60 = .ok (.dup, 1) := by decide +kernel
theorem d_Coast_init_61 : decode prog_2_method_1_code 61 = .ok (.iconst 3, 1) := by decide +kernel
theorem d_Coast_init_62 : decode prog_2_method_1_code 62 = .ok (.invokespecial 13, 3) := by decide +kernel
theorem d_Coast_init_65 : decode prog_2_method_1_code 65 = .ok (.putfield 29, 3) := by decide +kernel
theorem d_Coast_init_68 : decode prog_2_method_1_code 68 = .ok (.aload_n 0, 1) := by decide +kernel
theorem d_Coast_init_69 : decode prog_2_method_1_code 69 = .ok (.new 9, 3) := by decide +kernel
theorem d_Coast_init_72 : decode prog_2_method_1_code 72 = .ok (.dup, 1) := by decide +kernel
theorem d_Coast_init_73 : decode prog_2_method_1_code 73 = .ok (.iconst 3, 1) := by decide +kernel
theorem d_Coast_init_74 : decode prog_2_method_1_code 74 = .ok (.invokespecial 13, 3) := by decide +kernel
theorem d_Coast_init_77 : decode prog_2_method_1_code 77 = .ok (.putfield 32, 3) := by decide +kernel
theorem d_Coast_init_80 : decode prog_2_method_1_code 80 = .ok (.aload_n 0, 1) := by decide +kernel
theorem d_Coast_init_81 : decode prog_2_method_1_code 81 = .ok (.new 9, 3) := by decide +kernel
theorem d_Coast_init_84 : decode prog_2_method_1_code 84 = .ok (.dup, 1) := by decide +kernel
theorem d_Coast_init_85 : decode prog_2_method_1_code 85 = .ok (.bipush 6, 2) := by decide +kernel
theorem d_Coast_init_87 : decode prog_2_method_1_code 87 = .ok (.invokespecial 13, 3) := by decide +kernel
theorem d_Coast_init_90 : decode prog_2_method_1_code 90 = .ok (.putfield 35, 3) := by decide +kernel
theorem d_Coast_init_93 : decode prog_2_method_1_code 93 = .ok (.aload_n 0, 1) := by decide +kernel
theorem d_Coast_init_94 : decode prog_2_method_1_code 94 = .ok (.new 9, 3) := by decide +kernel
theorem d_Coast_init_97 : decode prog_2_method_1_code 97 = .ok (.dup, 1) := by decide +kernel
theorem d_Coast_init_98 : decode prog_2_method_1_code 98 = .ok (.bipush 6, 2) := by decide +kernel
theorem d_Coast_init_100 : decode prog_2_method_1_code 100 = .ok (.invokespecial 13, 3) := by decide +kernel
theorem d_Coast_init_103 : decode prog_2_method_1_code 103 = .ok (.putfield 38, 3) := by decide +kernel
theorem d_Coast_init_106 : decode prog_2_method_1_code 106 = .ok (.aload_n 0, 1) := by decide +kernel
theorem d_Coast_init_107 : decode prog_2_method_1_code 107 = .ok (.new 9, 3) := by decide +kernel
theorem d_Coast_init_110 : decode prog_2_method_1_code 110 = .ok (.dup, 1) := by decide +kernel
theorem d_Coast_init_111 : decode prog_2_method_1_code 111 = .ok (.bipush 6, 2) := by decide +kernel
theorem d_Coast_init_113 : decode prog_2_method_1_code 113 = .ok (.invokespecial 13, 3) := by decide +kernel
theorem d_Coast_init_116 : decode prog_2_method_1_code 116 = .ok (.putfield 41, 3) := by decide +kernel
theorem d_Coast_init_119 : decode prog_2_method_1_code 119 = .ok (.aload_n 0, 1) := by decide +kernel
theorem d_Coast_init_120 : decode prog_2_method_1_code 120 = .ok (.new 9, 3) := by decide +kernel
theorem d_Coast_init_123 : decode prog_2_method_1_code 123 = .ok (.dup, 1) := by decide +kernel
theorem d_Coast_init_124 : decode prog_2_method_1_code 124 = .ok (.bipush 6, 2) := by decide +kernel
theorem d_Coast_init_126 : decode prog_2_method_1_code 126 = .ok (.invokespecial 13, 3) := by decide +kernel
theorem d_Coast_init_129 : decode prog_2_method_1_code 129 = .ok (.putfield 44, 3) := by decide +kernel
theorem d_Coast_init_132 : decode prog_2_method_1_code 132 = .ok (.aload_n 0, 1) := by decide +kernel
theorem d_Coast_init_133 : decode prog_2_method_1_code 133 = .ok (.new 9, 3) := by decide +kernel
theorem d_Coast_init_136 : decode prog_2_method_1_code 136 = .ok (.dup, 1) := by decide +kernel
theorem d_Coast_init_137 : decode prog_2_method_1_code 137 = .ok (.bipush 6, 2) := by decide +kernel
theorem d_Coast_init_139 : decode prog_2_method_1_code 139 = .ok (.invokespecial 13, 3) := by decide +kernel
theorem d_Coast_init_142 : decode prog_2_method_1_code 142 = .ok (.putfield 47, 3) := by decide +kernel
theorem d_Coast_init_145 : decode prog_2_method_1_code 145 = .ok (.aload_n 0, 1) := by decide +kernel
theorem d_Coast_init_146 : decode prog_2_method_1_code 146 = .ok (.iconst 2, 1) := by decide +kernel
theorem d_Coast_init_147 : decode prog_2_method_1_code 147 = .ok (.putfield 50, 3) := by decide +kernel
theorem d_Coast_init_150 : decode prog_2_method_1_code 150 = .ok (.return_, 1) := by decide +kernel
theorem d_Coast_become_0 : decode prog_2_method_2_code 0 = .ok (.aload_n 0, 1) := by decide +kernel
theorem d_Coast_become_1 : decode prog_2_method_2_code 1 = .ok (.getfield 16, 3) := by decide +kernel
theorem d_Coast_become_4 : decode prog_2_method_2_code 4 = .ok (.aload_n 1, 1) := by decide +kernel
theorem d_Coast_become_5 : decode prog_2_method_2_code 5 = .ok (.getfield 16, 3) := by decide +kernel
theorem d_Coast_become_8 : decode prog_2_method_2_code 8 = .ok (.invokevirtual 54, 3) := by decide +kernel
theorem d_Coast_become_11 : decode prog_2_method_2_code 11 = .ok (.aload_n 0, 1) := by decide +kernel
theorem d_Coast_become_12 : decode prog_2_method_2_code 12 = .ok (.getfield 20, 3) := by decide +kernel
theorem d_Coast_become_15 : decode prog_2_method_2_code 15 = .ok (.aload_n 1, 1) := by decide +kernel
theorem d_Coast_become_16 : decode prog_2_method_2_code 16 = .ok (.getfield 20, 3) := by decide +kernel
theorem d_Coast_become_19 : decode prog_2_method_2_code 19 = .ok (.invokevirtual 54, 3) := by decide +kernel
theorem d_Coast_become_22 : decode prog_2_method_2_code 22 = .ok (.aload_n 0, 1) := by decide +kernel
theorem d_Coast_become_23 : decode prog_2_method_2_code 23 = .ok (.getfield 23, 3) := by decide +kernel
theorem d_Coast_become_26 : decode prog_2_method_2_code 26 = .ok (.aload_n 1, 1) := by decide +kernel
theorem d_Coast_become_27 : decode prog_2_method_2_code 27 = .ok (.getfield 23, 3) := by decide +kernel
theorem d_Coast_become_30 : decode prog_2_method_2_code 30 = .ok (.invokevirtual 54, 3) := by decide +kernel
theorem d_Coast_become_33 : decode prog_2_method_2_code 33 = .ok (.aload_n 0, 1) := by decide +kernel
theorem d_Coast_become_34 : decode prog_2_method_2_code 34 = .ok (.getfield 26, 3) := by decide +kernel
theorem d_Coast_become_37 : decode prog_2_method_2_code 37 = .ok (.aload_n 1, 1) := by decide +kernel
theorem d_Coast_become_38 : decode prog_2_method_2_code 38 = .ok (.getfield 26, 3) := by decide +kernel
theorem d_Coast_become_41 : decode prog_2_method_2_code 41 = .ok (.invokevirtual 54, 3) := by decide +kernel
theorem d_Coast_become_44 : decode prog_2_method_2_code 44 = .ok (.aload_n 0, 1) := by decide +kernel
theorem d_Coast_become_45 : decode prog_2_method_2_code 45 = .ok (.getfield 29, 3) := by decide +kernel
theorem d_Coast_become_48 : decode prog_2_method_2_code 48 = .ok (.aload_n 1, 1) := by decide +kernel
theorem d_Coast_become_49 : decode prog_2_method_2_code 49 = .ok (.getfield 29, 3) := by decide +kernel
theorem d_Coast_become_52 : decode prog_2_method_2_code 52 = .ok (.invokevirtual 54, 3) := by decide +kernel
theorem d_Coast_become_55 : decode prog_2_method_2_code 55 = .ok (.aload_n 0, 1) := by decide +kernel
theorem d_Coast_become_56 : decode prog_2_method_2_code 56 = .ok (.getfield 32, 3) := by decide +kernel
theorem d_Coast_become_59 : decode prog_2_method_2_code 59 = .ok (.aload_n 1, 1) := by decide +kernel
theorem d_Coast_become_60 : decode prog_2_method_2_code 60 = .ok (.getfield 32, 3) := by decide +kernel
theorem d_Coast_become_63 : decode prog_2_method_2_code 63 = .ok (.invokevirtual 54, 3) := by decide +kernel
theorem d_Coast_become_66 : decode prog_2_method_2_code 66 = .ok (.aload_n 0, 1) := by decide +kernel
theorem d_Coast_become_67 : decode prog_2_method_2_code 67 = .ok (.getfield 35, 3) := by decide +kernel
theorem d_Coast_become_70 : decode prog_2_method_2_code 70 = .ok (.aload_n 1, 1) := by decide +kernel
theorem d_Coast_become_71 : decode prog_2_method_2_code 71 = .ok (.getfield 35, 3) := by decide +kernel
theorem d_Coast_become_74 : decode prog_2_method_2_code 74 = .ok (.invokevirtual 54, 3) := by decide +kernel
theorem d_Coast_become_77 : decode prog_2_method_2_code 77 = .ok (.aload_n 0, 1) := by decide +kernel
theorem d_Coast_become_78 : decode prog_2_method_2_code 78 = .ok (.getfield 38, 3) := by decide +kernel
theorem d_Coast_become_81 : decode prog_2_method_2_code 81 = .ok (.aload_n 1, 1) := by decide +kernel
theorem d_Coast_become_82 : decode prog_2_method_2_code 82 = .ok (.getfield 38, 3) := by decide +kernel
theorem d_Coast_become_85 : decode prog_2_method_2_code 85 = .ok (.invokevirtual 54, 3) := by decide +kernel
theorem d_Coast_become_88 : decode prog_2_method_2_code 88 = .ok (.aload_n 0, 1) := by decide +kernel
theorem d_Coast_become_89 : decode prog_2_method_2_code 89 = .ok (.getfield 41, 3) := by decide +kernel
theorem d_Coast_become_92 : decode prog_2_method_2_code 92 = .ok (.aload_n 1, 1) := by decide +kernel
theorem d_Coast_become_93 : decode prog_2_method_2_code 93 = .ok (.getfield 41, 3) := by decide +kernel
theorem d_Coast_become_96 : decode prog_2_method_2_code 96 = .ok (.invokevirtual 54, 3) := by decide +kernel
theorem d_Coast_become_99 : decode prog_2_method_2_code 99 = .ok (.aload_n 0, 1) := by decide +kernel
theorem d_Coast_become_100 : decode prog_2_method_2_code 100 = .ok (.getfield 44, 3) := by decide +kernel
theorem d_Coast_become_103 : decode prog_2_method_2_code 103 = .ok (.aload_n 1, 1) := by decide +kernel
theorem d_Coast_become_104 : decode prog_2_method_2_code 104 = .ok (.getfield 44, 3) := by decide +kernel
theorem d_Coast_become_107 : decode prog_2_method_2_code 107 = .ok (.invokevirtual 54, 3) := by decide +kernel
theorem d_Coast_become_110 : decode prog_2_method_2_code 110 = .ok (.aload_n 0, 1) := by decide +kernel
theorem d_Coast_become_111 : decode prog_2_method_2_code 111 = .ok (.getfield 47, 3) := by decide +kernel
theorem d_Coast_become_114 : decode prog_2_method_2_code 114 = .ok (.aload_n 1, 1) := by decide +kernel
theorem d_Coast_become_115 : decode prog_2_method_2_code 115 = .ok (.getfield 47, 3) := by decide +kernel
theorem d_Coast_become_118 : decode prog_2_method_2_code 118 = .ok (.invokevirtual 54, 3) := by decide +kernel
theorem d_Coast_become_121 : decode prog_2_method_2_code 121 = .ok (.aload_n 0, 1) := by decide +kernel
theorem d_Coast_become_122 : decode prog_2_method_2_code 122 = .ok (.aload_n 1, 1) := by decide +kernel
theorem d_Coast_become_123 : decode prog_2_method_2_code 123 = .ok (.getfield 50, 3) := by decide +kernel
theorem d_Coast_become_126 : decode prog_2_method_2_code 126 = .ok (.putfield 50, 3) := by decide +kernel
theorem d_Coast_become_129 : decode prog_2_method_2_code 129 = .ok (.return_, 1) := by decide +kernel
theorem d_Coast_sight_0 : decode prog_2_method_3_code 0 = .ok (.aload_n 0, 1) := by decide +kernel
theorem d_Coast_sight_1 : decode prog_2_method_3_code 1 = .ok (.getfield 50, 3) := by decide +kernel
theorem d_Coast_sight_4 : decode prog_2_method_3_code 4 = .ok (.ireturn, 1) := by decide +kernel
theorem d_Coast_shipNumber_0 : decode prog_2_method_4_code 0 = .ok (.iload_n 2, 1) := by decide +kernel
theorem d_Coast_shipNumber_1 : decode prog_2_method_4_code 1 = .ok (.tableswitch 54 0 2 #[27, 36, 45], 27) := by decide +kernel
theorem d_Coast_shipNumber_28 : decode prog_2_method_4_code 28 = .ok (.aload_n 0, 1) := by decide +kernel
theorem d_Coast_shipNumber_29 : decode prog_2_method_4_code 29 = .ok (.getfield 35, 3) := by decide +kernel
theorem d_Coast_shipNumber_32 : decode prog_2_method_4_code 32 = .ok (.iload_n 1, 1) := by decide +kernel
theorem d_Coast_shipNumber_33 : decode prog_2_method_4_code 33 = .ok (.invokevirtual 58, 3) := by decide +kernel
theorem d_Coast_shipNumber_36 : decode prog_2_method_4_code 36 = .ok (.ireturn, 1) := by decide +kernel
theorem d_Coast_shipNumber_37 : decode prog_2_method_4_code 37 = .ok (.aload_n 0, 1) := by decide +kernel
theorem d_Coast_shipNumber_38 : decode prog_2_method_4_code 38 = .ok (.getfield 38, 3) := by decide +kernel
theorem d_Coast_shipNumber_41 : decode prog_2_method_4_code 41 = .ok (.iload_n 1, 1) := by decide +kernel
theorem d_Coast_shipNumber_42 : decode prog_2_method_4_code 42 = .ok (.invokevirtual 58, 3) := by decide +kernel
theorem d_Coast_shipNumber_45 : decode prog_2_method_4_code 45 = .ok (.ireturn, 1) := by decide +kernel
theorem d_Coast_shipNumber_46 : decode prog_2_method_4_code 46 = .ok (.aload_n 0, 1) := by decide +kernel
theorem d_Coast_shipNumber_47 : decode prog_2_method_4_code 47 = .ok (.getfield 41, 3) := by decide +kernel
theorem d_Coast_shipNumber_50 : decode prog_2_method_4_code 50 = .ok (.iload_n 1, 1) := by decide +kernel
theorem d_Coast_shipNumber_51 : decode prog_2_method_4_code 51 = .ok (.invokevirtual 58, 3) := by decide +kernel
theorem d_Coast_shipNumber_54 : decode prog_2_method_4_code 54 = .ok (.ireturn, 1) := by decide +kernel
theorem d_Coast_shipNumber_55 : decode prog_2_method_4_code 55 = .ok (.aload_n 0, 1) := by decide +kernel
theorem d_Coast_shipNumber_56 : decode prog_2_method_4_code 56 = .ok (.getfield 44, 3) := by decide +kernel
theorem d_Coast_shipNumber_59 : decode prog_2_method_4_code 59 = .ok (.iload_n 1, 1) := by decide +kernel
theorem d_Coast_shipNumber_60 : decode prog_2_method_4_code 60 = .ok (.invokevirtual 58, 3) := by decide +kernel
theorem d_Coast_shipNumber_63 : decode prog_2_method_4_code 63 = .ok (.ireturn, 1) := by decide +kernel
theorem d_Coast_readFrom_0 : decode prog_2_method_5_code 0 = .ok (.aload_n 0, 1) := by decide +kernel
theorem d_Coast_readFrom_1 : decode prog_2_method_5_code 1 = .ok (.getfield 16, 3) := by decide +kernel
theorem d_Coast_readFrom_4 : decode prog_2_method_5_code 4 = .ok (.invokevirtual 62, 3) := by decide +kernel
theorem d_Coast_readFrom_7 : decode prog_2_method_5_code 7 = .ok (.aload_n 0, 1) := by decide +kernel
theorem d_Coast_readFrom_8 : decode prog_2_method_5_code 8 = .ok (.iconst 2, 1) := by decide +kernel
theorem d_Coast_readFrom_9 : decode prog_2_method_5_code 9 = .ok (.putfield 50, 3) := by decide +kernel
theorem d_Coast_readFrom_12 : decode prog_2_method_5_code 12 = .ok (.iconst 0, 1) := by decide +kernel
theorem d_Coast_readFrom_13 : decode prog_2_method_5_code 13 = .ok (.istore_n 2, 1) := by decide +kernel
theorem d_Coast_readFrom_14 : decode prog_2_method_5_code 14 = .ok (.iload_n 2, 1) := by decide +kernel
theorem d_Coast_readFrom_15 : decode prog_2_method_5_code 15 = .ok (.bipush 60, 2) := by decide +kernel
theorem d_Coast_readFrom_17 : decode prog_2_method_5_code 17 = .ok (.if_icmp .gt 29, 3) := by decide +kernel
theorem d_Coast_readFrom_20 : decode prog_2_method_5_code 20 = .ok (.aload_n 1, 1) := by decide +kernel
theorem d_Coast_readFrom_21 : decode prog_2_method_5_code 21 = .ok (.invokevirtual 65, 3) := by decide +kernel
theorem d_Coast_readFrom_24 : decode prog_2_method_5_code 24 = .ok (.ifCond .eq 22, 3) := by decide +kernel
theorem d_Coast_readFrom_27 : decode prog_2_method_5_code 27 = .ok (.aload_n 1, 1) := by decide +kernel
theorem d_Coast_readFrom_28 : decode prog_2_method_5_code 28 = .ok (.invokevirtual 71, 3) := by decide +kernel
theorem d_Coast_readFrom_31 : decode prog_2_method_5_code 31 = .ok (.ifCond .ne 15, 3) := by decide +kernel
theorem d_Coast_readFrom_34 : decode prog_2_method_5_code 34 = .ok (.aload_n 0, 1) := by decide +kernel
theorem d_Coast_readFrom_35 : decode prog_2_method_5_code 35 = .ok (.aload_n 1, 1) := by decide +kernel
theorem d_Coast_readFrom_36 : decode prog_2_method_5_code 36 = .ok (.iload_n 2, 1) := by decide +kernel
theorem d_Coast_readFrom_37 : decode prog_2_method_5_code 37 = .ok (.invokevirtual 74, 3) := by decide +kernel
theorem d_Coast_readFrom_40 : decode prog_2_method_5_code 40 = .ok (.iinc 2 1, 3) := by decide +kernel
theorem d_Coast_readFrom_43 : decode prog_2_method_5_code 43 = .ok (.goto (-29), 3) := by decide +kernel
theorem d_Coast_readFrom_46 : decode prog_2_method_5_code 46 = .ok (.return_, 1) := by decide +kernel
theorem d_Coast_readClause_0 : decode prog_2_method_6_code 0 = .ok (.aload_n 1, 1) := by decide +kernel
theorem d_Coast_readClause_1 : decode prog_2_method_6_code 1 = .ok (.ldc 78, 2) := by decide +kernel
theorem d_Coast_readClause_3 : decode prog_2_method_6_code 3 = .ok (.invokevirtual 80, 3) := by decide +kernel
theorem d_Coast_readClause_6 : decode prog_2_method_6_code 6 = .ok (.istore_n 3, 1) := by decide +kernel
theorem d_Coast_readClause_7 : decode prog_2_method_6_code 7 = .ok (.iload_n 2, 1) := by decide +kernel
theorem d_Coast_readClause_8 : decode prog_2_method_6_code 8 = .ok (.bipush 60, 2) := by decide +kernel
theorem d_Coast_readClause_10 : decode prog_2_method_6_code 10 = .ok (.if_icmp .ge 18, 3) := by decide +kernel
theorem d_Coast_readClause_13 : decode prog_2_method_6_code 13 = .ok (.aload_n 0, 1) := by decide +kernel
theorem d_Coast_readClause_14 : decode prog_2_method_6_code 14 = .ok (.getfield 16, 3) := by decide +kernel
theorem d_Coast_readClause_17 : decode prog_2_method_6_code 17 = .ok (.iload_n 3, 1) := by decide +kernel
theorem d_Coast_readClause_18 : decode prog_2_method_6_code 18 = .ok (.invokevirtual 58, 3) := by decide +kernel
theorem d_Coast_readClause_21 : decode prog_2_method_6_code 21 = .ok (.iload_n 3, 1) := by decide +kernel
theorem d_Coast_readClause_22 : decode prog_2_method_6_code 22 = .ok (.invokestatic 84, 3) := by decide +kernel
theorem d_Coast_readClause_25 : decode prog_2_method_6_code 25 = .ok (.if_icmp .lt 8, 3) := by decide +kernel
theorem d_Coast_readClause_28 : decode prog_2_method_6_code 28 = .ok (.aload_n 1, 1) := by decide +kernel
theorem d_Coast_readClause_29 : decode prog_2_method_6_code 29 = .ok (.iconst 3, 1) := by decide +kernel
theorem d_Coast_readClause_30 : decode prog_2_method_6_code 30 = .ok (.invokevirtual 87, 3) := by decide +kernel
theorem d_Coast_readClause_33 : decode prog_2_method_6_code 33 = .ok (.aload_n 1, 1) := by decide +kernel
theorem d_Coast_readClause_34 : decode prog_2_method_6_code 34 = .ok (.invokevirtual 65, 3) := by decide +kernel
theorem d_Coast_readClause_37 : decode prog_2_method_6_code 37 = .ok (.ifCond .ne 4, 3) := by decide +kernel
theorem d_Coast_readClause_40 : decode prog_2_method_6_code 40 = .ok (.return_, 1) := by decide +kernel
theorem d_Coast_readClause_41 : decode prog_2_method_6_code 41 = .ok (.aload_n 0, 1) := by decide +kernel
theorem d_Coast_readClause_42 : decode prog_2_method_6_code 42 = .ok (.aload_n 1, 1) := by decide +kernel
theorem d_Coast_readClause_43 : decode prog_2_method_6_code 43 = .ok (.iload_n 3, 1) := by decide +kernel
theorem d_Coast_readClause_44 : decode prog_2_method_6_code 44 = .ok (.aload_n 0, 1) := by decide +kernel
theorem d_Coast_readClause_45 : decode prog_2_method_6_code 45 = .ok (.getfield 16, 3) := by decide +kernel
theorem d_Coast_readClause_48 : decode prog_2_method_6_code 48 = .ok (.iload_n 3, 1) := by decide +kernel
theorem d_Coast_readClause_49 : decode prog_2_method_6_code 49 = .ok (.invokevirtual 58, 3) := by decide +kernel
theorem d_Coast_readClause_52 : decode prog_2_method_6_code 52 = .ok (.invokevirtual 90, 3) := by decide +kernel
theorem d_Coast_readClause_55 : decode prog_2_method_6_code 55 = .ok (.aload_n 1, 1) := by decide +kernel
theorem d_Coast_readClause_56 : decode prog_2_method_6_code 56 = .ok (.aload_n 1, 1) := by decide +kernel
theorem d_Coast_readClause_57 : decode prog_2_method_6_code 57 = .ok (.bipush 59, 2) := by decide +kernel
theorem d_Coast_readClause_59 : decode prog_2_method_6_code 59 = .ok (.invokevirtual 94, 3) := by decide +kernel
theorem d_Coast_readClause_62 : decode prog_2_method_6_code 62 = .ok (.invokevirtual 98, 3) := by decide +kernel
theorem d_Coast_readClause_65 : decode prog_2_method_6_code 65 = .ok (.aload_n 0, 1) := by decide +kernel
theorem d_Coast_readClause_66 : decode prog_2_method_6_code 66 = .ok (.getfield 16, 3) := by decide +kernel
theorem d_Coast_readClause_69 : decode prog_2_method_6_code 69 = .ok (.iload_n 3, 1) := by decide +kernel
theorem d_Coast_readClause_70 : decode prog_2_method_6_code 70 = .ok (.iconst 1, 1) := by decide +kernel
theorem d_Coast_readClause_71 : decode prog_2_method_6_code 71 = .ok (.invokevirtual 102, 3) := by decide +kernel
theorem d_Coast_readClause_74 : decode prog_2_method_6_code 74 = .ok (.return_, 1) := by decide +kernel
theorem d_Coast_mostOf_0 : decode prog_2_method_7_code 0 = .ok (.iload_n 0, 1) := by decide +kernel
theorem d_Coast_mostOf_1 : decode prog_2_method_7_code 1 = .ok (.tableswitch 49 0 4 #[35, 38, 41, 43, 46], 35) := by decide +kernel
theorem d_Coast_mostOf_36 : decode prog_2_method_7_code 36 = .ok (.bipush 12, 2) := by decide +kernel
theorem d_Coast_mostOf_38 : decode prog_2_method_7_code 38 = .ok (.ireturn, 1) := by decide +kernel
theorem d_Coast_mostOf_39 : decode prog_2_method_7_code 39 = .ok (.bipush 6, 2) := by decide +kernel
theorem d_Coast_mostOf_41 : decode prog_2_method_7_code 41 = .ok (.ireturn, 1) := by decide +kernel
theorem d_Coast_mostOf_42 : decode prog_2_method_7_code 42 = .ok (.iconst 3, 1) := by decide +kernel
theorem d_Coast_mostOf_43 : decode prog_2_method_7_code 43 = .ok (.ireturn, 1) := by decide +kernel
theorem d_Coast_mostOf_44 : decode prog_2_method_7_code 44 = .ok (.bipush 6, 2) := by decide +kernel
theorem d_Coast_mostOf_46 : decode prog_2_method_7_code 46 = .ok (.ireturn, 1) := by decide +kernel
theorem d_Coast_mostOf_47 : decode prog_2_method_7_code 47 = .ok (.bipush 6, 2) := by decide +kernel
theorem d_Coast_mostOf_49 : decode prog_2_method_7_code 49 = .ok (.ireturn, 1) := by decide +kernel
theorem d_Coast_mostOf_50 : decode prog_2_method_7_code 50 = .ok (.bipush 60, 2) := by decide +kernel
theorem d_Coast_mostOf_52 : decode prog_2_method_7_code 52 = .ok (.ireturn, 1) := by decide +kernel
theorem d_Coast_readNumbers_0 : decode prog_2_method_8_code 0 = .ok (.iload_n 2, 1) := by decide +kernel
theorem d_Coast_readNumbers_1 : decode prog_2_method_8_code 1 = .ok (.tableswitch 216 0 4 #[35, 53, 94, 135, 198], 35) := by decide +kernel
theorem d_Coast_readNumbers_36 : decode prog_2_method_8_code 36 = .ok (.aload_n 0, 1) := by decide +kernel
theorem d_Coast_readNumbers_37 : decode prog_2_method_8_code 37 = .ok (.getfield 20, 3) := by decide +kernel
theorem d_Coast_readNumbers_40 : decode prog_2_method_8_code 40 = .ok (.iload_n 3, 1) := by decide +kernel
theorem d_Coast_readNumbers_41 : decode prog_2_method_8_code 41 = .ok (.aload_n 1, 1) := by decide +kernel
theorem d_Coast_readNumbers_42 : decode prog_2_method_8_code 42 = .ok (.iconst 0, 1) := by decide +kernel
theorem d_Coast_readNumbers_43 : decode prog_2_method_8_code 43 = .ok (.bipush 9, 2) := by decide +kernel
theorem d_Coast_readNumbers_45 : decode prog_2_method_8_code 45 = .ok (.invokevirtual 106, 3) := by decide +kernel
theorem d_Coast_readNumbers_48 : decode prog_2_method_8_code 48 = .ok (.invokevirtual 110, 3) := by decide +kernel
theorem d_Coast_readNumbers_51 : decode prog_2_method_8_code 51 = .ok (.goto 176, 3) := by decide +kernel
theorem d_Coast_readNumbers_54 : decode prog_2_method_8_code 54 = .ok (.aload_n 0, 1) := by decide +kernel
theorem d_Coast_readNumbers_55 : decode prog_2_method_8_code 55 = .ok (.getfield 23, 3) := by decide +kernel
theorem d_Coast_readNumbers_58 : decode prog_2_method_8_code 58 = .ok (.iload_n 3, 1) := by decide +kernel
theorem d_Coast_readNumbers_59 : decode prog_2_method_8_code 59 = .ok (.aload_n 1, 1) := by decide +kernel
theorem d_Coast_readNumbers_60 : decode prog_2_method_8_code 60 = .ok (.iconst 0, 1) := by decide +kernel
theorem d_Coast_readNumbers_61 : decode prog_2_method_8_code 61 = .ok (.aload_n 0, 1) := by decide +kernel
theorem d_Coast_readNumbers_62 : decode prog_2_method_8_code 62 = .ok (.getfield 16, 3) := by decide +kernel
theorem d_Coast_readNumbers_65 : decode prog_2_method_8_code 65 = .ok (.iconst 0, 1) := by decide +kernel
theorem d_Coast_readNumbers_66 : decode prog_2_method_8_code 66 = .ok (.invokevirtual 58, 3) := by decide +kernel
theorem d_Coast_readNumbers_69 : decode prog_2_method_8_code 69 = .ok (.iconst 1, 1) := by decide +kernel
theorem d_Coast_readNumbers_70 : decode prog_2_method_8_code 70 = .ok (.isub, 1) := by decide +kernel
theorem d_Coast_readNumbers_71 : decode prog_2_method_8_code 71 = .ok (.invokevirtual 106, 3) := by decide +kernel
theorem d_Coast_readNumbers_74 : decode prog_2_method_8_code 74 = .ok (.invokevirtual 110, 3) := by decide +kernel
theorem d_Coast_readNumbers_77 : decode prog_2_method_8_code 77 = .ok (.aload_n 0, 1) := by decide +kernel
theorem d_Coast_readNumbers_78 : decode prog_2_method_8_code 78 = .ok (.getfield 26, 3) := by decide +kernel
theorem d_Coast_readNumbers_81 : decode prog_2_method_8_code 81 = .ok (.iload_n 3, 1) := by decide +kernel
theorem d_Coast_readNumbers_82 : decode prog_2_method_8_code 82 = .ok (.aload_n 1, 1) := by decide +kernel
theorem d_Coast_readNumbers_83 : decode prog_2_method_8_code 83 = .ok (.iconst 1, 1) := by decide +kernel
theorem d_Coast_readNumbers_84 : decode prog_2_method_8_code 84 = .ok (.bipush 9, 2) := by decide +kernel
theorem d_Coast_readNumbers_86 : decode prog_2_method_8_code 86 = .ok (.invokevirtual 106, 3) := by decide +kernel
theorem d_Coast_readNumbers_89 : decode prog_2_method_8_code 89 = .ok (.invokevirtual 110, 3) := by decide +kernel
theorem d_Coast_readNumbers_92 : decode prog_2_method_8_code 92 = .ok (.goto 135, 3) := by decide +kernel
theorem d_Coast_readNumbers_95 : decode prog_2_method_8_code 95 = .ok (.aload_n 0, 1) := by decide +kernel
theorem d_Coast_readNumbers_96 : decode prog_2_method_8_code 96 = .ok (.getfield 29, 3) := by decide +kernel
theorem d_Coast_readNumbers_99 : decode prog_2_method_8_code 99 = .ok (.iload_n 3, 1) := by decide +kernel
theorem d_Coast_readNumbers_100 : decode prog_2_method_8_code 100 = .ok (.aload_n 1, 1) := by decide +kernel
theorem d_Coast_readNumbers_101 : decode prog_2_method_8_code 101 = .ok (.iconst 0, 1) := by decide +kernel
theorem d_Coast_readNumbers_102 : decode prog_2_method_8_code 102 = .ok (.aload_n 0, 1) := by decide +kernel
theorem d_Coast_readNumbers_103 : decode prog_2_method_8_code 103 = .ok (.getfield 16, 3) := by decide +kernel
theorem d_Coast_readNumbers_106 : decode prog_2_method_8_code 106 = .ok (.iconst 0, 1) := by decide +kernel
theorem d_Coast_readNumbers_107 : decode prog_2_method_8_code 107 = .ok (.invokevirtual 58, 3) := by decide +kernel
theorem d_Coast_readNumbers_110 : decode prog_2_method_8_code 110 = .ok (.iconst 1, 1) := by decide +kernel
theorem d_Coast_readNumbers_111 : decode prog_2_method_8_code 111 = .ok (.isub, 1) := by decide +kernel
theorem d_Coast_readNumbers_112 : decode prog_2_method_8_code 112 = .ok (.invokevirtual 106, 3) := by decide +kernel
theorem d_Coast_readNumbers_115 : decode prog_2_method_8_code 115 = .ok (.invokevirtual 110, 3) := by decide +kernel
theorem d_Coast_readNumbers_118 : decode prog_2_method_8_code 118 = .ok (.aload_n 0, 1) := by decide +kernel
theorem d_Coast_readNumbers_119 : decode prog_2_method_8_code 119 = .ok (.getfield 32, 3) := by decide +kernel
theorem d_Coast_readNumbers_122 : decode prog_2_method_8_code 122 = .ok (.iload_n 3, 1) := by decide +kernel
theorem d_Coast_readNumbers_123 : decode prog_2_method_8_code 123 = .ok (.aload_n 1, 1) := by decide +kernel
theorem d_Coast_readNumbers_124 : decode prog_2_method_8_code 124 = .ok (.iconst 1, 1) := by decide +kernel
theorem d_Coast_readNumbers_125 : decode prog_2_method_8_code 125 = .ok (.bipush 9, 2) := by decide +kernel
theorem d_Coast_readNumbers_127 : decode prog_2_method_8_code 127 = .ok (.invokevirtual 106, 3) := by decide +kernel
theorem d_Coast_readNumbers_130 : decode prog_2_method_8_code 130 = .ok (.invokevirtual 110, 3) := by decide +kernel
theorem d_Coast_readNumbers_133 : decode prog_2_method_8_code 133 = .ok (.goto 94, 3) := by decide +kernel
theorem d_Coast_readNumbers_136 : decode prog_2_method_8_code 136 = .ok (.aload_n 0, 1) := by decide +kernel
theorem d_Coast_readNumbers_137 : decode prog_2_method_8_code 137 = .ok (.getfield 35, 3) := by decide +kernel
theorem d_Coast_readNumbers_140 : decode prog_2_method_8_code 140 = .ok (.iload_n 3, 1) := by decide +kernel
theorem d_Coast_readNumbers_141 : decode prog_2_method_8_code 141 = .ok (.aload_n 1, 1) := by decide +kernel
theorem d_Coast_readNumbers_142 : decode prog_2_method_8_code 142 = .ok (.iconst 0, 1) := by decide +kernel
theorem d_Coast_readNumbers_143 : decode prog_2_method_8_code 143 = .ok (.bipush 40, 2) := by decide +kernel
theorem d_Coast_readNumbers_145 : decode prog_2_method_8_code 145 = .ok (.invokevirtual 106, 3) := by decide +kernel
theorem d_Coast_readNumbers_148 : decode prog_2_method_8_code 148 = .ok (.invokevirtual 110, 3) := by decide +kernel
theorem d_Coast_readNumbers_151 : decode prog_2_method_8_code 151 = .ok (.aload_n 0, 1) := by decide +kernel
theorem d_Coast_readNumbers_152 : decode prog_2_method_8_code 152 = .ok (.getfield 38, 3) := by decide +kernel
theorem d_Coast_readNumbers_155 : decode prog_2_method_8_code 155 = .ok (.iload_n 3, 1) := by decide +kernel
theorem d_Coast_readNumbers_156 : decode prog_2_method_8_code 156 = .ok (.aload_n 1, 1) := by decide +kernel
theorem d_Coast_readNumbers_157 : decode prog_2_method_8_code 157 = .ok (.iconst 0, 1) := by decide +kernel
theorem d_Coast_readNumbers_158 : decode prog_2_method_8_code 158 = .ok (.bipush 9, 2) := by decide +kernel
theorem d_Coast_readNumbers_160 : decode prog_2_method_8_code 160 = .ok (.invokevirtual 106, 3) := by decide +kernel
theorem d_Coast_readNumbers_163 : decode prog_2_method_8_code 163 = .ok (.invokevirtual 110, 3) := by decide +kernel
theorem d_Coast_readNumbers_166 : decode prog_2_method_8_code 166 = .ok (.aload_n 0, 1) := by decide +kernel
theorem d_Coast_readNumbers_167 : decode prog_2_method_8_code 167 = .ok (.getfield 41, 3) := by decide +kernel
theorem d_Coast_readNumbers_170 : decode prog_2_method_8_code 170 = .ok (.iload_n 3, 1) := by decide +kernel
theorem d_Coast_readNumbers_171 : decode prog_2_method_8_code 171 = .ok (.aload_n 1, 1) := by decide +kernel
theorem d_Coast_readNumbers_172 : decode prog_2_method_8_code 172 = .ok (.iconst 0, 1) := by decide +kernel
theorem d_Coast_readNumbers_173 : decode prog_2_method_8_code 173 = .ok (.bipush 9, 2) := by decide +kernel
theorem d_Coast_readNumbers_175 : decode prog_2_method_8_code 175 = .ok (.invokevirtual 106, 3) := by decide +kernel
theorem d_Coast_readNumbers_178 : decode prog_2_method_8_code 178 = .ok (.invokevirtual 110, 3) := by decide +kernel
theorem d_Coast_readNumbers_181 : decode prog_2_method_8_code 181 = .ok (.aload_n 0, 1) := by decide +kernel
theorem d_Coast_readNumbers_182 : decode prog_2_method_8_code 182 = .ok (.getfield 44, 3) := by decide +kernel
theorem d_Coast_readNumbers_185 : decode prog_2_method_8_code 185 = .ok (.iload_n 3, 1) := by decide +kernel
theorem d_Coast_readNumbers_186 : decode prog_2_method_8_code 186 = .ok (.aload_n 1, 1) := by decide +kernel
theorem d_Coast_readNumbers_187 : decode prog_2_method_8_code 187 = .ok (.iconst 0, 1) := by decide +kernel
theorem d_Coast_readNumbers_188 : decode prog_2_method_8_code 188 = .ok (.bipush 9, 2) := by decide +kernel
theorem d_Coast_readNumbers_190 : decode prog_2_method_8_code 190 = .ok (.invokevirtual 106, 3) := by decide +kernel
theorem d_Coast_readNumbers_193 : decode prog_2_method_8_code 193 = .ok (.invokevirtual 110, 3) := by decide +kernel
theorem d_Coast_readNumbers_196 : decode prog_2_method_8_code 196 = .ok (.goto 31, 3) := by decide +kernel
theorem d_Coast_readNumbers_199 : decode prog_2_method_8_code 199 = .ok (.aload_n 0, 1) := by decide +kernel
theorem d_Coast_readNumbers_200 : decode prog_2_method_8_code 200 = .ok (.getfield 47, 3) := by decide +kernel
theorem d_Coast_readNumbers_203 : decode prog_2_method_8_code 203 = .ok (.iload_n 3, 1) := by decide +kernel
theorem d_Coast_readNumbers_204 : decode prog_2_method_8_code 204 = .ok (.aload_n 1, 1) := by decide +kernel
theorem d_Coast_readNumbers_205 : decode prog_2_method_8_code 205 = .ok (.iconst 1, 1) := by decide +kernel
theorem d_Coast_readNumbers_206 : decode prog_2_method_8_code 206 = .ok (.bipush 9, 2) := by decide +kernel
theorem d_Coast_readNumbers_208 : decode prog_2_method_8_code 208 = .ok (.invokevirtual 106, 3) := by decide +kernel
theorem d_Coast_readNumbers_211 : decode prog_2_method_8_code 211 = .ok (.invokevirtual 110, 3) := by decide +kernel
theorem d_Coast_readNumbers_214 : decode prog_2_method_8_code 214 = .ok (.goto 13, 3) := by decide +kernel
theorem d_Coast_readNumbers_217 : decode prog_2_method_8_code 217 = .ok (.aload_n 0, 1) := by decide +kernel
theorem d_Coast_readNumbers_218 : decode prog_2_method_8_code 218 = .ok (.aload_n 1, 1) := by decide +kernel
theorem d_Coast_readNumbers_219 : decode prog_2_method_8_code 219 = .ok (.iconst 0, 1) := by decide +kernel
theorem d_Coast_readNumbers_220 : decode prog_2_method_8_code 220 = .ok (.iconst 5, 1) := by decide +kernel
theorem d_Coast_readNumbers_221 : decode prog_2_method_8_code 221 = .ok (.invokevirtual 106, 3) := by decide +kernel
theorem d_Coast_readNumbers_224 : decode prog_2_method_8_code 224 = .ok (.putfield 50, 3) := by decide +kernel
theorem d_Coast_readNumbers_227 : decode prog_2_method_8_code 227 = .ok (.return_, 1) := by decide +kernel
theorem d_Coast_strikes_0 : decode prog_2_method_9_code 0 = .ok (.aload_n 0, 1) := by decide +kernel
theorem d_Coast_strikes_1 : decode prog_2_method_9_code 1 = .ok (.getfield 20, 3) := by decide +kernel
theorem d_Coast_strikes_4 : decode prog_2_method_9_code 4 = .ok (.iload_n 2, 1) := by decide +kernel
theorem d_Coast_strikes_5 : decode prog_2_method_9_code 5 = .ok (.invokevirtual 58, 3) := by decide +kernel
theorem d_Coast_strikes_8 : decode prog_2_method_9_code 8 = .ok (.istore_n 3, 1) := by decide +kernel
theorem d_Coast_strikes_9 : decode prog_2_method_9_code 9 = .ok (.iload_n 3, 1) := by decide +kernel
theorem d_Coast_strikes_10 : decode prog_2_method_9_code 10 = .ok (.ifCond .le 22, 3) := by decide +kernel
theorem d_Coast_strikes_13 : decode prog_2_method_9_code 13 = .ok (.iload_n 3, 1) := by decide +kernel
theorem d_Coast_strikes_14 : decode prog_2_method_9_code 14 = .ok (.aload_n 0, 1) := by decide +kernel
theorem d_Coast_strikes_15 : decode prog_2_method_9_code 15 = .ok (.getfield 44, 3) := by decide +kernel
theorem d_Coast_strikes_18 : decode prog_2_method_9_code 18 = .ok (.iload_n 1, 1) := by decide +kernel
theorem d_Coast_strikes_19 : decode prog_2_method_9_code 19 = .ok (.invokevirtual 58, 3) := by decide +kernel
theorem d_Coast_strikes_22 : decode prog_2_method_9_code 22 = .ok (.iadd, 1) := by decide +kernel
theorem d_Coast_strikes_23 : decode prog_2_method_9_code 23 = .ok (.bipush 6, 2) := by decide +kernel
theorem d_Coast_strikes_25 : decode prog_2_method_9_code 25 = .ok (.if_icmp .lt 7, 3) := by decide +kernel
theorem d_Coast_strikes_28 : decode prog_2_method_9_code 28 = .ok (.iconst 1, 1) := by decide +kernel
theorem d_Coast_strikes_29 : decode prog_2_method_9_code 29 = .ok (.goto 4, 3) := by decide +kernel
theorem d_Coast_strikes_32 : decode prog_2_method_9_code 32 = .ok (.iconst 0, 1) := by decide +kernel
theorem d_Coast_strikes_33 : decode prog_2_method_9_code 33 = .ok (.ireturn, 1) := by decide +kernel
theorem d_Coast_alive_0 : decode prog_2_method_10_code 0 = .ok (.iload_n 2, 1) := by decide +kernel
theorem d_Coast_alive_1 : decode prog_2_method_10_code 1 = .ok (.iconst (-1), 1) := by decide +kernel
theorem d_Coast_alive_2 : decode prog_2_method_10_code 2 = .ok (.if_icmp .ne 14, 3) := by decide +kernel
theorem d_Coast_alive_5 : decode prog_2_method_10_code 5 = .ok (.aload_n 0, 1) := by decide +kernel
theorem d_Coast_alive_6 : decode prog_2_method_10_code 6 = .ok (.getfield 38, 3) := by decide +kernel
theorem d_Coast_alive_9 : decode prog_2_method_10_code 9 = .ok (.iload_n 1, 1) := by decide +kernel
theorem d_Coast_alive_10 : decode prog_2_method_10_code 10 = .ok (.invokevirtual 58, 3) := by decide +kernel
theorem d_Coast_alive_13 : decode prog_2_method_10_code 13 = .ok (.goto 24, 3) := by decide +kernel
theorem d_Coast_alive_16 : decode prog_2_method_10_code 16 = .ok (.aload_n 0, 1) := by decide +kernel
theorem d_Coast_alive_17 : decode prog_2_method_10_code 17 = .ok (.getfield 38, 3) := by decide +kernel
theorem d_Coast_alive_20 : decode prog_2_method_10_code 20 = .ok (.iload_n 1, 1) := by decide +kernel
theorem d_Coast_alive_21 : decode prog_2_method_10_code 21 = .ok (.invokevirtual 58, 3) := by decide +kernel
theorem d_Coast_alive_24 : decode prog_2_method_10_code 24 = .ok (.aload_n 0, 1) := by decide +kernel
theorem d_Coast_alive_25 : decode prog_2_method_10_code 25 = .ok (.getfield 20, 3) := by decide +kernel
theorem d_Coast_alive_28 : decode prog_2_method_10_code 28 = .ok (.iload_n 2, 1) := by decide +kernel
theorem d_Coast_alive_29 : decode prog_2_method_10_code 29 = .ok (.invokevirtual 58, 3) := by decide +kernel
theorem d_Coast_alive_32 : decode prog_2_method_10_code 32 = .ok (.isub, 1) := by decide +kernel
theorem d_Coast_alive_33 : decode prog_2_method_10_code 33 = .ok (.iconst 0, 1) := by decide +kernel
theorem d_Coast_alive_34 : decode prog_2_method_10_code 34 = .ok (.invokestatic 113, 3) := by decide +kernel
theorem d_Coast_alive_37 : decode prog_2_method_10_code 37 = .ok (.ireturn, 1) := by decide +kernel
theorem d_Coast_parishCargo_0 : decode prog_2_method_11_code 0 = .ok (.iload_n 2, 1) := by decide +kernel
theorem d_Coast_parishCargo_1 : decode prog_2_method_11_code 1 = .ok (.iconst (-1), 1) := by decide +kernel
theorem d_Coast_parishCargo_2 : decode prog_2_method_11_code 2 = .ok (.if_icmp .eq 33, 3) := by decide +kernel
theorem d_Coast_parishCargo_5 : decode prog_2_method_11_code 5 = .ok (.aload_n 0, 1) := by decide +kernel
theorem d_Coast_parishCargo_6 : decode prog_2_method_11_code 6 = .ok (.getfield 38, 3) := by decide +kernel
theorem d_Coast_parishCargo_9 : decode prog_2_method_11_code 9 = .ok (.iload_n 1, 1) := by decide +kernel
theorem d_Coast_parishCargo_10 : decode prog_2_method_11_code 10 = .ok (.invokevirtual 58, 3) := by decide +kernel
theorem d_Coast_parishCargo_13 : decode prog_2_method_11_code 13 = .ok (.aload_n 0, 1) := by decide +kernel
theorem d_Coast_parishCargo_14 : decode prog_2_method_11_code 14 = .ok (.getfield 20, 3) := by decide +kernel
theorem d_Coast_parishCargo_17 : decode prog_2_method_11_code 17 = .ok (.iload_n 2, 1) := by decide +kernel
theorem d_Coast_parishCargo_18 : decode prog_2_method_11_code 18 = .ok (.invokevirtual 58, 3) := by decide +kernel
theorem d_Coast_parishCargo_21 : decode prog_2_method_11_code 21 = .ok (.if_icmp .gt 14, 3) := by decide +kernel
theorem d_Coast_parishCargo_24 : decode prog_2_method_11_code 24 = .ok (.aload_n 0, 1) := by decide +kernel
theorem d_Coast_parishCargo_25 : decode prog_2_method_11_code 25 = .ok (.getfield 35, 3) := by decide +kernel
theorem d_Coast_parishCargo_28 : decode prog_2_method_11_code 28 = .ok (.iload_n 1, 1) := by decide +kernel
theorem d_Coast_parishCargo_29 : decode prog_2_method_11_code 29 = .ok (.invokevirtual 58, 3) := by decide +kernel
theorem d_Coast_parishCargo_32 : decode prog_2_method_11_code 32 = .ok (.goto 4, 3) := by decide +kernel
theorem d_Coast_parishCargo_35 : decode prog_2_method_11_code 35 = .ok (.iconst 0, 1) := by decide +kernel
theorem d_Coast_parishCargo_36 : decode prog_2_method_11_code 36 = .ok (.ireturn, 1) := by decide +kernel
theorem d_Coast_allReefs_0 : decode prog_2_method_12_code 0 = .ok (.iconst 0, 1) := by decide +kernel
theorem d_Coast_allReefs_1 : decode prog_2_method_12_code 1 = .ok (.istore_n 1, 1) := by decide +kernel
theorem d_Coast_allReefs_2 : decode prog_2_method_12_code 2 = .ok (.iconst 0, 1) := by decide +kernel
theorem d_Coast_allReefs_3 : decode prog_2_method_12_code 3 = .ok (.istore_n 2, 1) := by decide +kernel
theorem d_Coast_allReefs_4 : decode prog_2_method_12_code 4 = .ok (.iload_n 2, 1) := by decide +kernel
theorem d_Coast_allReefs_5 : decode prog_2_method_12_code 5 = .ok (.aload_n 0, 1) := by decide +kernel
theorem d_Coast_allReefs_6 : decode prog_2_method_12_code 6 = .ok (.getfield 16, 3) := by decide +kernel
theorem d_Coast_allReefs_9 : decode prog_2_method_12_code 9 = .ok (.iconst 0, 1) := by decide +kernel
theorem d_Coast_allReefs_10 : decode prog_2_method_12_code 10 = .ok (.invokevirtual 58, 3) := by decide +kernel
theorem d_Coast_allReefs_13 : decode prog_2_method_12_code 13 = .ok (.if_icmp .ge 20, 3) := by decide +kernel
theorem d_Coast_allReefs_16 : decode prog_2_method_12_code 16 = .ok (.iload_n 1, 1) := by decide +kernel
theorem d_Coast_allReefs_17 : decode prog_2_method_12_code 17 = .ok (.aload_n 0, 1) := by decide +kernel
theorem d_Coast_allReefs_18 : decode prog_2_method_12_code 18 = .ok (.getfield 20, 3) := by decide +kernel
theorem d_Coast_allReefs_21 : decode prog_2_method_12_code 21 = .ok (.iload_n 2, 1) := by decide +kernel
theorem d_Coast_allReefs_22 : decode prog_2_method_12_code 22 = .ok (.invokevirtual 58, 3) := by decide +kernel
theorem d_Coast_allReefs_25 : decode prog_2_method_12_code 25 = .ok (.iadd, 1) := by decide +kernel
theorem d_Coast_allReefs_26 : decode prog_2_method_12_code 26 = .ok (.istore_n 1, 1) := by decide +kernel
theorem d_Coast_allReefs_27 : decode prog_2_method_12_code 27 = .ok (.iinc 2 1, 3) := by decide +kernel
theorem d_Coast_allReefs_30 : decode prog_2_method_12_code 30 = .ok (.goto (-26), 3) := by decide +kernel
theorem d_Coast_allReefs_33 : decode prog_2_method_12_code 33 = .ok (.iload_n 1, 1) := by decide +kernel
theorem d_Coast_allReefs_34 : decode prog_2_method_12_code 34 = .ok (.ireturn, 1) := by decide +kernel
theorem d_Coast_longestReefFirst_0 : decode prog_2_method_13_code 0 = .ok (.iconst (-1), 1) := by decide +kernel
theorem d_Coast_longestReefFirst_1 : decode prog_2_method_13_code 1 = .ok (.istore_n 1, 1) := by decide +kernel
theorem d_Coast_longestReefFirst_2 : decode prog_2_method_13_code 2 = .ok (.iconst 0, 1) := by decide +kernel
theorem d_Coast_longestReefFirst_3 : decode prog_2_method_13_code 3 = .ok (.istore_n 2, 1) := by decide +kernel
theorem d_Coast_longestReefFirst_4 : decode prog_2_method_13_code 4 = .ok (.iconst 0, 1) := by decide +kernel
theorem d_Coast_longestReefFirst_5 : decode prog_2_method_13_code 5 = .ok (.istore_n 3, 1) := by decide +kernel
theorem d_Coast_longestReefFirst_6 : decode prog_2_method_13_code 6 = .ok (.iload_n 3, 1) := by decide +kernel
theorem d_Coast_longestReefFirst_7 : decode prog_2_method_13_code 7 = .ok (.aload_n 0, 1) := by decide +kernel
theorem d_Coast_longestReefFirst_8 : decode prog_2_method_13_code 8 = .ok (.getfield 16, 3) := by decide +kernel
theorem d_Coast_longestReefFirst_11 : decode prog_2_method_13_code 11 = .ok (.iconst 0, 1) := by decide +kernel
theorem d_Coast_longestReefFirst_12 : decode prog_2_method_13_code 12 = .ok (.invokevirtual 58, 3) := by decide +kernel
theorem d_Coast_longestReefFirst_15 : decode prog_2_method_13_code 15 = .ok (.if_icmp .ge 27, 3) := by decide +kernel
theorem d_Coast_longestReefFirst_18 : decode prog_2_method_13_code 18 = .ok (.aload_n 0, 1) := by decide +kernel
theorem d_Coast_longestReefFirst_19 : decode prog_2_method_13_code 19 = .ok (.iload_n 3, 1) := by decide +kernel
theorem d_Coast_longestReefFirst_20 : decode prog_2_method_13_code 20 = .ok (.invokevirtual 118, 3) := by decide +kernel
theorem d_Coast_longestReefFirst_23 : decode prog_2_method_13_code 23 = .ok (.istore 4, 2) := by decide +kernel
theorem d_Coast_longestReefFirst_25 : decode prog_2_method_13_code 25 = .ok (.iload 4, 2) := by decide +kernel
theorem d_Coast_longestReefFirst_27 : decode prog_2_method_13_code 27 = .ok (.iload_n 2, 1) := by decide +kernel
theorem d_Coast_longestReefFirst_28 : decode prog_2_method_13_code 28 = .ok (.if_icmp .le 8, 3) := by decide +kernel
theorem d_Coast_longestReefFirst_31 : decode prog_2_method_13_code 31 = .ok (.iload_n 3, 1) := by decide +kernel
theorem d_Coast_longestReefFirst_32 : decode prog_2_method_13_code 32 = .ok (.istore_n 1, 1) := by decide +kernel
theorem d_Coast_longestReefFirst_33 : decode prog_2_method_13_code 33 = .ok (.iload 4, 2) := by decide +kernel
theorem d_Coast_longestReefFirst_35 : decode prog_2_method_13_code 35 = .ok (.istore_n 2, 1) := by decide +kernel
theorem d_Coast_longestReefFirst_36 : decode prog_2_method_13_code 36 = .ok (.iinc 3 1, 3) := by decide +kernel
theorem d_Coast_longestReefFirst_39 : decode prog_2_method_13_code 39 = .ok (.goto (-33), 3) := by decide +kernel
theorem d_Coast_longestReefFirst_42 : decode prog_2_method_13_code 42 = .ok (.iload_n 1, 1) := by decide +kernel
theorem d_Coast_longestReefFirst_43 : decode prog_2_method_13_code 43 = .ok (.ireturn, 1) := by decide +kernel
theorem d_Coast_reefRowFrom_0 : decode prog_2_method_14_code 0 = .ok (.iconst 0, 1) := by decide +kernel
theorem d_Coast_reefRowFrom_1 : decode prog_2_method_14_code 1 = .ok (.istore_n 2, 1) := by decide +kernel
theorem d_Coast_reefRowFrom_2 : decode prog_2_method_14_code 2 = .ok (.iload_n 1, 1) := by decide +kernel
theorem d_Coast_reefRowFrom_3 : decode prog_2_method_14_code 3 = .ok (.istore_n 3, 1) := by decide +kernel
theorem d_Coast_reefRowFrom_4 : decode prog_2_method_14_code 4 = .ok (.iload_n 3, 1) := by decide +kernel
theorem d_Coast_reefRowFrom_5 : decode prog_2_method_14_code 5 = .ok (.ifCond .lt 35, 3) := by decide +kernel
theorem d_Coast_reefRowFrom_8 : decode prog_2_method_14_code 8 = .ok (.iload_n 3, 1) := by decide +kernel
theorem d_Coast_reefRowFrom_9 : decode prog_2_method_14_code 9 = .ok (.aload_n 0, 1) := by decide +kernel
theorem d_Coast_reefRowFrom_10 : decode prog_2_method_14_code 10 = .ok (.getfield 16, 3) := by decide +kernel
theorem d_Coast_reefRowFrom_13 : decode prog_2_method_14_code 13 = .ok (.iconst 0, 1) := by decide +kernel
theorem d_Coast_reefRowFrom_14 : decode prog_2_method_14_code 14 = .ok (.invokevirtual 58, 3) := by decide +kernel
theorem d_Coast_reefRowFrom_17 : decode prog_2_method_14_code 17 = .ok (.if_icmp .ge 23, 3) := by decide +kernel
theorem d_Coast_reefRowFrom_20 : decode prog_2_method_14_code 20 = .ok (.aload_n 0, 1) := by decide +kernel
theorem d_Coast_reefRowFrom_21 : decode prog_2_method_14_code 21 = .ok (.getfield 20, 3) := by decide +kernel
theorem d_Coast_reefRowFrom_24 : decode prog_2_method_14_code 24 = .ok (.iload_n 3, 1) := by decide +kernel
theorem d_Coast_reefRowFrom_25 : decode prog_2_method_14_code 25 = .ok (.invokevirtual 58, 3) := by decide +kernel
theorem d_Coast_reefRowFrom_28 : decode prog_2_method_14_code 28 = .ok (.ifCond .le 12, 3) := by decide +kernel
theorem d_Coast_reefRowFrom_31 : decode prog_2_method_14_code 31 = .ok (.iinc 2 1, 3) := by decide +kernel
theorem d_Coast_reefRowFrom_34 : decode prog_2_method_14_code 34 = .ok (.iinc 3 1, 3) := by decide +kernel
theorem d_Coast_reefRowFrom_37 : decode prog_2_method_14_code 37 = .ok (.goto (-33), 3) := by decide +kernel
theorem d_Coast_reefRowFrom_40 : decode prog_2_method_14_code 40 = .ok (.iload_n 2, 1) := by decide +kernel
theorem d_Coast_reefRowFrom_41 : decode prog_2_method_14_code 41 = .ok (.ireturn, 1) := by decide +kernel
theorem d_Coast_carriersHave_0 : decode prog_2_method_15_code 0 = .ok (.iload_n 1, 1) := by decide +kernel
theorem d_Coast_carriersHave_1 : decode prog_2_method_15_code 1 = .ok (.iload_n 2, 1) := by decide +kernel
theorem d_Coast_carriersHave_2 : decode prog_2_method_15_code 2 = .ok (.isub, 1) := by decide +kernel
theorem d_Coast_carriersHave_3 : decode prog_2_method_15_code 3 = .ok (.invokestatic 121, 3) := by decide +kernel
theorem d_Coast_carriersHave_6 : decode prog_2_method_15_code 6 = .ok (.iconst 1, 1) := by decide +kernel
theorem d_Coast_carriersHave_7 : decode prog_2_method_15_code 7 = .ok (.if_icmp .gt 8, 3) := by decide +kernel
theorem d_Coast_carriersHave_10 : decode prog_2_method_15_code 10 = .ok (.bipush (-3), 2) := by decide +kernel
theorem d_Coast_carriersHave_12 : decode prog_2_method_15_code 12 = .ok (.goto 11, 3) := by decide +kernel
theorem d_Coast_carriersHave_15 : decode prog_2_method_15_code 15 = .ok (.aload_n 0, 1) := by decide +kernel
theorem d_Coast_carriersHave_16 : decode prog_2_method_15_code 16 = .ok (.getfield 20, 3) := by decide +kernel
theorem d_Coast_carriersHave_19 : decode prog_2_method_15_code 19 = .ok (.iload_n 1, 1) := by decide +kernel
theorem d_Coast_carriersHave_20 : decode prog_2_method_15_code 20 = .ok (.invokevirtual 58, 3) := by decide +kernel
theorem d_Coast_carriersHave_23 : decode prog_2_method_15_code 23 = .ok (.ireturn, 1) := by decide +kernel
theorem d_Coast_rests_0 : decode prog_2_method_16_code 0 = .ok (.iconst 0, 1) := by decide +kernel
theorem d_Coast_rests_1 : decode prog_2_method_16_code 1 = .ok (.istore_n 1, 1) := by decide +kernel
theorem d_Coast_rests_2 : decode prog_2_method_16_code 2 = .ok (.iconst 0, 1) := by decide +kernel
theorem d_Coast_rests_3 : decode prog_2_method_16_code 3 = .ok (.istore_n 2, 1) := by decide +kernel
theorem d_Coast_rests_4 : decode prog_2_method_16_code 4 = .ok (.iload_n 2, 1) := by decide +kernel
theorem d_Coast_rests_5 : decode prog_2_method_16_code 5 = .ok (.aload_n 0, 1) := by decide +kernel
theorem d_Coast_rests_6 : decode prog_2_method_16_code 6 = .ok (.getfield 16, 3) := by decide +kernel
theorem d_Coast_rests_9 : decode prog_2_method_16_code 9 = .ok (.iconst 0, 1) := by decide +kernel
theorem d_Coast_rests_10 : decode prog_2_method_16_code 10 = .ok (.invokevirtual 58, 3) := by decide +kernel
theorem d_Coast_rests_13 : decode prog_2_method_16_code 13 = .ok (.if_icmp .ge 46, 3) := by decide +kernel
theorem d_Coast_rests_16 : decode prog_2_method_16_code 16 = .ok (.iconst 0, 1) := by decide +kernel
theorem d_Coast_rests_17 : decode prog_2_method_16_code 17 = .ok (.istore_n 3, 1) := by decide +kernel
theorem d_Coast_rests_18 : decode prog_2_method_16_code 18 = .ok (.iload_n 3, 1) := by decide +kernel
theorem d_Coast_rests_19 : decode prog_2_method_16_code 19 = .ok (.aload_n 0, 1) := by decide +kernel
theorem d_Coast_rests_20 : decode prog_2_method_16_code 20 = .ok (.getfield 16, 3) := by decide +kernel
theorem d_Coast_rests_23 : decode prog_2_method_16_code 23 = .ok (.iconst 0, 1) := by decide +kernel
theorem d_Coast_rests_24 : decode prog_2_method_16_code 24 = .ok (.invokevirtual 58, 3) := by decide +kernel
theorem d_Coast_rests_27 : decode prog_2_method_16_code 27 = .ok (.if_icmp .ge 26, 3) := by decide +kernel
theorem d_Coast_rests_30 : decode prog_2_method_16_code 30 = .ok (.iload_n 1, 1) := by decide +kernel
theorem d_Coast_rests_31 : decode prog_2_method_16_code 31 = .ok (.aload_n 0, 1) := by decide +kernel
theorem d_Coast_rests_32 : decode prog_2_method_16_code 32 = .ok (.iload_n 2, 1) := by decide +kernel
theorem d_Coast_rests_33 : decode prog_2_method_16_code 33 = .ok (.iload_n 3, 1) := by decide +kernel
theorem d_Coast_rests_34 : decode prog_2_method_16_code 34 = .ok (.invokevirtual 124, 3) := by decide +kernel
theorem d_Coast_rests_37 : decode prog_2_method_16_code 37 = .ok (.ifCond .eq 7, 3) := by decide +kernel
theorem d_Coast_rests_40 : decode prog_2_method_16_code 40 = .ok (.iconst 1, 1) := by decide +kernel
theorem d_Coast_rests_41 : decode prog_2_method_16_code 41 = .ok (.goto 4, 3) := by decide +kernel
theorem d_Coast_rests_44 : decode prog_2_method_16_code 44 = .ok (.iconst 0, 1) := by decide +kernel
theorem d_Coast_rests_45 : decode prog_2_method_16_code 45 = .ok (.iadd, 1) := by decide +kernel
theorem d_Coast_rests_46 : decode prog_2_method_16_code 46 = .ok (.istore_n 1, 1) := by decide +kernel
theorem d_Coast_rests_47 : decode prog_2_method_16_code 47 = .ok (.iinc 3 1, 3) := by decide +kernel
theorem d_Coast_rests_50 : decode prog_2_method_16_code 50 = .ok (.goto (-32), 3) := by decide +kernel
theorem d_Coast_rests_53 : decode prog_2_method_16_code 53 = .ok (.iinc 2 1, 3) := by decide +kernel
theorem d_Coast_rests_56 : decode prog_2_method_16_code 56 = .ok (.goto (-52), 3) := by decide +kernel
theorem d_Coast_rests_59 : decode prog_2_method_16_code 59 = .ok (.iload_n 1, 1) := by decide +kernel
theorem d_Coast_rests_60 : decode prog_2_method_16_code 60 = .ok (.ireturn, 1) := by decide +kernel
theorem d_Coast_firstRest_0 : decode prog_2_method_17_code 0 = .ok (.iconst 0, 1) := by decide +kernel
theorem d_Coast_firstRest_1 : decode prog_2_method_17_code 1 = .ok (.istore_n 1, 1) := by decide +kernel
theorem d_Coast_firstRest_2 : decode prog_2_method_17_code 2 = .ok (.iload_n 1, 1) := by decide +kernel
theorem d_Coast_firstRest_3 : decode prog_2_method_17_code 3 = .ok (.aload_n 0, 1) := by decide +kernel
theorem d_Coast_firstRest_4 : decode prog_2_method_17_code 4 = .ok (.getfield 16, 3) := by decide +kernel
theorem d_Coast_firstRest_7 : decode prog_2_method_17_code 7 = .ok (.iconst 0, 1) := by decide +kernel
theorem d_Coast_firstRest_8 : decode prog_2_method_17_code 8 = .ok (.invokevirtual 58, 3) := by decide +kernel
theorem d_Coast_firstRest_11 : decode prog_2_method_17_code 11 = .ok (.if_icmp .ge 45, 3) := by decide +kernel
theorem d_Coast_firstRest_14 : decode prog_2_method_17_code 14 = .ok (.iconst 0, 1) := by decide +kernel
theorem d_Coast_firstRest_15 : decode prog_2_method_17_code 15 = .ok (.istore_n 2, 1) := by decide +kernel
theorem d_Coast_firstRest_16 : decode prog_2_method_17_code 16 = .ok (.iload_n 2, 1) := by decide +kernel
theorem d_Coast_firstRest_17 : decode prog_2_method_17_code 17 = .ok (.aload_n 0, 1) := by decide +kernel
theorem d_Coast_firstRest_18 : decode prog_2_method_17_code 18 = .ok (.getfield 16, 3) := by decide +kernel
theorem d_Coast_firstRest_21 : decode prog_2_method_17_code 21 = .ok (.iconst 0, 1) := by decide +kernel
theorem d_Coast_firstRest_22 : decode prog_2_method_17_code 22 = .ok (.invokevirtual 58, 3) := by decide +kernel
theorem d_Coast_firstRest_25 : decode prog_2_method_17_code 25 = .ok (.if_icmp .ge 25, 3) := by decide +kernel
theorem d_Coast_firstRest_28 : decode prog_2_method_17_code 28 = .ok (.aload_n 0, 1) := by decide +kernel
theorem d_Coast_firstRest_29 : decode prog_2_method_17_code 29 = .ok (.iload_n 1, 1) := by decide +kernel
theorem d_Coast_firstRest_30 : decode prog_2_method_17_code 30 = .ok (.iload_n 2, 1) := by decide +kernel
theorem d_Coast_firstRest_31 : decode prog_2_method_17_code 31 = .ok (.invokevirtual 124, 3) := by decide +kernel
theorem d_Coast_firstRest_34 : decode prog_2_method_17_code 34 = .ok (.ifCond .eq 10, 3) := by decide +kernel
theorem d_Coast_firstRest_37 : decode prog_2_method_17_code 37 = .ok (.bipush 100, 2) := by decide +kernel
theorem d_Coast_firstRest_39 : decode prog_2_method_17_code 39 = .ok (.iload_n 1, 1) := by decide +kernel
theorem d_Coast_firstRest_40 : decode prog_2_method_17_code 40 = .ok (.imul, 1) := by decide +kernel
theorem d_Coast_firstRest_41 : decode prog_2_method_17_code 41 = .ok (.iload_n 2, 1) := by decide +kernel
theorem d_Coast_firstRest_42 : decode prog_2_method_17_code 42 = .ok (.iadd, 1) := by decide +kernel
theorem d_Coast_firstRest_43 : decode prog_2_method_17_code 43 = .ok (.ireturn, 1) := by decide +kernel
theorem d_Coast_firstRest_44 : decode prog_2_method_17_code 44 = .ok (.iinc 2 1, 3) := by decide +kernel
theorem d_Coast_firstRest_47 : decode prog_2_method_17_code 47 = .ok (.goto (-31), 3) := by decide +kernel
theorem d_Coast_firstRest_50 : decode prog_2_method_17_code 50 = .ok (.iinc 1 1, 3) := by decide +kernel
theorem d_Coast_firstRest_53 : decode prog_2_method_17_code 53 = .ok (.goto (-51), 3) := by decide +kernel
theorem d_Coast_firstRest_56 : decode prog_2_method_17_code 56 = .ok (.iconst (-1), 1) := by decide +kernel
theorem d_Coast_firstRest_57 : decode prog_2_method_17_code 57 = .ok (.ireturn, 1) := by decide +kernel
theorem d_Coast_isRest_0 : decode prog_2_method_18_code 0 = .ok (.aload_n 0, 1) := by decide +kernel
theorem d_Coast_isRest_1 : decode prog_2_method_18_code 1 = .ok (.getfield 20, 3) := by decide +kernel
theorem d_Coast_isRest_4 : decode prog_2_method_18_code 4 = .ok (.iload_n 1, 1) := by decide +kernel
theorem d_Coast_isRest_5 : decode prog_2_method_18_code 5 = .ok (.invokevirtual 58, 3) := by decide +kernel
theorem d_Coast_isRest_8 : decode prog_2_method_18_code 8 = .ok (.ifCond .ne 5, 3) := by decide +kernel
theorem d_Coast_isRest_11 : decode prog_2_method_18_code 11 = .ok (.iconst 0, 1) := by decide +kernel
theorem d_Coast_isRest_12 : decode prog_2_method_18_code 12 = .ok (.ireturn, 1) := by decide +kernel
theorem d_Coast_isRest_13 : decode prog_2_method_18_code 13 = .ok (.aload_n 0, 1) := by decide +kernel
theorem d_Coast_isRest_14 : decode prog_2_method_18_code 14 = .ok (.iload_n 1, 1) := by decide +kernel
theorem d_Coast_isRest_15 : decode prog_2_method_18_code 15 = .ok (.iload_n 2, 1) := by decide +kernel
theorem d_Coast_isRest_16 : decode prog_2_method_18_code 16 = .ok (.invokevirtual 128, 3) := by decide +kernel
theorem d_Coast_isRest_19 : decode prog_2_method_18_code 19 = .ok (.istore_n 3, 1) := by decide +kernel
theorem d_Coast_isRest_20 : decode prog_2_method_18_code 20 = .ok (.iconst 0, 1) := by decide +kernel
theorem d_Coast_isRest_21 : decode prog_2_method_18_code 21 = .ok (.istore 4, 2) := by decide +kernel
theorem d_Coast_isRest_23 : decode prog_2_method_18_code 23 = .ok (.iload 4, 2) := by decide +kernel
theorem d_Coast_isRest_25 : decode prog_2_method_18_code 25 = .ok (.aload_n 0, 1) := by decide +kernel
theorem d_Coast_isRest_26 : decode prog_2_method_18_code 26 = .ok (.getfield 16, 3) := by decide +kernel
theorem d_Coast_isRest_29 : decode prog_2_method_18_code 29 = .ok (.iconst 0, 1) := by decide +kernel
theorem d_Coast_isRest_30 : decode prog_2_method_18_code 30 = .ok (.invokevirtual 58, 3) := by decide +kernel
theorem d_Coast_isRest_33 : decode prog_2_method_18_code 33 = .ok (.if_icmp .ge 69, 3) := by decide +kernel
theorem d_Coast_isRest_36 : decode prog_2_method_18_code 36 = .ok (.aload_n 0, 1) := by decide +kernel
theorem d_Coast_isRest_37 : decode prog_2_method_18_code 37 = .ok (.getfield 20, 3) := by decide +kernel
theorem d_Coast_isRest_40 : decode prog_2_method_18_code 40 = .ok (.iload 4, 2) := by decide +kernel
theorem d_Coast_isRest_42 : decode prog_2_method_18_code 42 = .ok (.invokevirtual 58, 3) := by decide +kernel
theorem d_Coast_isRest_45 : decode prog_2_method_18_code 45 = .ok (.ifCond .le 18, 3) := by decide +kernel
theorem d_Coast_isRest_48 : decode prog_2_method_18_code 48 = .ok (.aload_n 0, 1) := by decide +kernel
theorem d_Coast_isRest_49 : decode prog_2_method_18_code 49 = .ok (.iload 4, 2) := by decide +kernel
theorem d_Coast_isRest_51 : decode prog_2_method_18_code 51 = .ok (.iload_n 2, 1) := by decide +kernel
theorem d_Coast_isRest_52 : decode prog_2_method_18_code 52 = .ok (.invokevirtual 128, 3) := by decide +kernel
theorem d_Coast_isRest_55 : decode prog_2_method_18_code 55 = .ok (.iload_n 3, 1) := by decide +kernel
theorem d_Coast_isRest_56 : decode prog_2_method_18_code 56 = .ok (.if_icmp .le 7, 3) := by decide +kernel
theorem d_Coast_isRest_59 : decode prog_2_method_18_code 59 = .ok (.iconst 1, 1) := by decide +kernel
theorem d_Coast_isRest_60 : decode prog_2_method_18_code 60 = .ok (.goto 4, 3) := by decide +kernel
theorem d_Coast_isRest_63 : decode prog_2_method_18_code 63 = .ok (.iconst 0, 1) := by decide +kernel
theorem d_Coast_isRest_64 : decode prog_2_method_18_code 64 = .ok (.istore 5, 2) := by decide +kernel
theorem d_Coast_isRest_66 : decode prog_2_method_18_code 66 = .ok (.aload_n 0, 1) := by decide +kernel
theorem d_Coast_isRest_67 : decode prog_2_method_18_code 67 = .ok (.iload_n 1, 1) := by decide +kernel
theorem d_Coast_isRest_68 : decode prog_2_method_18_code 68 = .ok (.iload 4, 2) := by decide +kernel
theorem d_Coast_isRest_70 : decode prog_2_method_18_code 70 = .ok (.invokevirtual 128, 3) := by decide +kernel
theorem d_Coast_isRest_73 : decode prog_2_method_18_code 73 = .ok (.iload_n 3, 1) := by decide +kernel
theorem d_Coast_isRest_74 : decode prog_2_method_18_code 74 = .ok (.if_icmp .ge 7, 3) := by decide +kernel
theorem d_Coast_isRest_77 : decode prog_2_method_18_code 77 = .ok (.iconst 1, 1) := by decide +kernel
theorem d_Coast_isRest_78 : decode prog_2_method_18_code 78 = .ok (.goto 4, 3) := by decide +kernel
theorem d_Coast_isRest_81 : decode prog_2_method_18_code 81 = .ok (.iconst 0, 1) := by decide +kernel
theorem d_Coast_isRest_82 : decode prog_2_method_18_code 82 = .ok (.istore 6, 2) := by decide +kernel
theorem d_Coast_isRest_84 : decode prog_2_method_18_code 84 = .ok (.iload 5, 2) := by decide +kernel
theorem d_Coast_isRest_86 : decode prog_2_method_18_code 86 = .ok (.ifCond .ne 8, 3) := by decide +kernel
theorem d_Coast_isRest_89 : decode prog_2_method_18_code 89 = .ok (.iload 6, 2) := by decide +kernel
theorem d_Coast_isRest_91 : decode prog_2_method_18_code 91 = .ok (.ifCond .eq 5, 3) := by decide +kernel
theorem d_Coast_isRest_94 : decode prog_2_method_18_code 94 = .ok (.iconst 0, 1) := by decide +kernel
theorem d_Coast_isRest_95 : decode prog_2_method_18_code 95 = .ok (.ireturn, 1) := by decide +kernel
theorem d_Coast_isRest_96 : decode prog_2_method_18_code 96 = .ok (.iinc 4 1, 3) := by decide +kernel
theorem d_Coast_isRest_99 : decode prog_2_method_18_code 99 = .ok (.goto (-76), 3) := by decide +kernel
theorem d_Coast_isRest_102 : decode prog_2_method_18_code 102 = .ok (.iconst 1, 1) := by decide +kernel
theorem d_Coast_isRest_103 : decode prog_2_method_18_code 103 = .ok (.ireturn, 1) := by decide +kernel
theorem d_Coast_shareOf_0 : decode prog_2_method_19_code 0 = .ok (.iconst 0, 1) := by decide +kernel
theorem d_Coast_shareOf_1 : decode prog_2_method_19_code 1 = .ok (.istore_n 3, 1) := by decide +kernel
theorem d_Coast_shareOf_2 : decode prog_2_method_19_code 2 = .ok (.iconst 0, 1) := by decide +kernel
theorem d_Coast_shareOf_3 : decode prog_2_method_19_code 3 = .ok (.istore 4, 2) := by decide +kernel
theorem d_Coast_shareOf_5 : decode prog_2_method_19_code 5 = .ok (.iload 4, 2) := by decide +kernel
theorem d_Coast_shareOf_7 : decode prog_2_method_19_code 7 = .ok (.aload_n 0, 1) := by decide +kernel
theorem d_Coast_shareOf_8 : decode prog_2_method_19_code 8 = .ok (.getfield 16, 3) := by decide +kernel
theorem d_Coast_shareOf_11 : decode prog_2_method_19_code 11 = .ok (.iconst 4, 1) := by decide +kernel
theorem d_Coast_shareOf_12 : decode prog_2_method_19_code 12 = .ok (.invokevirtual 58, 3) := by decide +kernel
theorem d_Coast_shareOf_15 : decode prog_2_method_19_code 15 = .ok (.if_icmp .ge 21, 3) := by decide +kernel
theorem d_Coast_shareOf_18 : decode prog_2_method_19_code 18 = .ok (.iload_n 3, 1) := by decide +kernel
theorem d_Coast_shareOf_19 : decode prog_2_method_19_code 19 = .ok (.aload_n 0, 1) := by decide +kernel
theorem d_Coast_shareOf_20 : decode prog_2_method_19_code 20 = .ok (.getfield 47, 3) := by decide +kernel
theorem d_Coast_shareOf_23 : decode prog_2_method_19_code 23 = .ok (.iload 4, 2) := by decide +kernel
theorem d_Coast_shareOf_25 : decode prog_2_method_19_code 25 = .ok (.invokevirtual 58, 3) := by decide +kernel
theorem d_Coast_shareOf_28 : decode prog_2_method_19_code 28 = .ok (.iadd, 1) := by decide +kernel
theorem d_Coast_shareOf_29 : decode prog_2_method_19_code 29 = .ok (.istore_n 3, 1) := by decide +kernel
theorem d_Coast_shareOf_30 : decode prog_2_method_19_code 30 = .ok (.iinc 4 1, 3) := by decide +kernel
theorem d_Coast_shareOf_33 : decode prog_2_method_19_code 33 = .ok (.goto (-28), 3) := by decide +kernel
theorem d_Coast_shareOf_36 : decode prog_2_method_19_code 36 = .ok (.iload_n 2, 1) := by decide +kernel
theorem d_Coast_shareOf_37 : decode prog_2_method_19_code 37 = .ok (.istore 4, 2) := by decide +kernel
theorem d_Coast_shareOf_39 : decode prog_2_method_19_code 39 = .ok (.iconst 0, 1) := by decide +kernel
theorem d_Coast_shareOf_40 : decode prog_2_method_19_code 40 = .ok (.istore 5, 2) := by decide +kernel
theorem d_Coast_shareOf_42 : decode prog_2_method_19_code 42 = .ok (.iload_n 2, 1) := by decide +kernel
theorem d_Coast_shareOf_43 : decode prog_2_method_19_code 43 = .ok (.aload_n 0, 1) := by decide +kernel
theorem d_Coast_shareOf_44 : decode prog_2_method_19_code 44 = .ok (.getfield 47, 3) := by decide +kernel
theorem d_Coast_shareOf_47 : decode prog_2_method_19_code 47 = .ok (.iload_n 1, 1) := by decide +kernel
theorem d_Coast_shareOf_48 : decode prog_2_method_19_code 48 = .ok (.invokevirtual 58, 3) := by decide +kernel
theorem d_Coast_shareOf_51 : decode prog_2_method_19_code 51 = .ok (.imul, 1) := by decide +kernel
theorem d_Coast_shareOf_52 : decode prog_2_method_19_code 52 = .ok (.iload_n 3, 1) := by decide +kernel
theorem d_Coast_shareOf_53 : decode prog_2_method_19_code 53 = .ok (.invokestatic 131, 3) := by decide +kernel
theorem d_Coast_shareOf_56 : decode prog_2_method_19_code 56 = .ok (.istore 6, 2) := by decide +kernel
theorem d_Coast_shareOf_58 : decode prog_2_method_19_code 58 = .ok (.iconst 0, 1) := by decide +kernel
theorem d_Coast_shareOf_59 : decode prog_2_method_19_code 59 = .ok (.istore 7, 2) := by decide +kernel
theorem d_Coast_shareOf_61 : decode prog_2_method_19_code 61 = .ok (.iload 7, 2) := by decide +kernel
theorem d_Coast_shareOf_63 : decode prog_2_method_19_code 63 = .ok (.aload_n 0, 1) := by decide +kernel
theorem d_Coast_shareOf_64 : decode prog_2_method_19_code 64 = .ok (.getfield 16, 3) := by decide +kernel
theorem d_Coast_shareOf_67 : decode prog_2_method_19_code 67 = .ok (.iconst 4, 1) := by decide +kernel
theorem d_Coast_shareOf_68 : decode prog_2_method_19_code 68 = .ok (.invokevirtual 58, 3) := by decide +kernel
theorem d_Coast_shareOf_71 : decode prog_2_method_19_code 71 = .ok (.if_icmp .ge 76, 3) := by decide +kernel
theorem d_Coast_shareOf_74 : decode prog_2_method_19_code 74 = .ok (.iload_n 2, 1) := by decide +kernel
theorem d_Coast_shareOf_75 : decode prog_2_method_19_code 75 = .ok (.aload_n 0, 1) := by decide +kernel
theorem d_Coast_shareOf_76 : decode prog_2_method_19_code 76 = .ok (.getfield 47, 3) := by decide +kernel
theorem d_Coast_shareOf_79 : decode prog_2_method_19_code 79 = .ok (.iload 7, 2) := by decide +kernel
theorem d_Coast_shareOf_81 : decode prog_2_method_19_code 81 = .ok (.invokevirtual 58, 3) := by decide +kernel
theorem d_Coast_shareOf_84 : decode prog_2_method_19_code 84 = .ok (.imul, 1) := by decide +kernel
theorem d_Coast_shareOf_85 : decode prog_2_method_19_code 85 = .ok (.iload_n 3, 1) := by decide +kernel
theorem d_Coast_shareOf_86 : decode prog_2_method_19_code 86 = .ok (.invokestatic 131, 3) := by decide +kernel
theorem d_Coast_shareOf_89 : decode prog_2_method_19_code 89 = .ok (.istore 8, 2) := by decide +kernel
theorem d_Coast_shareOf_91 : decode prog_2_method_19_code 91 = .ok (.iload 4, 2) := by decide +kernel
theorem d_Coast_shareOf_93 : decode prog_2_method_19_code 93 = .ok (.iload_n 2, 1) := by decide +kernel
theorem d_Coast_shareOf_94 : decode prog_2_method_19_code 94 = .ok (.aload_n 0, 1) := by decide +kernel
theorem d_Coast_shareOf_95 : decode prog_2_method_19_code 95 = .ok (.getfield 47, 3) := by decide +kernel
theorem d_Coast_shareOf_98 : decode prog_2_method_19_code 98 = .ok (.iload 7, 2) := by decide +kernel
theorem d_Coast_shareOf_100 : decode prog_2_method_19_code 100 = .ok (.invokevirtual 58, 3) := by decide +kernel
theorem d_Coast_shareOf_103 : decode prog_2_method_19_code 103 = .ok (.imul, 1) := by decide +kernel
theorem d_Coast_shareOf_104 : decode prog_2_method_19_code 104 = .ok (.iload_n 3, 1) := by decide +kernel
theorem d_Coast_shareOf_105 : decode prog_2_method_19_code 105 = .ok (.invokestatic 134, 3) := by decide +kernel
theorem d_Coast_shareOf_108 : decode prog_2_method_19_code 108 = .ok (.isub, 1) := by decide +kernel
theorem d_Coast_shareOf_109 : decode prog_2_method_19_code 109 = .ok (.istore 4, 2) := by decide +kernel
theorem d_Coast_shareOf_111 : decode prog_2_method_19_code 111 = .ok (.iload 5, 2) := by decide +kernel
theorem d_Coast_shareOf_113 : decode prog_2_method_19_code 113 = .ok (.iload 8, 2) := by decide +kernel
theorem d_Coast_shareOf_115 : decode prog_2_method_19_code 115 = .ok (.iload 6, 2) := by decide +kernel
theorem d_Coast_shareOf_117 : decode prog_2_method_19_code 117 = .ok (.if_icmp .gt 16, 3) := by decide +kernel
theorem d_Coast_shareOf_120 : decode prog_2_method_19_code 120 = .ok (.iload 8, 2) := by decide +kernel
theorem d_Coast_shareOf_122 : decode prog_2_method_19_code 122 = .ok (.iload 6, 2) := by decide +kernel
theorem d_Coast_shareOf_124 : decode prog_2_method_19_code 124 = .ok (.if_icmp .ne 13, 3) := by decide +kernel
theorem d_Coast_shareOf_127 : decode prog_2_method_19_code 127 = .ok (.iload 7, 2) := by decide +kernel
theorem d_Coast_shareOf_129 : decode prog_2_method_19_code 129 = .ok (.iload_n 1, 1) := by decide +kernel
theorem d_Coast_shareOf_130 : decode prog_2_method_19_code 130 = .ok (.if_icmp .ge 7, 3) := by decide +kernel
theorem d_Coast_shareOf_133 : decode prog_2_method_19_code 133 = .ok (.iconst 1, 1) := by decide +kernel
theorem d_Coast_shareOf_134 : decode prog_2_method_19_code 134 = .ok (.goto 4, 3) := by decide +kernel
theorem d_Coast_shareOf_137 : decode prog_2_method_19_code 137 = .ok (.iconst 0, 1) := by decide +kernel
theorem d_Coast_shareOf_138 : decode prog_2_method_19_code 138 = .ok (.iadd, 1) := by decide +kernel
theorem d_Coast_shareOf_139 : decode prog_2_method_19_code 139 = .ok (.istore 5, 2) := by decide +kernel
theorem d_Coast_shareOf_141 : decode prog_2_method_19_code 141 = .ok (.iinc 7 1, 3) := by decide +kernel
theorem d_Coast_shareOf_144 : decode prog_2_method_19_code 144 = .ok (.goto (-83), 3) := by decide +kernel
theorem d_Coast_shareOf_147 : decode prog_2_method_19_code 147 = .ok (.iload_n 2, 1) := by decide +kernel
theorem d_Coast_shareOf_148 : decode prog_2_method_19_code 148 = .ok (.aload_n 0, 1) := by decide +kernel
theorem d_Coast_shareOf_149 : decode prog_2_method_19_code 149 = .ok (.getfield 47, 3) := by decide +kernel
theorem d_Coast_shareOf_152 : decode prog_2_method_19_code 152 = .ok (.iload_n 1, 1) := by decide +kernel
theorem d_Coast_shareOf_153 : decode prog_2_method_19_code 153 = .ok (.invokevirtual 58, 3) := by decide +kernel
theorem d_Coast_shareOf_156 : decode prog_2_method_19_code 156 = .ok (.imul, 1) := by decide +kernel
theorem d_Coast_shareOf_157 : decode prog_2_method_19_code 157 = .ok (.iload_n 3, 1) := by decide +kernel
theorem d_Coast_shareOf_158 : decode prog_2_method_19_code 158 = .ok (.invokestatic 134, 3) := by decide +kernel
theorem d_Coast_shareOf_161 : decode prog_2_method_19_code 161 = .ok (.iload 5, 2) := by decide +kernel
theorem d_Coast_shareOf_163 : decode prog_2_method_19_code 163 = .ok (.iload 4, 2) := by decide +kernel
theorem d_Coast_shareOf_165 : decode prog_2_method_19_code 165 = .ok (.if_icmp .ge 7, 3) := by decide +kernel
theorem d_Coast_shareOf_168 : decode prog_2_method_19_code 168 = .ok (.iconst 1, 1) := by decide +kernel
theorem d_Coast_shareOf_169 : decode prog_2_method_19_code 169 = .ok (.goto 4, 3) := by decide +kernel
theorem d_Coast_shareOf_172 : decode prog_2_method_19_code 172 = .ok (.iconst 0, 1) := by decide +kernel
theorem d_Coast_shareOf_173 : decode prog_2_method_19_code 173 = .ok (.iadd, 1) := by decide +kernel
theorem d_Coast_shareOf_174 : decode prog_2_method_19_code 174 = .ok (.ireturn, 1) := by decide +kernel
theorem d_Coast_markMadeRows_0 : decode prog_2_method_20_code 0 = .ok (.aload_n 2, 1) := by decide +kernel
theorem d_Coast_markMadeRows_1 : decode prog_2_method_20_code 1 = .ok (.invokevirtual 62, 3) := by decide +kernel
theorem d_Coast_markMadeRows_4 : decode prog_2_method_20_code 4 = .ok (.iconst 0, 1) := by decide +kernel
theorem d_Coast_markMadeRows_5 : decode prog_2_method_20_code 5 = .ok (.istore_n 3, 1) := by decide +kernel
theorem d_Coast_markMadeRows_6 : decode prog_2_method_20_code 6 = .ok (.iload_n 3, 1) := by decide +kernel
theorem d_Coast_markMadeRows_7 : decode prog_2_method_20_code 7 = .ok (.aload_n 0, 1) := by decide +kernel
theorem d_Coast_markMadeRows_8 : decode prog_2_method_20_code 8 = .ok (.getfield 16, 3) := by decide +kernel
theorem d_Coast_markMadeRows_11 : decode prog_2_method_20_code 11 = .ok (.iconst 2, 1) := by decide +kernel
theorem d_Coast_markMadeRows_12 : decode prog_2_method_20_code 12 = .ok (.invokevirtual 58, 3) := by decide +kernel
theorem d_Coast_markMadeRows_15 : decode prog_2_method_20_code 15 = .ok (.if_icmp .ge 48, 3) := by decide +kernel
theorem d_Coast_markMadeRows_18 : decode prog_2_method_20_code 18 = .ok (.aload_n 0, 1) := by decide +kernel
theorem d_Coast_markMadeRows_19 : decode prog_2_method_20_code 19 = .ok (.getfield 32, 3) := by decide +kernel
theorem d_Coast_markMadeRows_22 : decode prog_2_method_20_code 22 = .ok (.iload_n 3, 1) := by decide +kernel
theorem d_Coast_markMadeRows_23 : decode prog_2_method_20_code 23 = .ok (.invokevirtual 58, 3) := by decide +kernel
theorem d_Coast_markMadeRows_26 : decode prog_2_method_20_code 26 = .ok (.istore 4, 2) := by decide +kernel
theorem d_Coast_markMadeRows_28 : decode prog_2_method_20_code 28 = .ok (.iconst 0, 1) := by decide +kernel
theorem d_Coast_markMadeRows_29 : decode prog_2_method_20_code 29 = .ok (.istore 5, 2) := by decide +kernel
theorem d_Coast_markMadeRows_31 : decode prog_2_method_20_code 31 = .ok (.iload 5, 2) := by decide +kernel
theorem d_Coast_markMadeRows_33 : decode prog_2_method_20_code 33 = .ok (.iload 4, 2) := by decide +kernel
theorem d_Coast_markMadeRows_35 : decode prog_2_method_20_code 35 = .ok (.if_icmp .ge 22, 3) := by decide +kernel
theorem d_Coast_markMadeRows_38 : decode prog_2_method_20_code 38 = .ok (.aload_n 2, 1) := by decide +kernel
theorem d_Coast_markMadeRows_39 : decode prog_2_method_20_code 39 = .ok (.iload 5, 2) := by decide +kernel
theorem d_Coast_markMadeRows_41 : decode prog_2_method_20_code 41 = .ok (.iload 4, 2) := by decide +kernel
theorem d_Coast_markMadeRows_43 : decode prog_2_method_20_code 43 = .ok (.iload_n 1, 1) := by decide +kernel
theorem d_Coast_markMadeRows_44 : decode prog_2_method_20_code 44 = .ok (.invokestatic 137, 3) := by decide +kernel
theorem d_Coast_markMadeRows_47 : decode prog_2_method_20_code 47 = .ok (.iconst 1, 1) := by decide +kernel
theorem d_Coast_markMadeRows_48 : decode prog_2_method_20_code 48 = .ok (.invokevirtual 110, 3) := by decide +kernel
theorem d_Coast_markMadeRows_51 : decode prog_2_method_20_code 51 = .ok (.iinc 5 1, 3) := by decide +kernel
theorem d_Coast_markMadeRows_54 : decode prog_2_method_20_code 54 = .ok (.goto (-23), 3) := by decide +kernel
theorem d_Coast_markMadeRows_57 : decode prog_2_method_20_code 57 = .ok (.iinc 3 1, 3) := by decide +kernel
theorem d_Coast_markMadeRows_60 : decode prog_2_method_20_code 60 = .ok (.goto (-54), 3) := by decide +kernel
theorem d_Coast_markMadeRows_63 : decode prog_2_method_20_code 63 = .ok (.return_, 1) := by decide +kernel
theorem d_Coast_rowFrom_0 : decode prog_2_method_21_code 0 = .ok (.iconst 0, 1) := by decide +kernel
theorem d_Coast_rowFrom_1 : decode prog_2_method_21_code 1 = .ok (.istore_n 3, 1) := by decide +kernel
theorem d_Coast_rowFrom_2 : decode prog_2_method_21_code 2 = .ok (.iconst 0, 1) := by decide +kernel
theorem d_Coast_rowFrom_3 : decode prog_2_method_21_code 3 = .ok (.istore 4, 2) := by decide +kernel
theorem d_Coast_rowFrom_5 : decode prog_2_method_21_code 5 = .ok (.iload 4, 2) := by decide +kernel
theorem d_Coast_rowFrom_7 : decode prog_2_method_21_code 7 = .ok (.iload_n 2, 1) := by decide +kernel
theorem d_Coast_rowFrom_8 : decode prog_2_method_21_code 8 = .ok (.if_icmp .ge 31, 3) := by decide +kernel
theorem d_Coast_rowFrom_11 : decode prog_2_method_21_code 11 = .ok (.iload_n 3, 1) := by decide +kernel
theorem d_Coast_rowFrom_12 : decode prog_2_method_21_code 12 = .ok (.iload_n 0, 1) := by decide +kernel
theorem d_Coast_rowFrom_13 : decode prog_2_method_21_code 13 = .ok (.iload 4, 2) := by decide +kernel
theorem d_Coast_rowFrom_15 : decode prog_2_method_21_code 15 = .ok (.iadd, 1) := by decide +kernel
theorem d_Coast_rowFrom_16 : decode prog_2_method_21_code 16 = .ok (.iload_n 1, 1) := by decide +kernel
theorem d_Coast_rowFrom_17 : decode prog_2_method_21_code 17 = .ok (.invokestatic 141, 3) := by decide +kernel
theorem d_Coast_rowFrom_20 : decode prog_2_method_21_code 20 = .ok (.ifCond .eq 10, 3) := by decide +kernel
theorem d_Coast_rowFrom_23 : decode prog_2_method_21_code 23 = .ok (.iconst 1, 1) := by decide +kernel
theorem d_Coast_rowFrom_24 : decode prog_2_method_21_code 24 = .ok (.iload 4, 2) := by decide +kernel
theorem d_Coast_rowFrom_26 : decode prog_2_method_21_code 26 = .ok (.ishl, 1) := by decide +kernel
theorem d_Coast_rowFrom_27 : decode prog_2_method_21_code 27 = .ok (.goto 4, 3) := by decide +kernel
theorem d_Coast_rowFrom_30 : decode prog_2_method_21_code 30 = .ok (.iconst 0, 1) := by decide +kernel
theorem d_Coast_rowFrom_31 : decode prog_2_method_21_code 31 = .ok (.ior, 1) := by decide +kernel
theorem d_Coast_rowFrom_32 : decode prog_2_method_21_code 32 = .ok (.istore_n 3, 1) := by decide +kernel
theorem d_Coast_rowFrom_33 : decode prog_2_method_21_code 33 = .ok (.iinc 4 1, 3) := by decide +kernel
theorem d_Coast_rowFrom_36 : decode prog_2_method_21_code 36 = .ok (.goto (-31), 3) := by decide +kernel
theorem d_Coast_rowFrom_39 : decode prog_2_method_21_code 39 = .ok (.iload_n 3, 1) := by decide +kernel
theorem d_Coast_rowFrom_40 : decode prog_2_method_21_code 40 = .ok (.ireturn, 1) := by decide +kernel
theorem d_FlashLog_init_0 : decode prog_3_method_1_code 0 = .ok (.aload_n 0, 1) := by decide +kernel
theorem d_FlashLog_init_1 : decode prog_3_method_1_code 1 = .ok (.invokespecial 3, 3) := by decide +kernel
theorem d_FlashLog_init_4 : decode prog_3_method_1_code 4 = .ok (.aload_n 0, 1) := by decide +kernel
theorem d_FlashLog_init_5 : decode prog_3_method_1_code 5 = .ok (.new 9, 3) := by decide +kernel
theorem d_FlashLog_init_8 : decode prog_3_method_1_code 8 = .ok (.dup, 1) := by decide +kernel
theorem d_FlashLog_init_9 : decode prog_3_method_1_code 9 = .ok (.bipush 60, 2) := by decide +kernel
theorem d_FlashLog_init_11 : decode prog_3_method_1_code 11 = .ok (.invokespecial 13, 3) := by decide +kernel
theorem d_FlashLog_init_14 : decode prog_3_method_1_code 14 = .ok (.putfield 16, 3) := by decide +kernel
theorem d_FlashLog_init_17 : decode prog_3_method_1_code 17 = .ok (.return_, 1) := by decide +kernel
theorem d_FlashLog_reset_0 : decode prog_3_method_2_code 0 = .ok (.aload_n 0, 1) := by decide +kernel
theorem d_FlashLog_reset_1 : decode prog_3_method_2_code 1 = .ok (.getfield 16, 3) := by decide +kernel
theorem d_FlashLog_reset_4 : decode prog_3_method_2_code 4 = .ok (.invokevirtual 20, 3) := by decide +kernel
theorem d_FlashLog_reset_7 : decode prog_3_method_2_code 7 = .ok (.aload_n 0, 1) := by decide +kernel
theorem d_FlashLog_reset_8 : decode prog_3_method_2_code 8 = .ok (.iconst 0, 1) := by decide +kernel
theorem d_FlashLog_reset_9 : decode prog_3_method_2_code 9 = .ok (.putfield 23, 3) := by decide +kernel
theorem d_FlashLog_reset_12 : decode prog_3_method_2_code 12 = .ok (.return_, 1) := by decide +kernel
theorem d_FlashLog_become_0 : decode prog_3_method_3_code 0 = .ok (.aload_n 0, 1) := by decide +kernel
theorem d_FlashLog_become_1 : decode prog_3_method_3_code 1 = .ok (.getfield 16, 3) := by decide +kernel
theorem d_FlashLog_become_4 : decode prog_3_method_3_code 4 = .ok (.aload_n 1, 1) := by decide +kernel
theorem d_FlashLog_become_5 : decode prog_3_method_3_code 5 = .ok (.getfield 16, 3) := by decide +kernel
theorem d_FlashLog_become_8 : decode prog_3_method_3_code 8 = .ok (.invokevirtual 27, 3) := by decide +kernel
theorem d_FlashLog_become_11 : decode prog_3_method_3_code 11 = .ok (.aload_n 0, 1) := by decide +kernel
theorem d_FlashLog_become_12 : decode prog_3_method_3_code 12 = .ok (.aload_n 1, 1) := by decide +kernel
theorem d_FlashLog_become_13 : decode prog_3_method_3_code 13 = .ok (.getfield 23, 3) := by decide +kernel
theorem d_FlashLog_become_16 : decode prog_3_method_3_code 16 = .ok (.putfield 23, 3) := by decide +kernel
theorem d_FlashLog_become_19 : decode prog_3_method_3_code 19 = .ok (.return_, 1) := by decide +kernel
theorem d_FlashLog_lines_0 : decode prog_3_method_4_code 0 = .ok (.aload_n 0, 1) := by decide +kernel
theorem d_FlashLog_lines_1 : decode prog_3_method_4_code 1 = .ok (.getfield 23, 3) := by decide +kernel
theorem d_FlashLog_lines_4 : decode prog_3_method_4_code 4 = .ok (.ireturn, 1) := by decide +kernel
theorem d_FlashLog_readFrom_0 : decode prog_3_method_5_code 0 = .ok (.aload_n 0, 1) := by decide +kernel
theorem d_FlashLog_readFrom_1 : decode prog_3_method_5_code 1 = .ok (.invokevirtual 31, 3) := by decide +kernel
theorem d_FlashLog_readFrom_4 : decode prog_3_method_5_code 4 = .ok (.iconst 0, 1) := by decide +kernel
theorem d_FlashLog_readFrom_5 : decode prog_3_method_5_code 5 = .ok (.istore_n 2, 1) := by decide +kernel
theorem d_FlashLog_readFrom_6 : decode prog_3_method_5_code 6 = .ok (.iload_n 2, 1) := by decide +kernel
theorem d_FlashLog_readFrom_7 : decode prog_3_method_5_code 7 = .ok (.bipush 12, 2) := by decide +kernel
theorem d_FlashLog_readFrom_9 : decode prog_3_method_5_code 9 = .ok (.if_icmp .gt 28, 3) := by decide +kernel
theorem d_FlashLog_readFrom_12 : decode prog_3_method_5_code 12 = .ok (.aload_n 1, 1) := by decide +kernel
theorem d_FlashLog_readFrom_13 : decode prog_3_method_5_code 13 = .ok (.invokevirtual 34, 3) := by decide +kernel
theorem d_FlashLog_readFrom_16 : decode prog_3_method_5_code 16 = .ok (.ifCond .eq 21, 3) := by decide +kernel
theorem d_FlashLog_readFrom_19 : decode prog_3_method_5_code 19 = .ok (.aload_n 1, 1) := by decide +kernel
theorem d_FlashLog_readFrom_20 : decode prog_3_method_5_code 20 = .ok (.invokevirtual 40, 3) := by decide +kernel
theorem d_FlashLog_readFrom_23 : decode prog_3_method_5_code 23 = .ok (.ifCond .ne 14, 3) := by decide +kernel
theorem d_FlashLog_readFrom_26 : decode prog_3_method_5_code 26 = .ok (.aload_n 0, 1) := by decide +kernel
theorem d_FlashLog_readFrom_27 : decode prog_3_method_5_code 27 = .ok (.aload_n 1, 1) := by decide +kernel
theorem d_FlashLog_readFrom_28 : decode prog_3_method_5_code 28 = .ok (.invokevirtual 43, 3) := by decide +kernel
theorem d_FlashLog_readFrom_31 : decode prog_3_method_5_code 31 = .ok (.iinc 2 1, 3) := by decide +kernel
theorem d_FlashLog_readFrom_34 : decode prog_3_method_5_code 34 = .ok (.goto (-28), 3) := by decide +kernel
theorem d_FlashLog_readFrom_37 : decode prog_3_method_5_code 37 = .ok (.return_, 1) := by decide +kernel
theorem d_FlashLog_readLine_0 : decode prog_3_method_6_code 0 = .ok (.aload_n 1, 1) := by decide +kernel
theorem d_FlashLog_readLine_1 : decode prog_3_method_6_code 1 = .ok (.iconst 0, 1) := by decide +kernel
theorem d_FlashLog_readLine_2 : decode prog_3_method_6_code 2 = .ok (.bipush 59, 2) := by decide +kernel
theorem d_FlashLog_readLine_4 : decode prog_3_method_6_code 4 = .ok (.invokevirtual 47, 3) := by decide +kernel
theorem d_FlashLog_readLine_7 : decode prog_3_method_6_code 7 = .ok (.istore_n 2, 1) := by decide +kernel
theorem d_FlashLog_readLine_8 : decode prog_3_method_6_code 8 = .ok (.aload_n 0, 1) := by decide +kernel
theorem d_FlashLog_readLine_9 : decode prog_3_method_6_code 9 = .ok (.getfield 16, 3) := by decide +kernel
theorem d_FlashLog_readLine_12 : decode prog_3_method_6_code 12 = .ok (.iload_n 2, 1) := by decide +kernel
theorem d_FlashLog_readLine_13 : decode prog_3_method_6_code 13 = .ok (.invokevirtual 51, 3) := by decide +kernel
theorem d_FlashLog_readLine_16 : decode prog_3_method_6_code 16 = .ok (.ifCond .eq 8, 3) := by decide +kernel
theorem d_FlashLog_readLine_19 : decode prog_3_method_6_code 19 = .ok (.aload_n 1, 1) := by decide +kernel
theorem d_FlashLog_readLine_20 : decode prog_3_method_6_code 20 = .ok (.iconst 2, 1) := by decide +kernel
theorem d_FlashLog_readLine_21 : decode prog_3_method_6_code 21 = .ok (.invokevirtual 55, 3) := by decide +kernel
theorem d_FlashLog_readLine_24 : decode prog_3_method_6_code 24 = .ok (.aload_n 0, 1) := by decide +kernel
theorem d_FlashLog_readLine_25 : decode prog_3_method_6_code 25 = .ok (.getfield 23, 3) := by decide +kernel
theorem d_FlashLog_readLine_28 : decode prog_3_method_6_code 28 = .ok (.bipush 12, 2) := by decide +kernel
theorem d_FlashLog_readLine_30 : decode prog_3_method_6_code 30 = .ok (.if_icmp .lt 8, 3) := by decide +kernel
theorem d_FlashLog_readLine_33 : decode prog_3_method_6_code 33 = .ok (.aload_n 1, 1) := by decide +kernel
theorem d_FlashLog_readLine_34 : decode prog_3_method_6_code 34 = .ok (.iconst 3, 1) := by decide +kernel
theorem d_FlashLog_readLine_35 : decode prog_3_method_6_code 35 = .ok (.invokevirtual 55, 3) := by decide +kernel
theorem d_FlashLog_readLine_38 : decode prog_3_method_6_code 38 = .ok (.aload_n 0, 1) := by decide +kernel
theorem d_FlashLog_readLine_39 : decode prog_3_method_6_code 39 = .ok (.getfield 16, 3) := by decide +kernel
theorem d_FlashLog_readLine_42 : decode prog_3_method_6_code 42 = .ok (.iload_n 2, 1) := by decide +kernel
theorem d_FlashLog_readLine_43 : decode prog_3_method_6_code 43 = .ok (.aload_n 1, 1) := by decide +kernel
theorem d_FlashLog_readLine_44 : decode prog_3_method_6_code 44 = .ok (.iconst 0, 1) := by decide +kernel
theorem d_FlashLog_readLine_45 : decode prog_3_method_6_code 45 = .ok (.iconst 1, 1) := by decide +kernel
theorem d_FlashLog_readLine_46 : decode prog_3_method_6_code 46 = .ok (.invokevirtual 47, 3) := by decide +kernel
theorem d_FlashLog_readLine_49 : decode prog_3_method_6_code 49 = .ok (.ifCond .ne 7, 3) := by decide +kernel
theorem d_FlashLog_readLine_52 : decode prog_3_method_6_code 52 = .ok (.iconst 1, 1) := by decide +kernel
theorem d_FlashLog_readLine_53 : decode prog_3_method_6_code 53 = .ok (.goto 4, 3) := by decide +kernel
theorem d_FlashLog_readLine_56 : decode prog_3_method_6_code 56 = .ok (.iconst 2, 1) := by decide +kernel
theorem d_FlashLog_readLine_57 : decode prog_3_method_6_code 57 = .ok (.invokevirtual 58, 3) := by decide +kernel
theorem d_FlashLog_readLine_60 : decode prog_3_method_6_code 60 = .ok (.aload_n 1, 1) := by decide +kernel
theorem d_FlashLog_readLine_61 : decode prog_3_method_6_code 61 = .ok (.aload_n 1, 1) := by decide +kernel
theorem d_FlashLog_readLine_62 : decode prog_3_method_6_code 62 = .ok (.bipush 59, 2) := by decide +kernel
theorem d_FlashLog_readLine_64 : decode prog_3_method_6_code 64 = .ok (.invokevirtual 62, 3) := by decide +kernel
theorem d_FlashLog_readLine_67 : decode prog_3_method_6_code 67 = .ok (.invokevirtual 66, 3) := by decide +kernel
theorem d_FlashLog_readLine_70 : decode prog_3_method_6_code 70 = .ok (.aload_n 0, 1) := by decide +kernel
theorem d_FlashLog_readLine_71 : decode prog_3_method_6_code 71 = .ok (.dup, 1) := by decide +kernel
theorem d_FlashLog_readLine_72 : decode prog_3_method_6_code 72 = .ok (.getfield 23, 3) := by decide +kernel
theorem d_FlashLog_readLine_75 : decode prog_3_method_6_code 75 = .ok (.iconst 1, 1) := by decide +kernel
theorem d_FlashLog_readLine_76 : decode prog_3_method_6_code 76 = .ok (.iadd, 1) := by decide +kernel
theorem d_FlashLog_readLine_77 : decode prog_3_method_6_code 77 = .ok (.putfield 23, 3) := by decide +kernel
theorem d_FlashLog_readLine_80 : decode prog_3_method_6_code 80 = .ok (.return_, 1) := by decide +kernel
theorem d_FlashLog_isFit_0 : decode prog_3_method_7_code 0 = .ok (.iconst 0, 1) := by decide +kernel
theorem d_FlashLog_isFit_1 : decode prog_3_method_7_code 1 = .ok (.istore_n 3, 1) := by decide +kernel
theorem d_FlashLog_isFit_2 : decode prog_3_method_7_code 2 = .ok (.iload_n 3, 1) := by decide +kernel
theorem d_FlashLog_isFit_3 : decode prog_3_method_7_code 3 = .ok (.bipush 60, 2) := by decide +kernel
theorem d_FlashLog_isFit_5 : decode prog_3_method_7_code 5 = .ok (.if_icmp .ge 40, 3) := by decide +kernel
theorem d_FlashLog_isFit_8 : decode prog_3_method_7_code 8 = .ok (.iload_n 3, 1) := by decide +kernel
theorem d_FlashLog_isFit_9 : decode prog_3_method_7_code 9 = .ok (.iload_n 1, 1) := by decide +kernel
theorem d_FlashLog_isFit_10 : decode prog_3_method_7_code 10 = .ok (.invokestatic 70, 3) := by decide +kernel
theorem d_FlashLog_isFit_13 : decode prog_3_method_7_code 13 = .ok (.iload_n 2, 1) := by decide +kernel
theorem d_FlashLog_isFit_14 : decode prog_3_method_7_code 14 = .ok (.if_icmp .ne 7, 3) := by decide +kernel
theorem d_FlashLog_isFit_17 : decode prog_3_method_7_code 17 = .ok (.iconst 1, 1) := by decide +kernel
theorem d_FlashLog_isFit_18 : decode prog_3_method_7_code 18 = .ok (.goto 4, 3) := by decide +kernel
theorem d_FlashLog_isFit_21 : decode prog_3_method_7_code 21 = .ok (.iconst 2, 1) := by decide +kernel
theorem d_FlashLog_isFit_22 : decode prog_3_method_7_code 22 = .ok (.istore 4, 2) := by decide +kernel
theorem d_FlashLog_isFit_24 : decode prog_3_method_7_code 24 = .ok (.aload_n 0, 1) := by decide +kernel
theorem d_FlashLog_isFit_25 : decode prog_3_method_7_code 25 = .ok (.getfield 16, 3) := by decide +kernel
theorem d_FlashLog_isFit_28 : decode prog_3_method_7_code 28 = .ok (.iload_n 3, 1) := by decide +kernel
theorem d_FlashLog_isFit_29 : decode prog_3_method_7_code 29 = .ok (.invokevirtual 51, 3) := by decide +kernel
theorem d_FlashLog_isFit_32 : decode prog_3_method_7_code 32 = .ok (.iload 4, 2) := by decide +kernel
theorem d_FlashLog_isFit_34 : decode prog_3_method_7_code 34 = .ok (.if_icmp .ne 5, 3) := by decide +kernel
theorem d_FlashLog_isFit_37 : decode prog_3_method_7_code 37 = .ok (.iconst 0, 1) := by decide +kernel
theorem d_FlashLog_isFit_38 : decode prog_3_method_7_code 38 = .ok (.ireturn, 1) := by decide +kernel
theorem d_FlashLog_isFit_39 : decode prog_3_method_7_code 39 = .ok (.iinc 3 1, 3) := by decide +kernel
theorem d_FlashLog_isFit_42 : decode prog_3_method_7_code 42 = .ok (.goto (-40), 3) := by decide +kernel
theorem d_FlashLog_isFit_45 : decode prog_3_method_7_code 45 = .ok (.iconst 1, 1) := by decide +kernel
theorem d_FlashLog_isFit_46 : decode prog_3_method_7_code 46 = .ok (.ireturn, 1) := by decide +kernel
theorem d_FlashLog_fitting_0 : decode prog_3_method_8_code 0 = .ok (.iconst 0, 1) := by decide +kernel
theorem d_FlashLog_fitting_1 : decode prog_3_method_8_code 1 = .ok (.istore_n 1, 1) := by decide +kernel
theorem d_FlashLog_fitting_2 : decode prog_3_method_8_code 2 = .ok (.iconst 1, 1) := by decide +kernel
theorem d_FlashLog_fitting_3 : decode prog_3_method_8_code 3 = .ok (.istore_n 2, 1) := by decide +kernel
theorem d_FlashLog_fitting_4 : decode prog_3_method_8_code 4 = .ok (.iload_n 2, 1) := by decide +kernel
theorem d_FlashLog_fitting_5 : decode prog_3_method_8_code 5 = .ok (.bipush 9, 2) := by decide +kernel
theorem d_FlashLog_fitting_7 : decode prog_3_method_8_code 7 = .ok (.if_icmp .gt 39, 3) := by decide +kernel
theorem d_FlashLog_fitting_10 : decode prog_3_method_8_code 10 = .ok (.iconst 0, 1) := by decide +kernel
theorem d_FlashLog_fitting_11 : decode prog_3_method_8_code 11 = .ok (.istore_n 3, 1) := by decide +kernel
theorem d_FlashLog_fitting_12 : decode prog_3_method_8_code 12 = .ok (.iload_n 3, 1) := by decide +kernel
theorem d_FlashLog_fitting_13 : decode prog_3_method_8_code 13 = .ok (.iload_n 2, 1) := by decide +kernel
theorem d_FlashLog_fitting_14 : decode prog_3_method_8_code 14 = .ok (.if_icmp .ge 26, 3) := by decide +kernel
theorem d_FlashLog_fitting_17 : decode prog_3_method_8_code 17 = .ok (.iload_n 1, 1) := by decide +kernel
theorem d_FlashLog_fitting_18 : decode prog_3_method_8_code 18 = .ok (.aload_n 0, 1) := by decide +kernel
theorem d_FlashLog_fitting_19 : decode prog_3_method_8_code 19 = .ok (.iload_n 2, 1) := by decide +kernel
theorem d_FlashLog_fitting_20 : decode prog_3_method_8_code 20 = .ok (.iload_n 3, 1) := by decide +kernel
theorem d_FlashLog_fitting_21 : decode prog_3_method_8_code 21 = .ok (.invokevirtual 73, 3) := by decide +kernel
theorem d_FlashLog_fitting_24 : decode prog_3_method_8_code 24 = .ok (.ifCond .eq 7, 3) := by decide +kernel
theorem d_FlashLog_fitting_27 : decode prog_3_method_8_code 27 = .ok (.iconst 1, 1) := by decide +kernel
theorem d_FlashLog_fitting_28 : decode prog_3_method_8_code 28 = .ok (.goto 4, 3) := by decide +kernel
theorem d_FlashLog_fitting_31 : decode prog_3_method_8_code 31 = .ok (.iconst 0, 1) := by decide +kernel
theorem d_FlashLog_fitting_32 : decode prog_3_method_8_code 32 = .ok (.iadd, 1) := by decide +kernel
theorem d_FlashLog_fitting_33 : decode prog_3_method_8_code 33 = .ok (.istore_n 1, 1) := by decide +kernel
theorem d_FlashLog_fitting_34 : decode prog_3_method_8_code 34 = .ok (.iinc 3 1, 3) := by decide +kernel
theorem d_FlashLog_fitting_37 : decode prog_3_method_8_code 37 = .ok (.goto (-25), 3) := by decide +kernel
theorem d_FlashLog_fitting_40 : decode prog_3_method_8_code 40 = .ok (.iinc 2 1, 3) := by decide +kernel
theorem d_FlashLog_fitting_43 : decode prog_3_method_8_code 43 = .ok (.goto (-39), 3) := by decide +kernel
theorem d_FlashLog_fitting_46 : decode prog_3_method_8_code 46 = .ok (.iload_n 1, 1) := by decide +kernel
theorem d_FlashLog_fitting_47 : decode prog_3_method_8_code 47 = .ok (.ireturn, 1) := by decide +kernel
theorem d_FlashLog_firstFit_0 : decode prog_3_method_9_code 0 = .ok (.iconst 1, 1) := by decide +kernel
theorem d_FlashLog_firstFit_1 : decode prog_3_method_9_code 1 = .ok (.istore_n 1, 1) := by decide +kernel
theorem d_FlashLog_firstFit_2 : decode prog_3_method_9_code 2 = .ok (.iload_n 1, 1) := by decide +kernel
theorem d_FlashLog_firstFit_3 : decode prog_3_method_9_code 3 = .ok (.bipush 9, 2) := by decide +kernel
theorem d_FlashLog_firstFit_5 : decode prog_3_method_9_code 5 = .ok (.if_icmp .gt 38, 3) := by decide +kernel
theorem d_FlashLog_firstFit_8 : decode prog_3_method_9_code 8 = .ok (.iconst 0, 1) := by decide +kernel
theorem d_FlashLog_firstFit_9 : decode prog_3_method_9_code 9 = .ok (.istore_n 2, 1) := by decide +kernel
theorem d_FlashLog_firstFit_10 : decode prog_3_method_9_code 10 = .ok (.iload_n 2, 1) := by decide +kernel
theorem d_FlashLog_firstFit_11 : decode prog_3_method_9_code 11 = .ok (.iload_n 1, 1) := by decide +kernel
theorem d_FlashLog_firstFit_12 : decode prog_3_method_9_code 12 = .ok (.if_icmp .ge 25, 3) := by decide +kernel
theorem d_FlashLog_firstFit_15 : decode prog_3_method_9_code 15 = .ok (.aload_n 0, 1) := by decide +kernel
theorem d_FlashLog_firstFit_16 : decode prog_3_method_9_code 16 = .ok (.iload_n 1, 1) := by decide +kernel
theorem d_FlashLog_firstFit_17 : decode prog_3_method_9_code 17 = .ok (.iload_n 2, 1) := by decide +kernel
theorem d_FlashLog_firstFit_18 : decode prog_3_method_9_code 18 = .ok (.invokevirtual 73, 3) := by decide +kernel
theorem d_FlashLog_firstFit_21 : decode prog_3_method_9_code 21 = .ok (.ifCond .eq 10, 3) := by decide +kernel
theorem d_FlashLog_firstFit_24 : decode prog_3_method_9_code 24 = .ok (.bipush 10, 2) := by decide +kernel
theorem d_FlashLog_firstFit_26 : decode prog_3_method_9_code 26 = .ok (.iload_n 1, 1) := by decide +kernel
theorem d_FlashLog_firstFit_27 : decode prog_3_method_9_code 27 = .ok (.imul, 1) := by decide +kernel
theorem d_FlashLog_firstFit_28 : decode prog_3_method_9_code 28 = .ok (.iload_n 2, 1) := by decide +kernel
theorem d_FlashLog_firstFit_29 : decode prog_3_method_9_code 29 = .ok (.iadd, 1) := by decide +kernel
theorem d_FlashLog_firstFit_30 : decode prog_3_method_9_code 30 = .ok (.ireturn, 1) := by decide +kernel
theorem d_FlashLog_firstFit_31 : decode prog_3_method_9_code 31 = .ok (.iinc 2 1, 3) := by decide +kernel
theorem d_FlashLog_firstFit_34 : decode prog_3_method_9_code 34 = .ok (.goto (-24), 3) := by decide +kernel
theorem d_FlashLog_firstFit_37 : decode prog_3_method_9_code 37 = .ok (.iinc 1 1, 3) := by decide +kernel
theorem d_FlashLog_firstFit_40 : decode prog_3_method_9_code 40 = .ok (.goto (-38), 3) := by decide +kernel
theorem d_FlashLog_firstFit_43 : decode prog_3_method_9_code 43 = .ok (.iconst (-1), 1) := by decide +kernel
theorem d_FlashLog_firstFit_44 : decode prog_3_method_9_code 44 = .ok (.ireturn, 1) := by decide +kernel
theorem d_FlashLog_bestMinute_0 : decode prog_3_method_10_code 0 = .ok (.iconst (-1), 1) := by decide +kernel
theorem d_FlashLog_bestMinute_1 : decode prog_3_method_10_code 1 = .ok (.istore_n 1, 1) := by decide +kernel
theorem d_FlashLog_bestMinute_2 : decode prog_3_method_10_code 2 = .ok (.iconst 0, 1) := by decide +kernel
theorem d_FlashLog_bestMinute_3 : decode prog_3_method_10_code 3 = .ok (.istore_n 2, 1) := by decide +kernel
theorem d_FlashLog_bestMinute_4 : decode prog_3_method_10_code 4 = .ok (.iconst 0, 1) := by decide +kernel
theorem d_FlashLog_bestMinute_5 : decode prog_3_method_10_code 5 = .ok (.istore_n 3, 1) := by decide +kernel
theorem d_FlashLog_bestMinute_6 : decode prog_3_method_10_code 6 = .ok (.iload_n 3, 1) := by decide +kernel
theorem d_FlashLog_bestMinute_7 : decode prog_3_method_10_code 7 = .ok (.bipush 60, 2) := by decide +kernel
theorem d_FlashLog_bestMinute_9 : decode prog_3_method_10_code 9 = .ok (.if_icmp .ge 46, 3) := by decide +kernel
theorem d_FlashLog_bestMinute_12 : decode prog_3_method_10_code 12 = .ok (.aload_n 0, 1) := by decide +kernel
theorem d_FlashLog_bestMinute_13 : decode prog_3_method_10_code 13 = .ok (.getfield 16, 3) := by decide +kernel
theorem d_FlashLog_bestMinute_16 : decode prog_3_method_10_code 16 = .ok (.iload_n 3, 1) := by decide +kernel
theorem d_FlashLog_bestMinute_17 : decode prog_3_method_10_code 17 = .ok (.invokevirtual 51, 3) := by decide +kernel
theorem d_FlashLog_bestMinute_20 : decode prog_3_method_10_code 20 = .ok (.ifCond .eq 6, 3) := by decide +kernel
theorem d_FlashLog_bestMinute_23 : decode prog_3_method_10_code 23 = .ok (.goto 26, 3) := by decide +kernel
theorem d_FlashLog_bestMinute_26 : decode prog_3_method_10_code 26 = .ok (.aload_n 0, 1) := by decide +kernel
theorem d_FlashLog_bestMinute_27 : decode prog_3_method_10_code 27 = .ok (.iload_n 3, 1) := by decide +kernel
theorem d_FlashLog_bestMinute_28 : decode prog_3_method_10_code 28 = .ok (.invokevirtual 77, 3) := by decide +kernel
theorem d_FlashLog_bestMinute_31 : decode prog_3_method_10_code 31 = .ok (.istore 4, 2) := by decide +kernel
theorem d_FlashLog_bestMinute_33 : decode prog_3_method_10_code 33 = .ok (.iload_n 1, 1) := by decide +kernel
theorem d_FlashLog_bestMinute_34 : decode prog_3_method_10_code 34 = .ok (.iconst (-1), 1) := by decide +kernel
theorem d_FlashLog_bestMinute_35 : decode prog_3_method_10_code 35 = .ok (.if_icmp .eq 9, 3) := by decide +kernel
theorem d_FlashLog_bestMinute_38 : decode prog_3_method_10_code 38 = .ok (.iload 4, 2) := by decide +kernel
theorem d_FlashLog_bestMinute_40 : decode prog_3_method_10_code 40 = .ok (.iload_n 2, 1) := by decide +kernel
theorem d_FlashLog_bestMinute_41 : decode prog_3_method_10_code 41 = .ok (.if_icmp .ge 8, 3) := by decide +kernel
theorem d_FlashLog_bestMinute_44 : decode prog_3_method_10_code 44 = .ok (.iload_n 3, 1) := by decide +kernel
theorem d_FlashLog_bestMinute_45 : decode prog_3_method_10_code 45 = .ok (.istore_n 1, 1) := by decide +kernel
theorem d_FlashLog_bestMinute_46 : decode prog_3_method_10_code 46 = .ok (.iload 4, 2) := by decide +kernel
theorem d_FlashLog_bestMinute_48 : decode prog_3_method_10_code 48 = .ok (.istore_n 2, 1) := by decide +kernel
theorem d_FlashLog_bestMinute_49 : decode prog_3_method_10_code 49 = .ok (.iinc 3 1, 3) := by decide +kernel
theorem d_FlashLog_bestMinute_52 : decode prog_3_method_10_code 52 = .ok (.goto (-46), 3) := by decide +kernel
theorem d_FlashLog_bestMinute_55 : decode prog_3_method_10_code 55 = .ok (.iload_n 1, 1) := by decide +kernel
theorem d_FlashLog_bestMinute_56 : decode prog_3_method_10_code 56 = .ok (.ireturn, 1) := by decide +kernel
theorem d_FlashLog_leftAtWorst_0 : decode prog_3_method_11_code 0 = .ok (.iconst 0, 1) := by decide +kernel
theorem d_FlashLog_leftAtWorst_1 : decode prog_3_method_11_code 1 = .ok (.istore_n 2, 1) := by decide +kernel
theorem d_FlashLog_leftAtWorst_2 : decode prog_3_method_11_code 2 = .ok (.iconst 0, 1) := by decide +kernel
theorem d_FlashLog_leftAtWorst_3 : decode prog_3_method_11_code 3 = .ok (.istore_n 3, 1) := by decide +kernel
theorem d_FlashLog_leftAtWorst_4 : decode prog_3_method_11_code 4 = .ok (.iconst 1, 1) := by decide +kernel
theorem d_FlashLog_leftAtWorst_5 : decode prog_3_method_11_code 5 = .ok (.istore 4, 2) := by decide +kernel
theorem d_FlashLog_leftAtWorst_7 : decode prog_3_method_11_code 7 = .ok (.iload 4, 2) := by decide +kernel
theorem d_FlashLog_leftAtWorst_9 : decode prog_3_method_11_code 9 = .ok (.bipush 9, 2) := by decide +kernel
theorem d_FlashLog_leftAtWorst_11 : decode prog_3_method_11_code 11 = .ok (.if_icmp .gt 59, 3) := by decide +kernel
theorem d_FlashLog_leftAtWorst_14 : decode prog_3_method_11_code 14 = .ok (.iconst 0, 1) := by decide +kernel
theorem d_FlashLog_leftAtWorst_15 : decode prog_3_method_11_code 15 = .ok (.istore 5, 2) := by decide +kernel
theorem d_FlashLog_leftAtWorst_17 : decode prog_3_method_11_code 17 = .ok (.iload 5, 2) := by decide +kernel
theorem d_FlashLog_leftAtWorst_19 : decode prog_3_method_11_code 19 = .ok (.iload 4, 2) := by decide +kernel
theorem d_FlashLog_leftAtWorst_21 : decode prog_3_method_11_code 21 = .ok (.if_icmp .ge 43, 3) := by decide +kernel
theorem d_FlashLog_leftAtWorst_24 : decode prog_3_method_11_code 24 = .ok (.aload_n 0, 1) := by decide +kernel
theorem d_FlashLog_leftAtWorst_25 : decode prog_3_method_11_code 25 = .ok (.iload 4, 2) := by decide +kernel
theorem d_FlashLog_leftAtWorst_27 : decode prog_3_method_11_code 27 = .ok (.iload 5, 2) := by decide +kernel
theorem d_FlashLog_leftAtWorst_29 : decode prog_3_method_11_code 29 = .ok (.invokevirtual 73, 3) := by decide +kernel
theorem d_FlashLog_leftAtWorst_32 : decode prog_3_method_11_code 32 = .ok (.ifCond .ne 6, 3) := by decide +kernel
theorem d_FlashLog_leftAtWorst_35 : decode prog_3_method_11_code 35 = .ok (.goto 23, 3) := by decide +kernel
theorem d_FlashLog_leftAtWorst_38 : decode prog_3_method_11_code 38 = .ok (.iload_n 1, 1) := by decide +kernel
theorem d_FlashLog_leftAtWorst_39 : decode prog_3_method_11_code 39 = .ok (.iload 4, 2) := by decide +kernel
theorem d_FlashLog_leftAtWorst_41 : decode prog_3_method_11_code 41 = .ok (.invokestatic 70, 3) := by decide +kernel
theorem d_FlashLog_leftAtWorst_44 : decode prog_3_method_11_code 44 = .ok (.iload 5, 2) := by decide +kernel
theorem d_FlashLog_leftAtWorst_46 : decode prog_3_method_11_code 46 = .ok (.if_icmp .ne 9, 3) := by decide +kernel
theorem d_FlashLog_leftAtWorst_49 : decode prog_3_method_11_code 49 = .ok (.iinc 2 1, 3) := by decide +kernel
theorem d_FlashLog_leftAtWorst_52 : decode prog_3_method_11_code 52 = .ok (.goto 6, 3) := by decide +kernel
theorem d_FlashLog_leftAtWorst_55 : decode prog_3_method_11_code 55 = .ok (.iinc 3 1, 3) := by decide +kernel
theorem d_FlashLog_leftAtWorst_58 : decode prog_3_method_11_code 58 = .ok (.iinc 5 1, 3) := by decide +kernel
theorem d_FlashLog_leftAtWorst_61 : decode prog_3_method_11_code 61 = .ok (.goto (-44), 3) := by decide +kernel
theorem d_FlashLog_leftAtWorst_64 : decode prog_3_method_11_code 64 = .ok (.iinc 4 1, 3) := by decide +kernel
theorem d_FlashLog_leftAtWorst_67 : decode prog_3_method_11_code 67 = .ok (.goto (-60), 3) := by decide +kernel
theorem d_FlashLog_leftAtWorst_70 : decode prog_3_method_11_code 70 = .ok (.iload_n 2, 1) := by decide +kernel
theorem d_FlashLog_leftAtWorst_71 : decode prog_3_method_11_code 71 = .ok (.iload_n 3, 1) := by decide +kernel
theorem d_FlashLog_leftAtWorst_72 : decode prog_3_method_11_code 72 = .ok (.invokestatic 80, 3) := by decide +kernel
theorem d_FlashLog_leftAtWorst_75 : decode prog_3_method_11_code 75 = .ok (.ireturn, 1) := by decide +kernel
theorem d_History_init_0 : decode prog_4_method_1_code 0 = .ok (.aload_n 0, 1) := by decide +kernel
theorem d_History_init_1 : decode prog_4_method_1_code 1 = .ok (.invokespecial 5, 3) := by decide +kernel
theorem d_History_init_4 : decode prog_4_method_1_code 4 = .ok (.aload_n 0, 1) := by decide +kernel
theorem d_History_init_5 : decode prog_4_method_1_code 5 = .ok (.new 11, 3) := by decide +kernel
theorem d_History_init_8 : decode prog_4_method_1_code 8 = .ok (.dup, 1) := by decide +kernel
theorem d_History_init_9 : decode prog_4_method_1_code 9 = .ok (.sipush 464, 3) := by decide +kernel
theorem d_History_init_12 : decode prog_4_method_1_code 12 = .ok (.invokespecial 13, 3) := by decide +kernel
theorem d_History_init_15 : decode prog_4_method_1_code 15 = .ok (.putfield 16, 3) := by decide +kernel
theorem d_History_init_18 : decode prog_4_method_1_code 18 = .ok (.aload_n 0, 1) := by decide +kernel
theorem d_History_init_19 : decode prog_4_method_1_code 19 = .ok (.new 11, 3) := by decide +kernel
theorem d_History_init_22 : decode prog_4_method_1_code 22 = .ok (.dup, 1) := by decide +kernel
theorem d_History_init_23 : decode prog_4_method_1_code 23 = .ok (.sipush 1479, 3) := by decide +kernel
theorem d_History_init_26 : decode prog_4_method_1_code 26 = .ok (.invokespecial 13, 3) := by decide +kernel
theorem d_History_init_29 : decode prog_4_method_1_code 29 = .ok (.putfield 20, 3) := by decide +kernel
theorem d_History_init_32 : decode prog_4_method_1_code 32 = .ok (.aload_n 0, 1) := by decide +kernel
theorem d_History_init_33 : decode prog_4_method_1_code 33 = .ok (.new 11, 3) := by decide +kernel
theorem d_History_init_36 : decode prog_4_method_1_code 36 = .ok (.dup, 1) := by decide +kernel
theorem d_History_init_37 : decode prog_4_method_1_code 37 = .ok (.iconst 3, 1) := by decide +kernel
theorem d_History_init_38 : decode prog_4_method_1_code 38 = .ok (.invokespecial 13, 3) := by decide +kernel
theorem d_History_init_41 : decode prog_4_method_1_code 41 = .ok (.putfield 23, 3) := by decide +kernel
theorem d_History_init_44 : decode prog_4_method_1_code 44 = .ok (.return_, 1) := by decide +kernel
theorem d_History_reset_0 : decode prog_4_method_2_code 0 = .ok (.aload_n 0, 1) := by decide +kernel
theorem d_History_reset_1 : decode prog_4_method_2_code 1 = .ok (.iconst 0, 1) := by decide +kernel
theorem d_History_reset_2 : decode prog_4_method_2_code 2 = .ok (.putfield 26, 3) := by decide +kernel
theorem d_History_reset_5 : decode prog_4_method_2_code 5 = .ok (.aload_n 0, 1) := by decide +kernel
theorem d_History_reset_6 : decode prog_4_method_2_code 6 = .ok (.iconst 0, 1) := by decide +kernel
theorem d_History_reset_7 : decode prog_4_method_2_code 7 = .ok (.putfield 30, 3) := by decide +kernel
theorem d_History_reset_10 : decode prog_4_method_2_code 10 = .ok (.return_, 1) := by decide +kernel
theorem d_History_works_0 : decode prog_4_method_3_code 0 = .ok (.aload_n 0, 1) := by decide +kernel
theorem d_History_works_1 : decode prog_4_method_3_code 1 = .ok (.getfield 26, 3) := by decide +kernel
theorem d_History_works_4 : decode prog_4_method_3_code 4 = .ok (.ireturn, 1) := by decide +kernel
theorem d_History_images_0 : decode prog_4_method_4_code 0 = .ok (.aload_n 0, 1) := by decide +kernel
theorem d_History_images_1 : decode prog_4_method_4_code 1 = .ok (.getfield 30, 3) := by decide +kernel
theorem d_History_images_4 : decode prog_4_method_4_code 4 = .ok (.ireturn, 1) := by decide +kernel
theorem d_History_keepWork_0 : decode prog_4_method_5_code 0 = .ok (.aload_n 0, 1) := by decide +kernel
theorem d_History_keepWork_1 : decode prog_4_method_5_code 1 = .ok (.getfield 16, 3) := by decide +kernel
theorem d_History_keepWork_4 : decode prog_4_method_5_code 4 = .ok (.aload_n 1, 1) := by decide +kernel
theorem d_History_keepWork_5 : decode prog_4_method_5_code 5 = .ok (.getfield 33, 3) := by decide +kernel
theorem d_History_keepWork_8 : decode prog_4_method_5_code 8 = .ok (.iconst 0, 1) := by decide +kernel
theorem d_History_keepWork_9 : decode prog_4_method_5_code 9 = .ok (.aload_n 0, 1) := by decide +kernel
theorem d_History_keepWork_10 : decode prog_4_method_5_code 10 = .ok (.getfield 26, 3) := by decide +kernel
theorem d_History_keepWork_13 : decode prog_4_method_5_code 13 = .ok (.bipush 29, 2) := by decide +kernel
theorem d_History_keepWork_15 : decode prog_4_method_5_code 15 = .ok (.imul, 1) := by decide +kernel
theorem d_History_keepWork_16 : decode prog_4_method_5_code 16 = .ok (.bipush 29, 2) := by decide +kernel
theorem d_History_keepWork_18 : decode prog_4_method_5_code 18 = .ok (.invokevirtual 36, 3) := by decide +kernel
theorem d_History_keepWork_21 : decode prog_4_method_5_code 21 = .ok (.aload_n 0, 1) := by decide +kernel
theorem d_History_keepWork_22 : decode prog_4_method_5_code 22 = .ok (.dup, 1) := by decide +kernel
theorem d_History_keepWork_23 : decode prog_4_method_5_code 23 = .ok (.getfield 26, 3) := by decide +kernel
theorem d_History_keepWork_26 : decode prog_4_method_5_code 26 = .ok (.iconst 1, 1) := by decide +kernel
theorem d_History_keepWork_27 : decode prog_4_method_5_code 27 = .ok (.iadd, 1) := by decide +kernel
theorem d_History_keepWork_28 : decode prog_4_method_5_code 28 = .ok (.putfield 26, 3) := by decide +kernel
theorem d_History_keepWork_31 : decode prog_4_method_5_code 31 = .ok (.return_, 1) := by decide +kernel
theorem d_History_undoWork_0 : decode prog_4_method_6_code 0 = .ok (.aload_n 0, 1) := by decide +kernel
theorem d_History_undoWork_1 : decode prog_4_method_6_code 1 = .ok (.dup, 1) := by decide +kernel
theorem d_History_undoWork_2 : decode prog_4_method_6_code 2 = .ok (.getfield 26, 3) := by decide +kernel
theorem d_History_undoWork_5 : decode prog_4_method_6_code 5 = .ok (.iconst 1, 1) := by decide +kernel
theorem d_History_undoWork_6 : decode prog_4_method_6_code 6 = .ok (.isub, 1) := by decide +kernel
theorem d_History_undoWork_7 : decode prog_4_method_6_code 7 = .ok (.putfield 26, 3) := by decide +kernel
theorem d_History_undoWork_10 : decode prog_4_method_6_code 10 = .ok (.aload_n 1, 1) := by decide +kernel
theorem d_History_undoWork_11 : decode prog_4_method_6_code 11 = .ok (.getfield 33, 3) := by decide +kernel
theorem d_History_undoWork_14 : decode prog_4_method_6_code 14 = .ok (.aload_n 0, 1) := by decide +kernel
theorem d_History_undoWork_15 : decode prog_4_method_6_code 15 = .ok (.getfield 16, 3) := by decide +kernel
theorem d_History_undoWork_18 : decode prog_4_method_6_code 18 = .ok (.aload_n 0, 1) := by decide +kernel
theorem d_History_undoWork_19 : decode prog_4_method_6_code 19 = .ok (.getfield 26, 3) := by decide +kernel
theorem d_History_undoWork_22 : decode prog_4_method_6_code 22 = .ok (.bipush 29, 2) := by decide +kernel
theorem d_History_undoWork_24 : decode prog_4_method_6_code 24 = .ok (.imul, 1) := by decide +kernel
theorem d_History_undoWork_25 : decode prog_4_method_6_code 25 = .ok (.iconst 0, 1) := by decide +kernel
theorem d_History_undoWork_26 : decode prog_4_method_6_code 26 = .ok (.bipush 29, 2) := by decide +kernel
theorem d_History_undoWork_28 : decode prog_4_method_6_code 28 = .ok (.invokevirtual 36, 3) := by decide +kernel
theorem d_History_undoWork_31 : decode prog_4_method_6_code 31 = .ok (.aload_n 0, 1) := by decide +kernel
theorem d_History_undoWork_32 : decode prog_4_method_6_code 32 = .ok (.getfield 26, 3) := by decide +kernel
theorem d_History_undoWork_35 : decode prog_4_method_6_code 35 = .ok (.ireturn, 1) := by decide +kernel
theorem d_History_keepImage_0 : decode prog_4_method_7_code 0 = .ok (.aload_n 0, 1) := by decide +kernel
theorem d_History_keepImage_1 : decode prog_4_method_7_code 1 = .ok (.getfield 30, 3) := by decide +kernel
theorem d_History_keepImage_4 : decode prog_4_method_7_code 4 = .ok (.sipush 493, 3) := by decide +kernel
theorem d_History_keepImage_7 : decode prog_4_method_7_code 7 = .ok (.imul, 1) := by decide +kernel
theorem d_History_keepImage_8 : decode prog_4_method_7_code 8 = .ok (.istore_n 2, 1) := by decide +kernel
theorem d_History_keepImage_9 : decode prog_4_method_7_code 9 = .ok (.aload_n 0, 1) := by decide +kernel
theorem d_History_keepImage_10 : decode prog_4_method_7_code 10 = .ok (.getfield 20, 3) := by decide +kernel
theorem d_History_keepImage_13 : decode prog_4_method_7_code 13 = .ok (.aload_n 0, 1) := by decide +kernel
theorem d_History_keepImage_14 : decode prog_4_method_7_code 14 = .ok (.getfield 16, 3) := by decide +kernel
theorem d_History_keepImage_17 : decode prog_4_method_7_code 17 = .ok (.iconst 0, 1) := by decide +kernel
theorem d_History_keepImage_18 : decode prog_4_method_7_code 18 = .ok (.iload_n 2, 1) := by decide +kernel
theorem d_History_keepImage_19 : decode prog_4_method_7_code 19 = .ok (.sipush 464, 3) := by decide +kernel
theorem d_History_keepImage_22 : decode prog_4_method_7_code 22 = .ok (.invokevirtual 36, 3) := by decide +kernel
theorem d_History_keepImage_25 : decode prog_4_method_7_code 25 = .ok (.aload_n 0, 1) := by decide +kernel
theorem d_History_keepImage_26 : decode prog_4_method_7_code 26 = .ok (.getfield 20, 3) := by decide +kernel
theorem d_History_keepImage_29 : decode prog_4_method_7_code 29 = .ok (.aload_n 1, 1) := by decide +kernel
theorem d_History_keepImage_30 : decode prog_4_method_7_code 30 = .ok (.getfield 33, 3) := by decide +kernel
theorem d_History_keepImage_33 : decode prog_4_method_7_code 33 = .ok (.iconst 0, 1) := by decide +kernel
theorem d_History_keepImage_34 : decode prog_4_method_7_code 34 = .ok (.iload_n 2, 1) := by decide +kernel
theorem d_History_keepImage_35 : decode prog_4_method_7_code 35 = .ok (.sipush 464, 3) := by decide +kernel
theorem d_History_keepImage_38 : decode prog_4_method_7_code 38 = .ok (.iadd, 1) := by decide +kernel
theorem d_History_keepImage_39 : decode prog_4_method_7_code 39 = .ok (.bipush 29, 2) := by decide +kernel
theorem d_History_keepImage_41 : decode prog_4_method_7_code 41 = .ok (.invokevirtual 36, 3) := by decide +kernel
theorem d_History_keepImage_44 : decode prog_4_method_7_code 44 = .ok (.aload_n 0, 1) := by decide +kernel
theorem d_History_keepImage_45 : decode prog_4_method_7_code 45 = .ok (.getfield 23, 3) := by decide +kernel
theorem d_History_keepImage_48 : decode prog_4_method_7_code 48 = .ok (.aload_n 0, 1) := by decide +kernel
theorem d_History_keepImage_49 : decode prog_4_method_7_code 49 = .ok (.getfield 30, 3) := by decide +kernel
theorem d_History_keepImage_52 : decode prog_4_method_7_code 52 = .ok (.aload_n 0, 1) := by decide +kernel
theorem d_History_keepImage_53 : decode prog_4_method_7_code 53 = .ok (.getfield 26, 3) := by decide +kernel
theorem d_History_keepImage_56 : decode prog_4_method_7_code 56 = .ok (.invokevirtual 40, 3) := by decide +kernel
theorem d_History_keepImage_59 : decode prog_4_method_7_code 59 = .ok (.aload_n 0, 1) := by decide +kernel
theorem d_History_keepImage_60 : decode prog_4_method_7_code 60 = .ok (.dup, 1) := by decide +kernel
theorem d_History_keepImage_61 : decode prog_4_method_7_code 61 = .ok (.getfield 30, 3) := by decide +kernel
theorem d_History_keepImage_64 : decode prog_4_method_7_code 64 = .ok (.iconst 1, 1) := by decide +kernel
theorem d_History_keepImage_65 : decode prog_4_method_7_code 65 = .ok (.iadd, 1) := by decide +kernel
theorem d_History_keepImage_66 : decode prog_4_method_7_code 66 = .ok (.putfield 30, 3) := by decide +kernel
theorem d_History_keepImage_69 : decode prog_4_method_7_code 69 = .ok (.aload_n 0, 1) := by decide +kernel
theorem d_History_keepImage_70 : decode prog_4_method_7_code 70 = .ok (.getfield 30, 3) := by decide +kernel
theorem d_History_keepImage_73 : decode prog_4_method_7_code 73 = .ok (.ireturn, 1) := by decide +kernel
theorem d_History_takeImage_0 : decode prog_4_method_8_code 0 = .ok (.aload_n 0, 1) := by decide +kernel
theorem d_History_takeImage_1 : decode prog_4_method_8_code 1 = .ok (.dup, 1) := by decide +kernel
theorem d_History_takeImage_2 : decode prog_4_method_8_code 2 = .ok (.getfield 30, 3) := by decide +kernel
theorem d_History_takeImage_5 : decode prog_4_method_8_code 5 = .ok (.iconst 1, 1) := by decide +kernel
theorem d_History_takeImage_6 : decode prog_4_method_8_code 6 = .ok (.isub, 1) := by decide +kernel
theorem d_History_takeImage_7 : decode prog_4_method_8_code 7 = .ok (.putfield 30, 3) := by decide +kernel
theorem d_History_takeImage_10 : decode prog_4_method_8_code 10 = .ok (.aload_n 0, 1) := by decide +kernel
theorem d_History_takeImage_11 : decode prog_4_method_8_code 11 = .ok (.getfield 30, 3) := by decide +kernel
theorem d_History_takeImage_14 : decode prog_4_method_8_code 14 = .ok (.sipush 493, 3) := by decide +kernel
theorem d_History_takeImage_17 : decode prog_4_method_8_code 17 = .ok (.imul, 1) := by decide +kernel
theorem d_History_takeImage_18 : decode prog_4_method_8_code 18 = .ok (.istore_n 2, 1) := by decide +kernel
theorem d_History_takeImage_19 : decode prog_4_method_8_code 19 = .ok (.aload_n 0, 1) := by decide +kernel
theorem d_History_takeImage_20 : decode prog_4_method_8_code 20 = .ok (.getfield 16, 3) := by decide +kernel
theorem d_History_takeImage_23 : decode prog_4_method_8_code 23 = .ok (.aload_n 0, 1) := by decide +kernel
theorem d_History_takeImage_24 : decode prog_4_method_8_code 24 = .ok (.getfield 20, 3) := by decide +kernel
theorem d_History_takeImage_27 : decode prog_4_method_8_code 27 = .ok (.iload_n 2, 1) := by decide +kernel
theorem d_History_takeImage_28 : decode prog_4_method_8_code 28 = .ok (.iconst 0, 1) := by decide +kernel
theorem d_History_takeImage_29 : decode prog_4_method_8_code 29 = .ok (.sipush 464, 3) := by decide +kernel
theorem d_History_takeImage_32 : decode prog_4_method_8_code 32 = .ok (.invokevirtual 36, 3) := by decide +kernel
theorem d_History_takeImage_35 : decode prog_4_method_8_code 35 = .ok (.aload_n 1, 1) := by decide +kernel
theorem d_History_takeImage_36 : decode prog_4_method_8_code 36 = .ok (.getfield 33, 3) := by decide +kernel
theorem d_History_takeImage_39 : decode prog_4_method_8_code 39 = .ok (.aload_n 0, 1) := by decide +kernel
theorem d_History_takeImage_40 : decode prog_4_method_8_code 40 = .ok (.getfield 20, 3) := by decide +kernel
theorem d_History_takeImage_43 : decode prog_4_method_8_code 43 = .ok (.iload_n 2, 1) := by decide +kernel
theorem d_History_takeImage_44 : decode prog_4_method_8_code 44 = .ok (.sipush 464, 3) := by decide +kernel
theorem d_History_takeImage_47 : decode prog_4_method_8_code 47 = .ok (.iadd, 1) := by decide +kernel
theorem d_History_takeImage_48 : decode prog_4_method_8_code 48 = .ok (.iconst 0, 1) := by decide +kernel
theorem d_History_takeImage_49 : decode prog_4_method_8_code 49 = .ok (.bipush 29, 2) := by decide +kernel
theorem d_History_takeImage_51 : decode prog_4_method_8_code 51 = .ok (.invokevirtual 36, 3) := by decide +kernel
theorem d_History_takeImage_54 : decode prog_4_method_8_code 54 = .ok (.aload_n 0, 1) := by decide +kernel
theorem d_History_takeImage_55 : decode prog_4_method_8_code 55 = .ok (.aload_n 0, 1) := by decide +kernel
theorem d_History_takeImage_56 : decode prog_4_method_8_code 56 = .ok (.getfield 23, 3) := by decide +kernel
theorem d_History_takeImage_59 : decode prog_4_method_8_code 59 = .ok (.aload_n 0, 1) := by decide +kernel
theorem d_History_takeImage_60 : decode prog_4_method_8_code 60 = .ok (.getfield 30, 3) := by decide +kernel
theorem d_History_takeImage_63 : decode prog_4_method_8_code 63 = .ok (.invokevirtual 44, 3) := by decide +kernel
theorem d_History_takeImage_66 : decode prog_4_method_8_code 66 = .ok (.putfield 26, 3) := by decide +kernel
theorem d_History_takeImage_69 : decode prog_4_method_8_code 69 = .ok (.aload_n 0, 1) := by decide +kernel
theorem d_History_takeImage_70 : decode prog_4_method_8_code 70 = .ok (.getfield 30, 3) := by decide +kernel
theorem d_History_takeImage_73 : decode prog_4_method_8_code 73 = .ok (.ireturn, 1) := by decide +kernel
theorem d_Law_init_0 : decode prog_5_method_1_code 0 = .ok (.aload_n 0, 1) := by decide +kernel
theorem d_Law_init_1 : decode prog_5_method_1_code 1 = .ok (.invokespecial 3, 3) := by decide +kernel
theorem d_Law_init_4 : decode prog_5_method_1_code 4 = .ok (.aload_n 0, 1) := by decide +kernel
theorem d_Law_init_5 : decode prog_5_method_1_code 5 = .ok (.new 9, 3) := by decide +kernel
theorem d_Law_init_8 : decode prog_5_method_1_code 8 = .ok (.dup, 1) := by decide +kernel
theorem d_Law_init_9 : decode prog_5_method_1_code 9 = .ok (.sipush 150, 3) := by decide +kernel
theorem d_Law_init_12 : decode prog_5_method_1_code 12 = .ok (.invokespecial 11, 3) := by decide +kernel
theorem d_Law_init_15 : decode prog_5_method_1_code 15 = .ok (.putfield 14, 3) := by decide +kernel
theorem d_Law_init_18 : decode prog_5_method_1_code 18 = .ok (.aload_n 0, 1) := by decide +kernel
theorem d_Law_init_19 : decode prog_5_method_1_code 19 = .ok (.new 9, 3) := by decide +kernel
theorem d_Law_init_22 : decode prog_5_method_1_code 22 = .ok (.dup, 1) := by decide +kernel
theorem d_Law_init_23 : decode prog_5_method_1_code 23 = .ok (.sipush 150, 3) := by decide +kernel
theorem d_Law_init_26 : decode prog_5_method_1_code 26 = .ok (.invokespecial 11, 3) := by decide +kernel
theorem d_Law_init_29 : decode prog_5_method_1_code 29 = .ok (.putfield 20, 3) := by decide +kernel
theorem d_Law_init_32 : decode prog_5_method_1_code 32 = .ok (.aload_n 0, 1) := by decide +kernel
theorem d_Law_init_33 : decode prog_5_method_1_code 33 = .ok (.new 9, 3) := by decide +kernel
theorem d_Law_init_36 : decode prog_5_method_1_code 36 = .ok (.dup, 1) := by decide +kernel
theorem d_Law_init_37 : decode prog_5_method_1_code 37 = .ok (.bipush 9, 2) := by decide +kernel
theorem d_Law_init_39 : decode prog_5_method_1_code 39 = .ok (.invokespecial 11, 3) := by decide +kernel
theorem d_Law_init_42 : decode prog_5_method_1_code 42 = .ok (.putfield 23, 3) := by decide +kernel
theorem d_Law_init_45 : decode prog_5_method_1_code 45 = .ok (.aload_n 0, 1) := by decide +kernel
theorem d_Law_init_46 : decode prog_5_method_1_code 46 = .ok (.new 9, 3) := by decide +kernel
theorem d_Law_init_49 : decode prog_5_method_1_code 49 = .ok (.dup, 1) := by decide +kernel
theorem d_Law_init_50 : decode prog_5_method_1_code 50 = .ok (.sipush 150, 3) := by decide +kernel
theorem d_Law_init_53 : decode prog_5_method_1_code 53 = .ok (.invokespecial 11, 3) := by decide +kernel
theorem d_Law_init_56 : decode prog_5_method_1_code 56 = .ok (.putfield 26, 3) := by decide +kernel
theorem d_Law_init_59 : decode prog_5_method_1_code 59 = .ok (.aload_n 0, 1) := by decide +kernel
theorem d_Law_init_60 : decode prog_5_method_1_code 60 = .ok (.invokevirtual 29, 3) := by decide +kernel
theorem d_Law_init_63 : decode prog_5_method_1_code 63 = .ok (.return_, 1) := by decide +kernel
theorem d_Law_reset_0 : decode prog_5_method_2_code 0 = .ok (.aload_n 0, 1) := by decide +kernel
theorem d_Law_reset_1 : decode prog_5_method_2_code 1 = .ok (.iconst 0, 1) := by decide +kernel
theorem d_Law_reset_2 : decode prog_5_method_2_code 2 = .ok (.putfield 32, 3) := by decide +kernel
theorem d_Law_reset_5 : decode prog_5_method_2_code 5 = .ok (.aload_n 0, 1) := by decide +kernel
theorem d_Law_reset_6 : decode prog_5_method_2_code 6 = .ok (.iconst 0, 1) := by decide +kernel
theorem d_Law_reset_7 : decode prog_5_method_2_code 7 = .ok (.iconst 0, 1) := by decide +kernel
theorem d_Law_reset_8 : decode prog_5_method_2_code 8 = .ok (.invokevirtual 36, 3) := by decide +kernel
theorem d_Law_reset_11 : decode prog_5_method_2_code 11 = .ok (.aload_n 0, 1) := by decide +kernel
theorem d_Law_reset_12 : decode prog_5_method_2_code 12 = .ok (.bipush 11, 2) := by decide +kernel
theorem d_Law_reset_14 : decode prog_5_method_2_code 14 = .ok (.iconst 1, 1) := by decide +kernel
theorem d_Law_reset_15 : decode prog_5_method_2_code 15 = .ok (.invokevirtual 36, 3) := by decide +kernel
theorem d_Law_reset_18 : decode prog_5_method_2_code 18 = .ok (.aload_n 0, 1) := by decide +kernel
theorem d_Law_reset_19 : decode prog_5_method_2_code 19 = .ok (.bipush 13, 2) := by decide +kernel
theorem d_Law_reset_21 : decode prog_5_method_2_code 21 = .ok (.iconst 0, 1) := by decide +kernel
theorem d_Law_reset_22 : decode prog_5_method_2_code 22 = .ok (.invokevirtual 36, 3) := by decide +kernel
theorem d_Law_reset_25 : decode prog_5_method_2_code 25 = .ok (.return_, 1) := by decide +kernel
theorem d_Law_become_0 : decode prog_5_method_3_code 0 = .ok (.aload_n 0, 1) := by decide +kernel
theorem d_Law_become_1 : decode prog_5_method_3_code 1 = .ok (.getfield 14, 3) := by decide +kernel
theorem d_Law_become_4 : decode prog_5_method_3_code 4 = .ok (.aload_n 1, 1) := by decide +kernel
theorem d_Law_become_5 : decode prog_5_method_3_code 5 = .ok (.getfield 14, 3) := by decide +kernel
theorem d_Law_become_8 : decode prog_5_method_3_code 8 = .ok (.invokevirtual 40, 3) := by decide +kernel
theorem d_Law_become_11 : decode prog_5_method_3_code 11 = .ok (.aload_n 0, 1) := by decide +kernel
theorem d_Law_become_12 : decode prog_5_method_3_code 12 = .ok (.getfield 20, 3) := by decide +kernel
theorem d_Law_become_15 : decode prog_5_method_3_code 15 = .ok (.aload_n 1, 1) := by decide +kernel
theorem d_Law_become_16 : decode prog_5_method_3_code 16 = .ok (.getfield 20, 3) := by decide +kernel
theorem d_Law_become_19 : decode prog_5_method_3_code 19 = .ok (.invokevirtual 40, 3) := by decide +kernel
theorem d_Law_become_22 : decode prog_5_method_3_code 22 = .ok (.aload_n 0, 1) := by decide +kernel
theorem d_Law_become_23 : decode prog_5_method_3_code 23 = .ok (.aload_n 1, 1) := by decide +kernel
theorem d_Law_become_24 : decode prog_5_method_3_code 24 = .ok (.getfield 32, 3) := by decide +kernel
theorem d_Law_become_27 : decode prog_5_method_3_code 27 = .ok (.putfield 32, 3) := by decide +kernel
theorem d_Law_become_30 : decode prog_5_method_3_code 30 = .ok (.return_, 1) := by decide +kernel
theorem d_Law_tellNight_0 : decode prog_5_method_4_code 0 = .ok (.aload_n 0, 1) := by decide +kernel
theorem d_Law_tellNight_1 : decode prog_5_method_4_code 1 = .ok (.getfield 23, 3) := by decide +kernel
theorem d_Law_tellNight_4 : decode prog_5_method_4_code 4 = .ok (.bipush 7, 2) := by decide +kernel
theorem d_Law_tellNight_6 : decode prog_5_method_4_code 6 = .ok (.iload_n 1, 1) := by decide +kernel
theorem d_Law_tellNight_7 : decode prog_5_method_4_code 7 = .ok (.invokevirtual 44, 3) := by decide +kernel
theorem d_Law_tellNight_10 : decode prog_5_method_4_code 10 = .ok (.aload_n 0, 1) := by decide +kernel
theorem d_Law_tellNight_11 : decode prog_5_method_4_code 11 = .ok (.getfield 23, 3) := by decide +kernel
theorem d_Law_tellNight_14 : decode prog_5_method_4_code 14 = .ok (.bipush 8, 2) := by decide +kernel
theorem d_Law_tellNight_16 : decode prog_5_method_4_code 16 = .ok (.iload_n 2, 1) := by decide +kernel
theorem d_Law_tellNight_17 : decode prog_5_method_4_code 17 = .ok (.invokevirtual 44, 3) := by decide +kernel
theorem d_Law_tellNight_20 : decode prog_5_method_4_code 20 = .ok (.return_, 1) := by decide +kernel
theorem d_Law_tellShip_0 : decode prog_5_method_5_code 0 = .ok (.aload_n 0, 1) := by decide +kernel
theorem d_Law_tellShip_1 : decode prog_5_method_5_code 1 = .ok (.getfield 23, 3) := by decide +kernel
theorem d_Law_tellShip_4 : decode prog_5_method_5_code 4 = .ok (.iconst 4, 1) := by decide +kernel
theorem d_Law_tellShip_5 : decode prog_5_method_5_code 5 = .ok (.aload_n 1, 1) := by decide +kernel
theorem d_Law_tellShip_6 : decode prog_5_method_5_code 6 = .ok (.getfield 47, 3) := by decide +kernel
theorem d_Law_tellShip_9 : decode prog_5_method_5_code 9 = .ok (.iload_n 2, 1) := by decide +kernel
theorem d_Law_tellShip_10 : decode prog_5_method_5_code 10 = .ok (.invokevirtual 52, 3) := by decide +kernel
theorem d_Law_tellShip_13 : decode prog_5_method_5_code 13 = .ok (.invokevirtual 44, 3) := by decide +kernel
theorem d_Law_tellShip_16 : decode prog_5_method_5_code 16 = .ok (.aload_n 0, 1) := by decide +kernel
theorem d_Law_tellShip_17 : decode prog_5_method_5_code 17 = .ok (.getfield 23, 3) := by decide +kernel
theorem d_Law_tellShip_20 : decode prog_5_method_5_code 20 = .ok (.iconst 5, 1) := by decide +kernel
theorem d_Law_tellShip_21 : decode prog_5_method_5_code 21 = .ok (.aload_n 1, 1) := by decide +kernel
theorem d_Law_tellShip_22 : decode prog_5_method_5_code 22 = .ok (.getfield 56, 3) := by decide +kernel
theorem d_Law_tellShip_25 : decode prog_5_method_5_code 25 = .ok (.iload_n 2, 1) := by decide +kernel
theorem d_Law_tellShip_26 : decode prog_5_method_5_code 26 = .ok (.invokevirtual 52, 3) := by decide +kernel
theorem d_Law_tellShip_29 : decode prog_5_method_5_code 29 = .ok (.invokevirtual 44, 3) := by decide +kernel
theorem d_Law_tellShip_32 : decode prog_5_method_5_code 32 = .ok (.aload_n 0, 1) := by decide +kernel
theorem d_Law_tellShip_33 : decode prog_5_method_5_code 33 = .ok (.getfield 23, 3) := by decide +kernel
theorem d_Law_tellShip_36 : decode prog_5_method_5_code 36 = .ok (.bipush 6, 2) := by decide +kernel
theorem d_Law_tellShip_38 : decode prog_5_method_5_code 38 = .ok (.aload_n 1, 1) := by decide +kernel
theorem d_Law_tellShip_39 : decode prog_5_method_5_code 39 = .ok (.getfield 59, 3) := by decide +kernel
theorem d_Law_tellShip_42 : decode prog_5_method_5_code 42 = .ok (.iload_n 2, 1) := by decide +kernel
theorem d_Law_tellShip_43 : decode prog_5_method_5_code 43 = .ok (.invokevirtual 52, 3) := by decide +kernel
theorem d_Law_tellShip_46 : decode prog_5_method_5_code 46 = .ok (.invokevirtual 44, 3) := by decide +kernel
theorem d_Law_tellShip_49 : decode prog_5_method_5_code 49 = .ok (.aload_n 0, 1) := by decide +kernel
theorem d_Law_tellShip_50 : decode prog_5_method_5_code 50 = .ok (.getfield 23, 3) := by decide +kernel
theorem d_Law_tellShip_53 : decode prog_5_method_5_code 53 = .ok (.iconst 0, 1) := by decide +kernel
theorem d_Law_tellShip_54 : decode prog_5_method_5_code 54 = .ok (.iload_n 3, 1) := by decide +kernel
theorem d_Law_tellShip_55 : decode prog_5_method_5_code 55 = .ok (.invokevirtual 44, 3) := by decide +kernel
theorem d_Law_tellShip_58 : decode prog_5_method_5_code 58 = .ok (.aload_n 0, 1) := by decide +kernel
theorem d_Law_tellShip_59 : decode prog_5_method_5_code 59 = .ok (.getfield 23, 3) := by decide +kernel
theorem d_Law_tellShip_62 : decode prog_5_method_5_code 62 = .ok (.iconst 1, 1) := by decide +kernel
theorem d_Law_tellShip_63 : decode prog_5_method_5_code 63 = .ok (.iload 4, 2) := by decide +kernel
theorem d_Law_tellShip_65 : decode prog_5_method_5_code 65 = .ok (.invokevirtual 44, 3) := by decide +kernel
theorem d_Law_tellShip_68 : decode prog_5_method_5_code 68 = .ok (.aload_n 0, 1) := by decide +kernel
theorem d_Law_tellShip_69 : decode prog_5_method_5_code 69 = .ok (.getfield 23, 3) := by decide +kernel
theorem d_Law_tellShip_72 : decode prog_5_method_5_code 72 = .ok (.iconst 2, 1) := by decide +kernel
theorem d_Law_tellShip_73 : decode prog_5_method_5_code 73 = .ok (.iload 5, 2) := by decide +kernel
theorem d_Law_tellShip_75 : decode prog_5_method_5_code 75 = .ok (.invokevirtual 44, 3) := by decide +kernel
theorem d_Law_tellShip_78 : decode prog_5_method_5_code 78 = .ok (.aload_n 0, 1) := by decide +kernel
theorem d_Law_tellShip_79 : decode prog_5_method_5_code 79 = .ok (.getfield 23, 3) := by decide +kernel
theorem d_Law_tellShip_82 : decode prog_5_method_5_code 82 = .ok (.iconst 3, 1) := by decide +kernel
theorem d_Law_tellShip_83 : decode prog_5_method_5_code 83 = .ok (.iload 6, 2) := by decide +kernel
theorem d_Law_tellShip_85 : decode prog_5_method_5_code 85 = .ok (.invokevirtual 44, 3) := by decide +kernel
theorem d_Law_tellShip_88 : decode prog_5_method_5_code 88 = .ok (.return_, 1) := by decide +kernel
theorem d_Law_steersIn_0 : decode prog_5_method_6_code 0 = .ok (.iconst 0, 1) := by decide +kernel
theorem d_Law_steersIn_1 : decode prog_5_method_6_code 1 = .ok (.istore_n 1, 1) := by decide +kernel
theorem d_Law_steersIn_2 : decode prog_5_method_6_code 2 = .ok (.iconst 0, 1) := by decide +kernel
theorem d_Law_steersIn_3 : decode prog_5_method_6_code 3 = .ok (.istore_n 2, 1) := by decide +kernel
theorem d_Law_steersIn_4 : decode prog_5_method_6_code 4 = .ok (.iload_n 2, 1) := by decide +kernel
theorem d_Law_steersIn_5 : decode prog_5_method_6_code 5 = .ok (.aload_n 0, 1) := by decide +kernel
theorem d_Law_steersIn_6 : decode prog_5_method_6_code 6 = .ok (.getfield 32, 3) := by decide +kernel
theorem d_Law_steersIn_9 : decode prog_5_method_6_code 9 = .ok (.if_icmp .ge 109, 3) := by decide +kernel
theorem d_Law_steersIn_12 : decode prog_5_method_6_code 12 = .ok (.aload_n 0, 1) := by decide +kernel
theorem d_Law_steersIn_13 : decode prog_5_method_6_code 13 = .ok (.getfield 14, 3) := by decide +kernel
theorem d_Law_steersIn_16 : decode prog_5_method_6_code 16 = .ok (.iload_n 2, 1) := by decide +kernel
theorem d_Law_steersIn_17 : decode prog_5_method_6_code 17 = .ok (.invokevirtual 52, 3) := by decide +kernel
theorem d_Law_steersIn_20 : decode prog_5_method_6_code 20 = .ok (.istore_n 3, 1) := by decide +kernel
theorem d_Law_steersIn_21 : decode prog_5_method_6_code 21 = .ok (.iload_n 3, 1) := by decide +kernel
theorem d_Law_steersIn_22 : decode prog_5_method_6_code 22 = .ok (.bipush 9, 2) := by decide +kernel
theorem d_Law_steersIn_24 : decode prog_5_method_6_code 24 = .ok (.if_icmp .ge 25, 3) := by decide +kernel
theorem d_Law_steersIn_27 : decode prog_5_method_6_code 27 = .ok (.aload_n 0, 1) := by decide +kernel
theorem d_Law_steersIn_28 : decode prog_5_method_6_code 28 = .ok (.getfield 26, 3) := by decide +kernel
theorem d_Law_steersIn_31 : decode prog_5_method_6_code 31 = .ok (.iload_n 1, 1) := by decide +kernel
theorem d_Law_steersIn_32 : decode prog_5_method_6_code 32 = .ok (.aload_n 0, 1) := by decide +kernel
theorem d_Law_steersIn_33 : decode prog_5_method_6_code 33 = .ok (.getfield 23, 3) := by decide +kernel
theorem d_Law_steersIn_36 : decode prog_5_method_6_code 36 = .ok (.iload_n 3, 1) := by decide +kernel
theorem d_Law_steersIn_37 : decode prog_5_method_6_code 37 = .ok (.invokevirtual 52, 3) := by decide +kernel
theorem d_Law_steersIn_40 : decode prog_5_method_6_code 40 = .ok (.invokevirtual 44, 3) := by decide +kernel
theorem d_Law_steersIn_43 : decode prog_5_method_6_code 43 = .ok (.iinc 1 1, 3) := by decide +kernel
theorem d_Law_steersIn_46 : decode prog_5_method_6_code 46 = .ok (.goto 66, 3) := by decide +kernel
theorem d_Law_steersIn_49 : decode prog_5_method_6_code 49 = .ok (.iload_n 3, 1) := by decide +kernel
theorem d_Law_steersIn_50 : decode prog_5_method_6_code 50 = .ok (.bipush 11, 2) := by decide +kernel
theorem d_Law_steersIn_52 : decode prog_5_method_6_code 52 = .ok (.if_icmp .ne 25, 3) := by decide +kernel
theorem d_Law_steersIn_55 : decode prog_5_method_6_code 55 = .ok (.aload_n 0, 1) := by decide +kernel
theorem d_Law_steersIn_56 : decode prog_5_method_6_code 56 = .ok (.getfield 26, 3) := by decide +kernel
theorem d_Law_steersIn_59 : decode prog_5_method_6_code 59 = .ok (.iload_n 1, 1) := by decide +kernel
theorem d_Law_steersIn_60 : decode prog_5_method_6_code 60 = .ok (.aload_n 0, 1) := by decide +kernel
theorem d_Law_steersIn_61 : decode prog_5_method_6_code 61 = .ok (.getfield 20, 3) := by decide +kernel
theorem d_Law_steersIn_64 : decode prog_5_method_6_code 64 = .ok (.iload_n 2, 1) := by decide +kernel
theorem d_Law_steersIn_65 : decode prog_5_method_6_code 65 = .ok (.invokevirtual 52, 3) := by decide +kernel
theorem d_Law_steersIn_68 : decode prog_5_method_6_code 68 = .ok (.invokevirtual 44, 3) := by decide +kernel
theorem d_Law_steersIn_71 : decode prog_5_method_6_code 71 = .ok (.iinc 1 1, 3) := by decide +kernel
theorem d_Law_steersIn_74 : decode prog_5_method_6_code 74 = .ok (.goto 38, 3) := by decide +kernel
theorem d_Law_steersIn_77 : decode prog_5_method_6_code 77 = .ok (.iinc 1 (-1), 3) := by decide +kernel
theorem d_Law_steersIn_80 : decode prog_5_method_6_code 80 = .ok (.aload_n 0, 1) := by decide +kernel
theorem d_Law_steersIn_81 : decode prog_5_method_6_code 81 = .ok (.getfield 26, 3) := by decide +kernel
theorem d_Law_steersIn_84 : decode prog_5_method_6_code 84 = .ok (.iload_n 1, 1) := by decide +kernel
theorem d_Law_steersIn_85 : decode prog_5_method_6_code 85 = .ok (.iconst 1, 1) := by decide +kernel
theorem d_Law_steersIn_86 : decode prog_5_method_6_code 86 = .ok (.isub, 1) := by decide +kernel
theorem d_Law_steersIn_87 : decode prog_5_method_6_code 87 = .ok (.iload_n 3, 1) := by decide +kernel
theorem d_Law_steersIn_88 : decode prog_5_method_6_code 88 = .ok (.aload_n 0, 1) := by decide +kernel
theorem d_Law_steersIn_89 : decode prog_5_method_6_code 89 = .ok (.getfield 26, 3) := by decide +kernel
theorem d_Law_steersIn_92 : decode prog_5_method_6_code 92 = .ok (.iload_n 1, 1) := by decide +kernel
theorem d_Law_steersIn_93 : decode prog_5_method_6_code 93 = .ok (.iconst 1, 1) := by decide +kernel
theorem d_Law_steersIn_94 : decode prog_5_method_6_code 94 = .ok (.isub, 1) := by decide +kernel
theorem d_Law_steersIn_95 : decode prog_5_method_6_code 95 = .ok (.invokevirtual 52, 3) := by decide +kernel
theorem d_Law_steersIn_98 : decode prog_5_method_6_code 98 = .ok (.aload_n 0, 1) := by decide +kernel
theorem d_Law_steersIn_99 : decode prog_5_method_6_code 99 = .ok (.getfield 26, 3) := by decide +kernel
theorem d_Law_steersIn_102 : decode prog_5_method_6_code 102 = .ok (.iload_n 1, 1) := by decide +kernel
theorem d_Law_steersIn_103 : decode prog_5_method_6_code 103 = .ok (.invokevirtual 52, 3) := by decide +kernel
theorem d_Law_steersIn_106 : decode prog_5_method_6_code 106 = .ok (.invokestatic 62, 3) := by decide +kernel
theorem d_Law_steersIn_109 : decode prog_5_method_6_code 109 = .ok (.invokevirtual 44, 3) := by decide +kernel
theorem d_Law_steersIn_112 : decode prog_5_method_6_code 112 = .ok (.iinc 2 1, 3) := by decide +kernel
theorem d_Law_steersIn_115 : decode prog_5_method_6_code 115 = .ok (.goto (-111), 3) := by decide +kernel
theorem d_Law_steersIn_118 : decode prog_5_method_6_code 118 = .ok (.aload_n 0, 1) := by decide +kernel
theorem d_Law_steersIn_119 : decode prog_5_method_6_code 119 = .ok (.getfield 26, 3) := by decide +kernel
theorem d_Law_steersIn_122 : decode prog_5_method_6_code 122 = .ok (.iconst 0, 1) := by decide +kernel
theorem d_Law_steersIn_123 : decode prog_5_method_6_code 123 = .ok (.invokevirtual 52, 3) := by decide +kernel
theorem d_Law_steersIn_126 : decode prog_5_method_6_code 126 = .ok (.ifCond .le 7, 3) := by decide +kernel
theorem d_Law_steersIn_129 : decode prog_5_method_6_code 129 = .ok (.iconst 1, 1) := by decide +kernel
theorem d_Law_steersIn_130 : decode prog_5_method_6_code 130 = .ok (.goto 4, 3) := by decide +kernel
theorem d_Law_steersIn_133 : decode prog_5_method_6_code 133 = .ok (.iconst 0, 1) := by decide +kernel
theorem d_Law_steersIn_134 : decode prog_5_method_6_code 134 = .ok (.ireturn, 1) := by decide +kernel
theorem d_Law_joined_0 : decode prog_5_method_7_code 0 = .ok (.iload_n 0, 1) := by decide +kernel
theorem d_Law_joined_1 : decode prog_5_method_7_code 1 = .ok (.tableswitch 89 9 16 #[83, 89, 89, 47, 51, 55, 59, 71], 47) := by decide +kernel
theorem d_Law_joined_48 : decode prog_5_method_7_code 48 = .ok (.iload_n 1, 1) := by decide +kernel
theorem d_Law_joined_49 : decode prog_5_method_7_code 49 = .ok (.iload_n 2, 1) := by decide +kernel
theorem d_Law_joined_50 : decode prog_5_method_7_code 50 = .ok (.iadd, 1) := by decide +kernel
theorem d_Law_joined_51 : decode prog_5_method_7_code 51 = .ok (.ireturn, 1) := by decide +kernel
theorem d_Law_joined_52 : decode prog_5_method_7_code 52 = .ok (.iload_n 1, 1) := by decide +kernel
theorem d_Law_joined_53 : decode prog_5_method_7_code 53 = .ok (.iload_n 2, 1) := by decide +kernel
theorem d_Law_joined_54 : decode prog_5_method_7_code 54 = .ok (.isub, 1) := by decide +kernel
theorem d_Law_joined_55 : decode prog_5_method_7_code 55 = .ok (.ireturn, 1) := by decide +kernel
theorem d_Law_joined_56 : decode prog_5_method_7_code 56 = .ok (.iload_n 1, 1) := by decide +kernel
theorem d_Law_joined_57 : decode prog_5_method_7_code 57 = .ok (.iload_n 2, 1) := by decide +kernel
theorem d_Law_joined_58 : decode prog_5_method_7_code 58 = .ok (.imul, 1) := by decide +kernel
theorem d_Law_joined_59 : decode prog_5_method_7_code 59 = .ok (.ireturn, 1) := by decide +kernel
theorem d_Law_joined_60 : decode prog_5_method_7_code 60 = .ok (.iload_n 2, 1) := by decide +kernel
theorem d_Law_joined_61 : decode prog_5_method_7_code 61 = .ok (.ifCond .ne 7, 3) := by decide +kernel
theorem d_Law_joined_64 : decode prog_5_method_7_code 64 = .ok (.iconst 0, 1) := by decide +kernel
theorem d_Law_joined_65 : decode prog_5_method_7_code 65 = .ok (.goto 6, 3) := by decide +kernel
theorem d_Law_joined_68 : decode prog_5_method_7_code 68 = .ok (.iload_n 1, 1) := by decide +kernel
theorem d_Law_joined_69 : decode prog_5_method_7_code 69 = .ok (.iload_n 2, 1) := by decide +kernel
theorem d_Law_joined_70 : decode prog_5_method_7_code 70 = .ok (.idiv, 1) := by decide +kernel
theorem d_Law_joined_71 : decode prog_5_method_7_code 71 = .ok (.ireturn, 1) := by decide +kernel
theorem d_Law_joined_72 : decode prog_5_method_7_code 72 = .ok (.iload_n 2, 1) := by decide +kernel
theorem d_Law_joined_73 : decode prog_5_method_7_code 73 = .ok (.ifCond .ne 7, 3) := by decide +kernel
theorem d_Law_joined_76 : decode prog_5_method_7_code 76 = .ok (.iconst 0, 1) := by decide +kernel
theorem d_Law_joined_77 : decode prog_5_method_7_code 77 = .ok (.goto 6, 3) := by decide +kernel
theorem d_Law_joined_80 : decode prog_5_method_7_code 80 = .ok (.iload_n 1, 1) := by decide +kernel
theorem d_Law_joined_81 : decode prog_5_method_7_code 81 = .ok (.iload_n 2, 1) := by decide +kernel
theorem d_Law_joined_82 : decode prog_5_method_7_code 82 = .ok (.irem, 1) := by decide +kernel
theorem d_Law_joined_83 : decode prog_5_method_7_code 83 = .ok (.ireturn, 1) := by decide +kernel
theorem d_Law_joined_84 : decode prog_5_method_7_code 84 = .ok (.iload_n 1, 1) := by decide +kernel
theorem d_Law_joined_85 : decode prog_5_method_7_code 85 = .ok (.iload_n 2, 1) := by decide +kernel
theorem d_Law_joined_86 : decode prog_5_method_7_code 86 = .ok (.invokestatic 66, 3) := by decide +kernel
theorem d_Law_joined_89 : decode prog_5_method_7_code 89 = .ok (.ireturn, 1) := by decide +kernel
theorem d_Law_joined_90 : decode prog_5_method_7_code 90 = .ok (.iload_n 1, 1) := by decide +kernel
theorem d_Law_joined_91 : decode prog_5_method_7_code 91 = .ok (.iload_n 2, 1) := by decide +kernel
theorem d_Law_joined_92 : decode prog_5_method_7_code 92 = .ok (.invokestatic 72, 3) := by decide +kernel
theorem d_Law_joined_95 : decode prog_5_method_7_code 95 = .ok (.ireturn, 1) := by decide +kernel
theorem d_Law_readFrom_0 : decode prog_5_method_8_code 0 = .ok (.aload_n 0, 1) := by decide +kernel
theorem d_Law_readFrom_1 : decode prog_5_method_8_code 1 = .ok (.iconst 0, 1) := by decide +kernel
theorem d_Law_readFrom_2 : decode prog_5_method_8_code 2 = .ok (.putfield 32, 3) := by decide +kernel
theorem d_Law_readFrom_5 : decode prog_5_method_8_code 5 = .ok (.aload_n 0, 1) := by decide +kernel
theorem d_Law_readFrom_6 : decode prog_5_method_8_code 6 = .ok (.aload_n 1, 1) := by decide +kernel
theorem d_Law_readFrom_7 : decode prog_5_method_8_code 7 = .ok (.iconst 0, 1) := by decide +kernel
theorem d_Law_readFrom_8 : decode prog_5_method_8_code 8 = .ok (.invokevirtual 75, 3) := by decide +kernel
theorem d_Law_readFrom_11 : decode prog_5_method_8_code 11 = .ok (.aload_n 1, 1) := by decide +kernel
theorem d_Law_readFrom_12 : decode prog_5_method_8_code 12 = .ok (.aload_n 1, 1) := by decide +kernel
theorem d_Law_readFrom_13 : decode prog_5_method_8_code 13 = .ok (.invokevirtual 79, 3) := by decide +kernel
theorem d_Law_readFrom_16 : decode prog_5_method_8_code 16 = .ok (.invokevirtual 85, 3) := by decide +kernel
theorem d_Law_readFrom_19 : decode prog_5_method_8_code 19 = .ok (.return_, 1) := by decide +kernel
theorem d_Law_emit_0 : decode prog_5_method_9_code 0 = .ok (.aload_n 0, 1) := by decide +kernel
theorem d_Law_emit_1 : decode prog_5_method_9_code 1 = .ok (.getfield 14, 3) := by decide +kernel
theorem d_Law_emit_4 : decode prog_5_method_9_code 4 = .ok (.aload_n 0, 1) := by decide +kernel
theorem d_Law_emit_5 : decode prog_5_method_9_code 5 = .ok (.getfield 32, 3) := by decide +kernel
theorem d_Law_emit_8 : decode prog_5_method_9_code 8 = .ok (.iload_n 1, 1) := by decide +kernel
theorem d_Law_emit_9 : decode prog_5_method_9_code 9 = .ok (.invokevirtual 44, 3) := by decide +kernel
theorem d_Law_emit_12 : decode prog_5_method_9_code 12 = .ok (.aload_n 0, 1) := by decide +kernel
theorem d_Law_emit_13 : decode prog_5_method_9_code 13 = .ok (.getfield 20, 3) := by decide +kernel
theorem d_Law_emit_16 : decode prog_5_method_9_code 16 = .ok (.aload_n 0, 1) := by decide +kernel
theorem d_Law_emit_17 : decode prog_5_method_9_code 17 = .ok (.getfield 32, 3) := by decide +kernel
theorem d_Law_emit_20 : decode prog_5_method_9_code 20 = .ok (.iload_n 2, 1) := by decide +kernel
theorem d_Law_emit_21 : decode prog_5_method_9_code 21 = .ok (.invokevirtual 44, 3) := by decide +kernel
theorem d_Law_emit_24 : decode prog_5_method_9_code 24 = .ok (.aload_n 0, 1) := by decide +kernel
theorem d_Law_emit_25 : decode prog_5_method_9_code 25 = .ok (.dup, 1) := by decide +kernel
theorem d_Law_emit_26 : decode prog_5_method_9_code 26 = .ok (.getfield 32, 3) := by decide +kernel
theorem d_Law_emit_29 : decode prog_5_method_9_code 29 = .ok (.iconst 1, 1) := by decide +kernel
theorem d_Law_emit_30 : decode prog_5_method_9_code 30 = .ok (.iadd, 1) := by decide +kernel
theorem d_Law_emit_31 : decode prog_5_method_9_code 31 = .ok (.putfield 32, 3) := by decide +kernel
theorem d_Law_emit_34 : decode prog_5_method_9_code 34 = .ok (.return_, 1) := by decide +kernel
theorem d_Law_readSum_0 : decode prog_5_method_10_code 0 = .ok (.aload_n 0, 1) := by decide +kernel
theorem d_Law_readSum_1 : decode prog_5_method_10_code 1 = .ok (.aload_n 1, 1) := by decide +kernel
theorem d_Law_readSum_2 : decode prog_5_method_10_code 2 = .ok (.iload_n 2, 1) := by decide +kernel
theorem d_Law_readSum_3 : decode prog_5_method_10_code 3 = .ok (.invokevirtual 89, 3) := by decide +kernel
theorem d_Law_readSum_6 : decode prog_5_method_10_code 6 = .ok (.iconst 0, 1) := by decide +kernel
theorem d_Law_readSum_7 : decode prog_5_method_10_code 7 = .ok (.istore_n 3, 1) := by decide +kernel
theorem d_Law_readSum_8 : decode prog_5_method_10_code 8 = .ok (.iload_n 3, 1) := by decide +kernel
theorem d_Law_readSum_9 : decode prog_5_method_10_code 9 = .ok (.sipush 150, 3) := by decide +kernel
theorem d_Law_readSum_12 : decode prog_5_method_10_code 12 = .ok (.if_icmp .ge 67, 3) := by decide +kernel
theorem d_Law_readSum_15 : decode prog_5_method_10_code 15 = .ok (.aload_n 1, 1) := by decide +kernel
theorem d_Law_readSum_16 : decode prog_5_method_10_code 16 = .ok (.invokevirtual 92, 3) := by decide +kernel
theorem d_Law_readSum_19 : decode prog_5_method_10_code 19 = .ok (.ifCond .eq 60, 3) := by decide +kernel
theorem d_Law_readSum_22 : decode prog_5_method_10_code 22 = .ok (.aload_n 1, 1) := by decide +kernel
theorem d_Law_readSum_23 : decode prog_5_method_10_code 23 = .ok (.bipush 43, 2) := by decide +kernel
theorem d_Law_readSum_25 : decode prog_5_method_10_code 25 = .ok (.invokevirtual 95, 3) := by decide +kernel
theorem d_Law_readSum_28 : decode prog_5_method_10_code 28 = .ok (.ifCond .eq 8, 3) := by decide +kernel
theorem d_Law_readSum_31 : decode prog_5_method_10_code 31 = .ok (.bipush 12, 2) := by decide +kernel
theorem d_Law_readSum_33 : decode prog_5_method_10_code 33 = .ok (.goto 18, 3) := by decide +kernel
theorem d_Law_readSum_36 : decode prog_5_method_10_code 36 = .ok (.aload_n 1, 1) := by decide +kernel
theorem d_Law_readSum_37 : decode prog_5_method_10_code 37 = .ok (.bipush 45, 2) := by decide +kernel
theorem d_Law_readSum_39 : decode prog_5_method_10_code 39 = .ok (.invokevirtual 95, 3) := by decide +kernel
theorem d_Law_readSum_42 : decode prog_5_method_10_code 42 = .ok (.ifCond .eq 8, 3) := by decide +kernel
theorem d_Law_readSum_45 : decode prog_5_method_10_code 45 = .ok (.bipush 13, 2) := by decide +kernel
theorem d_Law_readSum_47 : decode prog_5_method_10_code 47 = .ok (.goto 4, 3) := by decide +kernel
theorem d_Law_readSum_50 : decode prog_5_method_10_code 50 = .ok (.iconst (-1), 1) := by decide +kernel
theorem d_Law_readSum_51 : decode prog_5_method_10_code 51 = .ok (.istore 4, 2) := by decide +kernel
theorem d_Law_readSum_53 : decode prog_5_method_10_code 53 = .ok (.iload 4, 2) := by decide +kernel
theorem d_Law_readSum_55 : decode prog_5_method_10_code 55 = .ok (.iconst (-1), 1) := by decide +kernel
theorem d_Law_readSum_56 : decode prog_5_method_10_code 56 = .ok (.if_icmp .ne 4, 3) := by decide +kernel
theorem d_Law_readSum_59 : decode prog_5_method_10_code 59 = .ok (.return_, 1) := by decide +kernel
theorem d_Law_readSum_60 : decode prog_5_method_10_code 60 = .ok (.aload_n 0, 1) := by decide +kernel
theorem d_Law_readSum_61 : decode prog_5_method_10_code 61 = .ok (.aload_n 1, 1) := by decide +kernel
theorem d_Law_readSum_62 : decode prog_5_method_10_code 62 = .ok (.iload_n 2, 1) := by decide +kernel
theorem d_Law_readSum_63 : decode prog_5_method_10_code 63 = .ok (.invokevirtual 89, 3) := by decide +kernel
theorem d_Law_readSum_66 : decode prog_5_method_10_code 66 = .ok (.aload_n 0, 1) := by decide +kernel
theorem d_Law_readSum_67 : decode prog_5_method_10_code 67 = .ok (.iload 4, 2) := by decide +kernel
theorem d_Law_readSum_69 : decode prog_5_method_10_code 69 = .ok (.iconst 0, 1) := by decide +kernel
theorem d_Law_readSum_70 : decode prog_5_method_10_code 70 = .ok (.invokevirtual 36, 3) := by decide +kernel
theorem d_Law_readSum_73 : decode prog_5_method_10_code 73 = .ok (.iinc 3 1, 3) := by decide +kernel
theorem d_Law_readSum_76 : decode prog_5_method_10_code 76 = .ok (.goto (-68), 3) := by decide +kernel
theorem d_Law_readSum_79 : decode prog_5_method_10_code 79 = .ok (.return_, 1) := by decide +kernel
theorem d_Law_readProduct_0 : decode prog_5_method_11_code 0 = .ok (.aload_n 0, 1) := by decide +kernel
theorem d_Law_readProduct_1 : decode prog_5_method_11_code 1 = .ok (.aload_n 1, 1) := by decide +kernel
theorem d_Law_readProduct_2 : decode prog_5_method_11_code 2 = .ok (.iload_n 2, 1) := by decide +kernel
theorem d_Law_readProduct_3 : decode prog_5_method_11_code 3 = .ok (.invokevirtual 99, 3) := by decide +kernel
theorem d_Law_readProduct_6 : decode prog_5_method_11_code 6 = .ok (.iconst 0, 1) := by decide +kernel
theorem d_Law_readProduct_7 : decode prog_5_method_11_code 7 = .ok (.istore_n 3, 1) := by decide +kernel
theorem d_Law_readProduct_8 : decode prog_5_method_11_code 8 = .ok (.iload_n 3, 1) := by decide +kernel
theorem d_Law_readProduct_9 : decode prog_5_method_11_code 9 = .ok (.sipush 150, 3) := by decide +kernel
theorem d_Law_readProduct_12 : decode prog_5_method_11_code 12 = .ok (.if_icmp .ge 81, 3) := by decide +kernel
theorem d_Law_readProduct_15 : decode prog_5_method_11_code 15 = .ok (.aload_n 1, 1) := by decide +kernel
theorem d_Law_readProduct_16 : decode prog_5_method_11_code 16 = .ok (.invokevirtual 92, 3) := by decide +kernel
theorem d_Law_readProduct_19 : decode prog_5_method_11_code 19 = .ok (.ifCond .eq 74, 3) := by decide +kernel
theorem d_Law_readProduct_22 : decode prog_5_method_11_code 22 = .ok (.aload_n 1, 1) := by decide +kernel
theorem d_Law_readProduct_23 : decode prog_5_method_11_code 23 = .ok (.bipush 42, 2) := by decide +kernel
theorem d_Law_readProduct_25 : decode prog_5_method_11_code 25 = .ok (.invokevirtual 95, 3) := by decide +kernel
theorem d_Law_readProduct_28 : decode prog_5_method_11_code 28 = .ok (.ifCond .eq 8, 3) := by decide +kernel
theorem d_Law_readProduct_31 : decode prog_5_method_11_code 31 = .ok (.bipush 14, 2) := by decide +kernel
theorem d_Law_readProduct_33 : decode prog_5_method_11_code 33 = .ok (.goto 32, 3) := by decide +kernel
theorem d_Law_readProduct_36 : decode prog_5_method_11_code 36 = .ok (.aload_n 1, 1) := by decide +kernel
theorem d_Law_readProduct_37 : decode prog_5_method_11_code 37 = .ok (.bipush 47, 2) := by decide +kernel
theorem d_Law_readProduct_39 : decode prog_5_method_11_code 39 = .ok (.invokevirtual 95, 3) := by decide +kernel
theorem d_Law_readProduct_42 : decode prog_5_method_11_code 42 = .ok (.ifCond .eq 8, 3) := by decide +kernel
theorem d_Law_readProduct_45 : decode prog_5_method_11_code 45 = .ok (.bipush 15, 2) := by decide +kernel
theorem d_Law_readProduct_47 : decode prog_5_method_11_code 47 = .ok (.goto 18, 3) := by decide +kernel
theorem d_Law_readProduct_50 : decode prog_5_method_11_code 50 = .ok (.aload_n 1, 1) := by decide +kernel
theorem d_Law_readProduct_51 : decode prog_5_method_11_code 51 = .ok (.bipush 37, 2) := by decide +kernel
theorem d_Law_readProduct_53 : decode prog_5_method_11_code 53 = .ok (.invokevirtual 95, 3) := by decide +kernel
theorem d_Law_readProduct_56 : decode prog_5_method_11_code 56 = .ok (.ifCond .eq 8, 3) := by decide +kernel
theorem d_Law_readProduct_59 : decode prog_5_method_11_code 59 = .ok (.bipush 16, 2) := by decide +kernel
theorem d_Law_readProduct_61 : decode prog_5_method_11_code 61 = .ok (.goto 4, 3) := by decide +kernel
theorem d_Law_readProduct_64 : decode prog_5_method_11_code 64 = .ok (.iconst (-1), 1) := by decide +kernel
theorem d_Law_readProduct_65 : decode prog_5_method_11_code 65 = .ok (.istore 4, 2) := by decide +kernel
theorem d_Law_readProduct_67 : decode prog_5_method_11_code 67 = .ok (.iload 4, 2) := by decide +kernel
theorem d_Law_readProduct_69 : decode prog_5_method_11_code 69 = .ok (.iconst (-1), 1) := by decide +kernel
theorem d_Law_readProduct_70 : decode prog_5_method_11_code 70 = .ok (.if_icmp .ne 4, 3) := by decide +kernel
theorem d_Law_readProduct_73 : decode prog_5_method_11_code 73 = .ok (.return_, 1) := by decide +kernel
theorem d_Law_readProduct_74 : decode prog_5_method_11_code 74 = .ok (.aload_n 0, 1) := by decide +kernel
theorem d_Law_readProduct_75 : decode prog_5_method_11_code 75 = .ok (.aload_n 1, 1) := by decide +kernel
theorem d_Law_readProduct_76 : decode prog_5_method_11_code 76 = .ok (.iload_n 2, 1) := by decide +kernel
theorem d_Law_readProduct_77 : decode prog_5_method_11_code 77 = .ok (.invokevirtual 99, 3) := by decide +kernel
theorem d_Law_readProduct_80 : decode prog_5_method_11_code 80 = .ok (.aload_n 0, 1) := by decide +kernel
theorem d_Law_readProduct_81 : decode prog_5_method_11_code 81 = .ok (.iload 4, 2) := by decide +kernel
theorem d_Law_readProduct_83 : decode prog_5_method_11_code 83 = .ok (.iconst 0, 1) := by decide +kernel
theorem d_Law_readProduct_84 : decode prog_5_method_11_code 84 = .ok (.invokevirtual 36, 3) := by decide +kernel
theorem d_Law_readProduct_87 : decode prog_5_method_11_code 87 = .ok (.iinc 3 1, 3) := by decide +kernel
theorem d_Law_readProduct_90 : decode prog_5_method_11_code 90 = .ok (.goto (-82), 3) := by decide +kernel
theorem d_Law_readProduct_93 : decode prog_5_method_11_code 93 = .ok (.return_, 1) := by decide +kernel
theorem d_Law_readPart_0 : decode prog_5_method_12_code 0 = .ok (.aload_n 1, 1) := by decide +kernel
theorem d_Law_readPart_1 : decode prog_5_method_12_code 1 = .ok (.invokevirtual 92, 3) := by decide +kernel
theorem d_Law_readPart_4 : decode prog_5_method_12_code 4 = .ok (.ifCond .ne 4, 3) := by decide +kernel
theorem d_Law_readPart_7 : decode prog_5_method_12_code 7 = .ok (.return_, 1) := by decide +kernel
theorem d_Law_readPart_8 : decode prog_5_method_12_code 8 = .ok (.aload_n 1, 1) := by decide +kernel
theorem d_Law_readPart_9 : decode prog_5_method_12_code 9 = .ok (.invokevirtual 102, 3) := by decide +kernel
theorem d_Law_readPart_12 : decode prog_5_method_12_code 12 = .ok (.ifCond .eq 18, 3) := by decide +kernel
theorem d_Law_readPart_15 : decode prog_5_method_12_code 15 = .ok (.aload_n 0, 1) := by decide +kernel
theorem d_Law_readPart_16 : decode prog_5_method_12_code 16 = .ok (.bipush 11, 2) := by decide +kernel
theorem d_Law_readPart_18 : decode prog_5_method_12_code 18 = .ok (.aload_n 1, 1) := by decide +kernel
theorem d_Law_readPart_19 : decode prog_5_method_12_code 19 = .ok (.iconst 0, 1) := by decide +kernel
theorem d_Law_readPart_20 : decode prog_5_method_12_code 20 = .ok (.sipush 999, 3) := by decide +kernel
theorem d_Law_readPart_23 : decode prog_5_method_12_code 23 = .ok (.invokevirtual 105, 3) := by decide +kernel
theorem d_Law_readPart_26 : decode prog_5_method_12_code 26 = .ok (.invokevirtual 36, 3) := by decide +kernel
theorem d_Law_readPart_29 : decode prog_5_method_12_code 29 = .ok (.return_, 1) := by decide +kernel
theorem d_Law_readPart_30 : decode prog_5_method_12_code 30 = .ok (.aload_n 1, 1) := by decide +kernel
theorem d_Law_readPart_31 : decode prog_5_method_12_code 31 = .ok (.bipush 40, 2) := by decide +kernel
theorem d_Law_readPart_33 : decode prog_5_method_12_code 33 = .ok (.invokevirtual 95, 3) := by decide +kernel
theorem d_Law_readPart_36 : decode prog_5_method_12_code 36 = .ok (.ifCond .eq 30, 3) := by decide +kernel
theorem d_Law_readPart_39 : decode prog_5_method_12_code 39 = .ok (.aload_n 1, 1) := by decide +kernel
theorem d_Law_readPart_40 : decode prog_5_method_12_code 40 = .ok (.iload_n 2, 1) := by decide +kernel
theorem d_Law_readPart_41 : decode prog_5_method_12_code 41 = .ok (.invokestatic 108, 3) := by decide +kernel
theorem d_Law_readPart_44 : decode prog_5_method_12_code 44 = .ok (.ifCond .eq 21, 3) := by decide +kernel
theorem d_Law_readPart_47 : decode prog_5_method_12_code 47 = .ok (.aload_n 0, 1) := by decide +kernel
theorem d_Law_readPart_48 : decode prog_5_method_12_code 48 = .ok (.aload_n 1, 1) := by decide +kernel
theorem d_Law_readPart_49 : decode prog_5_method_12_code 49 = .ok (.iload_n 2, 1) := by decide +kernel
theorem d_Law_readPart_50 : decode prog_5_method_12_code 50 = .ok (.iconst 1, 1) := by decide +kernel
theorem d_Law_readPart_51 : decode prog_5_method_12_code 51 = .ok (.iadd, 1) := by decide +kernel
theorem d_Law_readPart_52 : decode prog_5_method_12_code 52 = .ok (.invokevirtual 75, 3) := by decide +kernel
theorem d_Law_readPart_55 : decode prog_5_method_12_code 55 = .ok (.aload_n 1, 1) := by decide +kernel
theorem d_Law_readPart_56 : decode prog_5_method_12_code 56 = .ok (.aload_n 1, 1) := by decide +kernel
theorem d_Law_readPart_57 : decode prog_5_method_12_code 57 = .ok (.bipush 41, 2) := by decide +kernel
theorem d_Law_readPart_59 : decode prog_5_method_12_code 59 = .ok (.invokevirtual 95, 3) := by decide +kernel
theorem d_Law_readPart_62 : decode prog_5_method_12_code 62 = .ok (.invokevirtual 85, 3) := by decide +kernel
theorem d_Law_readPart_65 : decode prog_5_method_12_code 65 = .ok (.return_, 1) := by decide +kernel
theorem d_Law_readPart_66 : decode prog_5_method_12_code 66 = .ok (.aload_n 1, 1) := by decide +kernel
theorem d_Law_readPart_67 : decode prog_5_method_12_code 67 = .ok (.ldc 112, 2) := by decide +kernel
theorem d_Law_readPart_69 : decode prog_5_method_12_code 69 = .ok (.invokevirtual 114, 3) := by decide +kernel
theorem d_Law_readPart_72 : decode prog_5_method_12_code 72 = .ok (.istore_n 3, 1) := by decide +kernel
theorem d_Law_readPart_73 : decode prog_5_method_12_code 73 = .ok (.iload_n 3, 1) := by decide +kernel
theorem d_Law_readPart_74 : decode prog_5_method_12_code 74 = .ok (.bipush 9, 2) := by decide +kernel
theorem d_Law_readPart_76 : decode prog_5_method_12_code 76 = .ok (.if_icmp .lt 57, 3) := by decide +kernel
theorem d_Law_readPart_79 : decode prog_5_method_12_code 79 = .ok (.aload_n 1, 1) := by decide +kernel
theorem d_Law_readPart_80 : decode prog_5_method_12_code 80 = .ok (.iload_n 2, 1) := by decide +kernel
theorem d_Law_readPart_81 : decode prog_5_method_12_code 81 = .ok (.invokestatic 108, 3) := by decide +kernel
theorem d_Law_readPart_84 : decode prog_5_method_12_code 84 = .ok (.ifCond .eq 49, 3) := by decide +kernel
theorem d_Law_readPart_87 : decode prog_5_method_12_code 87 = .ok (.aload_n 1, 1) := by decide +kernel
theorem d_Law_readPart_88 : decode prog_5_method_12_code 88 = .ok (.aload_n 1, 1) := by decide +kernel
theorem d_Law_readPart_89 : decode prog_5_method_12_code 89 = .ok (.bipush 91, 2) := by decide +kernel
theorem d_Law_readPart_91 : decode prog_5_method_12_code 91 = .ok (.invokevirtual 95, 3) := by decide +kernel
theorem d_Law_readPart_94 : decode prog_5_method_12_code 94 = .ok (.invokevirtual 85, 3) := by decide +kernel
theorem d_Law_readPart_97 : decode prog_5_method_12_code 97 = .ok (.aload_n 0, 1) := by decide +kernel
theorem d_Law_readPart_98 : decode prog_5_method_12_code 98 = .ok (.aload_n 1, 1) := by decide +kernel
theorem d_Law_readPart_99 : decode prog_5_method_12_code 99 = .ok (.iload_n 2, 1) := by decide +kernel
theorem d_Law_readPart_100 : decode prog_5_method_12_code 100 = .ok (.iconst 1, 1) := by decide +kernel
theorem d_Law_readPart_101 : decode prog_5_method_12_code 101 = .ok (.iadd, 1) := by decide +kernel
theorem d_Law_readPart_102 : decode prog_5_method_12_code 102 = .ok (.invokevirtual 75, 3) := by decide +kernel
theorem d_Law_readPart_105 : decode prog_5_method_12_code 105 = .ok (.aload_n 1, 1) := by decide +kernel
theorem d_Law_readPart_106 : decode prog_5_method_12_code 106 = .ok (.aload_n 1, 1) := by decide +kernel
theorem d_Law_readPart_107 : decode prog_5_method_12_code 107 = .ok (.bipush 44, 2) := by decide +kernel
theorem d_Law_readPart_109 : decode prog_5_method_12_code 109 = .ok (.invokevirtual 95, 3) := by decide +kernel
theorem d_Law_readPart_112 : decode prog_5_method_12_code 112 = .ok (.invokevirtual 85, 3) := by decide +kernel
theorem d_Law_readPart_115 : decode prog_5_method_12_code 115 = .ok (.aload_n 0, 1) := by decide +kernel
theorem d_Law_readPart_116 : decode prog_5_method_12_code 116 = .ok (.aload_n 1, 1) := by decide +kernel
theorem d_Law_readPart_117 : decode prog_5_method_12_code 117 = .ok (.iload_n 2, 1) := by decide +kernel
theorem d_Law_readPart_118 : decode prog_5_method_12_code 118 = .ok (.iconst 1, 1) := by decide +kernel
theorem d_Law_readPart_119 : decode prog_5_method_12_code 119 = .ok (.iadd, 1) := by decide +kernel
theorem d_Law_readPart_120 : decode prog_5_method_12_code 120 = .ok (.invokevirtual 75, 3) := by decide +kernel
theorem d_Law_readPart_123 : decode prog_5_method_12_code 123 = .ok (.aload_n 1, 1) := by decide +kernel
theorem d_Law_readPart_124 : decode prog_5_method_12_code 124 = .ok (.aload_n 1, 1) := by decide +kernel
theorem d_Law_readPart_125 : decode prog_5_method_12_code 125 = .ok (.bipush 93, 2) := by decide +kernel
theorem d_Law_readPart_127 : decode prog_5_method_12_code 127 = .ok (.invokevirtual 95, 3) := by decide +kernel
theorem d_Law_readPart_130 : decode prog_5_method_12_code 130 = .ok (.invokevirtual 85, 3) := by decide +kernel
theorem d_Law_readPart_133 : decode prog_5_method_12_code 133 = .ok (.aload_n 0, 1) := by decide +kernel
theorem d_Law_readPart_134 : decode prog_5_method_12_code 134 = .ok (.iload_n 3, 1) := by decide +kernel
theorem d_Law_readPart_135 : decode prog_5_method_12_code 135 = .ok (.iconst 0, 1) := by decide +kernel
theorem d_Law_readPart_136 : decode prog_5_method_12_code 136 = .ok (.invokevirtual 36, 3) := by decide +kernel
theorem d_Law_readPart_139 : decode prog_5_method_12_code 139 = .ok (.return_, 1) := by decide +kernel
theorem d_Law_mayOpen_0 : decode prog_5_method_13_code 0 = .ok (.iload_n 1, 1) := by decide +kernel
theorem d_Law_mayOpen_1 : decode prog_5_method_13_code 1 = .ok (.bipush 6, 2) := by decide +kernel
theorem d_Law_mayOpen_3 : decode prog_5_method_13_code 3 = .ok (.if_icmp .lt 8, 3) := by decide +kernel
theorem d_Law_mayOpen_6 : decode prog_5_method_13_code 6 = .ok (.aload_n 0, 1) := by decide +kernel
theorem d_Law_mayOpen_7 : decode prog_5_method_13_code 7 = .ok (.iconst 3, 1) := by decide +kernel
theorem d_Law_mayOpen_8 : decode prog_5_method_13_code 8 = .ok (.invokevirtual 118, 3) := by decide +kernel
theorem d_Law_mayOpen_11 : decode prog_5_method_13_code 11 = .ok (.aload_n 0, 1) := by decide +kernel
theorem d_Law_mayOpen_12 : decode prog_5_method_13_code 12 = .ok (.invokevirtual 92, 3) := by decide +kernel
theorem d_Law_mayOpen_15 : decode prog_5_method_13_code 15 = .ok (.ireturn, 1) := by decide +kernel
theorem d_Nights_init_0 : decode prog_6_method_1_code 0 = .ok (.aload_n 0, 1) := by decide +kernel
theorem d_Nights_init_1 : decode prog_6_method_1_code 1 = .ok (.invokespecial 5, 3) := by decide +kernel
theorem d_Nights_init_4 : decode prog_6_method_1_code 4 = .ok (.aload_n 0, 1) := by decide +kernel
theorem d_Nights_init_5 : decode prog_6_method_1_code 5 = .ok (.new 11, 3) := by decide +kernel
theorem d_Nights_init_8 : decode prog_6_method_1_code 8 = .ok (.dup, 1) := by decide +kernel
theorem d_Nights_init_9 : decode prog_6_method_1_code 9 = .ok (.bipush 29, 2) := by decide +kernel
theorem d_Nights_init_11 : decode prog_6_method_1_code 11 = .ok (.invokespecial 13, 3) := by decide +kernel
theorem d_Nights_init_14 : decode prog_6_method_1_code 14 = .ok (.putfield 16, 3) := by decide +kernel
theorem d_Nights_init_17 : decode prog_6_method_1_code 17 = .ok (.return_, 1) := by decide +kernel
theorem d_Nights_reset_0 : decode prog_6_method_2_code 0 = .ok (.aload_n 0, 1) := by decide +kernel
theorem d_Nights_reset_1 : decode prog_6_method_2_code 1 = .ok (.getfield 16, 3) := by decide +kernel
theorem d_Nights_reset_4 : decode prog_6_method_2_code 4 = .ok (.invokevirtual 20, 3) := by decide +kernel
theorem d_Nights_reset_7 : decode prog_6_method_2_code 7 = .ok (.aload_n 0, 1) := by decide +kernel
theorem d_Nights_reset_8 : decode prog_6_method_2_code 8 = .ok (.getfield 16, 3) := by decide +kernel
theorem d_Nights_reset_11 : decode prog_6_method_2_code 11 = .ok (.bipush 6, 2) := by decide +kernel
theorem d_Nights_reset_13 : decode prog_6_method_2_code 13 = .ok (.iconst 1, 1) := by decide +kernel
theorem d_Nights_reset_14 : decode prog_6_method_2_code 14 = .ok (.aload_n 1, 1) := by decide +kernel
theorem d_Nights_reset_15 : decode prog_6_method_2_code 15 = .ok (.getfield 23, 3) := by decide +kernel
theorem d_Nights_reset_18 : decode prog_6_method_2_code 18 = .ok (.iconst 1, 1) := by decide +kernel
theorem d_Nights_reset_19 : decode prog_6_method_2_code 19 = .ok (.invokevirtual 28, 3) := by decide +kernel
theorem d_Nights_reset_22 : decode prog_6_method_2_code 22 = .ok (.ishl, 1) := by decide +kernel
theorem d_Nights_reset_23 : decode prog_6_method_2_code 23 = .ok (.iconst 1, 1) := by decide +kernel
theorem d_Nights_reset_24 : decode prog_6_method_2_code 24 = .ok (.isub, 1) := by decide +kernel
theorem d_Nights_reset_25 : decode prog_6_method_2_code 25 = .ok (.invokevirtual 32, 3) := by decide +kernel
theorem d_Nights_reset_28 : decode prog_6_method_2_code 28 = .ok (.iconst 0, 1) := by decide +kernel
theorem d_Nights_reset_29 : decode prog_6_method_2_code 29 = .ok (.istore_n 2, 1) := by decide +kernel
theorem d_Nights_reset_30 : decode prog_6_method_2_code 30 = .ok (.iload_n 2, 1) := by decide +kernel
theorem d_Nights_reset_31 : decode prog_6_method_2_code 31 = .ok (.aload_n 1, 1) := by decide +kernel
theorem d_Nights_reset_32 : decode prog_6_method_2_code 32 = .ok (.getfield 23, 3) := by decide +kernel
theorem d_Nights_reset_35 : decode prog_6_method_2_code 35 = .ok (.iconst 2, 1) := by decide +kernel
theorem d_Nights_reset_36 : decode prog_6_method_2_code 36 = .ok (.invokevirtual 28, 3) := by decide +kernel
theorem d_Nights_reset_39 : decode prog_6_method_2_code 39 = .ok (.if_icmp .ge 28, 3) := by decide +kernel
theorem d_Nights_reset_42 : decode prog_6_method_2_code 42 = .ok (.aload_n 0, 1) := by decide +kernel
theorem d_Nights_reset_43 : decode prog_6_method_2_code 43 = .ok (.getfield 16, 3) := by decide +kernel
theorem d_Nights_reset_46 : decode prog_6_method_2_code 46 = .ok (.bipush 8, 2) := by decide +kernel
theorem d_Nights_reset_48 : decode prog_6_method_2_code 48 = .ok (.iload_n 2, 1) := by decide +kernel
theorem d_Nights_reset_49 : decode prog_6_method_2_code 49 = .ok (.iadd, 1) := by decide +kernel
theorem d_Nights_reset_50 : decode prog_6_method_2_code 50 = .ok (.aload_n 1, 1) := by decide +kernel
theorem d_Nights_reset_51 : decode prog_6_method_2_code 51 = .ok (.getfield 36, 3) := by decide +kernel
theorem d_Nights_reset_54 : decode prog_6_method_2_code 54 = .ok (.iload_n 2, 1) := by decide +kernel
theorem d_Nights_reset_55 : decode prog_6_method_2_code 55 = .ok (.invokevirtual 28, 3) := by decide +kernel
theorem d_Nights_reset_58 : decode prog_6_method_2_code 58 = .ok (.invokevirtual 32, 3) := by decide +kernel
theorem d_Nights_reset_61 : decode prog_6_method_2_code 61 = .ok (.iinc 2 1, 3) := by decide +kernel
theorem d_Nights_reset_64 : decode prog_6_method_2_code 64 = .ok (.goto (-34), 3) := by decide +kernel
theorem d_Nights_reset_67 : decode prog_6_method_2_code 67 = .ok (.return_, 1) := by decide +kernel
theorem d_Nights_get_0 : decode prog_6_method_3_code 0 = .ok (.aload_n 0, 1) := by decide +kernel
theorem d_Nights_get_1 : decode prog_6_method_3_code 1 = .ok (.getfield 16, 3) := by decide +kernel
theorem d_Nights_get_4 : decode prog_6_method_3_code 4 = .ok (.iload_n 1, 1) := by decide +kernel
theorem d_Nights_get_5 : decode prog_6_method_3_code 5 = .ok (.invokevirtual 28, 3) := by decide +kernel
theorem d_Nights_get_8 : decode prog_6_method_3_code 8 = .ok (.ireturn, 1) := by decide +kernel
theorem d_Nights_forgetWrecks_0 : decode prog_6_method_4_code 0 = .ok (.aload_n 0, 1) := by decide +kernel
theorem d_Nights_forgetWrecks_1 : decode prog_6_method_4_code 1 = .ok (.getfield 16, 3) := by decide +kernel
theorem d_Nights_forgetWrecks_4 : decode prog_6_method_4_code 4 = .ok (.iconst 2, 1) := by decide +kernel
theorem d_Nights_forgetWrecks_5 : decode prog_6_method_4_code 5 = .ok (.iconst 0, 1) := by decide +kernel
theorem d_Nights_forgetWrecks_6 : decode prog_6_method_4_code 6 = .ok (.invokevirtual 32, 3) := by decide +kernel
theorem d_Nights_forgetWrecks_9 : decode prog_6_method_4_code 9 = .ok (.aload_n 0, 1) := by decide +kernel
theorem d_Nights_forgetWrecks_10 : decode prog_6_method_4_code 10 = .ok (.getfield 16, 3) := by decide +kernel
theorem d_Nights_forgetWrecks_13 : decode prog_6_method_4_code 13 = .ok (.iconst 3, 1) := by decide +kernel
theorem d_Nights_forgetWrecks_14 : decode prog_6_method_4_code 14 = .ok (.iconst 0, 1) := by decide +kernel
theorem d_Nights_forgetWrecks_15 : decode prog_6_method_4_code 15 = .ok (.invokevirtual 32, 3) := by decide +kernel
theorem d_Nights_forgetWrecks_18 : decode prog_6_method_4_code 18 = .ok (.aload_n 0, 1) := by decide +kernel
theorem d_Nights_forgetWrecks_19 : decode prog_6_method_4_code 19 = .ok (.getfield 16, 3) := by decide +kernel
theorem d_Nights_forgetWrecks_22 : decode prog_6_method_4_code 22 = .ok (.iconst 4, 1) := by decide +kernel
theorem d_Nights_forgetWrecks_23 : decode prog_6_method_4_code 23 = .ok (.iconst 0, 1) := by decide +kernel
theorem d_Nights_forgetWrecks_24 : decode prog_6_method_4_code 24 = .ok (.invokevirtual 32, 3) := by decide +kernel
theorem d_Nights_forgetWrecks_27 : decode prog_6_method_4_code 27 = .ok (.aload_n 0, 1) := by decide +kernel
theorem d_Nights_forgetWrecks_28 : decode prog_6_method_4_code 28 = .ok (.getfield 16, 3) := by decide +kernel
theorem d_Nights_forgetWrecks_31 : decode prog_6_method_4_code 31 = .ok (.iconst 5, 1) := by decide +kernel
theorem d_Nights_forgetWrecks_32 : decode prog_6_method_4_code 32 = .ok (.iconst 0, 1) := by decide +kernel
theorem d_Nights_forgetWrecks_33 : decode prog_6_method_4_code 33 = .ok (.invokevirtual 32, 3) := by decide +kernel
theorem d_Nights_forgetWrecks_36 : decode prog_6_method_4_code 36 = .ok (.return_, 1) := by decide +kernel
theorem d_Nights_burns_0 : decode prog_6_method_5_code 0 = .ok (.aload_n 0, 1) := by decide +kernel
theorem d_Nights_burns_1 : decode prog_6_method_5_code 1 = .ok (.getfield 16, 3) := by decide +kernel
theorem d_Nights_burns_4 : decode prog_6_method_5_code 4 = .ok (.bipush 6, 2) := by decide +kernel
theorem d_Nights_burns_6 : decode prog_6_method_5_code 6 = .ok (.invokevirtual 28, 3) := by decide +kernel
theorem d_Nights_burns_9 : decode prog_6_method_5_code 9 = .ok (.iload_n 1, 1) := by decide +kernel
theorem d_Nights_burns_10 : decode prog_6_method_5_code 10 = .ok (.invokestatic 39, 3) := by decide +kernel
theorem d_Nights_burns_13 : decode prog_6_method_5_code 13 = .ok (.ireturn, 1) := by decide +kernel
theorem d_Nights_passed_0 : decode prog_6_method_6_code 0 = .ok (.aload_n 0, 1) := by decide +kernel
theorem d_Nights_passed_1 : decode prog_6_method_6_code 1 = .ok (.getfield 16, 3) := by decide +kernel
theorem d_Nights_passed_4 : decode prog_6_method_6_code 4 = .ok (.bipush 7, 2) := by decide +kernel
theorem d_Nights_passed_6 : decode prog_6_method_6_code 6 = .ok (.invokevirtual 28, 3) := by decide +kernel
theorem d_Nights_passed_9 : decode prog_6_method_6_code 9 = .ok (.iload_n 1, 1) := by decide +kernel
theorem d_Nights_passed_10 : decode prog_6_method_6_code 10 = .ok (.invokestatic 39, 3) := by decide +kernel
theorem d_Nights_passed_13 : decode prog_6_method_6_code 13 = .ok (.ireturn, 1) := by decide +kernel
theorem d_Nights_setBurning_0 : decode prog_6_method_7_code 0 = .ok (.aload_n 0, 1) := by decide +kernel
theorem d_Nights_setBurning_1 : decode prog_6_method_7_code 1 = .ok (.iload_n 1, 1) := by decide +kernel
theorem d_Nights_setBurning_2 : decode prog_6_method_7_code 2 = .ok (.invokevirtual 43, 3) := by decide +kernel
theorem d_Nights_setBurning_5 : decode prog_6_method_7_code 5 = .ok (.iload_n 2, 1) := by decide +kernel
theorem d_Nights_setBurning_6 : decode prog_6_method_7_code 6 = .ok (.if_icmp .ne 5, 3) := by decide +kernel
theorem d_Nights_setBurning_9 : decode prog_6_method_7_code 9 = .ok (.iconst 0, 1) := by decide +kernel
theorem d_Nights_setBurning_10 : decode prog_6_method_7_code 10 = .ok (.ireturn, 1) := by decide +kernel
theorem d_Nights_setBurning_11 : decode prog_6_method_7_code 11 = .ok (.aload_n 0, 1) := by decide +kernel
theorem d_Nights_setBurning_12 : decode prog_6_method_7_code 12 = .ok (.getfield 16, 3) := by decide +kernel
theorem d_Nights_setBurning_15 : decode prog_6_method_7_code 15 = .ok (.bipush 6, 2) := by decide +kernel
theorem d_Nights_setBurning_17 : decode prog_6_method_7_code 17 = .ok (.aload_n 0, 1) := by decide +kernel
theorem d_Nights_setBurning_18 : decode prog_6_method_7_code 18 = .ok (.getfield 16, 3) := by decide +kernel
theorem d_Nights_setBurning_21 : decode prog_6_method_7_code 21 = .ok (.bipush 6, 2) := by decide +kernel
theorem d_Nights_setBurning_23 : decode prog_6_method_7_code 23 = .ok (.invokevirtual 28, 3) := by decide +kernel
theorem d_Nights_setBurning_26 : decode prog_6_method_7_code 26 = .ok (.iconst 1, 1) := by decide +kernel
theorem d_Nights_setBurning_27 : decode prog_6_method_7_code 27 = .ok (.iload_n 1, 1) := by decide +kernel
theorem d_Nights_setBurning_28 : decode prog_6_method_7_code 28 = .ok (.ishl, 1) := by decide +kernel
theorem d_Nights_setBurning_29 : decode prog_6_method_7_code 29 = .ok (.ixor, 1) := by decide +kernel
theorem d_Nights_setBurning_30 : decode prog_6_method_7_code 30 = .ok (.invokevirtual 32, 3) := by decide +kernel
theorem d_Nights_setBurning_33 : decode prog_6_method_7_code 33 = .ok (.iconst 1, 1) := by decide +kernel
theorem d_Nights_setBurning_34 : decode prog_6_method_7_code 34 = .ok (.ireturn, 1) := by decide +kernel
theorem d_Nights_lead_0 : decode prog_6_method_8_code 0 = .ok (.aload_n 0, 1) := by decide +kernel
theorem d_Nights_lead_1 : decode prog_6_method_8_code 1 = .ok (.getfield 16, 3) := by decide +kernel
theorem d_Nights_lead_4 : decode prog_6_method_8_code 4 = .ok (.bipush 8, 2) := by decide +kernel
theorem d_Nights_lead_6 : decode prog_6_method_8_code 6 = .ok (.iload_n 1, 1) := by decide +kernel
theorem d_Nights_lead_7 : decode prog_6_method_8_code 7 = .ok (.iadd, 1) := by decide +kernel
theorem d_Nights_lead_8 : decode prog_6_method_8_code 8 = .ok (.invokevirtual 28, 3) := by decide +kernel
theorem d_Nights_lead_11 : decode prog_6_method_8_code 11 = .ok (.iload_n 2, 1) := by decide +kernel
theorem d_Nights_lead_12 : decode prog_6_method_8_code 12 = .ok (.if_icmp .ne 5, 3) := by decide +kernel
theorem d_Nights_lead_15 : decode prog_6_method_8_code 15 = .ok (.iconst 0, 1) := by decide +kernel
theorem d_Nights_lead_16 : decode prog_6_method_8_code 16 = .ok (.ireturn, 1) := by decide +kernel
theorem d_Nights_lead_17 : decode prog_6_method_8_code 17 = .ok (.aload_n 0, 1) := by decide +kernel
theorem d_Nights_lead_18 : decode prog_6_method_8_code 18 = .ok (.getfield 16, 3) := by decide +kernel
theorem d_Nights_lead_21 : decode prog_6_method_8_code 21 = .ok (.bipush 8, 2) := by decide +kernel
theorem d_Nights_lead_23 : decode prog_6_method_8_code 23 = .ok (.iload_n 1, 1) := by decide +kernel
theorem d_Nights_lead_24 : decode prog_6_method_8_code 24 = .ok (.iadd, 1) := by decide +kernel
theorem d_Nights_lead_25 : decode prog_6_method_8_code 25 = .ok (.iload_n 2, 1) := by decide +kernel
theorem d_Nights_lead_26 : decode prog_6_method_8_code 26 = .ok (.invokevirtual 32, 3) := by decide +kernel
theorem d_Nights_lead_29 : decode prog_6_method_8_code 29 = .ok (.iconst 1, 1) := by decide +kernel
theorem d_Nights_lead_30 : decode prog_6_method_8_code 30 = .ok (.ireturn, 1) := by decide +kernel
theorem d_Nights_fogComes_0 : decode prog_6_method_9_code 0 = .ok (.aload_n 0, 1) := by decide +kernel
theorem d_Nights_fogComes_1 : decode prog_6_method_9_code 1 = .ok (.getfield 16, 3) := by decide +kernel
theorem d_Nights_fogComes_4 : decode prog_6_method_9_code 4 = .ok (.iconst 1, 1) := by decide +kernel
theorem d_Nights_fogComes_5 : decode prog_6_method_9_code 5 = .ok (.invokevirtual 28, 3) := by decide +kernel
theorem d_Nights_fogComes_8 : decode prog_6_method_9_code 8 = .ok (.iconst 1, 1) := by decide +kernel
theorem d_Nights_fogComes_9 : decode prog_6_method_9_code 9 = .ok (.if_icmp .ne 5, 3) := by decide +kernel
theorem d_Nights_fogComes_12 : decode prog_6_method_9_code 12 = .ok (.iconst 0, 1) := by decide +kernel
theorem d_Nights_fogComes_13 : decode prog_6_method_9_code 13 = .ok (.ireturn, 1) := by decide +kernel
theorem d_Nights_fogComes_14 : decode prog_6_method_9_code 14 = .ok (.aload_n 0, 1) := by decide +kernel
theorem d_Nights_fogComes_15 : decode prog_6_method_9_code 15 = .ok (.getfield 16, 3) := by decide +kernel
theorem d_Nights_fogComes_18 : decode prog_6_method_9_code 18 = .ok (.iconst 1, 1) := by decide +kernel
theorem d_Nights_fogComes_19 : decode prog_6_method_9_code 19 = .ok (.iconst 1, 1) := by decide +kernel
theorem d_Nights_fogComes_20 : decode prog_6_method_9_code 20 = .ok (.invokevirtual 32, 3) := by decide +kernel
theorem d_Nights_fogComes_23 : decode prog_6_method_9_code 23 = .ok (.iconst 1, 1) := by decide +kernel
theorem d_Nights_fogComes_24 : decode prog_6_method_9_code 24 = .ok (.ireturn, 1) := by decide +kernel
theorem d_Nights_nextNight_0 : decode prog_6_method_10_code 0 = .ok (.aload_n 0, 1) := by decide +kernel
theorem d_Nights_nextNight_1 : decode prog_6_method_10_code 1 = .ok (.getfield 16, 3) := by decide +kernel
theorem d_Nights_nextNight_4 : decode prog_6_method_10_code 4 = .ok (.iconst 0, 1) := by decide +kernel
theorem d_Nights_nextNight_5 : decode prog_6_method_10_code 5 = .ok (.iconst 1, 1) := by decide +kernel
theorem d_Nights_nextNight_6 : decode prog_6_method_10_code 6 = .ok (.invokevirtual 47, 3) := by decide +kernel
theorem d_Nights_nextNight_9 : decode prog_6_method_10_code 9 = .ok (.aload_n 0, 1) := by decide +kernel
theorem d_Nights_nextNight_10 : decode prog_6_method_10_code 10 = .ok (.getfield 16, 3) := by decide +kernel
theorem d_Nights_nextNight_13 : decode prog_6_method_10_code 13 = .ok (.iconst 1, 1) := by decide +kernel
theorem d_Nights_nextNight_14 : decode prog_6_method_10_code 14 = .ok (.iconst 0, 1) := by decide +kernel
theorem d_Nights_nextNight_15 : decode prog_6_method_10_code 15 = .ok (.invokevirtual 32, 3) := by decide +kernel
theorem d_Nights_nextNight_18 : decode prog_6_method_10_code 18 = .ok (.aload_n 0, 1) := by decide +kernel
theorem d_Nights_nextNight_19 : decode prog_6_method_10_code 19 = .ok (.getfield 16, 3) := by decide +kernel
theorem d_Nights_nextNight_22 : decode prog_6_method_10_code 22 = .ok (.bipush 7, 2) := by decide +kernel
theorem d_Nights_nextNight_24 : decode prog_6_method_10_code 24 = .ok (.iconst 0, 1) := by decide +kernel
theorem d_Nights_nextNight_25 : decode prog_6_method_10_code 25 = .ok (.invokevirtual 32, 3) := by decide +kernel
theorem d_Nights_nextNight_28 : decode prog_6_method_10_code 28 = .ok (.iconst 1, 1) := by decide +kernel
theorem d_Nights_nextNight_29 : decode prog_6_method_10_code 29 = .ok (.ireturn, 1) := by decide +kernel
theorem d_Nights_hasPassed_0 : decode prog_6_method_11_code 0 = .ok (.aload_n 0, 1) := by decide +kernel
theorem d_Nights_hasPassed_1 : decode prog_6_method_11_code 1 = .ok (.getfield 16, 3) := by decide +kernel
theorem d_Nights_hasPassed_4 : decode prog_6_method_11_code 4 = .ok (.bipush 7, 2) := by decide +kernel
theorem d_Nights_hasPassed_6 : decode prog_6_method_11_code 6 = .ok (.aload_n 0, 1) := by decide +kernel
theorem d_Nights_hasPassed_7 : decode prog_6_method_11_code 7 = .ok (.getfield 16, 3) := by decide +kernel
theorem d_Nights_hasPassed_10 : decode prog_6_method_11_code 10 = .ok (.bipush 7, 2) := by decide +kernel
theorem d_Nights_hasPassed_12 : decode prog_6_method_11_code 12 = .ok (.invokevirtual 28, 3) := by decide +kernel
theorem d_Nights_hasPassed_15 : decode prog_6_method_11_code 15 = .ok (.iconst 1, 1) := by decide +kernel
theorem d_Nights_hasPassed_16 : decode prog_6_method_11_code 16 = .ok (.iload_n 2, 1) := by decide +kernel
theorem d_Nights_hasPassed_17 : decode prog_6_method_11_code 17 = .ok (.ishl, 1) := by decide +kernel
theorem d_Nights_hasPassed_18 : decode prog_6_method_11_code 18 = .ok (.ior, 1) := by decide +kernel
theorem d_Nights_hasPassed_19 : decode prog_6_method_11_code 19 = .ok (.invokevirtual 32, 3) := by decide +kernel
theorem d_Nights_hasPassed_22 : decode prog_6_method_11_code 22 = .ok (.iload_n 3, 1) := by decide +kernel
theorem d_Nights_hasPassed_23 : decode prog_6_method_11_code 23 = .ok (.iconst (-1), 1) := by decide +kernel
theorem d_Nights_hasPassed_24 : decode prog_6_method_11_code 24 = .ok (.if_icmp .ne 4, 3) := by decide +kernel
theorem d_Nights_hasPassed_27 : decode prog_6_method_11_code 27 = .ok (.return_, 1) := by decide +kernel
theorem d_Nights_hasPassed_28 : decode prog_6_method_11_code 28 = .ok (.aload_n 1, 1) := by decide +kernel
theorem d_Nights_hasPassed_29 : decode prog_6_method_11_code 29 = .ok (.iload_n 2, 1) := by decide +kernel
theorem d_Nights_hasPassed_30 : decode prog_6_method_11_code 30 = .ok (.iload_n 3, 1) := by decide +kernel
theorem d_Nights_hasPassed_31 : decode prog_6_method_11_code 31 = .ok (.invokevirtual 50, 3) := by decide +kernel
theorem d_Nights_hasPassed_34 : decode prog_6_method_11_code 34 = .ok (.istore 4, 2) := by decide +kernel
theorem d_Nights_hasPassed_36 : decode prog_6_method_11_code 36 = .ok (.aload_n 0, 1) := by decide +kernel
theorem d_Nights_hasPassed_37 : decode prog_6_method_11_code 37 = .ok (.getfield 16, 3) := by decide +kernel
theorem d_Nights_hasPassed_40 : decode prog_6_method_11_code 40 = .ok (.iconst 2, 1) := by decide +kernel
theorem d_Nights_hasPassed_41 : decode prog_6_method_11_code 41 = .ok (.iconst 1, 1) := by decide +kernel
theorem d_Nights_hasPassed_42 : decode prog_6_method_11_code 42 = .ok (.invokevirtual 47, 3) := by decide +kernel
theorem d_Nights_hasPassed_45 : decode prog_6_method_11_code 45 = .ok (.aload_n 0, 1) := by decide +kernel
theorem d_Nights_hasPassed_46 : decode prog_6_method_11_code 46 = .ok (.getfield 16, 3) := by decide +kernel
theorem d_Nights_hasPassed_49 : decode prog_6_method_11_code 49 = .ok (.iconst 3, 1) := by decide +kernel
theorem d_Nights_hasPassed_50 : decode prog_6_method_11_code 50 = .ok (.iload 4, 2) := by decide +kernel
theorem d_Nights_hasPassed_52 : decode prog_6_method_11_code 52 = .ok (.invokevirtual 47, 3) := by decide +kernel
theorem d_Nights_hasPassed_55 : decode prog_6_method_11_code 55 = .ok (.aload_n 0, 1) := by decide +kernel
theorem d_Nights_hasPassed_56 : decode prog_6_method_11_code 56 = .ok (.getfield 16, 3) := by decide +kernel
theorem d_Nights_hasPassed_59 : decode prog_6_method_11_code 59 = .ok (.iconst 4, 1) := by decide +kernel
theorem d_Nights_hasPassed_60 : decode prog_6_method_11_code 60 = .ok (.aload_n 1, 1) := by decide +kernel
theorem d_Nights_hasPassed_61 : decode prog_6_method_11_code 61 = .ok (.getfield 54, 3) := by decide +kernel
theorem d_Nights_hasPassed_64 : decode prog_6_method_11_code 64 = .ok (.iload_n 2, 1) := by decide +kernel
theorem d_Nights_hasPassed_65 : decode prog_6_method_11_code 65 = .ok (.invokevirtual 28, 3) := by decide +kernel
theorem d_Nights_hasPassed_68 : decode prog_6_method_11_code 68 = .ok (.iload 4, 2) := by decide +kernel
theorem d_Nights_hasPassed_70 : decode prog_6_method_11_code 70 = .ok (.isub, 1) := by decide +kernel
theorem d_Nights_hasPassed_71 : decode prog_6_method_11_code 71 = .ok (.invokevirtual 47, 3) := by decide +kernel
theorem d_Nights_hasPassed_74 : decode prog_6_method_11_code 74 = .ok (.aload_n 0, 1) := by decide +kernel
theorem d_Nights_hasPassed_75 : decode prog_6_method_11_code 75 = .ok (.getfield 16, 3) := by decide +kernel
theorem d_Nights_hasPassed_78 : decode prog_6_method_11_code 78 = .ok (.iconst 5, 1) := by decide +kernel
theorem d_Nights_hasPassed_79 : decode prog_6_method_11_code 79 = .ok (.aload_n 1, 1) := by decide +kernel
theorem d_Nights_hasPassed_80 : decode prog_6_method_11_code 80 = .ok (.iload_n 2, 1) := by decide +kernel
theorem d_Nights_hasPassed_81 : decode prog_6_method_11_code 81 = .ok (.iload_n 3, 1) := by decide +kernel
theorem d_Nights_hasPassed_82 : decode prog_6_method_11_code 82 = .ok (.invokevirtual 57, 3) := by decide +kernel
theorem d_Nights_hasPassed_85 : decode prog_6_method_11_code 85 = .ok (.invokevirtual 47, 3) := by decide +kernel
theorem d_Nights_hasPassed_88 : decode prog_6_method_11_code 88 = .ok (.aload_n 0, 1) := by decide +kernel
theorem d_Nights_hasPassed_89 : decode prog_6_method_11_code 89 = .ok (.getfield 16, 3) := by decide +kernel
theorem d_Nights_hasPassed_92 : decode prog_6_method_11_code 92 = .ok (.bipush 11, 2) := by decide +kernel
theorem d_Nights_hasPassed_94 : decode prog_6_method_11_code 94 = .ok (.iload_n 2, 1) := by decide +kernel
theorem d_Nights_hasPassed_95 : decode prog_6_method_11_code 95 = .ok (.iadd, 1) := by decide +kernel
theorem d_Nights_hasPassed_96 : decode prog_6_method_11_code 96 = .ok (.iconst 1, 1) := by decide +kernel
theorem d_Nights_hasPassed_97 : decode prog_6_method_11_code 97 = .ok (.invokevirtual 47, 3) := by decide +kernel
theorem d_Nights_hasPassed_100 : decode prog_6_method_11_code 100 = .ok (.aload_n 0, 1) := by decide +kernel
theorem d_Nights_hasPassed_101 : decode prog_6_method_11_code 101 = .ok (.getfield 16, 3) := by decide +kernel
theorem d_Nights_hasPassed_104 : decode prog_6_method_11_code 104 = .ok (.bipush 17, 2) := by decide +kernel
theorem d_Nights_hasPassed_106 : decode prog_6_method_11_code 106 = .ok (.iload_n 3, 1) := by decide +kernel
theorem d_Nights_hasPassed_107 : decode prog_6_method_11_code 107 = .ok (.iadd, 1) := by decide +kernel
theorem d_Nights_hasPassed_108 : decode prog_6_method_11_code 108 = .ok (.iconst 1, 1) := by decide +kernel
theorem d_Nights_hasPassed_109 : decode prog_6_method_11_code 109 = .ok (.invokevirtual 47, 3) := by decide +kernel
theorem d_Nights_hasPassed_112 : decode prog_6_method_11_code 112 = .ok (.return_, 1) := by decide +kernel
theorem d_Nights_lightsIn_0 : decode prog_6_method_12_code 0 = .ok (.iconst 0, 1) := by decide +kernel
theorem d_Nights_lightsIn_1 : decode prog_6_method_12_code 1 = .ok (.istore_n 3, 1) := by decide +kernel
theorem d_Nights_lightsIn_2 : decode prog_6_method_12_code 2 = .ok (.iconst 0, 1) := by decide +kernel
theorem d_Nights_lightsIn_3 : decode prog_6_method_12_code 3 = .ok (.istore 4, 2) := by decide +kernel
theorem d_Nights_lightsIn_5 : decode prog_6_method_12_code 5 = .ok (.iload 4, 2) := by decide +kernel
theorem d_Nights_lightsIn_7 : decode prog_6_method_12_code 7 = .ok (.aload_n 1, 1) := by decide +kernel
theorem d_Nights_lightsIn_8 : decode prog_6_method_12_code 8 = .ok (.getfield 23, 3) := by decide +kernel
theorem d_Nights_lightsIn_11 : decode prog_6_method_12_code 11 = .ok (.iconst 1, 1) := by decide +kernel
theorem d_Nights_lightsIn_12 : decode prog_6_method_12_code 12 = .ok (.invokevirtual 28, 3) := by decide +kernel
theorem d_Nights_lightsIn_15 : decode prog_6_method_12_code 15 = .ok (.if_icmp .ge 39, 3) := by decide +kernel
theorem d_Nights_lightsIn_18 : decode prog_6_method_12_code 18 = .ok (.iload_n 3, 1) := by decide +kernel
theorem d_Nights_lightsIn_19 : decode prog_6_method_12_code 19 = .ok (.aload_n 0, 1) := by decide +kernel
theorem d_Nights_lightsIn_20 : decode prog_6_method_12_code 20 = .ok (.iload 4, 2) := by decide +kernel
theorem d_Nights_lightsIn_22 : decode prog_6_method_12_code 22 = .ok (.invokevirtual 43, 3) := by decide +kernel
theorem d_Nights_lightsIn_25 : decode prog_6_method_12_code 25 = .ok (.ifCond .eq 20, 3) := by decide +kernel
theorem d_Nights_lightsIn_28 : decode prog_6_method_12_code 28 = .ok (.aload_n 1, 1) := by decide +kernel
theorem d_Nights_lightsIn_29 : decode prog_6_method_12_code 29 = .ok (.getfield 60, 3) := by decide +kernel
theorem d_Nights_lightsIn_32 : decode prog_6_method_12_code 32 = .ok (.iload 4, 2) := by decide +kernel
theorem d_Nights_lightsIn_34 : decode prog_6_method_12_code 34 = .ok (.invokevirtual 28, 3) := by decide +kernel
theorem d_Nights_lightsIn_37 : decode prog_6_method_12_code 37 = .ok (.iload_n 2, 1) := by decide +kernel
theorem d_Nights_lightsIn_38 : decode prog_6_method_12_code 38 = .ok (.if_icmp .ne 7, 3) := by decide +kernel
theorem d_Nights_lightsIn_41 : decode prog_6_method_12_code 41 = .ok (.iconst 1, 1) := by decide +kernel
theorem d_Nights_lightsIn_42 : decode prog_6_method_12_code 42 = .ok (.goto 4, 3) := by decide +kernel
theorem d_Nights_lightsIn_45 : decode prog_6_method_12_code 45 = .ok (.iconst 0, 1) := by decide +kernel
theorem d_Nights_lightsIn_46 : decode prog_6_method_12_code 46 = .ok (.iadd, 1) := by decide +kernel
theorem d_Nights_lightsIn_47 : decode prog_6_method_12_code 47 = .ok (.istore_n 3, 1) := by decide +kernel
theorem d_Nights_lightsIn_48 : decode prog_6_method_12_code 48 = .ok (.iinc 4 1, 3) := by decide +kernel
theorem d_Nights_lightsIn_51 : decode prog_6_method_12_code 51 = .ok (.goto (-46), 3) := by decide +kernel
theorem d_Nights_lightsIn_54 : decode prog_6_method_12_code 54 = .ok (.iload_n 3, 1) := by decide +kernel
theorem d_Nights_lightsIn_55 : decode prog_6_method_12_code 55 = .ok (.ireturn, 1) := by decide +kernel
theorem d_Nights_donkeysIn_0 : decode prog_6_method_13_code 0 = .ok (.iconst 0, 1) := by decide +kernel
theorem d_Nights_donkeysIn_1 : decode prog_6_method_13_code 1 = .ok (.istore_n 3, 1) := by decide +kernel
theorem d_Nights_donkeysIn_2 : decode prog_6_method_13_code 2 = .ok (.iconst 0, 1) := by decide +kernel
theorem d_Nights_donkeysIn_3 : decode prog_6_method_13_code 3 = .ok (.istore 4, 2) := by decide +kernel
theorem d_Nights_donkeysIn_5 : decode prog_6_method_13_code 5 = .ok (.iload 4, 2) := by decide +kernel
theorem d_Nights_donkeysIn_7 : decode prog_6_method_13_code 7 = .ok (.aload_n 1, 1) := by decide +kernel
theorem d_Nights_donkeysIn_8 : decode prog_6_method_13_code 8 = .ok (.getfield 23, 3) := by decide +kernel
theorem d_Nights_donkeysIn_11 : decode prog_6_method_13_code 11 = .ok (.iconst 2, 1) := by decide +kernel
theorem d_Nights_donkeysIn_12 : decode prog_6_method_13_code 12 = .ok (.invokevirtual 28, 3) := by decide +kernel
theorem d_Nights_donkeysIn_15 : decode prog_6_method_13_code 15 = .ok (.if_icmp .ge 33, 3) := by decide +kernel
theorem d_Nights_donkeysIn_18 : decode prog_6_method_13_code 18 = .ok (.iload_n 3, 1) := by decide +kernel
theorem d_Nights_donkeysIn_19 : decode prog_6_method_13_code 19 = .ok (.aload_n 0, 1) := by decide +kernel
theorem d_Nights_donkeysIn_20 : decode prog_6_method_13_code 20 = .ok (.getfield 16, 3) := by decide +kernel
theorem d_Nights_donkeysIn_23 : decode prog_6_method_13_code 23 = .ok (.bipush 8, 2) := by decide +kernel
theorem d_Nights_donkeysIn_25 : decode prog_6_method_13_code 25 = .ok (.iload 4, 2) := by decide +kernel
theorem d_Nights_donkeysIn_27 : decode prog_6_method_13_code 27 = .ok (.iadd, 1) := by decide +kernel
theorem d_Nights_donkeysIn_28 : decode prog_6_method_13_code 28 = .ok (.invokevirtual 28, 3) := by decide +kernel
theorem d_Nights_donkeysIn_31 : decode prog_6_method_13_code 31 = .ok (.iload_n 2, 1) := by decide +kernel
theorem d_Nights_donkeysIn_32 : decode prog_6_method_13_code 32 = .ok (.if_icmp .ne 7, 3) := by decide +kernel
theorem d_Nights_donkeysIn_35 : decode prog_6_method_13_code 35 = .ok (.iconst 1, 1) := by decide +kernel
theorem d_Nights_donkeysIn_36 : decode prog_6_method_13_code 36 = .ok (.goto 4, 3) := by decide +kernel
theorem d_Nights_donkeysIn_39 : decode prog_6_method_13_code 39 = .ok (.iconst 0, 1) := by decide +kernel
theorem d_Nights_donkeysIn_40 : decode prog_6_method_13_code 40 = .ok (.iadd, 1) := by decide +kernel
theorem d_Nights_donkeysIn_41 : decode prog_6_method_13_code 41 = .ok (.istore_n 3, 1) := by decide +kernel
theorem d_Nights_donkeysIn_42 : decode prog_6_method_13_code 42 = .ok (.iinc 4 1, 3) := by decide +kernel
theorem d_Nights_donkeysIn_45 : decode prog_6_method_13_code 45 = .ok (.goto (-40), 3) := by decide +kernel
theorem d_Nights_donkeysIn_48 : decode prog_6_method_13_code 48 = .ok (.iload_n 3, 1) := by decide +kernel
theorem d_Nights_donkeysIn_49 : decode prog_6_method_13_code 49 = .ok (.ireturn, 1) := by decide +kernel
theorem d_Nights_reach_0 : decode prog_6_method_14_code 0 = .ok (.aload_n 0, 1) := by decide +kernel
theorem d_Nights_reach_1 : decode prog_6_method_14_code 1 = .ok (.getfield 16, 3) := by decide +kernel
theorem d_Nights_reach_4 : decode prog_6_method_14_code 4 = .ok (.iconst 1, 1) := by decide +kernel
theorem d_Nights_reach_5 : decode prog_6_method_14_code 5 = .ok (.invokevirtual 28, 3) := by decide +kernel
theorem d_Nights_reach_8 : decode prog_6_method_14_code 8 = .ok (.iconst 1, 1) := by decide +kernel
theorem d_Nights_reach_9 : decode prog_6_method_14_code 9 = .ok (.if_icmp .ne 12, 3) := by decide +kernel
theorem d_Nights_reach_12 : decode prog_6_method_14_code 12 = .ok (.aload_n 1, 1) := by decide +kernel
theorem d_Nights_reach_13 : decode prog_6_method_14_code 13 = .ok (.invokevirtual 63, 3) := by decide +kernel
theorem d_Nights_reach_16 : decode prog_6_method_14_code 16 = .ok (.iconst 2, 1) := by decide +kernel
theorem d_Nights_reach_17 : decode prog_6_method_14_code 17 = .ok (.idiv, 1) := by decide +kernel
theorem d_Nights_reach_18 : decode prog_6_method_14_code 18 = .ok (.goto 7, 3) := by decide +kernel
theorem d_Nights_reach_21 : decode prog_6_method_14_code 21 = .ok (.aload_n 1, 1) := by decide +kernel
theorem d_Nights_reach_22 : decode prog_6_method_14_code 22 = .ok (.invokevirtual 63, 3) := by decide +kernel
theorem d_Nights_reach_25 : decode prog_6_method_14_code 25 = .ok (.ireturn, 1) := by decide +kernel
theorem d_Nights_lightFlashes_0 : decode prog_6_method_15_code 0 = .ok (.aload_n 0, 1) := by decide +kernel
theorem d_Nights_lightFlashes_1 : decode prog_6_method_15_code 1 = .ok (.getfield 16, 3) := by decide +kernel
theorem d_Nights_lightFlashes_4 : decode prog_6_method_15_code 4 = .ok (.bipush 6, 2) := by decide +kernel
theorem d_Nights_lightFlashes_6 : decode prog_6_method_15_code 6 = .ok (.invokevirtual 28, 3) := by decide +kernel
theorem d_Nights_lightFlashes_9 : decode prog_6_method_15_code 9 = .ok (.istore 5, 2) := by decide +kernel
theorem d_Nights_lightFlashes_11 : decode prog_6_method_15_code 11 = .ok (.aload_n 1, 1) := by decide +kernel
theorem d_Nights_lightFlashes_12 : decode prog_6_method_15_code 12 = .ok (.getfield 23, 3) := by decide +kernel
theorem d_Nights_lightFlashes_15 : decode prog_6_method_15_code 15 = .ok (.iconst 1, 1) := by decide +kernel
theorem d_Nights_lightFlashes_16 : decode prog_6_method_15_code 16 = .ok (.invokevirtual 28, 3) := by decide +kernel
theorem d_Nights_lightFlashes_19 : decode prog_6_method_15_code 19 = .ok (.istore 6, 2) := by decide +kernel
theorem d_Nights_lightFlashes_21 : decode prog_6_method_15_code 21 = .ok (.iconst 0, 1) := by decide +kernel
theorem d_Nights_lightFlashes_22 : decode prog_6_method_15_code 22 = .ok (.istore 7, 2) := by decide +kernel
theorem d_Nights_lightFlashes_24 : decode prog_6_method_15_code 24 = .ok (.iconst 0, 1) := by decide +kernel
theorem d_Nights_lightFlashes_25 : decode prog_6_method_15_code 25 = .ok (.istore 8, 2) := by decide +kernel
theorem d_Nights_lightFlashes_27 : decode prog_6_method_15_code 27 = .ok (.iload 8, 2) := by decide +kernel
theorem d_Nights_lightFlashes_29 : decode prog_6_method_15_code 29 = .ok (.iload 6, 2) := by decide +kernel
theorem d_Nights_lightFlashes_31 : decode prog_6_method_15_code 31 = .ok (.if_icmp .ge 65, 3) := by decide +kernel
theorem d_Nights_lightFlashes_34 : decode prog_6_method_15_code 34 = .ok (.aload_n 1, 1) := by decide +kernel
theorem d_Nights_lightFlashes_35 : decode prog_6_method_15_code 35 = .ok (.getfield 60, 3) := by decide +kernel
theorem d_Nights_lightFlashes_38 : decode prog_6_method_15_code 38 = .ok (.iload 8, 2) := by decide +kernel
theorem d_Nights_lightFlashes_40 : decode prog_6_method_15_code 40 = .ok (.invokevirtual 28, 3) := by decide +kernel
theorem d_Nights_lightFlashes_43 : decode prog_6_method_15_code 43 = .ok (.istore 9, 2) := by decide +kernel
theorem d_Nights_lightFlashes_45 : decode prog_6_method_15_code 45 = .ok (.aload_n 1, 1) := by decide +kernel
theorem d_Nights_lightFlashes_46 : decode prog_6_method_15_code 46 = .ok (.getfield 67, 3) := by decide +kernel
theorem d_Nights_lightFlashes_49 : decode prog_6_method_15_code 49 = .ok (.iload 8, 2) := by decide +kernel
theorem d_Nights_lightFlashes_51 : decode prog_6_method_15_code 51 = .ok (.invokevirtual 28, 3) := by decide +kernel
theorem d_Nights_lightFlashes_54 : decode prog_6_method_15_code 54 = .ok (.istore 10, 2) := by decide +kernel
theorem d_Nights_lightFlashes_56 : decode prog_6_method_15_code 56 = .ok (.iload 7, 2) := by decide +kernel
theorem d_Nights_lightFlashes_58 : decode prog_6_method_15_code 58 = .ok (.iload 5, 2) := by decide +kernel
theorem d_Nights_lightFlashes_60 : decode prog_6_method_15_code 60 = .ok (.iload 8, 2) := by decide +kernel
theorem d_Nights_lightFlashes_62 : decode prog_6_method_15_code 62 = .ok (.invokestatic 39, 3) := by decide +kernel
theorem d_Nights_lightFlashes_65 : decode prog_6_method_15_code 65 = .ok (.ifCond .eq 21, 3) := by decide +kernel
theorem d_Nights_lightFlashes_68 : decode prog_6_method_15_code 68 = .ok (.iload 9, 2) := by decide +kernel
theorem d_Nights_lightFlashes_70 : decode prog_6_method_15_code 70 = .ok (.iload 10, 2) := by decide +kernel
theorem d_Nights_lightFlashes_72 : decode prog_6_method_15_code 72 = .ok (.iload_n 2, 1) := by decide +kernel
theorem d_Nights_lightFlashes_73 : decode prog_6_method_15_code 73 = .ok (.iload_n 3, 1) := by decide +kernel
theorem d_Nights_lightFlashes_74 : decode prog_6_method_15_code 74 = .ok (.iload 4, 2) := by decide +kernel
theorem d_Nights_lightFlashes_76 : decode prog_6_method_15_code 76 = .ok (.invokestatic 70, 3) := by decide +kernel
theorem d_Nights_lightFlashes_79 : decode prog_6_method_15_code 79 = .ok (.ifCond .eq 7, 3) := by decide +kernel
theorem d_Nights_lightFlashes_82 : decode prog_6_method_15_code 82 = .ok (.iconst 1, 1) := by decide +kernel
theorem d_Nights_lightFlashes_83 : decode prog_6_method_15_code 83 = .ok (.goto 4, 3) := by decide +kernel
theorem d_Nights_lightFlashes_86 : decode prog_6_method_15_code 86 = .ok (.iconst 0, 1) := by decide +kernel
theorem d_Nights_lightFlashes_87 : decode prog_6_method_15_code 87 = .ok (.iadd, 1) := by decide +kernel
theorem d_Nights_lightFlashes_88 : decode prog_6_method_15_code 88 = .ok (.istore 7, 2) := by decide +kernel
theorem d_Nights_lightFlashes_90 : decode prog_6_method_15_code 90 = .ok (.iinc 8 1, 3) := by decide +kernel
theorem d_Nights_lightFlashes_93 : decode prog_6_method_15_code 93 = .ok (.goto (-66), 3) := by decide +kernel
theorem d_Nights_lightFlashes_96 : decode prog_6_method_15_code 96 = .ok (.iload 7, 2) := by decide +kernel
theorem d_Nights_lightFlashes_98 : decode prog_6_method_15_code 98 = .ok (.ireturn, 1) := by decide +kernel
theorem d_Nights_donkeyFlashes_0 : decode prog_6_method_16_code 0 = .ok (.aload_n 1, 1) := by decide +kernel
theorem d_Nights_donkeyFlashes_1 : decode prog_6_method_16_code 1 = .ok (.getfield 23, 3) := by decide +kernel
theorem d_Nights_donkeyFlashes_4 : decode prog_6_method_16_code 4 = .ok (.iconst 0, 1) := by decide +kernel
theorem d_Nights_donkeyFlashes_5 : decode prog_6_method_16_code 5 = .ok (.invokevirtual 28, 3) := by decide +kernel
theorem d_Nights_donkeyFlashes_8 : decode prog_6_method_16_code 8 = .ok (.iconst 1, 1) := by decide +kernel
theorem d_Nights_donkeyFlashes_9 : decode prog_6_method_16_code 9 = .ok (.isub, 1) := by decide +kernel
theorem d_Nights_donkeyFlashes_10 : decode prog_6_method_16_code 10 = .ok (.istore 5, 2) := by decide +kernel
theorem d_Nights_donkeyFlashes_12 : decode prog_6_method_16_code 12 = .ok (.aload_n 1, 1) := by decide +kernel
theorem d_Nights_donkeyFlashes_13 : decode prog_6_method_16_code 13 = .ok (.getfield 23, 3) := by decide +kernel
theorem d_Nights_donkeyFlashes_16 : decode prog_6_method_16_code 16 = .ok (.iconst 2, 1) := by decide +kernel
theorem d_Nights_donkeyFlashes_17 : decode prog_6_method_16_code 17 = .ok (.invokevirtual 28, 3) := by decide +kernel
theorem d_Nights_donkeyFlashes_20 : decode prog_6_method_16_code 20 = .ok (.istore 6, 2) := by decide +kernel
theorem d_Nights_donkeyFlashes_22 : decode prog_6_method_16_code 22 = .ok (.iconst 0, 1) := by decide +kernel
theorem d_Nights_donkeyFlashes_23 : decode prog_6_method_16_code 23 = .ok (.istore 7, 2) := by decide +kernel
theorem d_Nights_donkeyFlashes_25 : decode prog_6_method_16_code 25 = .ok (.iconst 0, 1) := by decide +kernel
theorem d_Nights_donkeyFlashes_26 : decode prog_6_method_16_code 26 = .ok (.istore 8, 2) := by decide +kernel
theorem d_Nights_donkeyFlashes_28 : decode prog_6_method_16_code 28 = .ok (.iload 8, 2) := by decide +kernel
theorem d_Nights_donkeyFlashes_30 : decode prog_6_method_16_code 30 = .ok (.iload 6, 2) := by decide +kernel
theorem d_Nights_donkeyFlashes_32 : decode prog_6_method_16_code 32 = .ok (.if_icmp .ge 65, 3) := by decide +kernel
theorem d_Nights_donkeyFlashes_35 : decode prog_6_method_16_code 35 = .ok (.aload_n 0, 1) := by decide +kernel
theorem d_Nights_donkeyFlashes_36 : decode prog_6_method_16_code 36 = .ok (.getfield 16, 3) := by decide +kernel
theorem d_Nights_donkeyFlashes_39 : decode prog_6_method_16_code 39 = .ok (.bipush 8, 2) := by decide +kernel
theorem d_Nights_donkeyFlashes_41 : decode prog_6_method_16_code 41 = .ok (.iload 8, 2) := by decide +kernel
theorem d_Nights_donkeyFlashes_43 : decode prog_6_method_16_code 43 = .ok (.iadd, 1) := by decide +kernel
theorem d_Nights_donkeyFlashes_44 : decode prog_6_method_16_code 44 = .ok (.invokevirtual 28, 3) := by decide +kernel
theorem d_Nights_donkeyFlashes_47 : decode prog_6_method_16_code 47 = .ok (.iload_n 3, 1) := by decide +kernel
theorem d_Nights_donkeyFlashes_48 : decode prog_6_method_16_code 48 = .ok (.iadd, 1) := by decide +kernel
theorem d_Nights_donkeyFlashes_49 : decode prog_6_method_16_code 49 = .ok (.iload 5, 2) := by decide +kernel
theorem d_Nights_donkeyFlashes_51 : decode prog_6_method_16_code 51 = .ok (.invokestatic 74, 3) := by decide +kernel
theorem d_Nights_donkeyFlashes_54 : decode prog_6_method_16_code 54 = .ok (.istore 9, 2) := by decide +kernel
theorem d_Nights_donkeyFlashes_56 : decode prog_6_method_16_code 56 = .ok (.aload_n 1, 1) := by decide +kernel
theorem d_Nights_donkeyFlashes_57 : decode prog_6_method_16_code 57 = .ok (.getfield 79, 3) := by decide +kernel
theorem d_Nights_donkeyFlashes_60 : decode prog_6_method_16_code 60 = .ok (.iload 8, 2) := by decide +kernel
theorem d_Nights_donkeyFlashes_62 : decode prog_6_method_16_code 62 = .ok (.invokevirtual 28, 3) := by decide +kernel
theorem d_Nights_donkeyFlashes_65 : decode prog_6_method_16_code 65 = .ok (.istore 10, 2) := by decide +kernel
theorem d_Nights_donkeyFlashes_67 : decode prog_6_method_16_code 67 = .ok (.iload 7, 2) := by decide +kernel
theorem d_Nights_donkeyFlashes_69 : decode prog_6_method_16_code 69 = .ok (.iload 9, 2) := by decide +kernel
theorem d_Nights_donkeyFlashes_71 : decode prog_6_method_16_code 71 = .ok (.iload 10, 2) := by decide +kernel
theorem d_Nights_donkeyFlashes_73 : decode prog_6_method_16_code 73 = .ok (.iload_n 2, 1) := by decide +kernel
theorem d_Nights_donkeyFlashes_74 : decode prog_6_method_16_code 74 = .ok (.iload_n 3, 1) := by decide +kernel
theorem d_Nights_donkeyFlashes_75 : decode prog_6_method_16_code 75 = .ok (.iload 4, 2) := by decide +kernel
theorem d_Nights_donkeyFlashes_77 : decode prog_6_method_16_code 77 = .ok (.invokestatic 70, 3) := by decide +kernel
theorem d_Nights_donkeyFlashes_80 : decode prog_6_method_16_code 80 = .ok (.ifCond .eq 7, 3) := by decide +kernel
theorem d_Nights_donkeyFlashes_83 : decode prog_6_method_16_code 83 = .ok (.iconst 1, 1) := by decide +kernel
theorem d_Nights_donkeyFlashes_84 : decode prog_6_method_16_code 84 = .ok (.goto 4, 3) := by decide +kernel
theorem d_Nights_donkeyFlashes_87 : decode prog_6_method_16_code 87 = .ok (.iconst 0, 1) := by decide +kernel
theorem d_Nights_donkeyFlashes_88 : decode prog_6_method_16_code 88 = .ok (.iadd, 1) := by decide +kernel
theorem d_Nights_donkeyFlashes_89 : decode prog_6_method_16_code 89 = .ok (.istore 7, 2) := by decide +kernel
theorem d_Nights_donkeyFlashes_91 : decode prog_6_method_16_code 91 = .ok (.iinc 8 1, 3) := by decide +kernel
theorem d_Nights_donkeyFlashes_94 : decode prog_6_method_16_code 94 = .ok (.goto (-66), 3) := by decide +kernel
theorem d_Nights_donkeyFlashes_97 : decode prog_6_method_16_code 97 = .ok (.iload 7, 2) := by decide +kernel
theorem d_Nights_donkeyFlashes_99 : decode prog_6_method_16_code 99 = .ok (.ireturn, 1) := by decide +kernel
theorem d_Passing_init_0 : decode prog_7_method_1_code 0 = .ok (.aload_n 0, 1) := by decide +kernel
theorem d_Passing_init_1 : decode prog_7_method_1_code 1 = .ok (.invokespecial 3, 3) := by decide +kernel
theorem d_Passing_init_4 : decode prog_7_method_1_code 4 = .ok (.aload_n 0, 1) := by decide +kernel
theorem d_Passing_init_5 : decode prog_7_method_1_code 5 = .ok (.new 9, 3) := by decide +kernel
theorem d_Passing_init_8 : decode prog_7_method_1_code 8 = .ok (.dup, 1) := by decide +kernel
theorem d_Passing_init_9 : decode prog_7_method_1_code 9 = .ok (.bipush 12, 2) := by decide +kernel
theorem d_Passing_init_11 : decode prog_7_method_1_code 11 = .ok (.invokespecial 11, 3) := by decide +kernel
theorem d_Passing_init_14 : decode prog_7_method_1_code 14 = .ok (.putfield 14, 3) := by decide +kernel
theorem d_Passing_init_17 : decode prog_7_method_1_code 17 = .ok (.aload_n 0, 1) := by decide +kernel
theorem d_Passing_init_18 : decode prog_7_method_1_code 18 = .ok (.new 9, 3) := by decide +kernel
theorem d_Passing_init_21 : decode prog_7_method_1_code 21 = .ok (.dup, 1) := by decide +kernel
theorem d_Passing_init_22 : decode prog_7_method_1_code 22 = .ok (.bipush 12, 2) := by decide +kernel
theorem d_Passing_init_24 : decode prog_7_method_1_code 24 = .ok (.invokespecial 11, 3) := by decide +kernel
theorem d_Passing_init_27 : decode prog_7_method_1_code 27 = .ok (.putfield 20, 3) := by decide +kernel
theorem d_Passing_init_30 : decode prog_7_method_1_code 30 = .ok (.aload_n 0, 1) := by decide +kernel
theorem d_Passing_init_31 : decode prog_7_method_1_code 31 = .ok (.new 9, 3) := by decide +kernel
theorem d_Passing_init_34 : decode prog_7_method_1_code 34 = .ok (.dup, 1) := by decide +kernel
theorem d_Passing_init_35 : decode prog_7_method_1_code 35 = .ok (.bipush 72, 2) := by decide +kernel
theorem d_Passing_init_37 : decode prog_7_method_1_code 37 = .ok (.invokespecial 11, 3) := by decide +kernel
theorem d_Passing_init_40 : decode prog_7_method_1_code 40 = .ok (.putfield 23, 3) := by decide +kernel
theorem d_Passing_init_43 : decode prog_7_method_1_code 43 = .ok (.aload_n 0, 1) := by decide +kernel
theorem d_Passing_init_44 : decode prog_7_method_1_code 44 = .ok (.new 9, 3) := by decide +kernel
theorem d_Passing_init_47 : decode prog_7_method_1_code 47 = .ok (.dup, 1) := by decide +kernel
theorem d_Passing_init_48 : decode prog_7_method_1_code 48 = .ok (.bipush 72, 2) := by decide +kernel
theorem d_Passing_init_50 : decode prog_7_method_1_code 50 = .ok (.invokespecial 11, 3) := by decide +kernel
theorem d_Passing_init_53 : decode prog_7_method_1_code 53 = .ok (.putfield 26, 3) := by decide +kernel
theorem d_Passing_init_56 : decode prog_7_method_1_code 56 = .ok (.return_, 1) := by decide +kernel
theorem d_Passing_begin_0 : decode prog_7_method_2_code 0 = .ok (.aload_n 0, 1) := by decide +kernel
theorem d_Passing_begin_1 : decode prog_7_method_2_code 1 = .ok (.getfield 23, 3) := by decide +kernel
theorem d_Passing_begin_4 : decode prog_7_method_2_code 4 = .ok (.invokevirtual 29, 3) := by decide +kernel
theorem d_Passing_begin_7 : decode prog_7_method_2_code 7 = .ok (.aload_n 0, 1) := by decide +kernel
theorem d_Passing_begin_8 : decode prog_7_method_2_code 8 = .ok (.getfield 26, 3) := by decide +kernel
theorem d_Passing_begin_11 : decode prog_7_method_2_code 11 = .ok (.invokevirtual 29, 3) := by decide +kernel
theorem d_Passing_begin_14 : decode prog_7_method_2_code 14 = .ok (.aload_n 2, 1) := by decide +kernel
theorem d_Passing_begin_15 : decode prog_7_method_2_code 15 = .ok (.aload_n 3, 1) := by decide +kernel
theorem d_Passing_begin_16 : decode prog_7_method_2_code 16 = .ok (.iconst 0, 1) := by decide +kernel
theorem d_Passing_begin_17 : decode prog_7_method_2_code 17 = .ok (.invokevirtual 34, 3) := by decide +kernel
theorem d_Passing_begin_20 : decode prog_7_method_2_code 20 = .ok (.aload_n 3, 1) := by decide +kernel
theorem d_Passing_begin_21 : decode prog_7_method_2_code 21 = .ok (.iconst 1, 1) := by decide +kernel
theorem d_Passing_begin_22 : decode prog_7_method_2_code 22 = .ok (.invokevirtual 34, 3) := by decide +kernel
theorem d_Passing_begin_25 : decode prog_7_method_2_code 25 = .ok (.invokevirtual 38, 3) := by decide +kernel
theorem d_Passing_begin_28 : decode prog_7_method_2_code 28 = .ok (.aload_n 3, 1) := by decide +kernel
theorem d_Passing_begin_29 : decode prog_7_method_2_code 29 = .ok (.aload_n 1, 1) := by decide +kernel
theorem d_Passing_begin_30 : decode prog_7_method_2_code 30 = .ok (.invokevirtual 44, 3) := by decide +kernel
theorem d_Passing_begin_33 : decode prog_7_method_2_code 33 = .ok (.istore 4, 2) := by decide +kernel
theorem d_Passing_begin_35 : decode prog_7_method_2_code 35 = .ok (.aload_n 1, 1) := by decide +kernel
theorem d_Passing_begin_36 : decode prog_7_method_2_code 36 = .ok (.getfield 48, 3) := by decide +kernel
theorem d_Passing_begin_39 : decode prog_7_method_2_code 39 = .ok (.iconst 0, 1) := by decide +kernel
theorem d_Passing_begin_40 : decode prog_7_method_2_code 40 = .ok (.invokevirtual 53, 3) := by decide +kernel
theorem d_Passing_begin_43 : decode prog_7_method_2_code 43 = .ok (.istore 5, 2) := by decide +kernel
theorem d_Passing_begin_45 : decode prog_7_method_2_code 45 = .ok (.iconst 0, 1) := by decide +kernel
theorem d_Passing_begin_46 : decode prog_7_method_2_code 46 = .ok (.istore 6, 2) := by decide +kernel
theorem d_Passing_begin_48 : decode prog_7_method_2_code 48 = .ok (.iload 6, 2) := by decide +kernel
theorem d_Passing_begin_50 : decode prog_7_method_2_code 50 = .ok (.iload 5, 2) := by decide +kernel
theorem d_Passing_begin_52 : decode prog_7_method_2_code 52 = .ok (.if_icmp .ge 45, 3) := by decide +kernel
theorem d_Passing_begin_55 : decode prog_7_method_2_code 55 = .ok (.aload_n 3, 1) := by decide +kernel
theorem d_Passing_begin_56 : decode prog_7_method_2_code 56 = .ok (.aload_n 1, 1) := by decide +kernel
theorem d_Passing_begin_57 : decode prog_7_method_2_code 57 = .ok (.iload 6, 2) := by decide +kernel
theorem d_Passing_begin_59 : decode prog_7_method_2_code 59 = .ok (.iload 6, 2) := by decide +kernel
theorem d_Passing_begin_61 : decode prog_7_method_2_code 61 = .ok (.iload 4, 2) := by decide +kernel
theorem d_Passing_begin_63 : decode prog_7_method_2_code 63 = .ok (.invokevirtual 54, 3) := by decide +kernel
theorem d_Passing_begin_66 : decode prog_7_method_2_code 66 = .ok (.aload_n 3, 1) := by decide +kernel
theorem d_Passing_begin_67 : decode prog_7_method_2_code 67 = .ok (.aload_n 1, 1) := by decide +kernel
theorem d_Passing_begin_68 : decode prog_7_method_2_code 68 = .ok (.iload 6, 2) := by decide +kernel
theorem d_Passing_begin_70 : decode prog_7_method_2_code 70 = .ok (.iload 6, 2) := by decide +kernel
theorem d_Passing_begin_72 : decode prog_7_method_2_code 72 = .ok (.iload 4, 2) := by decide +kernel
theorem d_Passing_begin_74 : decode prog_7_method_2_code 74 = .ok (.invokevirtual 58, 3) := by decide +kernel
theorem d_Passing_begin_77 : decode prog_7_method_2_code 77 = .ok (.iadd, 1) := by decide +kernel
theorem d_Passing_begin_78 : decode prog_7_method_2_code 78 = .ok (.istore 7, 2) := by decide +kernel
theorem d_Passing_begin_80 : decode prog_7_method_2_code 80 = .ok (.aload_n 0, 1) := by decide +kernel
theorem d_Passing_begin_81 : decode prog_7_method_2_code 81 = .ok (.getfield 14, 3) := by decide +kernel
theorem d_Passing_begin_84 : decode prog_7_method_2_code 84 = .ok (.iload 6, 2) := by decide +kernel
theorem d_Passing_begin_86 : decode prog_7_method_2_code 86 = .ok (.iload 7, 2) := by decide +kernel
theorem d_Passing_begin_88 : decode prog_7_method_2_code 88 = .ok (.invokevirtual 61, 3) := by decide +kernel
theorem d_Passing_begin_91 : decode prog_7_method_2_code 91 = .ok (.iinc 6 1, 3) := by decide +kernel
theorem d_Passing_begin_94 : decode prog_7_method_2_code 94 = .ok (.goto (-46), 3) := by decide +kernel
theorem d_Passing_begin_97 : decode prog_7_method_2_code 97 = .ok (.aload_n 0, 1) := by decide +kernel
theorem d_Passing_begin_98 : decode prog_7_method_2_code 98 = .ok (.iload 5, 2) := by decide +kernel
theorem d_Passing_begin_100 : decode prog_7_method_2_code 100 = .ok (.invokevirtual 64, 3) := by decide +kernel
theorem d_Passing_begin_103 : decode prog_7_method_2_code 103 = .ok (.return_, 1) := by decide +kernel
theorem d_Passing_seenIn_0 : decode prog_7_method_3_code 0 = .ok (.aload_n 0, 1) := by decide +kernel
theorem d_Passing_seenIn_1 : decode prog_7_method_3_code 1 = .ok (.getfield 14, 3) := by decide +kernel
theorem d_Passing_seenIn_4 : decode prog_7_method_3_code 4 = .ok (.iload_n 1, 1) := by decide +kernel
theorem d_Passing_seenIn_5 : decode prog_7_method_3_code 5 = .ok (.invokevirtual 53, 3) := by decide +kernel
theorem d_Passing_seenIn_8 : decode prog_7_method_3_code 8 = .ok (.ireturn, 1) := by decide +kernel
theorem d_Passing_setSeen_0 : decode prog_7_method_4_code 0 = .ok (.aload_n 0, 1) := by decide +kernel
theorem d_Passing_setSeen_1 : decode prog_7_method_4_code 1 = .ok (.getfield 14, 3) := by decide +kernel
theorem d_Passing_setSeen_4 : decode prog_7_method_4_code 4 = .ok (.iload_n 1, 1) := by decide +kernel
theorem d_Passing_setSeen_5 : decode prog_7_method_4_code 5 = .ok (.iload_n 2, 1) := by decide +kernel
theorem d_Passing_setSeen_6 : decode prog_7_method_4_code 6 = .ok (.invokevirtual 61, 3) := by decide +kernel
theorem d_Passing_setSeen_9 : decode prog_7_method_4_code 9 = .ok (.return_, 1) := by decide +kernel
theorem d_Passing_reckonDark_0 : decode prog_7_method_5_code 0 = .ok (.iconst 0, 1) := by decide +kernel
theorem d_Passing_reckonDark_1 : decode prog_7_method_5_code 1 = .ok (.istore_n 2, 1) := by decide +kernel
theorem d_Passing_reckonDark_2 : decode prog_7_method_5_code 2 = .ok (.iconst 0, 1) := by decide +kernel
theorem d_Passing_reckonDark_3 : decode prog_7_method_5_code 3 = .ok (.istore_n 3, 1) := by decide +kernel
theorem d_Passing_reckonDark_4 : decode prog_7_method_5_code 4 = .ok (.iload_n 3, 1) := by decide +kernel
theorem d_Passing_reckonDark_5 : decode prog_7_method_5_code 5 = .ok (.iload_n 1, 1) := by decide +kernel
theorem d_Passing_reckonDark_6 : decode prog_7_method_5_code 6 = .ok (.if_icmp .ge 37, 3) := by decide +kernel
theorem d_Passing_reckonDark_9 : decode prog_7_method_5_code 9 = .ok (.aload_n 0, 1) := by decide +kernel
theorem d_Passing_reckonDark_10 : decode prog_7_method_5_code 10 = .ok (.getfield 14, 3) := by decide +kernel
theorem d_Passing_reckonDark_13 : decode prog_7_method_5_code 13 = .ok (.iload_n 3, 1) := by decide +kernel
theorem d_Passing_reckonDark_14 : decode prog_7_method_5_code 14 = .ok (.invokevirtual 53, 3) := by decide +kernel
theorem d_Passing_reckonDark_17 : decode prog_7_method_5_code 17 = .ok (.ifCond .le 7, 3) := by decide +kernel
theorem d_Passing_reckonDark_20 : decode prog_7_method_5_code 20 = .ok (.iload_n 3, 1) := by decide +kernel
theorem d_Passing_reckonDark_21 : decode prog_7_method_5_code 21 = .ok (.goto 4, 3) := by decide +kernel
theorem d_Passing_reckonDark_24 : decode prog_7_method_5_code 24 = .ok (.iload_n 2, 1) := by decide +kernel
theorem d_Passing_reckonDark_25 : decode prog_7_method_5_code 25 = .ok (.istore_n 2, 1) := by decide +kernel
theorem d_Passing_reckonDark_26 : decode prog_7_method_5_code 26 = .ok (.aload_n 0, 1) := by decide +kernel
theorem d_Passing_reckonDark_27 : decode prog_7_method_5_code 27 = .ok (.getfield 20, 3) := by decide +kernel
theorem d_Passing_reckonDark_30 : decode prog_7_method_5_code 30 = .ok (.iload_n 3, 1) := by decide +kernel
theorem d_Passing_reckonDark_31 : decode prog_7_method_5_code 31 = .ok (.iload_n 3, 1) := by decide +kernel
theorem d_Passing_reckonDark_32 : decode prog_7_method_5_code 32 = .ok (.iload_n 2, 1) := by decide +kernel
theorem d_Passing_reckonDark_33 : decode prog_7_method_5_code 33 = .ok (.isub, 1) := by decide +kernel
theorem d_Passing_reckonDark_34 : decode prog_7_method_5_code 34 = .ok (.invokevirtual 61, 3) := by decide +kernel
theorem d_Passing_reckonDark_37 : decode prog_7_method_5_code 37 = .ok (.iinc 3 1, 3) := by decide +kernel
theorem d_Passing_reckonDark_40 : decode prog_7_method_5_code 40 = .ok (.goto (-36), 3) := by decide +kernel
theorem d_Passing_reckonDark_43 : decode prog_7_method_5_code 43 = .ok (.return_, 1) := by decide +kernel
theorem d_Passing_pass_0 : decode prog_7_method_6_code 0 = .ok (.aload_n 0, 1) := by decide +kernel
theorem d_Passing_pass_1 : decode prog_7_method_6_code 1 = .ok (.aload_n 1, 1) := by decide +kernel
theorem d_Passing_pass_2 : decode prog_7_method_6_code 2 = .ok (.aload_n 2, 1) := by decide +kernel
theorem d_Passing_pass_3 : decode prog_7_method_6_code 3 = .ok (.aload_n 3, 1) := by decide +kernel
theorem d_Passing_pass_4 : decode prog_7_method_6_code 4 = .ok (.invokevirtual 67, 3) := by decide +kernel
theorem d_Passing_pass_7 : decode prog_7_method_6_code 7 = .ok (.aload_n 3, 1) := by decide +kernel
theorem d_Passing_pass_8 : decode prog_7_method_6_code 8 = .ok (.aload_n 1, 1) := by decide +kernel
theorem d_Passing_pass_9 : decode prog_7_method_6_code 9 = .ok (.iload 4, 2) := by decide +kernel
theorem d_Passing_pass_11 : decode prog_7_method_6_code 11 = .ok (.aload_n 0, 1) := by decide +kernel
theorem d_Passing_pass_12 : decode prog_7_method_6_code 12 = .ok (.aload_n 1, 1) := by decide +kernel
theorem d_Passing_pass_13 : decode prog_7_method_6_code 13 = .ok (.aload_n 2, 1) := by decide +kernel
theorem d_Passing_pass_14 : decode prog_7_method_6_code 14 = .ok (.iload 4, 2) := by decide +kernel
theorem d_Passing_pass_16 : decode prog_7_method_6_code 16 = .ok (.invokevirtual 71, 3) := by decide +kernel
theorem d_Passing_pass_19 : decode prog_7_method_6_code 19 = .ok (.invokevirtual 75, 3) := by decide +kernel
theorem d_Passing_pass_22 : decode prog_7_method_6_code 22 = .ok (.return_, 1) := by decide +kernel
theorem d_Passing_struckIn_0 : decode prog_7_method_7_code 0 = .ok (.iconst 0, 1) := by decide +kernel
theorem d_Passing_struckIn_1 : decode prog_7_method_7_code 1 = .ok (.istore 4, 2) := by decide +kernel
theorem d_Passing_struckIn_3 : decode prog_7_method_7_code 3 = .ok (.iload 4, 2) := by decide +kernel
theorem d_Passing_struckIn_5 : decode prog_7_method_7_code 5 = .ok (.aload_n 1, 1) := by decide +kernel
theorem d_Passing_struckIn_6 : decode prog_7_method_7_code 6 = .ok (.getfield 48, 3) := by decide +kernel
theorem d_Passing_struckIn_9 : decode prog_7_method_7_code 9 = .ok (.iconst 0, 1) := by decide +kernel
theorem d_Passing_struckIn_10 : decode prog_7_method_7_code 10 = .ok (.invokevirtual 53, 3) := by decide +kernel
theorem d_Passing_struckIn_13 : decode prog_7_method_7_code 13 = .ok (.if_icmp .ge 175, 3) := by decide +kernel
theorem d_Passing_struckIn_16 : decode prog_7_method_7_code 16 = .ok (.aload_n 1, 1) := by decide +kernel
theorem d_Passing_struckIn_17 : decode prog_7_method_7_code 17 = .ok (.iload_n 3, 1) := by decide +kernel
theorem d_Passing_struckIn_18 : decode prog_7_method_7_code 18 = .ok (.iload 4, 2) := by decide +kernel
theorem d_Passing_struckIn_20 : decode prog_7_method_7_code 20 = .ok (.invokevirtual 79, 3) := by decide +kernel
theorem d_Passing_struckIn_23 : decode prog_7_method_7_code 23 = .ok (.ifCond .ne 6, 3) := by decide +kernel
theorem d_Passing_struckIn_26 : decode prog_7_method_7_code 26 = .ok (.goto 156, 3) := by decide +kernel
theorem d_Passing_struckIn_29 : decode prog_7_method_7_code 29 = .ok (.iload_n 3, 1) := by decide +kernel
theorem d_Passing_struckIn_30 : decode prog_7_method_7_code 30 = .ok (.bipush 12, 2) := by decide +kernel
theorem d_Passing_struckIn_32 : decode prog_7_method_7_code 32 = .ok (.imul, 1) := by decide +kernel
theorem d_Passing_struckIn_33 : decode prog_7_method_7_code 33 = .ok (.iload 4, 2) := by decide +kernel
theorem d_Passing_struckIn_35 : decode prog_7_method_7_code 35 = .ok (.iadd, 1) := by decide +kernel
theorem d_Passing_struckIn_36 : decode prog_7_method_7_code 36 = .ok (.istore 5, 2) := by decide +kernel
theorem d_Passing_struckIn_38 : decode prog_7_method_7_code 38 = .ok (.aload_n 0, 1) := by decide +kernel
theorem d_Passing_struckIn_39 : decode prog_7_method_7_code 39 = .ok (.getfield 14, 3) := by decide +kernel
theorem d_Passing_struckIn_42 : decode prog_7_method_7_code 42 = .ok (.iload 4, 2) := by decide +kernel
theorem d_Passing_struckIn_44 : decode prog_7_method_7_code 44 = .ok (.invokevirtual 53, 3) := by decide +kernel
theorem d_Passing_struckIn_47 : decode prog_7_method_7_code 47 = .ok (.istore 6, 2) := by decide +kernel
theorem d_Passing_struckIn_49 : decode prog_7_method_7_code 49 = .ok (.iconst 1, 1) := by decide +kernel
theorem d_Passing_struckIn_50 : decode prog_7_method_7_code 50 = .ok (.iload 6, 2) := by decide +kernel
theorem d_Passing_struckIn_52 : decode prog_7_method_7_code 52 = .ok (.ifCond .le 11, 3) := by decide +kernel
theorem d_Passing_struckIn_55 : decode prog_7_method_7_code 55 = .ok (.bipush 11, 2) := by decide +kernel
theorem d_Passing_struckIn_57 : decode prog_7_method_7_code 57 = .ok (.iload 6, 2) := by decide +kernel
theorem d_Passing_struckIn_59 : decode prog_7_method_7_code 59 = .ok (.iadd, 1) := by decide +kernel
theorem d_Passing_struckIn_60 : decode prog_7_method_7_code 60 = .ok (.goto 12, 3) := by decide +kernel
theorem d_Passing_struckIn_63 : decode prog_7_method_7_code 63 = .ok (.aload_n 0, 1) := by decide +kernel
theorem d_Passing_struckIn_64 : decode prog_7_method_7_code 64 = .ok (.getfield 20, 3) := by decide +kernel
theorem d_Passing_struckIn_67 : decode prog_7_method_7_code 67 = .ok (.iload 4, 2) := by decide +kernel
theorem d_Passing_struckIn_69 : decode prog_7_method_7_code 69 = .ok (.invokevirtual 53, 3) := by decide +kernel
theorem d_Passing_struckIn_72 : decode prog_7_method_7_code 72 = .ok (.ishl, 1) := by decide +kernel
theorem d_Passing_struckIn_73 : decode prog_7_method_7_code 73 = .ok (.istore 7, 2) := by decide +kernel
theorem d_Passing_struckIn_75 : decode prog_7_method_7_code 75 = .ok (.aload_n 0, 1) := by decide +kernel
theorem d_Passing_struckIn_76 : decode prog_7_method_7_code 76 = .ok (.getfield 23, 3) := by decide +kernel
theorem d_Passing_struckIn_79 : decode prog_7_method_7_code 79 = .ok (.iload 5, 2) := by decide +kernel
theorem d_Passing_struckIn_81 : decode prog_7_method_7_code 81 = .ok (.invokevirtual 53, 3) := by decide +kernel
theorem d_Passing_struckIn_84 : decode prog_7_method_7_code 84 = .ok (.iload 7, 2) := by decide +kernel
theorem d_Passing_struckIn_86 : decode prog_7_method_7_code 86 = .ok (.iand, 1) := by decide +kernel
theorem d_Passing_struckIn_87 : decode prog_7_method_7_code 87 = .ok (.ifCond .ne 77, 3) := by decide +kernel
theorem d_Passing_struckIn_90 : decode prog_7_method_7_code 90 = .ok (.aload_n 0, 1) := by decide +kernel
theorem d_Passing_struckIn_91 : decode prog_7_method_7_code 91 = .ok (.getfield 23, 3) := by decide +kernel
theorem d_Passing_struckIn_94 : decode prog_7_method_7_code 94 = .ok (.iload 5, 2) := by decide +kernel
theorem d_Passing_struckIn_96 : decode prog_7_method_7_code 96 = .ok (.aload_n 0, 1) := by decide +kernel
theorem d_Passing_struckIn_97 : decode prog_7_method_7_code 97 = .ok (.getfield 23, 3) := by decide +kernel
theorem d_Passing_struckIn_100 : decode prog_7_method_7_code 100 = .ok (.iload 5, 2) := by decide +kernel
theorem d_Passing_struckIn_102 : decode prog_7_method_7_code 102 = .ok (.invokevirtual 53, 3) := by decide +kernel
theorem d_Passing_struckIn_105 : decode prog_7_method_7_code 105 = .ok (.iload 7, 2) := by decide +kernel
theorem d_Passing_struckIn_107 : decode prog_7_method_7_code 107 = .ok (.ior, 1) := by decide +kernel
theorem d_Passing_struckIn_108 : decode prog_7_method_7_code 108 = .ok (.invokevirtual 61, 3) := by decide +kernel
theorem d_Passing_struckIn_111 : decode prog_7_method_7_code 111 = .ok (.aload_n 2, 1) := by decide +kernel
theorem d_Passing_struckIn_112 : decode prog_7_method_7_code 112 = .ok (.aload_n 1, 1) := by decide +kernel
theorem d_Passing_struckIn_113 : decode prog_7_method_7_code 113 = .ok (.iload_n 3, 1) := by decide +kernel
theorem d_Passing_struckIn_114 : decode prog_7_method_7_code 114 = .ok (.iload 6, 2) := by decide +kernel
theorem d_Passing_struckIn_116 : decode prog_7_method_7_code 116 = .ok (.aload_n 0, 1) := by decide +kernel
theorem d_Passing_struckIn_117 : decode prog_7_method_7_code 117 = .ok (.getfield 20, 3) := by decide +kernel
theorem d_Passing_struckIn_120 : decode prog_7_method_7_code 120 = .ok (.iload 4, 2) := by decide +kernel
theorem d_Passing_struckIn_122 : decode prog_7_method_7_code 122 = .ok (.invokevirtual 53, 3) := by decide +kernel
theorem d_Passing_struckIn_125 : decode prog_7_method_7_code 125 = .ok (.iload 4, 2) := by decide +kernel
theorem d_Passing_struckIn_127 : decode prog_7_method_7_code 127 = .ok (.iload 4, 2) := by decide +kernel
theorem d_Passing_struckIn_129 : decode prog_7_method_7_code 129 = .ok (.invokevirtual 83, 3) := by decide +kernel
theorem d_Passing_struckIn_132 : decode prog_7_method_7_code 132 = .ok (.aload_n 0, 1) := by decide +kernel
theorem d_Passing_struckIn_133 : decode prog_7_method_7_code 133 = .ok (.getfield 26, 3) := by decide +kernel
theorem d_Passing_struckIn_136 : decode prog_7_method_7_code 136 = .ok (.iload 5, 2) := by decide +kernel
theorem d_Passing_struckIn_138 : decode prog_7_method_7_code 138 = .ok (.aload_n 0, 1) := by decide +kernel
theorem d_Passing_struckIn_139 : decode prog_7_method_7_code 139 = .ok (.getfield 26, 3) := by decide +kernel
theorem d_Passing_struckIn_142 : decode prog_7_method_7_code 142 = .ok (.iload 5, 2) := by decide +kernel
theorem d_Passing_struckIn_144 : decode prog_7_method_7_code 144 = .ok (.invokevirtual 53, 3) := by decide +kernel
theorem d_Passing_struckIn_147 : decode prog_7_method_7_code 147 = .ok (.aload_n 2, 1) := by decide +kernel
theorem d_Passing_struckIn_148 : decode prog_7_method_7_code 148 = .ok (.invokevirtual 87, 3) := by decide +kernel
theorem d_Passing_struckIn_151 : decode prog_7_method_7_code 151 = .ok (.ifCond .eq 8, 3) := by decide +kernel
theorem d_Passing_struckIn_154 : decode prog_7_method_7_code 154 = .ok (.iload 7, 2) := by decide +kernel
theorem d_Passing_struckIn_156 : decode prog_7_method_7_code 156 = .ok (.goto 4, 3) := by decide +kernel
theorem d_Passing_struckIn_159 : decode prog_7_method_7_code 159 = .ok (.iconst 0, 1) := by decide +kernel
theorem d_Passing_struckIn_160 : decode prog_7_method_7_code 160 = .ok (.ior, 1) := by decide +kernel
theorem d_Passing_struckIn_161 : decode prog_7_method_7_code 161 = .ok (.invokevirtual 61, 3) := by decide +kernel
theorem d_Passing_struckIn_164 : decode prog_7_method_7_code 164 = .ok (.aload_n 0, 1) := by decide +kernel
theorem d_Passing_struckIn_165 : decode prog_7_method_7_code 165 = .ok (.getfield 26, 3) := by decide +kernel
theorem d_Passing_struckIn_168 : decode prog_7_method_7_code 168 = .ok (.iload 5, 2) := by decide +kernel
theorem d_Passing_struckIn_170 : decode prog_7_method_7_code 170 = .ok (.invokevirtual 53, 3) := by decide +kernel
theorem d_Passing_struckIn_173 : decode prog_7_method_7_code 173 = .ok (.iload 7, 2) := by decide +kernel
theorem d_Passing_struckIn_175 : decode prog_7_method_7_code 175 = .ok (.iand, 1) := by decide +kernel
theorem d_Passing_struckIn_176 : decode prog_7_method_7_code 176 = .ok (.ifCond .eq 6, 3) := by decide +kernel
theorem d_Passing_struckIn_179 : decode prog_7_method_7_code 179 = .ok (.iload 4, 2) := by decide +kernel
theorem d_Passing_struckIn_181 : decode prog_7_method_7_code 181 = .ok (.ireturn, 1) := by decide +kernel
theorem d_Passing_struckIn_182 : decode prog_7_method_7_code 182 = .ok (.iinc 4 1, 3) := by decide +kernel
theorem d_Passing_struckIn_185 : decode prog_7_method_7_code 185 = .ok (.goto (-182), 3) := by decide +kernel
theorem d_Passing_struckIn_188 : decode prog_7_method_7_code 188 = .ok (.iconst (-1), 1) := by decide +kernel
theorem d_Passing_struckIn_189 : decode prog_7_method_7_code 189 = .ok (.ireturn, 1) := by decide +kernel
theorem d_Passing_steeredCells_0 : decode prog_7_method_8_code 0 = .ok (.iconst 0, 1) := by decide +kernel
theorem d_Passing_steeredCells_1 : decode prog_7_method_8_code 1 = .ok (.istore 5, 2) := by decide +kernel
theorem d_Passing_steeredCells_3 : decode prog_7_method_8_code 3 = .ok (.iconst 0, 1) := by decide +kernel
theorem d_Passing_steeredCells_4 : decode prog_7_method_8_code 4 = .ok (.istore 6, 2) := by decide +kernel
theorem d_Passing_steeredCells_6 : decode prog_7_method_8_code 6 = .ok (.iload 6, 2) := by decide +kernel
theorem d_Passing_steeredCells_8 : decode prog_7_method_8_code 8 = .ok (.aload_n 1, 1) := by decide +kernel
theorem d_Passing_steeredCells_9 : decode prog_7_method_8_code 9 = .ok (.iload 4, 2) := by decide +kernel
theorem d_Passing_steeredCells_11 : decode prog_7_method_8_code 11 = .ok (.invokestatic 91, 3) := by decide +kernel
theorem d_Passing_steeredCells_14 : decode prog_7_method_8_code 14 = .ok (.if_icmp .gt 57, 3) := by decide +kernel
theorem d_Passing_steeredCells_17 : decode prog_7_method_8_code 17 = .ok (.aload_n 2, 1) := by decide +kernel
theorem d_Passing_steeredCells_18 : decode prog_7_method_8_code 18 = .ok (.aload_n 1, 1) := by decide +kernel
theorem d_Passing_steeredCells_19 : decode prog_7_method_8_code 19 = .ok (.iload_n 3, 1) := by decide +kernel
theorem d_Passing_steeredCells_20 : decode prog_7_method_8_code 20 = .ok (.aload_n 0, 1) := by decide +kernel
theorem d_Passing_steeredCells_21 : decode prog_7_method_8_code 21 = .ok (.getfield 14, 3) := by decide +kernel
theorem d_Passing_steeredCells_24 : decode prog_7_method_8_code 24 = .ok (.iload 6, 2) := by decide +kernel
theorem d_Passing_steeredCells_26 : decode prog_7_method_8_code 26 = .ok (.invokevirtual 53, 3) := by decide +kernel
theorem d_Passing_steeredCells_29 : decode prog_7_method_8_code 29 = .ok (.aload_n 0, 1) := by decide +kernel
theorem d_Passing_steeredCells_30 : decode prog_7_method_8_code 30 = .ok (.getfield 20, 3) := by decide +kernel
theorem d_Passing_steeredCells_33 : decode prog_7_method_8_code 33 = .ok (.iload 6, 2) := by decide +kernel
theorem d_Passing_steeredCells_35 : decode prog_7_method_8_code 35 = .ok (.invokevirtual 53, 3) := by decide +kernel
theorem d_Passing_steeredCells_38 : decode prog_7_method_8_code 38 = .ok (.iload 6, 2) := by decide +kernel
theorem d_Passing_steeredCells_40 : decode prog_7_method_8_code 40 = .ok (.iload 6, 2) := by decide +kernel
theorem d_Passing_steeredCells_42 : decode prog_7_method_8_code 42 = .ok (.invokevirtual 83, 3) := by decide +kernel
theorem d_Passing_steeredCells_45 : decode prog_7_method_8_code 45 = .ok (.iload 5, 2) := by decide +kernel
theorem d_Passing_steeredCells_47 : decode prog_7_method_8_code 47 = .ok (.aload_n 2, 1) := by decide +kernel
theorem d_Passing_steeredCells_48 : decode prog_7_method_8_code 48 = .ok (.invokevirtual 87, 3) := by decide +kernel
theorem d_Passing_steeredCells_51 : decode prog_7_method_8_code 51 = .ok (.ifCond .eq 10, 3) := by decide +kernel
theorem d_Passing_steeredCells_54 : decode prog_7_method_8_code 54 = .ok (.iconst 1, 1) := by decide +kernel
theorem d_Passing_steeredCells_55 : decode prog_7_method_8_code 55 = .ok (.iload 6, 2) := by decide +kernel
theorem d_Passing_steeredCells_57 : decode prog_7_method_8_code 57 = .ok (.ishl, 1) := by decide +kernel
theorem d_Passing_steeredCells_58 : decode prog_7_method_8_code 58 = .ok (.goto 4, 3) := by decide +kernel
theorem d_Passing_steeredCells_61 : decode prog_7_method_8_code 61 = .ok (.iconst 0, 1) := by decide +kernel
theorem d_Passing_steeredCells_62 : decode prog_7_method_8_code 62 = .ok (.ior, 1) := by decide +kernel
theorem d_Passing_steeredCells_63 : decode prog_7_method_8_code 63 = .ok (.istore 5, 2) := by decide +kernel
theorem d_Passing_steeredCells_65 : decode prog_7_method_8_code 65 = .ok (.iinc 6 1, 3) := by decide +kernel
theorem d_Passing_steeredCells_68 : decode prog_7_method_8_code 68 = .ok (.goto (-62), 3) := by decide +kernel
theorem d_Passing_steeredCells_71 : decode prog_7_method_8_code 71 = .ok (.iload 5, 2) := by decide +kernel
theorem d_Passing_steeredCells_73 : decode prog_7_method_8_code 73 = .ok (.ireturn, 1) := by decide +kernel
theorem d_Passing_flashesTo_0 : decode prog_7_method_9_code 0 = .ok (.iconst 0, 1) := by decide +kernel
theorem d_Passing_flashesTo_1 : decode prog_7_method_9_code 1 = .ok (.istore_n 3, 1) := by decide +kernel
theorem d_Passing_flashesTo_2 : decode prog_7_method_9_code 2 = .ok (.iconst 0, 1) := by decide +kernel
theorem d_Passing_flashesTo_3 : decode prog_7_method_9_code 3 = .ok (.istore 4, 2) := by decide +kernel
theorem d_Passing_flashesTo_5 : decode prog_7_method_9_code 5 = .ok (.iload 4, 2) := by decide +kernel
theorem d_Passing_flashesTo_7 : decode prog_7_method_9_code 7 = .ok (.aload_n 1, 1) := by decide +kernel
theorem d_Passing_flashesTo_8 : decode prog_7_method_9_code 8 = .ok (.iload_n 2, 1) := by decide +kernel
theorem d_Passing_flashesTo_9 : decode prog_7_method_9_code 9 = .ok (.invokestatic 91, 3) := by decide +kernel
theorem d_Passing_flashesTo_12 : decode prog_7_method_9_code 12 = .ok (.if_icmp .gt 21, 3) := by decide +kernel
theorem d_Passing_flashesTo_15 : decode prog_7_method_9_code 15 = .ok (.iload_n 3, 1) := by decide +kernel
theorem d_Passing_flashesTo_16 : decode prog_7_method_9_code 16 = .ok (.aload_n 0, 1) := by decide +kernel
theorem d_Passing_flashesTo_17 : decode prog_7_method_9_code 17 = .ok (.getfield 14, 3) := by decide +kernel
theorem d_Passing_flashesTo_20 : decode prog_7_method_9_code 20 = .ok (.iload 4, 2) := by decide +kernel
theorem d_Passing_flashesTo_22 : decode prog_7_method_9_code 22 = .ok (.invokevirtual 53, 3) := by decide +kernel
theorem d_Passing_flashesTo_25 : decode prog_7_method_9_code 25 = .ok (.iadd, 1) := by decide +kernel
theorem d_Passing_flashesTo_26 : decode prog_7_method_9_code 26 = .ok (.istore_n 3, 1) := by decide +kernel
theorem d_Passing_flashesTo_27 : decode prog_7_method_9_code 27 = .ok (.iinc 4 1, 3) := by decide +kernel
theorem d_Passing_flashesTo_30 : decode prog_7_method_9_code 30 = .ok (.goto (-25), 3) := by decide +kernel
theorem d_Passing_flashesTo_33 : decode prog_7_method_9_code 33 = .ok (.iload_n 3, 1) := by decide +kernel
theorem d_Passing_flashesTo_34 : decode prog_7_method_9_code 34 = .ok (.ireturn, 1) := by decide +kernel
theorem d_Passing_firstBlind_0 : decode prog_7_method_10_code 0 = .ok (.iconst 0, 1) := by decide +kernel
theorem d_Passing_firstBlind_1 : decode prog_7_method_10_code 1 = .ok (.istore_n 3, 1) := by decide +kernel
theorem d_Passing_firstBlind_2 : decode prog_7_method_10_code 2 = .ok (.iload_n 3, 1) := by decide +kernel
theorem d_Passing_firstBlind_3 : decode prog_7_method_10_code 3 = .ok (.aload_n 1, 1) := by decide +kernel
theorem d_Passing_firstBlind_4 : decode prog_7_method_10_code 4 = .ok (.iload_n 2, 1) := by decide +kernel
theorem d_Passing_firstBlind_5 : decode prog_7_method_10_code 5 = .ok (.invokestatic 91, 3) := by decide +kernel
theorem d_Passing_firstBlind_8 : decode prog_7_method_10_code 8 = .ok (.if_icmp .gt 22, 3) := by decide +kernel
theorem d_Passing_firstBlind_11 : decode prog_7_method_10_code 11 = .ok (.aload_n 0, 1) := by decide +kernel
theorem d_Passing_firstBlind_12 : decode prog_7_method_10_code 12 = .ok (.getfield 14, 3) := by decide +kernel
theorem d_Passing_firstBlind_15 : decode prog_7_method_10_code 15 = .ok (.iload_n 3, 1) := by decide +kernel
theorem d_Passing_firstBlind_16 : decode prog_7_method_10_code 16 = .ok (.invokevirtual 53, 3) := by decide +kernel
theorem d_Passing_firstBlind_19 : decode prog_7_method_10_code 19 = .ok (.ifCond .ne 5, 3) := by decide +kernel
theorem d_Passing_firstBlind_22 : decode prog_7_method_10_code 22 = .ok (.iload_n 3, 1) := by decide +kernel
theorem d_Passing_firstBlind_23 : decode prog_7_method_10_code 23 = .ok (.ireturn, 1) := by decide +kernel
theorem d_Passing_firstBlind_24 : decode prog_7_method_10_code 24 = .ok (.iinc 3 1, 3) := by decide +kernel
theorem d_Passing_firstBlind_27 : decode prog_7_method_10_code 27 = .ok (.goto (-25), 3) := by decide +kernel
theorem d_Passing_firstBlind_30 : decode prog_7_method_10_code 30 = .ok (.iconst (-1), 1) := by decide +kernel
theorem d_Passing_firstBlind_31 : decode prog_7_method_10_code 31 = .ok (.ireturn, 1) := by decide +kernel
theorem d_Passing_lastMinute_0 : decode prog_7_method_11_code 0 = .ok (.iload_n 1, 1) := by decide +kernel
theorem d_Passing_lastMinute_1 : decode prog_7_method_11_code 1 = .ok (.iconst (-1), 1) := by decide +kernel
theorem d_Passing_lastMinute_2 : decode prog_7_method_11_code 2 = .ok (.if_icmp .ne 16, 3) := by decide +kernel
theorem d_Passing_lastMinute_5 : decode prog_7_method_11_code 5 = .ok (.aload_n 0, 1) := by decide +kernel
theorem d_Passing_lastMinute_6 : decode prog_7_method_11_code 6 = .ok (.getfield 48, 3) := by decide +kernel
theorem d_Passing_lastMinute_9 : decode prog_7_method_11_code 9 = .ok (.iconst 0, 1) := by decide +kernel
theorem d_Passing_lastMinute_10 : decode prog_7_method_11_code 10 = .ok (.invokevirtual 53, 3) := by decide +kernel
theorem d_Passing_lastMinute_13 : decode prog_7_method_11_code 13 = .ok (.iconst 1, 1) := by decide +kernel
theorem d_Passing_lastMinute_14 : decode prog_7_method_11_code 14 = .ok (.isub, 1) := by decide +kernel
theorem d_Passing_lastMinute_15 : decode prog_7_method_11_code 15 = .ok (.goto 4, 3) := by decide +kernel
theorem d_Passing_lastMinute_18 : decode prog_7_method_11_code 18 = .ok (.iload_n 1, 1) := by decide +kernel
theorem d_Passing_lastMinute_19 : decode prog_7_method_11_code 19 = .ok (.ireturn, 1) := by decide +kernel
theorem d_Plans_init_0 : decode prog_8_method_1_code 0 = .ok (.aload_n 0, 1) := by decide +kernel
theorem d_Plans_init_1 : decode prog_8_method_1_code 1 = .ok (.invokespecial 3, 3) := by decide +kernel
theorem d_Plans_init_4 : decode prog_8_method_1_code 4 = .ok (.aload_n 0, 1) := by decide +kernel
theorem d_Plans_init_5 : decode prog_8_method_1_code 5 = .ok (.new 9, 3) := by decide +kernel
theorem d_Plans_init_8 : decode prog_8_method_1_code 8 = .ok (.dup, 1) := by decide +kernel
theorem d_Plans_init_9 : decode prog_8_method_1_code 9 = .ok (.bipush 12, 2) := by decide +kernel
theorem d_Plans_init_11 : decode prog_8_method_1_code 11 = .ok (.invokespecial 11, 3) := by decide +kernel
theorem d_Plans_init_14 : decode prog_8_method_1_code 14 = .ok (.putfield 14, 3) := by decide +kernel
theorem d_Plans_init_17 : decode prog_8_method_1_code 17 = .ok (.aload_n 0, 1) := by decide +kernel
theorem d_Plans_init_18 : decode prog_8_method_1_code 18 = .ok (.new 9, 3) := by decide +kernel
theorem d_Plans_init_21 : decode prog_8_method_1_code 21 = .ok (.dup, 1) := by decide +kernel
theorem d_Plans_init_22 : decode prog_8_method_1_code 22 = .ok (.bipush 36, 2) := by decide +kernel
theorem d_Plans_init_24 : decode prog_8_method_1_code 24 = .ok (.invokespecial 11, 3) := by decide +kernel
theorem d_Plans_init_27 : decode prog_8_method_1_code 27 = .ok (.putfield 20, 3) := by decide +kernel
theorem d_Plans_init_30 : decode prog_8_method_1_code 30 = .ok (.return_, 1) := by decide +kernel
theorem d_Plans_worth_0 : decode prog_8_method_2_code 0 = .ok (.aload_n 0, 1) := by decide +kernel
theorem d_Plans_worth_1 : decode prog_8_method_2_code 1 = .ok (.getfield 23, 3) := by decide +kernel
theorem d_Plans_worth_4 : decode prog_8_method_2_code 4 = .ok (.ireturn, 1) := by decide +kernel
theorem d_Plans_donkeyCells_0 : decode prog_8_method_3_code 0 = .ok (.aload_n 0, 1) := by decide +kernel
theorem d_Plans_donkeyCells_1 : decode prog_8_method_3_code 1 = .ok (.getfield 27, 3) := by decide +kernel
theorem d_Plans_donkeyCells_4 : decode prog_8_method_3_code 4 = .ok (.ireturn, 1) := by decide +kernel
theorem d_Plans_lampCell_0 : decode prog_8_method_4_code 0 = .ok (.aload_n 0, 1) := by decide +kernel
theorem d_Plans_lampCell_1 : decode prog_8_method_4_code 1 = .ok (.getfield 30, 3) := by decide +kernel
theorem d_Plans_lampCell_4 : decode prog_8_method_4_code 4 = .ok (.ireturn, 1) := by decide +kernel
theorem d_Plans_lampPeriod_0 : decode prog_8_method_5_code 0 = .ok (.aload_n 0, 1) := by decide +kernel
theorem d_Plans_lampPeriod_1 : decode prog_8_method_5_code 1 = .ok (.getfield 33, 3) := by decide +kernel
theorem d_Plans_lampPeriod_4 : decode prog_8_method_5_code 4 = .ok (.ireturn, 1) := by decide +kernel
theorem d_Plans_placeDonkeys_0 : decode prog_8_method_6_code 0 = .ok (.iconst 1, 1) := by decide +kernel
theorem d_Plans_placeDonkeys_1 : decode prog_8_method_6_code 1 = .ok (.istore 6, 2) := by decide +kernel
theorem d_Plans_placeDonkeys_3 : decode prog_8_method_6_code 3 = .ok (.iconst 0, 1) := by decide +kernel
theorem d_Plans_placeDonkeys_4 : decode prog_8_method_6_code 4 = .ok (.istore 7, 2) := by decide +kernel
theorem d_Plans_placeDonkeys_6 : decode prog_8_method_6_code 6 = .ok (.iload 7, 2) := by decide +kernel
theorem d_Plans_placeDonkeys_8 : decode prog_8_method_6_code 8 = .ok (.aload_n 1, 1) := by decide +kernel
theorem d_Plans_placeDonkeys_9 : decode prog_8_method_6_code 9 = .ok (.getfield 36, 3) := by decide +kernel
theorem d_Plans_placeDonkeys_12 : decode prog_8_method_6_code 12 = .ok (.iconst 2, 1) := by decide +kernel
theorem d_Plans_placeDonkeys_13 : decode prog_8_method_6_code 13 = .ok (.invokevirtual 41, 3) := by decide +kernel
theorem d_Plans_placeDonkeys_16 : decode prog_8_method_6_code 16 = .ok (.if_icmp .ge 22, 3) := by decide +kernel
theorem d_Plans_placeDonkeys_19 : decode prog_8_method_6_code 19 = .ok (.iload 6, 2) := by decide +kernel
theorem d_Plans_placeDonkeys_21 : decode prog_8_method_6_code 21 = .ok (.aload_n 1, 1) := by decide +kernel
theorem d_Plans_placeDonkeys_22 : decode prog_8_method_6_code 22 = .ok (.getfield 36, 3) := by decide +kernel
theorem d_Plans_placeDonkeys_25 : decode prog_8_method_6_code 25 = .ok (.iconst 0, 1) := by decide +kernel
theorem d_Plans_placeDonkeys_26 : decode prog_8_method_6_code 26 = .ok (.invokevirtual 41, 3) := by decide +kernel
theorem d_Plans_placeDonkeys_29 : decode prog_8_method_6_code 29 = .ok (.imul, 1) := by decide +kernel
theorem d_Plans_placeDonkeys_30 : decode prog_8_method_6_code 30 = .ok (.istore 6, 2) := by decide +kernel
theorem d_Plans_placeDonkeys_32 : decode prog_8_method_6_code 32 = .ok (.iinc 7 1, 3) := by decide +kernel
theorem d_Plans_placeDonkeys_35 : decode prog_8_method_6_code 35 = .ok (.goto (-29), 3) := by decide +kernel
theorem d_Plans_placeDonkeys_38 : decode prog_8_method_6_code 38 = .ok (.aload 4, 2) := by decide +kernel
theorem d_Plans_placeDonkeys_40 : decode prog_8_method_6_code 40 = .ok (.aload_n 1, 1) := by decide +kernel
theorem d_Plans_placeDonkeys_41 : decode prog_8_method_6_code 41 = .ok (.aload_n 2, 1) := by decide +kernel
theorem d_Plans_placeDonkeys_42 : decode prog_8_method_6_code 42 = .ok (.aload_n 3, 1) := by decide +kernel
theorem d_Plans_placeDonkeys_43 : decode prog_8_method_6_code 43 = .ok (.invokevirtual 45, 3) := by decide +kernel
theorem d_Plans_placeDonkeys_46 : decode prog_8_method_6_code 46 = .ok (.aload_n 0, 1) := by decide +kernel
theorem d_Plans_placeDonkeys_47 : decode prog_8_method_6_code 47 = .ok (.aload_n 1, 1) := by decide +kernel
theorem d_Plans_placeDonkeys_48 : decode prog_8_method_6_code 48 = .ok (.aload_n 3, 1) := by decide +kernel
theorem d_Plans_placeDonkeys_49 : decode prog_8_method_6_code 49 = .ok (.invokevirtual 51, 3) := by decide +kernel
theorem d_Plans_placeDonkeys_52 : decode prog_8_method_6_code 52 = .ok (.aload_n 0, 1) := by decide +kernel
theorem d_Plans_placeDonkeys_53 : decode prog_8_method_6_code 53 = .ok (.iconst (-1), 1) := by decide +kernel
theorem d_Plans_placeDonkeys_54 : decode prog_8_method_6_code 54 = .ok (.putfield 23, 3) := by decide +kernel
theorem d_Plans_placeDonkeys_57 : decode prog_8_method_6_code 57 = .ok (.iconst 0, 1) := by decide +kernel
theorem d_Plans_placeDonkeys_58 : decode prog_8_method_6_code 58 = .ok (.istore 7, 2) := by decide +kernel
theorem d_Plans_placeDonkeys_60 : decode prog_8_method_6_code 60 = .ok (.iload 7, 2) := by decide +kernel
theorem d_Plans_placeDonkeys_62 : decode prog_8_method_6_code 62 = .ok (.iload 6, 2) := by decide +kernel
theorem d_Plans_placeDonkeys_64 : decode prog_8_method_6_code 64 = .ok (.if_icmp .ge 58, 3) := by decide +kernel
theorem d_Plans_placeDonkeys_67 : decode prog_8_method_6_code 67 = .ok (.aload_n 1, 1) := by decide +kernel
theorem d_Plans_placeDonkeys_68 : decode prog_8_method_6_code 68 = .ok (.iload 7, 2) := by decide +kernel
theorem d_Plans_placeDonkeys_70 : decode prog_8_method_6_code 70 = .ok (.invokestatic 55, 3) := by decide +kernel
theorem d_Plans_placeDonkeys_73 : decode prog_8_method_6_code 73 = .ok (.istore 8, 2) := by decide +kernel
theorem d_Plans_placeDonkeys_75 : decode prog_8_method_6_code 75 = .ok (.aload_n 0, 1) := by decide +kernel
theorem d_Plans_placeDonkeys_76 : decode prog_8_method_6_code 76 = .ok (.aload_n 1, 1) := by decide +kernel
theorem d_Plans_placeDonkeys_77 : decode prog_8_method_6_code 77 = .ok (.aload 4, 2) := by decide +kernel
theorem d_Plans_placeDonkeys_79 : decode prog_8_method_6_code 79 = .ok (.iload 8, 2) := by decide +kernel
theorem d_Plans_placeDonkeys_81 : decode prog_8_method_6_code 81 = .ok (.invokevirtual 59, 3) := by decide +kernel
theorem d_Plans_placeDonkeys_84 : decode prog_8_method_6_code 84 = .ok (.aload_n 1, 1) := by decide +kernel
theorem d_Plans_placeDonkeys_85 : decode prog_8_method_6_code 85 = .ok (.aload_n 2, 1) := by decide +kernel
theorem d_Plans_placeDonkeys_86 : decode prog_8_method_6_code 86 = .ok (.aload 4, 2) := by decide +kernel
theorem d_Plans_placeDonkeys_88 : decode prog_8_method_6_code 88 = .ok (.iload 5, 2) := by decide +kernel
theorem d_Plans_placeDonkeys_90 : decode prog_8_method_6_code 90 = .ok (.invokestatic 63, 3) := by decide +kernel
theorem d_Plans_placeDonkeys_93 : decode prog_8_method_6_code 93 = .ok (.istore 9, 2) := by decide +kernel
theorem d_Plans_placeDonkeys_95 : decode prog_8_method_6_code 95 = .ok (.iload 9, 2) := by decide +kernel
theorem d_Plans_placeDonkeys_97 : decode prog_8_method_6_code 97 = .ok (.aload_n 0, 1) := by decide +kernel
theorem d_Plans_placeDonkeys_98 : decode prog_8_method_6_code 98 = .ok (.getfield 23, 3) := by decide +kernel
theorem d_Plans_placeDonkeys_101 : decode prog_8_method_6_code 101 = .ok (.if_icmp .le 15, 3) := by decide +kernel
theorem d_Plans_placeDonkeys_104 : decode prog_8_method_6_code 104 = .ok (.aload_n 0, 1) := by decide +kernel
theorem d_Plans_placeDonkeys_105 : decode prog_8_method_6_code 105 = .ok (.iload 9, 2) := by decide +kernel
theorem d_Plans_placeDonkeys_107 : decode prog_8_method_6_code 107 = .ok (.putfield 23, 3) := by decide +kernel
theorem d_Plans_placeDonkeys_110 : decode prog_8_method_6_code 110 = .ok (.aload_n 0, 1) := by decide +kernel
theorem d_Plans_placeDonkeys_111 : decode prog_8_method_6_code 111 = .ok (.iload 8, 2) := by decide +kernel
theorem d_Plans_placeDonkeys_113 : decode prog_8_method_6_code 113 = .ok (.putfield 27, 3) := by decide +kernel
theorem d_Plans_placeDonkeys_116 : decode prog_8_method_6_code 116 = .ok (.iinc 7 1, 3) := by decide +kernel
theorem d_Plans_placeDonkeys_119 : decode prog_8_method_6_code 119 = .ok (.goto (-59), 3) := by decide +kernel
theorem d_Plans_placeDonkeys_122 : decode prog_8_method_6_code 122 = .ok (.return_, 1) := by decide +kernel
theorem d_Plans_lookWithoutDonkeys_0 : decode prog_8_method_7_code 0 = .ok (.aload_n 2, 1) := by decide +kernel
theorem d_Plans_lookWithoutDonkeys_1 : decode prog_8_method_7_code 1 = .ok (.aload_n 1, 1) := by decide +kernel
theorem d_Plans_lookWithoutDonkeys_2 : decode prog_8_method_7_code 2 = .ok (.invokevirtual 67, 3) := by decide +kernel
theorem d_Plans_lookWithoutDonkeys_5 : decode prog_8_method_7_code 5 = .ok (.istore_n 3, 1) := by decide +kernel
theorem d_Plans_lookWithoutDonkeys_6 : decode prog_8_method_7_code 6 = .ok (.iconst 0, 1) := by decide +kernel
theorem d_Plans_lookWithoutDonkeys_7 : decode prog_8_method_7_code 7 = .ok (.istore 4, 2) := by decide +kernel
theorem d_Plans_lookWithoutDonkeys_9 : decode prog_8_method_7_code 9 = .ok (.iload 4, 2) := by decide +kernel
theorem d_Plans_lookWithoutDonkeys_11 : decode prog_8_method_7_code 11 = .ok (.aload_n 1, 1) := by decide +kernel
theorem d_Plans_lookWithoutDonkeys_12 : decode prog_8_method_7_code 12 = .ok (.getfield 36, 3) := by decide +kernel
theorem d_Plans_lookWithoutDonkeys_15 : decode prog_8_method_7_code 15 = .ok (.iconst 0, 1) := by decide +kernel
theorem d_Plans_lookWithoutDonkeys_16 : decode prog_8_method_7_code 16 = .ok (.invokevirtual 41, 3) := by decide +kernel
theorem d_Plans_lookWithoutDonkeys_19 : decode prog_8_method_7_code 19 = .ok (.if_icmp .ge 28, 3) := by decide +kernel
theorem d_Plans_lookWithoutDonkeys_22 : decode prog_8_method_7_code 22 = .ok (.aload_n 0, 1) := by decide +kernel
theorem d_Plans_lookWithoutDonkeys_23 : decode prog_8_method_7_code 23 = .ok (.getfield 14, 3) := by decide +kernel
theorem d_Plans_lookWithoutDonkeys_26 : decode prog_8_method_7_code 26 = .ok (.iload 4, 2) := by decide +kernel
theorem d_Plans_lookWithoutDonkeys_28 : decode prog_8_method_7_code 28 = .ok (.aload_n 2, 1) := by decide +kernel
theorem d_Plans_lookWithoutDonkeys_29 : decode prog_8_method_7_code 29 = .ok (.aload_n 1, 1) := by decide +kernel
theorem d_Plans_lookWithoutDonkeys_30 : decode prog_8_method_7_code 30 = .ok (.iload 4, 2) := by decide +kernel
theorem d_Plans_lookWithoutDonkeys_32 : decode prog_8_method_7_code 32 = .ok (.iload 4, 2) := by decide +kernel
theorem d_Plans_lookWithoutDonkeys_34 : decode prog_8_method_7_code 34 = .ok (.iload_n 3, 1) := by decide +kernel
theorem d_Plans_lookWithoutDonkeys_35 : decode prog_8_method_7_code 35 = .ok (.invokevirtual 73, 3) := by decide +kernel
theorem d_Plans_lookWithoutDonkeys_38 : decode prog_8_method_7_code 38 = .ok (.invokevirtual 77, 3) := by decide +kernel
theorem d_Plans_lookWithoutDonkeys_41 : decode prog_8_method_7_code 41 = .ok (.iinc 4 1, 3) := by decide +kernel
theorem d_Plans_lookWithoutDonkeys_44 : decode prog_8_method_7_code 44 = .ok (.goto (-35), 3) := by decide +kernel
theorem d_Plans_lookWithoutDonkeys_47 : decode prog_8_method_7_code 47 = .ok (.iconst 0, 1) := by decide +kernel
theorem d_Plans_lookWithoutDonkeys_48 : decode prog_8_method_7_code 48 = .ok (.istore 4, 2) := by decide +kernel
theorem d_Plans_lookWithoutDonkeys_50 : decode prog_8_method_7_code 50 = .ok (.iload 4, 2) := by decide +kernel
theorem d_Plans_lookWithoutDonkeys_52 : decode prog_8_method_7_code 52 = .ok (.aload_n 1, 1) := by decide +kernel
theorem d_Plans_lookWithoutDonkeys_53 : decode prog_8_method_7_code 53 = .ok (.getfield 36, 3) := by decide +kernel
theorem d_Plans_lookWithoutDonkeys_56 : decode prog_8_method_7_code 56 = .ok (.iconst 2, 1) := by decide +kernel
theorem d_Plans_lookWithoutDonkeys_57 : decode prog_8_method_7_code 57 = .ok (.invokevirtual 41, 3) := by decide +kernel
theorem d_Plans_lookWithoutDonkeys_60 : decode prog_8_method_7_code 60 = .ok (.if_icmp .ge 132, 3) := by decide +kernel
theorem d_Plans_lookWithoutDonkeys_63 : decode prog_8_method_7_code 63 = .ok (.aload_n 1, 1) := by decide +kernel
theorem d_Plans_lookWithoutDonkeys_64 : decode prog_8_method_7_code 64 = .ok (.getfield 81, 3) := by decide +kernel
theorem d_Plans_lookWithoutDonkeys_67 : decode prog_8_method_7_code 67 = .ok (.iload 4, 2) := by decide +kernel
theorem d_Plans_lookWithoutDonkeys_69 : decode prog_8_method_7_code 69 = .ok (.invokevirtual 41, 3) := by decide +kernel
theorem d_Plans_lookWithoutDonkeys_72 : decode prog_8_method_7_code 72 = .ok (.istore 5, 2) := by decide +kernel
theorem d_Plans_lookWithoutDonkeys_74 : decode prog_8_method_7_code 74 = .ok (.iconst 0, 1) := by decide +kernel
theorem d_Plans_lookWithoutDonkeys_75 : decode prog_8_method_7_code 75 = .ok (.istore 6, 2) := by decide +kernel
theorem d_Plans_lookWithoutDonkeys_77 : decode prog_8_method_7_code 77 = .ok (.iload 6, 2) := by decide +kernel
theorem d_Plans_lookWithoutDonkeys_79 : decode prog_8_method_7_code 79 = .ok (.aload_n 1, 1) := by decide +kernel
theorem d_Plans_lookWithoutDonkeys_80 : decode prog_8_method_7_code 80 = .ok (.getfield 36, 3) := by decide +kernel
theorem d_Plans_lookWithoutDonkeys_83 : decode prog_8_method_7_code 83 = .ok (.iconst 0, 1) := by decide +kernel
theorem d_Plans_lookWithoutDonkeys_84 : decode prog_8_method_7_code 84 = .ok (.invokevirtual 41, 3) := by decide +kernel
theorem d_Plans_lookWithoutDonkeys_87 : decode prog_8_method_7_code 87 = .ok (.if_icmp .ge 99, 3) := by decide +kernel
theorem d_Plans_lookWithoutDonkeys_90 : decode prog_8_method_7_code 90 = .ok (.iconst 0, 1) := by decide +kernel
theorem d_Plans_lookWithoutDonkeys_91 : decode prog_8_method_7_code 91 = .ok (.istore 7, 2) := by decide +kernel
theorem d_Plans_lookWithoutDonkeys_93 : decode prog_8_method_7_code 93 = .ok (.iconst 0, 1) := by decide +kernel
theorem d_Plans_lookWithoutDonkeys_94 : decode prog_8_method_7_code 94 = .ok (.istore 8, 2) := by decide +kernel
theorem d_Plans_lookWithoutDonkeys_96 : decode prog_8_method_7_code 96 = .ok (.iload 8, 2) := by decide +kernel
theorem d_Plans_lookWithoutDonkeys_98 : decode prog_8_method_7_code 98 = .ok (.aload_n 1, 1) := by decide +kernel
theorem d_Plans_lookWithoutDonkeys_99 : decode prog_8_method_7_code 99 = .ok (.getfield 36, 3) := by decide +kernel
theorem d_Plans_lookWithoutDonkeys_102 : decode prog_8_method_7_code 102 = .ok (.iconst 0, 1) := by decide +kernel
theorem d_Plans_lookWithoutDonkeys_103 : decode prog_8_method_7_code 103 = .ok (.invokevirtual 41, 3) := by decide +kernel
theorem d_Plans_lookWithoutDonkeys_106 : decode prog_8_method_7_code 106 = .ok (.if_icmp .ge 57, 3) := by decide +kernel
theorem d_Plans_lookWithoutDonkeys_109 : decode prog_8_method_7_code 109 = .ok (.iload 6, 2) := by decide +kernel
theorem d_Plans_lookWithoutDonkeys_111 : decode prog_8_method_7_code 111 = .ok (.iload 8, 2) := by decide +kernel
theorem d_Plans_lookWithoutDonkeys_113 : decode prog_8_method_7_code 113 = .ok (.iadd, 1) := by decide +kernel
theorem d_Plans_lookWithoutDonkeys_114 : decode prog_8_method_7_code 114 = .ok (.aload_n 1, 1) := by decide +kernel
theorem d_Plans_lookWithoutDonkeys_115 : decode prog_8_method_7_code 115 = .ok (.getfield 36, 3) := by decide +kernel
theorem d_Plans_lookWithoutDonkeys_118 : decode prog_8_method_7_code 118 = .ok (.iconst 0, 1) := by decide +kernel
theorem d_Plans_lookWithoutDonkeys_119 : decode prog_8_method_7_code 119 = .ok (.invokevirtual 41, 3) := by decide +kernel
theorem d_Plans_lookWithoutDonkeys_122 : decode prog_8_method_7_code 122 = .ok (.iconst 1, 1) := by decide +kernel
theorem d_Plans_lookWithoutDonkeys_123 : decode prog_8_method_7_code 123 = .ok (.isub, 1) := by decide +kernel
theorem d_Plans_lookWithoutDonkeys_124 : decode prog_8_method_7_code 124 = .ok (.invokestatic 84, 3) := by decide +kernel
theorem d_Plans_lookWithoutDonkeys_127 : decode prog_8_method_7_code 127 = .ok (.istore 9, 2) := by decide +kernel
theorem d_Plans_lookWithoutDonkeys_129 : decode prog_8_method_7_code 129 = .ok (.iload 7, 2) := by decide +kernel
theorem d_Plans_lookWithoutDonkeys_131 : decode prog_8_method_7_code 131 = .ok (.iload 9, 2) := by decide +kernel
theorem d_Plans_lookWithoutDonkeys_133 : decode prog_8_method_7_code 133 = .ok (.iload 5, 2) := by decide +kernel
theorem d_Plans_lookWithoutDonkeys_135 : decode prog_8_method_7_code 135 = .ok (.iload 8, 2) := by decide +kernel
theorem d_Plans_lookWithoutDonkeys_137 : decode prog_8_method_7_code 137 = .ok (.iload 8, 2) := by decide +kernel
theorem d_Plans_lookWithoutDonkeys_139 : decode prog_8_method_7_code 139 = .ok (.iload_n 3, 1) := by decide +kernel
theorem d_Plans_lookWithoutDonkeys_140 : decode prog_8_method_7_code 140 = .ok (.invokestatic 90, 3) := by decide +kernel
theorem d_Plans_lookWithoutDonkeys_143 : decode prog_8_method_7_code 143 = .ok (.ifCond .eq 10, 3) := by decide +kernel
theorem d_Plans_lookWithoutDonkeys_146 : decode prog_8_method_7_code 146 = .ok (.iconst 1, 1) := by decide +kernel
theorem d_Plans_lookWithoutDonkeys_147 : decode prog_8_method_7_code 147 = .ok (.iload 8, 2) := by decide +kernel
theorem d_Plans_lookWithoutDonkeys_149 : decode prog_8_method_7_code 149 = .ok (.ishl, 1) := by decide +kernel
theorem d_Plans_lookWithoutDonkeys_150 : decode prog_8_method_7_code 150 = .ok (.goto 4, 3) := by decide +kernel
theorem d_Plans_lookWithoutDonkeys_153 : decode prog_8_method_7_code 153 = .ok (.iconst 0, 1) := by decide +kernel
theorem d_Plans_lookWithoutDonkeys_154 : decode prog_8_method_7_code 154 = .ok (.ior, 1) := by decide +kernel
theorem d_Plans_lookWithoutDonkeys_155 : decode prog_8_method_7_code 155 = .ok (.istore 7, 2) := by decide +kernel
theorem d_Plans_lookWithoutDonkeys_157 : decode prog_8_method_7_code 157 = .ok (.iinc 8 1, 3) := by decide +kernel
theorem d_Plans_lookWithoutDonkeys_160 : decode prog_8_method_7_code 160 = .ok (.goto (-64), 3) := by decide +kernel
theorem d_Plans_lookWithoutDonkeys_163 : decode prog_8_method_7_code 163 = .ok (.aload_n 0, 1) := by decide +kernel
theorem d_Plans_lookWithoutDonkeys_164 : decode prog_8_method_7_code 164 = .ok (.getfield 20, 3) := by decide +kernel
theorem d_Plans_lookWithoutDonkeys_167 : decode prog_8_method_7_code 167 = .ok (.iload 4, 2) := by decide +kernel
theorem d_Plans_lookWithoutDonkeys_169 : decode prog_8_method_7_code 169 = .ok (.bipush 12, 2) := by decide +kernel
theorem d_Plans_lookWithoutDonkeys_171 : decode prog_8_method_7_code 171 = .ok (.imul, 1) := by decide +kernel
theorem d_Plans_lookWithoutDonkeys_172 : decode prog_8_method_7_code 172 = .ok (.iload 6, 2) := by decide +kernel
theorem d_Plans_lookWithoutDonkeys_174 : decode prog_8_method_7_code 174 = .ok (.iadd, 1) := by decide +kernel
theorem d_Plans_lookWithoutDonkeys_175 : decode prog_8_method_7_code 175 = .ok (.iload 7, 2) := by decide +kernel
theorem d_Plans_lookWithoutDonkeys_177 : decode prog_8_method_7_code 177 = .ok (.invokevirtual 77, 3) := by decide +kernel
theorem d_Plans_lookWithoutDonkeys_180 : decode prog_8_method_7_code 180 = .ok (.iinc 6 1, 3) := by decide +kernel
theorem d_Plans_lookWithoutDonkeys_183 : decode prog_8_method_7_code 183 = .ok (.goto (-106), 3) := by decide +kernel
theorem d_Plans_lookWithoutDonkeys_186 : decode prog_8_method_7_code 186 = .ok (.iinc 4 1, 3) := by decide +kernel
theorem d_Plans_lookWithoutDonkeys_189 : decode prog_8_method_7_code 189 = .ok (.goto (-139), 3) := by decide +kernel
theorem d_Plans_lookWithoutDonkeys_192 : decode prog_8_method_7_code 192 = .ok (.return_, 1) := by decide +kernel
theorem d_Plans_cellsOf_0 : decode prog_8_method_8_code 0 = .ok (.iconst 0, 1) := by decide +kernel
theorem d_Plans_cellsOf_1 : decode prog_8_method_8_code 1 = .ok (.istore_n 2, 1) := by decide +kernel
theorem d_Plans_cellsOf_2 : decode prog_8_method_8_code 2 = .ok (.iload_n 1, 1) := by decide +kernel
theorem d_Plans_cellsOf_3 : decode prog_8_method_8_code 3 = .ok (.istore_n 3, 1) := by decide +kernel
theorem d_Plans_cellsOf_4 : decode prog_8_method_8_code 4 = .ok (.aload_n 0, 1) := by decide +kernel
theorem d_Plans_cellsOf_5 : decode prog_8_method_8_code 5 = .ok (.getfield 36, 3) := by decide +kernel
theorem d_Plans_cellsOf_8 : decode prog_8_method_8_code 8 = .ok (.iconst 2, 1) := by decide +kernel
theorem d_Plans_cellsOf_9 : decode prog_8_method_8_code 9 = .ok (.invokevirtual 41, 3) := by decide +kernel
theorem d_Plans_cellsOf_12 : decode prog_8_method_8_code 12 = .ok (.iconst 1, 1) := by decide +kernel
theorem d_Plans_cellsOf_13 : decode prog_8_method_8_code 13 = .ok (.isub, 1) := by decide +kernel
theorem d_Plans_cellsOf_14 : decode prog_8_method_8_code 14 = .ok (.istore 4, 2) := by decide +kernel
theorem d_Plans_cellsOf_16 : decode prog_8_method_8_code 16 = .ok (.iload 4, 2) := by decide +kernel
theorem d_Plans_cellsOf_18 : decode prog_8_method_8_code 18 = .ok (.ifCond .lt 42, 3) := by decide +kernel
theorem d_Plans_cellsOf_21 : decode prog_8_method_8_code 21 = .ok (.iload_n 2, 1) := by decide +kernel
theorem d_Plans_cellsOf_22 : decode prog_8_method_8_code 22 = .ok (.iload_n 3, 1) := by decide +kernel
theorem d_Plans_cellsOf_23 : decode prog_8_method_8_code 23 = .ok (.aload_n 0, 1) := by decide +kernel
theorem d_Plans_cellsOf_24 : decode prog_8_method_8_code 24 = .ok (.getfield 36, 3) := by decide +kernel
theorem d_Plans_cellsOf_27 : decode prog_8_method_8_code 27 = .ok (.iconst 0, 1) := by decide +kernel
theorem d_Plans_cellsOf_28 : decode prog_8_method_8_code 28 = .ok (.invokevirtual 41, 3) := by decide +kernel
theorem d_Plans_cellsOf_31 : decode prog_8_method_8_code 31 = .ok (.invokestatic 94, 3) := by decide +kernel
theorem d_Plans_cellsOf_34 : decode prog_8_method_8_code 34 = .ok (.iconst 4, 1) := by decide +kernel
theorem d_Plans_cellsOf_35 : decode prog_8_method_8_code 35 = .ok (.iload 4, 2) := by decide +kernel
theorem d_Plans_cellsOf_37 : decode prog_8_method_8_code 37 = .ok (.imul, 1) := by decide +kernel
theorem d_Plans_cellsOf_38 : decode prog_8_method_8_code 38 = .ok (.ishl, 1) := by decide +kernel
theorem d_Plans_cellsOf_39 : decode prog_8_method_8_code 39 = .ok (.ior, 1) := by decide +kernel
theorem d_Plans_cellsOf_40 : decode prog_8_method_8_code 40 = .ok (.istore_n 2, 1) := by decide +kernel
theorem d_Plans_cellsOf_41 : decode prog_8_method_8_code 41 = .ok (.iload_n 3, 1) := by decide +kernel
theorem d_Plans_cellsOf_42 : decode prog_8_method_8_code 42 = .ok (.aload_n 0, 1) := by decide +kernel
theorem d_Plans_cellsOf_43 : decode prog_8_method_8_code 43 = .ok (.getfield 36, 3) := by decide +kernel
theorem d_Plans_cellsOf_46 : decode prog_8_method_8_code 46 = .ok (.iconst 0, 1) := by decide +kernel
theorem d_Plans_cellsOf_47 : decode prog_8_method_8_code 47 = .ok (.invokevirtual 41, 3) := by decide +kernel
theorem d_Plans_cellsOf_50 : decode prog_8_method_8_code 50 = .ok (.invokestatic 97, 3) := by decide +kernel
theorem d_Plans_cellsOf_53 : decode prog_8_method_8_code 53 = .ok (.istore_n 3, 1) := by decide +kernel
theorem d_Plans_cellsOf_54 : decode prog_8_method_8_code 54 = .ok (.iinc 4 (-1), 3) := by decide +kernel
theorem d_Plans_cellsOf_57 : decode prog_8_method_8_code 57 = .ok (.goto (-41), 3) := by decide +kernel
theorem d_Plans_cellsOf_60 : decode prog_8_method_8_code 60 = .ok (.iload_n 2, 1) := by decide +kernel
theorem d_Plans_cellsOf_61 : decode prog_8_method_8_code 61 = .ok (.ireturn, 1) := by decide +kernel
theorem d_Plans_showDonkeys_0 : decode prog_8_method_9_code 0 = .ok (.iconst 0, 1) := by decide +kernel
theorem d_Plans_showDonkeys_1 : decode prog_8_method_9_code 1 = .ok (.istore 4, 2) := by decide +kernel
theorem d_Plans_showDonkeys_3 : decode prog_8_method_9_code 3 = .ok (.iload 4, 2) := by decide +kernel
theorem d_Plans_showDonkeys_5 : decode prog_8_method_9_code 5 = .ok (.aload_n 1, 1) := by decide +kernel
theorem d_Plans_showDonkeys_6 : decode prog_8_method_9_code 6 = .ok (.getfield 36, 3) := by decide +kernel
theorem d_Plans_showDonkeys_9 : decode prog_8_method_9_code 9 = .ok (.iconst 0, 1) := by decide +kernel
theorem d_Plans_showDonkeys_10 : decode prog_8_method_9_code 10 = .ok (.invokevirtual 41, 3) := by decide +kernel
theorem d_Plans_showDonkeys_13 : decode prog_8_method_9_code 13 = .ok (.if_icmp .ge 86, 3) := by decide +kernel
theorem d_Plans_showDonkeys_16 : decode prog_8_method_9_code 16 = .ok (.aload_n 0, 1) := by decide +kernel
theorem d_Plans_showDonkeys_17 : decode prog_8_method_9_code 17 = .ok (.getfield 14, 3) := by decide +kernel
theorem d_Plans_showDonkeys_20 : decode prog_8_method_9_code 20 = .ok (.iload 4, 2) := by decide +kernel
theorem d_Plans_showDonkeys_22 : decode prog_8_method_9_code 22 = .ok (.invokevirtual 41, 3) := by decide +kernel
theorem d_Plans_showDonkeys_25 : decode prog_8_method_9_code 25 = .ok (.istore 5, 2) := by decide +kernel
theorem d_Plans_showDonkeys_27 : decode prog_8_method_9_code 27 = .ok (.iconst 0, 1) := by decide +kernel
theorem d_Plans_showDonkeys_28 : decode prog_8_method_9_code 28 = .ok (.istore 6, 2) := by decide +kernel
theorem d_Plans_showDonkeys_30 : decode prog_8_method_9_code 30 = .ok (.iload 6, 2) := by decide +kernel
theorem d_Plans_showDonkeys_32 : decode prog_8_method_9_code 32 = .ok (.aload_n 1, 1) := by decide +kernel
theorem d_Plans_showDonkeys_33 : decode prog_8_method_9_code 33 = .ok (.getfield 36, 3) := by decide +kernel
theorem d_Plans_showDonkeys_36 : decode prog_8_method_9_code 36 = .ok (.iconst 2, 1) := by decide +kernel
theorem d_Plans_showDonkeys_37 : decode prog_8_method_9_code 37 = .ok (.invokevirtual 41, 3) := by decide +kernel
theorem d_Plans_showDonkeys_40 : decode prog_8_method_9_code 40 = .ok (.if_icmp .ge 45, 3) := by decide +kernel
theorem d_Plans_showDonkeys_43 : decode prog_8_method_9_code 43 = .ok (.iload_n 3, 1) := by decide +kernel
theorem d_Plans_showDonkeys_44 : decode prog_8_method_9_code 44 = .ok (.iconst 4, 1) := by decide +kernel
theorem d_Plans_showDonkeys_45 : decode prog_8_method_9_code 45 = .ok (.iload 6, 2) := by decide +kernel
theorem d_Plans_showDonkeys_47 : decode prog_8_method_9_code 47 = .ok (.imul, 1) := by decide +kernel
theorem d_Plans_showDonkeys_48 : decode prog_8_method_9_code 48 = .ok (.ishr, 1) := by decide +kernel
theorem d_Plans_showDonkeys_49 : decode prog_8_method_9_code 49 = .ok (.bipush 15, 2) := by decide +kernel
theorem d_Plans_showDonkeys_51 : decode prog_8_method_9_code 51 = .ok (.iand, 1) := by decide +kernel
theorem d_Plans_showDonkeys_52 : decode prog_8_method_9_code 52 = .ok (.istore 7, 2) := by decide +kernel
theorem d_Plans_showDonkeys_54 : decode prog_8_method_9_code 54 = .ok (.iload 5, 2) := by decide +kernel
theorem d_Plans_showDonkeys_56 : decode prog_8_method_9_code 56 = .ok (.aload_n 0, 1) := by decide +kernel
theorem d_Plans_showDonkeys_57 : decode prog_8_method_9_code 57 = .ok (.getfield 20, 3) := by decide +kernel
theorem d_Plans_showDonkeys_60 : decode prog_8_method_9_code 60 = .ok (.iload 6, 2) := by decide +kernel
theorem d_Plans_showDonkeys_62 : decode prog_8_method_9_code 62 = .ok (.bipush 12, 2) := by decide +kernel
theorem d_Plans_showDonkeys_64 : decode prog_8_method_9_code 64 = .ok (.imul, 1) := by decide +kernel
theorem d_Plans_showDonkeys_65 : decode prog_8_method_9_code 65 = .ok (.iload 7, 2) := by decide +kernel
theorem d_Plans_showDonkeys_67 : decode prog_8_method_9_code 67 = .ok (.iadd, 1) := by decide +kernel
theorem d_Plans_showDonkeys_68 : decode prog_8_method_9_code 68 = .ok (.invokevirtual 41, 3) := by decide +kernel
theorem d_Plans_showDonkeys_71 : decode prog_8_method_9_code 71 = .ok (.iload 4, 2) := by decide +kernel
theorem d_Plans_showDonkeys_73 : decode prog_8_method_9_code 73 = .ok (.ishr, 1) := by decide +kernel
theorem d_Plans_showDonkeys_74 : decode prog_8_method_9_code 74 = .ok (.iconst 1, 1) := by decide +kernel
theorem d_Plans_showDonkeys_75 : decode prog_8_method_9_code 75 = .ok (.iand, 1) := by decide +kernel
theorem d_Plans_showDonkeys_76 : decode prog_8_method_9_code 76 = .ok (.iadd, 1) := by decide +kernel
theorem d_Plans_showDonkeys_77 : decode prog_8_method_9_code 77 = .ok (.istore 5, 2) := by decide +kernel
theorem d_Plans_showDonkeys_79 : decode prog_8_method_9_code 79 = .ok (.iinc 6 1, 3) := by decide +kernel
theorem d_Plans_showDonkeys_82 : decode prog_8_method_9_code 82 = .ok (.goto (-52), 3) := by decide +kernel
theorem d_Plans_showDonkeys_85 : decode prog_8_method_9_code 85 = .ok (.aload_n 2, 1) := by decide +kernel
theorem d_Plans_showDonkeys_86 : decode prog_8_method_9_code 86 = .ok (.iload 4, 2) := by decide +kernel
theorem d_Plans_showDonkeys_88 : decode prog_8_method_9_code 88 = .ok (.iload 5, 2) := by decide +kernel
theorem d_Plans_showDonkeys_90 : decode prog_8_method_9_code 90 = .ok (.invokevirtual 100, 3) := by decide +kernel
theorem d_Plans_showDonkeys_93 : decode prog_8_method_9_code 93 = .ok (.iinc 4 1, 3) := by decide +kernel
theorem d_Plans_showDonkeys_96 : decode prog_8_method_9_code 96 = .ok (.goto (-93), 3) := by decide +kernel
theorem d_Plans_showDonkeys_99 : decode prog_8_method_9_code 99 = .ok (.aload_n 2, 1) := by decide +kernel
theorem d_Plans_showDonkeys_100 : decode prog_8_method_9_code 100 = .ok (.aload_n 1, 1) := by decide +kernel
theorem d_Plans_showDonkeys_101 : decode prog_8_method_9_code 101 = .ok (.getfield 36, 3) := by decide +kernel
theorem d_Plans_showDonkeys_104 : decode prog_8_method_9_code 104 = .ok (.iconst 0, 1) := by decide +kernel
theorem d_Plans_showDonkeys_105 : decode prog_8_method_9_code 105 = .ok (.invokevirtual 41, 3) := by decide +kernel
theorem d_Plans_showDonkeys_108 : decode prog_8_method_9_code 108 = .ok (.invokevirtual 103, 3) := by decide +kernel
theorem d_Plans_showDonkeys_111 : decode prog_8_method_9_code 111 = .ok (.return_, 1) := by decide +kernel
theorem d_Plans_parishCargo_0 : decode prog_8_method_10_code 0 = .ok (.iconst 0, 1) := by decide +kernel
theorem d_Plans_parishCargo_1 : decode prog_8_method_10_code 1 = .ok (.istore 4, 2) := by decide +kernel
theorem d_Plans_parishCargo_3 : decode prog_8_method_10_code 3 = .ok (.iconst 0, 1) := by decide +kernel
theorem d_Plans_parishCargo_4 : decode prog_8_method_10_code 4 = .ok (.istore 5, 2) := by decide +kernel
theorem d_Plans_parishCargo_6 : decode prog_8_method_10_code 6 = .ok (.iload 5, 2) := by decide +kernel
theorem d_Plans_parishCargo_8 : decode prog_8_method_10_code 8 = .ok (.aload_n 0, 1) := by decide +kernel
theorem d_Plans_parishCargo_9 : decode prog_8_method_10_code 9 = .ok (.getfield 36, 3) := by decide +kernel
theorem d_Plans_parishCargo_12 : decode prog_8_method_10_code 12 = .ok (.iconst 3, 1) := by decide +kernel
theorem d_Plans_parishCargo_13 : decode prog_8_method_10_code 13 = .ok (.invokevirtual 41, 3) := by decide +kernel
theorem d_Plans_parishCargo_16 : decode prog_8_method_10_code 16 = .ok (.if_icmp .ge 37, 3) := by decide +kernel
theorem d_Plans_parishCargo_19 : decode prog_8_method_10_code 19 = .ok (.iload_n 3, 1) := by decide +kernel
theorem d_Plans_parishCargo_20 : decode prog_8_method_10_code 20 = .ok (.iload 5, 2) := by decide +kernel
theorem d_Plans_parishCargo_22 : decode prog_8_method_10_code 22 = .ok (.invokestatic 106, 3) := by decide +kernel
theorem d_Plans_parishCargo_25 : decode prog_8_method_10_code 25 = .ok (.ifCond .eq 22, 3) := by decide +kernel
theorem d_Plans_parishCargo_28 : decode prog_8_method_10_code 28 = .ok (.iload 4, 2) := by decide +kernel
theorem d_Plans_parishCargo_30 : decode prog_8_method_10_code 30 = .ok (.aload_n 0, 1) := by decide +kernel
theorem d_Plans_parishCargo_31 : decode prog_8_method_10_code 31 = .ok (.iload 5, 2) := by decide +kernel
theorem d_Plans_parishCargo_33 : decode prog_8_method_10_code 33 = .ok (.aload_n 2, 1) := by decide +kernel
theorem d_Plans_parishCargo_34 : decode prog_8_method_10_code 34 = .ok (.aload_n 0, 1) := by decide +kernel
theorem d_Plans_parishCargo_35 : decode prog_8_method_10_code 35 = .ok (.aload_n 1, 1) := by decide +kernel
theorem d_Plans_parishCargo_36 : decode prog_8_method_10_code 36 = .ok (.iload 5, 2) := by decide +kernel
theorem d_Plans_parishCargo_38 : decode prog_8_method_10_code 38 = .ok (.invokevirtual 110, 3) := by decide +kernel
theorem d_Plans_parishCargo_41 : decode prog_8_method_10_code 41 = .ok (.invokevirtual 114, 3) := by decide +kernel
theorem d_Plans_parishCargo_44 : decode prog_8_method_10_code 44 = .ok (.iadd, 1) := by decide +kernel
theorem d_Plans_parishCargo_45 : decode prog_8_method_10_code 45 = .ok (.istore 4, 2) := by decide +kernel
theorem d_Plans_parishCargo_47 : decode prog_8_method_10_code 47 = .ok (.iinc 5 1, 3) := by decide +kernel
theorem d_Plans_parishCargo_50 : decode prog_8_method_10_code 50 = .ok (.goto (-44), 3) := by decide +kernel
theorem d_Plans_parishCargo_53 : decode prog_8_method_10_code 53 = .ok (.iload 4, 2) := by decide +kernel
theorem d_Plans_parishCargo_55 : decode prog_8_method_10_code 55 = .ok (.ireturn, 1) := by decide +kernel
theorem d_Plans_placeLamp_0 : decode prog_8_method_11_code 0 = .ok (.aload 4, 2) := by decide +kernel
theorem d_Plans_placeLamp_2 : decode prog_8_method_11_code 2 = .ok (.aload_n 1, 1) := by decide +kernel
theorem d_Plans_placeLamp_3 : decode prog_8_method_11_code 3 = .ok (.aload_n 2, 1) := by decide +kernel
theorem d_Plans_placeLamp_4 : decode prog_8_method_11_code 4 = .ok (.aload_n 3, 1) := by decide +kernel
theorem d_Plans_placeLamp_5 : decode prog_8_method_11_code 5 = .ok (.invokevirtual 45, 3) := by decide +kernel
theorem d_Plans_placeLamp_8 : decode prog_8_method_11_code 8 = .ok (.iconst 0, 1) := by decide +kernel
theorem d_Plans_placeLamp_9 : decode prog_8_method_11_code 9 = .ok (.istore 5, 2) := by decide +kernel
theorem d_Plans_placeLamp_11 : decode prog_8_method_11_code 11 = .ok (.iload 5, 2) := by decide +kernel
theorem d_Plans_placeLamp_13 : decode prog_8_method_11_code 13 = .ok (.aload_n 1, 1) := by decide +kernel
theorem d_Plans_placeLamp_14 : decode prog_8_method_11_code 14 = .ok (.getfield 36, 3) := by decide +kernel
theorem d_Plans_placeLamp_17 : decode prog_8_method_11_code 17 = .ok (.iconst 0, 1) := by decide +kernel
theorem d_Plans_placeLamp_18 : decode prog_8_method_11_code 18 = .ok (.invokevirtual 41, 3) := by decide +kernel
theorem d_Plans_placeLamp_21 : decode prog_8_method_11_code 21 = .ok (.if_icmp .ge 25, 3) := by decide +kernel
theorem d_Plans_placeLamp_24 : decode prog_8_method_11_code 24 = .ok (.aload_n 0, 1) := by decide +kernel
theorem d_Plans_placeLamp_25 : decode prog_8_method_11_code 25 = .ok (.getfield 14, 3) := by decide +kernel
theorem d_Plans_placeLamp_28 : decode prog_8_method_11_code 28 = .ok (.iload 5, 2) := by decide +kernel
theorem d_Plans_placeLamp_30 : decode prog_8_method_11_code 30 = .ok (.aload 4, 2) := by decide +kernel
theorem d_Plans_placeLamp_32 : decode prog_8_method_11_code 32 = .ok (.iload 5, 2) := by decide +kernel
theorem d_Plans_placeLamp_34 : decode prog_8_method_11_code 34 = .ok (.invokevirtual 116, 3) := by decide +kernel
theorem d_Plans_placeLamp_37 : decode prog_8_method_11_code 37 = .ok (.invokevirtual 77, 3) := by decide +kernel
theorem d_Plans_placeLamp_40 : decode prog_8_method_11_code 40 = .ok (.iinc 5 1, 3) := by decide +kernel
theorem d_Plans_placeLamp_43 : decode prog_8_method_11_code 43 = .ok (.goto (-32), 3) := by decide +kernel
theorem d_Plans_placeLamp_46 : decode prog_8_method_11_code 46 = .ok (.aload_n 3, 1) := by decide +kernel
theorem d_Plans_placeLamp_47 : decode prog_8_method_11_code 47 = .ok (.aload_n 1, 1) := by decide +kernel
theorem d_Plans_placeLamp_48 : decode prog_8_method_11_code 48 = .ok (.invokevirtual 67, 3) := by decide +kernel
theorem d_Plans_placeLamp_51 : decode prog_8_method_11_code 51 = .ok (.istore 5, 2) := by decide +kernel
theorem d_Plans_placeLamp_53 : decode prog_8_method_11_code 53 = .ok (.aload_n 0, 1) := by decide +kernel
theorem d_Plans_placeLamp_54 : decode prog_8_method_11_code 54 = .ok (.iconst (-1), 1) := by decide +kernel
theorem d_Plans_placeLamp_55 : decode prog_8_method_11_code 55 = .ok (.putfield 23, 3) := by decide +kernel
theorem d_Plans_placeLamp_58 : decode prog_8_method_11_code 58 = .ok (.iconst 0, 1) := by decide +kernel
theorem d_Plans_placeLamp_59 : decode prog_8_method_11_code 59 = .ok (.istore 6, 2) := by decide +kernel
theorem d_Plans_placeLamp_61 : decode prog_8_method_11_code 61 = .ok (.iload 6, 2) := by decide +kernel
theorem d_Plans_placeLamp_63 : decode prog_8_method_11_code 63 = .ok (.aload_n 1, 1) := by decide +kernel
theorem d_Plans_placeLamp_64 : decode prog_8_method_11_code 64 = .ok (.getfield 36, 3) := by decide +kernel
theorem d_Plans_placeLamp_67 : decode prog_8_method_11_code 67 = .ok (.iconst 0, 1) := by decide +kernel
theorem d_Plans_placeLamp_68 : decode prog_8_method_11_code 68 = .ok (.invokevirtual 41, 3) := by decide +kernel
theorem d_Plans_placeLamp_71 : decode prog_8_method_11_code 71 = .ok (.if_icmp .ge 74, 3) := by decide +kernel
theorem d_Plans_placeLamp_74 : decode prog_8_method_11_code 74 = .ok (.iconst 1, 1) := by decide +kernel
theorem d_Plans_placeLamp_75 : decode prog_8_method_11_code 75 = .ok (.istore 7, 2) := by decide +kernel
theorem d_Plans_placeLamp_77 : decode prog_8_method_11_code 77 = .ok (.iload 7, 2) := by decide +kernel
theorem d_Plans_placeLamp_79 : decode prog_8_method_11_code 79 = .ok (.bipush 9, 2) := by decide +kernel
theorem d_Plans_placeLamp_81 : decode prog_8_method_11_code 81 = .ok (.if_icmp .gt 58, 3) := by decide +kernel
theorem d_Plans_placeLamp_84 : decode prog_8_method_11_code 84 = .ok (.aload_n 0, 1) := by decide +kernel
theorem d_Plans_placeLamp_85 : decode prog_8_method_11_code 85 = .ok (.aload_n 1, 1) := by decide +kernel
theorem d_Plans_placeLamp_86 : decode prog_8_method_11_code 86 = .ok (.aload 4, 2) := by decide +kernel
theorem d_Plans_placeLamp_88 : decode prog_8_method_11_code 88 = .ok (.iload 6, 2) := by decide +kernel
theorem d_Plans_placeLamp_90 : decode prog_8_method_11_code 90 = .ok (.iload 7, 2) := by decide +kernel
theorem d_Plans_placeLamp_92 : decode prog_8_method_11_code 92 = .ok (.iload 5, 2) := by decide +kernel
theorem d_Plans_placeLamp_94 : decode prog_8_method_11_code 94 = .ok (.invokevirtual 119, 3) := by decide +kernel
theorem d_Plans_placeLamp_97 : decode prog_8_method_11_code 97 = .ok (.aload_n 1, 1) := by decide +kernel
theorem d_Plans_placeLamp_98 : decode prog_8_method_11_code 98 = .ok (.aload_n 2, 1) := by decide +kernel
theorem d_Plans_placeLamp_99 : decode prog_8_method_11_code 99 = .ok (.aload 4, 2) := by decide +kernel
theorem d_Plans_placeLamp_101 : decode prog_8_method_11_code 101 = .ok (.invokestatic 123, 3) := by decide +kernel
theorem d_Plans_placeLamp_104 : decode prog_8_method_11_code 104 = .ok (.istore 8, 2) := by decide +kernel
theorem d_Plans_placeLamp_106 : decode prog_8_method_11_code 106 = .ok (.iload 8, 2) := by decide +kernel
theorem d_Plans_placeLamp_108 : decode prog_8_method_11_code 108 = .ok (.aload_n 0, 1) := by decide +kernel
theorem d_Plans_placeLamp_109 : decode prog_8_method_11_code 109 = .ok (.getfield 23, 3) := by decide +kernel
theorem d_Plans_placeLamp_112 : decode prog_8_method_11_code 112 = .ok (.if_icmp .le 21, 3) := by decide +kernel
theorem d_Plans_placeLamp_115 : decode prog_8_method_11_code 115 = .ok (.aload_n 0, 1) := by decide +kernel
theorem d_Plans_placeLamp_116 : decode prog_8_method_11_code 116 = .ok (.iload 8, 2) := by decide +kernel
theorem d_Plans_placeLamp_118 : decode prog_8_method_11_code 118 = .ok (.putfield 23, 3) := by decide +kernel
theorem d_Plans_placeLamp_121 : decode prog_8_method_11_code 121 = .ok (.aload_n 0, 1) := by decide +kernel
theorem d_Plans_placeLamp_122 : decode prog_8_method_11_code 122 = .ok (.iload 6, 2) := by decide +kernel
theorem d_Plans_placeLamp_124 : decode prog_8_method_11_code 124 = .ok (.putfield 30, 3) := by decide +kernel
theorem d_Plans_placeLamp_127 : decode prog_8_method_11_code 127 = .ok (.aload_n 0, 1) := by decide +kernel
theorem d_Plans_placeLamp_128 : decode prog_8_method_11_code 128 = .ok (.iload 7, 2) := by decide +kernel
theorem d_Plans_placeLamp_130 : decode prog_8_method_11_code 130 = .ok (.putfield 33, 3) := by decide +kernel
theorem d_Plans_placeLamp_133 : decode prog_8_method_11_code 133 = .ok (.iinc 7 1, 3) := by decide +kernel
theorem d_Plans_placeLamp_136 : decode prog_8_method_11_code 136 = .ok (.goto (-59), 3) := by decide +kernel
theorem d_Plans_placeLamp_139 : decode prog_8_method_11_code 139 = .ok (.iinc 6 1, 3) := by decide +kernel
theorem d_Plans_placeLamp_142 : decode prog_8_method_11_code 142 = .ok (.goto (-81), 3) := by decide +kernel
theorem d_Plans_placeLamp_145 : decode prog_8_method_11_code 145 = .ok (.return_, 1) := by decide +kernel
theorem d_Plans_showLamp_0 : decode prog_8_method_12_code 0 = .ok (.iconst 0, 1) := by decide +kernel
theorem d_Plans_showLamp_1 : decode prog_8_method_12_code 1 = .ok (.istore 6, 2) := by decide +kernel
theorem d_Plans_showLamp_3 : decode prog_8_method_12_code 3 = .ok (.iload 6, 2) := by decide +kernel
theorem d_Plans_showLamp_5 : decode prog_8_method_12_code 5 = .ok (.aload_n 1, 1) := by decide +kernel
theorem d_Plans_showLamp_6 : decode prog_8_method_12_code 6 = .ok (.getfield 36, 3) := by decide +kernel
theorem d_Plans_showLamp_9 : decode prog_8_method_12_code 9 = .ok (.iconst 0, 1) := by decide +kernel
theorem d_Plans_showLamp_10 : decode prog_8_method_12_code 10 = .ok (.invokevirtual 41, 3) := by decide +kernel
theorem d_Plans_showLamp_13 : decode prog_8_method_12_code 13 = .ok (.if_icmp .ge 45, 3) := by decide +kernel
theorem d_Plans_showLamp_16 : decode prog_8_method_12_code 16 = .ok (.aload_n 2, 1) := by decide +kernel
theorem d_Plans_showLamp_17 : decode prog_8_method_12_code 17 = .ok (.iload 6, 2) := by decide +kernel
theorem d_Plans_showLamp_19 : decode prog_8_method_12_code 19 = .ok (.aload_n 0, 1) := by decide +kernel
theorem d_Plans_showLamp_20 : decode prog_8_method_12_code 20 = .ok (.getfield 14, 3) := by decide +kernel
theorem d_Plans_showLamp_23 : decode prog_8_method_12_code 23 = .ok (.iload 6, 2) := by decide +kernel
theorem d_Plans_showLamp_25 : decode prog_8_method_12_code 25 = .ok (.invokevirtual 41, 3) := by decide +kernel
theorem d_Plans_showLamp_28 : decode prog_8_method_12_code 28 = .ok (.iload_n 3, 1) := by decide +kernel
theorem d_Plans_showLamp_29 : decode prog_8_method_12_code 29 = .ok (.iload 4, 2) := by decide +kernel
theorem d_Plans_showLamp_31 : decode prog_8_method_12_code 31 = .ok (.iload 6, 2) := by decide +kernel
theorem d_Plans_showLamp_33 : decode prog_8_method_12_code 33 = .ok (.iload 6, 2) := by decide +kernel
theorem d_Plans_showLamp_35 : decode prog_8_method_12_code 35 = .ok (.iload 5, 2) := by decide +kernel
theorem d_Plans_showLamp_37 : decode prog_8_method_12_code 37 = .ok (.invokestatic 90, 3) := by decide +kernel
theorem d_Plans_showLamp_40 : decode prog_8_method_12_code 40 = .ok (.ifCond .eq 7, 3) := by decide +kernel
theorem d_Plans_showLamp_43 : decode prog_8_method_12_code 43 = .ok (.iconst 1, 1) := by decide +kernel
theorem d_Plans_showLamp_44 : decode prog_8_method_12_code 44 = .ok (.goto 4, 3) := by decide +kernel
theorem d_Plans_showLamp_47 : decode prog_8_method_12_code 47 = .ok (.iconst 0, 1) := by decide +kernel
theorem d_Plans_showLamp_48 : decode prog_8_method_12_code 48 = .ok (.iadd, 1) := by decide +kernel
theorem d_Plans_showLamp_49 : decode prog_8_method_12_code 49 = .ok (.invokevirtual 100, 3) := by decide +kernel
theorem d_Plans_showLamp_52 : decode prog_8_method_12_code 52 = .ok (.iinc 6 1, 3) := by decide +kernel
theorem d_Plans_showLamp_55 : decode prog_8_method_12_code 55 = .ok (.goto (-52), 3) := by decide +kernel
theorem d_Plans_showLamp_58 : decode prog_8_method_12_code 58 = .ok (.aload_n 2, 1) := by decide +kernel
theorem d_Plans_showLamp_59 : decode prog_8_method_12_code 59 = .ok (.aload_n 1, 1) := by decide +kernel
theorem d_Plans_showLamp_60 : decode prog_8_method_12_code 60 = .ok (.getfield 36, 3) := by decide +kernel
theorem d_Plans_showLamp_63 : decode prog_8_method_12_code 63 = .ok (.iconst 0, 1) := by decide +kernel
theorem d_Plans_showLamp_64 : decode prog_8_method_12_code 64 = .ok (.invokevirtual 41, 3) := by decide +kernel
theorem d_Plans_showLamp_67 : decode prog_8_method_12_code 67 = .ok (.invokevirtual 103, 3) := by decide +kernel
theorem d_Plans_showLamp_70 : decode prog_8_method_12_code 70 = .ok (.return_, 1) := by decide +kernel
theorem d_Plans_safeShips_0 : decode prog_8_method_13_code 0 = .ok (.iconst 0, 1) := by decide +kernel
theorem d_Plans_safeShips_1 : decode prog_8_method_13_code 1 = .ok (.istore_n 3, 1) := by decide +kernel
theorem d_Plans_safeShips_2 : decode prog_8_method_13_code 2 = .ok (.iconst 0, 1) := by decide +kernel
theorem d_Plans_safeShips_3 : decode prog_8_method_13_code 3 = .ok (.istore 4, 2) := by decide +kernel
theorem d_Plans_safeShips_5 : decode prog_8_method_13_code 5 = .ok (.iload 4, 2) := by decide +kernel
theorem d_Plans_safeShips_7 : decode prog_8_method_13_code 7 = .ok (.aload_n 0, 1) := by decide +kernel
theorem d_Plans_safeShips_8 : decode prog_8_method_13_code 8 = .ok (.getfield 36, 3) := by decide +kernel
theorem d_Plans_safeShips_11 : decode prog_8_method_13_code 11 = .ok (.iconst 3, 1) := by decide +kernel
theorem d_Plans_safeShips_12 : decode prog_8_method_13_code 12 = .ok (.invokevirtual 41, 3) := by decide +kernel
theorem d_Plans_safeShips_15 : decode prog_8_method_13_code 15 = .ok (.if_icmp .ge 29, 3) := by decide +kernel
theorem d_Plans_safeShips_18 : decode prog_8_method_13_code 18 = .ok (.iload_n 3, 1) := by decide +kernel
theorem d_Plans_safeShips_19 : decode prog_8_method_13_code 19 = .ok (.aload_n 2, 1) := by decide +kernel
theorem d_Plans_safeShips_20 : decode prog_8_method_13_code 20 = .ok (.aload_n 0, 1) := by decide +kernel
theorem d_Plans_safeShips_21 : decode prog_8_method_13_code 21 = .ok (.aload_n 1, 1) := by decide +kernel
theorem d_Plans_safeShips_22 : decode prog_8_method_13_code 22 = .ok (.iload 4, 2) := by decide +kernel
theorem d_Plans_safeShips_24 : decode prog_8_method_13_code 24 = .ok (.invokevirtual 110, 3) := by decide +kernel
theorem d_Plans_safeShips_27 : decode prog_8_method_13_code 27 = .ok (.iconst (-1), 1) := by decide +kernel
theorem d_Plans_safeShips_28 : decode prog_8_method_13_code 28 = .ok (.if_icmp .ne 7, 3) := by decide +kernel
theorem d_Plans_safeShips_31 : decode prog_8_method_13_code 31 = .ok (.iconst 1, 1) := by decide +kernel
theorem d_Plans_safeShips_32 : decode prog_8_method_13_code 32 = .ok (.goto 4, 3) := by decide +kernel
theorem d_Plans_safeShips_35 : decode prog_8_method_13_code 35 = .ok (.iconst 0, 1) := by decide +kernel
theorem d_Plans_safeShips_36 : decode prog_8_method_13_code 36 = .ok (.iadd, 1) := by decide +kernel
theorem d_Plans_safeShips_37 : decode prog_8_method_13_code 37 = .ok (.istore_n 3, 1) := by decide +kernel
theorem d_Plans_safeShips_38 : decode prog_8_method_13_code 38 = .ok (.iinc 4 1, 3) := by decide +kernel
theorem d_Plans_safeShips_41 : decode prog_8_method_13_code 41 = .ok (.goto (-36), 3) := by decide +kernel
theorem d_Plans_safeShips_44 : decode prog_8_method_13_code 44 = .ok (.iload_n 3, 1) := by decide +kernel
theorem d_Plans_safeShips_45 : decode prog_8_method_13_code 45 = .ok (.ireturn, 1) := by decide +kernel
theorem d_Row_init_0 : decode prog_9_method_1_code 0 = .ok (.aload_n 0, 1) := by decide +kernel
theorem d_Row_init_1 : decode prog_9_method_1_code 1 = .ok (.invokespecial 1, 3) := by decide +kernel
theorem d_Row_init_4 : decode prog_9_method_1_code 4 = .ok (.aload_n 0, 1) := by decide +kernel
theorem d_Row_init_5 : decode prog_9_method_1_code 5 = .ok (.iload_n 1, 1) := by decide +kernel
theorem d_Row_init_6 : decode prog_9_method_1_code 6 = .ok (.iconst 0, 1) := by decide +kernel
theorem d_Row_init_7 : decode prog_9_method_1_code 7 = .ok (.invokestatic 7, 3) := by decide +kernel
theorem d_Row_init_10 : decode prog_9_method_1_code 10 = .ok (.newarray .int, 2) := by decide +kernel
theorem d_Row_init_12 : decode prog_9_method_1_code 12 = .ok (.putfield 13, 3) := by decide +kernel
theorem d_Row_init_15 : decode prog_9_method_1_code 15 = .ok (.return_, 1) := by decide +kernel
theorem d_Row_get_0 : decode prog_9_method_2_code 0 = .ok (.iload_n 1, 1) := by decide +kernel
theorem d_Row_get_1 : decode prog_9_method_2_code 1 = .ok (.ifCond .lt 21, 3) := by decide +kernel
theorem d_Row_get_4 : decode prog_9_method_2_code 4 = .ok (.iload_n 1, 1) := by decide +kernel
theorem d_Row_get_5 : decode prog_9_method_2_code 5 = .ok (.aload_n 0, 1) := by decide +kernel
theorem d_Row_get_6 : decode prog_9_method_2_code 6 = .ok (.getfield 13, 3) := by decide +kernel
theorem d_Row_get_9 : decode prog_9_method_2_code 9 = .ok (.arraylength, 1) := by decide +kernel
theorem d_Row_get_10 : decode prog_9_method_2_code 10 = .ok (.if_icmp .ge 12, 3) := by decide +kernel
theorem d_Row_get_13 : decode prog_9_method_2_code 13 = .ok (.aload_n 0, 1) := by decide +kernel
theorem d_Row_get_14 : decode prog_9_method_2_code 14 = .ok (.getfield 13, 3) := by decide +kernel
theorem d_Row_get_17 : decode prog_9_method_2_code 17 = .ok (.iload_n 1, 1) := by decide +kernel
theorem d_Row_get_18 : decode prog_9_method_2_code 18 = .ok (.iaload, 1) := by decide +kernel
theorem d_Row_get_19 : decode prog_9_method_2_code 19 = .ok (.goto 4, 3) := by decide +kernel
theorem d_Row_get_22 : decode prog_9_method_2_code 22 = .ok (.iconst 0, 1) := by decide +kernel
theorem d_Row_get_23 : decode prog_9_method_2_code 23 = .ok (.ireturn, 1) := by decide +kernel
theorem d_Row_set_0 : decode prog_9_method_3_code 0 = .ok (.iload_n 1, 1) := by decide +kernel
theorem d_Row_set_1 : decode prog_9_method_3_code 1 = .ok (.ifCond .lt 19, 3) := by decide +kernel
theorem d_Row_set_4 : decode prog_9_method_3_code 4 = .ok (.iload_n 1, 1) := by decide +kernel
theorem d_Row_set_5 : decode prog_9_method_3_code 5 = .ok (.aload_n 0, 1) := by decide +kernel
theorem d_Row_set_6 : decode prog_9_method_3_code 6 = .ok (.getfield 13, 3) := by decide +kernel
theorem d_Row_set_9 : decode prog_9_method_3_code 9 = .ok (.arraylength, 1) := by decide +kernel
theorem d_Row_set_10 : decode prog_9_method_3_code 10 = .ok (.if_icmp .ge 10, 3) := by decide +kernel
theorem d_Row_set_13 : decode prog_9_method_3_code 13 = .ok (.aload_n 0, 1) := by decide +kernel
theorem d_Row_set_14 : decode prog_9_method_3_code 14 = .ok (.getfield 13, 3) := by decide +kernel
theorem d_Row_set_17 : decode prog_9_method_3_code 17 = .ok (.iload_n 1, 1) := by decide +kernel
theorem d_Row_set_18 : decode prog_9_method_3_code 18 = .ok (.iload_n 2, 1) := by decide +kernel
theorem d_Row_set_19 : decode prog_9_method_3_code 19 = .ok (.iastore, 1) := by decide +kernel
theorem d_Row_set_20 : decode prog_9_method_3_code 20 = .ok (.return_, 1) := by decide +kernel
theorem d_Row_add_0 : decode prog_9_method_4_code 0 = .ok (.iload_n 1, 1) := by decide +kernel
theorem d_Row_add_1 : decode prog_9_method_4_code 1 = .ok (.ifCond .lt 22, 3) := by decide +kernel
theorem d_Row_add_4 : decode prog_9_method_4_code 4 = .ok (.iload_n 1, 1) := by decide +kernel
theorem d_Row_add_5 : decode prog_9_method_4_code 5 = .ok (.aload_n 0, 1) := by decide +kernel
theorem d_Row_add_6 : decode prog_9_method_4_code 6 = .ok (.getfield 13, 3) := by decide +kernel
theorem d_Row_add_9 : decode prog_9_method_4_code 9 = .ok (.arraylength, 1) := by decide +kernel
theorem d_Row_add_10 : decode prog_9_method_4_code 10 = .ok (.if_icmp .ge 13, 3) := by decide +kernel
theorem d_Row_add_13 : decode prog_9_method_4_code 13 = .ok (.aload_n 0, 1) := by decide +kernel
theorem d_Row_add_14 : decode prog_9_method_4_code 14 = .ok (.getfield 13, 3) := by decide +kernel
theorem d_Row_add_17 : decode prog_9_method_4_code 17 = .ok (.iload_n 1, 1) := by decide +kernel
theorem d_Row_add_18 : decode prog_9_method_4_code 18 = .ok (.dup2, 1) := by decide +kernel
theorem d_Row_add_19 : decode prog_9_method_4_code 19 = .ok (.iaload, 1) := by decide +kernel
theorem d_Row_add_20 : decode prog_9_method_4_code 20 = .ok (.iload_n 2, 1) := by decide +kernel
theorem d_Row_add_21 : decode prog_9_method_4_code 21 = .ok (.iadd, 1) := by decide +kernel
theorem d_Row_add_22 : decode prog_9_method_4_code 22 = .ok (.iastore, 1) := by decide +kernel
theorem d_Row_add_23 : decode prog_9_method_4_code 23 = .ok (.return_, 1) := by decide +kernel
theorem d_Row_clear_0 : decode prog_9_method_5_code 0 = .ok (.iconst 0, 1) := by decide +kernel
theorem d_Row_clear_1 : decode prog_9_method_5_code 1 = .ok (.istore_n 1, 1) := by decide +kernel
theorem d_Row_clear_2 : decode prog_9_method_5_code 2 = .ok (.iload_n 1, 1) := by decide +kernel
theorem d_Row_clear_3 : decode prog_9_method_5_code 3 = .ok (.aload_n 0, 1) := by decide +kernel
theorem d_Row_clear_4 : decode prog_9_method_5_code 4 = .ok (.getfield 13, 3) := by decide +kernel
theorem d_Row_clear_7 : decode prog_9_method_5_code 7 = .ok (.arraylength, 1) := by decide +kernel
theorem d_Row_clear_8 : decode prog_9_method_5_code 8 = .ok (.if_icmp .ge 16, 3) := by decide +kernel
theorem d_Row_clear_11 : decode prog_9_method_5_code 11 = .ok (.aload_n 0, 1) := by decide +kernel
theorem d_Row_clear_12 : decode prog_9_method_5_code 12 = .ok (.getfield 13, 3) := by decide +kernel
theorem d_Row_clear_15 : decode prog_9_method_5_code 15 = .ok (.iload_n 1, 1) := by decide +kernel
theorem d_Row_clear_16 : decode prog_9_method_5_code 16 = .ok (.iconst 0, 1) := by decide +kernel
theorem d_Row_clear_17 : decode prog_9_method_5_code 17 = .ok (.iastore, 1) := by decide +kernel
theorem d_Row_clear_18 : decode prog_9_method_5_code 18 = .ok (.iinc 1 1, 3) := by decide +kernel
theorem d_Row_clear_21 : decode prog_9_method_5_code 21 = .ok (.goto (-19), 3) := by decide +kernel
theorem d_Row_clear_24 : decode prog_9_method_5_code 24 = .ok (.return_, 1) := by decide +kernel
theorem d_Row_sum_0 : decode prog_9_method_6_code 0 = .ok (.iconst 0, 1) := by decide +kernel
theorem d_Row_sum_1 : decode prog_9_method_6_code 1 = .ok (.istore_n 1, 1) := by decide +kernel
theorem d_Row_sum_2 : decode prog_9_method_6_code 2 = .ok (.iconst 0, 1) := by decide +kernel
theorem d_Row_sum_3 : decode prog_9_method_6_code 3 = .ok (.istore_n 2, 1) := by decide +kernel
theorem d_Row_sum_4 : decode prog_9_method_6_code 4 = .ok (.iload_n 2, 1) := by decide +kernel
theorem d_Row_sum_5 : decode prog_9_method_6_code 5 = .ok (.aload_n 0, 1) := by decide +kernel
theorem d_Row_sum_6 : decode prog_9_method_6_code 6 = .ok (.getfield 13, 3) := by decide +kernel
theorem d_Row_sum_9 : decode prog_9_method_6_code 9 = .ok (.arraylength, 1) := by decide +kernel
theorem d_Row_sum_10 : decode prog_9_method_6_code 10 = .ok (.if_icmp .ge 18, 3) := by decide +kernel
theorem d_Row_sum_13 : decode prog_9_method_6_code 13 = .ok (.iload_n 1, 1) := by decide +kernel
theorem d_Row_sum_14 : decode prog_9_method_6_code 14 = .ok (.aload_n 0, 1) := by decide +kernel
theorem d_Row_sum_15 : decode prog_9_method_6_code 15 = .ok (.getfield 13, 3) := by decide +kernel
theorem d_Row_sum_18 : decode prog_9_method_6_code 18 = .ok (.iload_n 2, 1) := by decide +kernel
theorem d_Row_sum_19 : decode prog_9_method_6_code 19 = .ok (.iaload, 1) := by decide +kernel
theorem d_Row_sum_20 : decode prog_9_method_6_code 20 = .ok (.iadd, 1) := by decide +kernel
theorem d_Row_sum_21 : decode prog_9_method_6_code 21 = .ok (.istore_n 1, 1) := by decide +kernel
theorem d_Row_sum_22 : decode prog_9_method_6_code 22 = .ok (.iinc 2 1, 3) := by decide +kernel
theorem d_Row_sum_25 : decode prog_9_method_6_code 25 = .ok (.goto (-21), 3) := by decide +kernel
theorem d_Row_sum_28 : decode prog_9_method_6_code 28 = .ok (.iload_n 1, 1) := by decide +kernel
theorem d_Row_sum_29 : decode prog_9_method_6_code 29 = .ok (.ireturn, 1) := by decide +kernel
theorem d_Row_become_0 : decode prog_9_method_7_code 0 = .ok (.aload_n 0, 1) := by decide +kernel
theorem d_Row_become_1 : decode prog_9_method_7_code 1 = .ok (.aload_n 1, 1) := by decide +kernel
theorem d_Row_become_2 : decode prog_9_method_7_code 2 = .ok (.iconst 0, 1) := by decide +kernel
theorem d_Row_become_3 : decode prog_9_method_7_code 3 = .ok (.iconst 0, 1) := by decide +kernel
theorem d_Row_become_4 : decode prog_9_method_7_code 4 = .ok (.aload_n 0, 1) := by decide +kernel
theorem d_Row_become_5 : decode prog_9_method_7_code 5 = .ok (.getfield 13, 3) := by decide +kernel
theorem d_Row_become_8 : decode prog_9_method_7_code 8 = .ok (.arraylength, 1) := by decide +kernel
theorem d_Row_become_9 : decode prog_9_method_7_code 9 = .ok (.invokevirtual 19, 3) := by decide +kernel
theorem d_Row_become_12 : decode prog_9_method_7_code 12 = .ok (.return_, 1) := by decide +kernel
theorem d_Row_copyFrom_0 : decode prog_9_method_8_code 0 = .ok (.iconst 0, 1) := by decide +kernel
theorem d_Row_copyFrom_1 : decode prog_9_method_8_code 1 = .ok (.istore 5, 2) := by decide +kernel
theorem d_Row_copyFrom_3 : decode prog_9_method_8_code 3 = .ok (.iload 5, 2) := by decide +kernel
theorem d_Row_copyFrom_5 : decode prog_9_method_8_code 5 = .ok (.iload 4, 2) := by decide +kernel
theorem d_Row_copyFrom_7 : decode prog_9_method_8_code 7 = .ok (.if_icmp .ge 25, 3) := by decide +kernel
theorem d_Row_copyFrom_10 : decode prog_9_method_8_code 10 = .ok (.aload_n 0, 1) := by decide +kernel
theorem d_Row_copyFrom_11 : decode prog_9_method_8_code 11 = .ok (.iload_n 3, 1) := by decide +kernel
theorem d_Row_copyFrom_12 : decode prog_9_method_8_code 12 = .ok (.iload 5, 2) := by decide +kernel
theorem d_Row_copyFrom_14 : decode prog_9_method_8_code 14 = .ok (.iadd, 1) := by decide +kernel
theorem d_Row_copyFrom_15 : decode prog_9_method_8_code 15 = .ok (.aload_n 1, 1) := by decide +kernel
theorem d_Row_copyFrom_16 : decode prog_9_method_8_code 16 = .ok (.iload_n 2, 1) := by decide +kernel
theorem d_Row_copyFrom_17 : decode prog_9_method_8_code 17 = .ok (.iload 5, 2) := by decide +kernel
theorem d_Row_copyFrom_19 : decode prog_9_method_8_code 19 = .ok (.iadd, 1) := by decide +kernel
theorem d_Row_copyFrom_20 : decode prog_9_method_8_code 20 = .ok (.invokevirtual 23, 3) := by decide +kernel
theorem d_Row_copyFrom_23 : decode prog_9_method_8_code 23 = .ok (.invokevirtual 27, 3) := by decide +kernel
theorem d_Row_copyFrom_26 : decode prog_9_method_8_code 26 = .ok (.iinc 5 1, 3) := by decide +kernel
theorem d_Row_copyFrom_29 : decode prog_9_method_8_code 29 = .ok (.goto (-26), 3) := by decide +kernel
theorem d_Row_copyFrom_32 : decode prog_9_method_8_code 32 = .ok (.return_, 1) := by decide +kernel
theorem d_Tape_init_0 : decode prog_10_method_1_code 0 = .ok (.aload_n 0, 1) := by decide +kernel
theorem d_Tape_init_1 : decode prog_10_method_1_code 1 = .ok (.invokespecial 3, 3) := by decide +kernel
theorem d_Tape_init_4 : decode prog_10_method_1_code 4 = .ok (.aload_n 0, 1) := by decide +kernel
theorem d_Tape_init_5 : decode prog_10_method_1_code 5 = .ok (.new 9, 3) := by decide +kernel
theorem d_Tape_init_8 : decode prog_10_method_1_code 8 = .ok (.dup, 1) := by decide +kernel
theorem d_Tape_init_9 : decode prog_10_method_1_code 9 = .ok (.sipush 600, 3) := by decide +kernel
theorem d_Tape_init_12 : decode prog_10_method_1_code 12 = .ok (.invokespecial 11, 3) := by decide +kernel
theorem d_Tape_init_15 : decode prog_10_method_1_code 15 = .ok (.putfield 14, 3) := by decide +kernel
theorem d_Tape_init_18 : decode prog_10_method_1_code 18 = .ok (.aload_n 0, 1) := by decide +kernel
theorem d_Tape_init_19 : decode prog_10_method_1_code 19 = .ok (.iconst (-1), 1) := by decide +kernel
theorem d_Tape_init_20 : decode prog_10_method_1_code 20 = .ok (.putfield 20, 3) := by decide +kernel
theorem d_Tape_init_23 : decode prog_10_method_1_code 23 = .ok (.return_, 1) := by decide +kernel
theorem d_Tape_held_0 : decode prog_10_method_2_code 0 = .ok (.aload_n 0, 1) := by decide +kernel
theorem d_Tape_held_1 : decode prog_10_method_2_code 1 = .ok (.getfield 24, 3) := by decide +kernel
theorem d_Tape_held_4 : decode prog_10_method_2_code 4 = .ok (.ireturn, 1) := by decide +kernel
theorem d_Tape_append_0 : decode prog_10_method_3_code 0 = .ok (.bipush 24, 2) := by decide +kernel
theorem d_Tape_append_2 : decode prog_10_method_3_code 2 = .ok (.istore_n 2, 1) := by decide +kernel
theorem d_Tape_append_3 : decode prog_10_method_3_code 3 = .ok (.iload_n 2, 1) := by decide +kernel
theorem d_Tape_append_4 : decode prog_10_method_3_code 4 = .ok (.ifCond .lt 37, 3) := by decide +kernel
theorem d_Tape_append_7 : decode prog_10_method_3_code 7 = .ok (.aload_n 0, 1) := by decide +kernel
theorem d_Tape_append_8 : decode prog_10_method_3_code 8 = .ok (.getfield 14, 3) := by decide +kernel
theorem d_Tape_append_11 : decode prog_10_method_3_code 11 = .ok (.aload_n 0, 1) := by decide +kernel
theorem d_Tape_append_12 : decode prog_10_method_3_code 12 = .ok (.getfield 24, 3) := by decide +kernel
theorem d_Tape_append_15 : decode prog_10_method_3_code 15 = .ok (.iload_n 1, 1) := by decide +kernel
theorem d_Tape_append_16 : decode prog_10_method_3_code 16 = .ok (.iload_n 2, 1) := by decide +kernel
theorem d_Tape_append_17 : decode prog_10_method_3_code 17 = .ok (.iushr, 1) := by decide +kernel
theorem d_Tape_append_18 : decode prog_10_method_3_code 18 = .ok (.sipush 255, 3) := by decide +kernel
theorem d_Tape_append_21 : decode prog_10_method_3_code 21 = .ok (.iand, 1) := by decide +kernel
theorem d_Tape_append_22 : decode prog_10_method_3_code 22 = .ok (.invokevirtual 27, 3) := by decide +kernel
theorem d_Tape_append_25 : decode prog_10_method_3_code 25 = .ok (.aload_n 0, 1) := by decide +kernel
theorem d_Tape_append_26 : decode prog_10_method_3_code 26 = .ok (.dup, 1) := by decide +kernel
theorem d_Tape_append_27 : decode prog_10_method_3_code 27 = .ok (.getfield 24, 3) := by decide +kernel
theorem d_Tape_append_30 : decode prog_10_method_3_code 30 = .ok (.iconst 1, 1) := by decide +kernel
theorem d_Tape_append_31 : decode prog_10_method_3_code 31 = .ok (.iadd, 1) := by decide +kernel
theorem d_Tape_append_32 : decode prog_10_method_3_code 32 = .ok (.putfield 24, 3) := by decide +kernel
theorem d_Tape_append_35 : decode prog_10_method_3_code 35 = .ok (.iinc 2 (-8), 3) := by decide +kernel
theorem d_Tape_append_38 : decode prog_10_method_3_code 38 = .ok (.goto (-35), 3) := by decide +kernel
theorem d_Tape_append_41 : decode prog_10_method_3_code 41 = .ok (.return_, 1) := by decide +kernel
theorem d_Tape_open_0 : decode prog_10_method_4_code 0 = .ok (.aload_n 0, 1) := by decide +kernel
theorem d_Tape_open_1 : decode prog_10_method_4_code 1 = .ok (.iload_n 1, 1) := by decide +kernel
theorem d_Tape_open_2 : decode prog_10_method_4_code 2 = .ok (.putfield 31, 3) := by decide +kernel
theorem d_Tape_open_5 : decode prog_10_method_4_code 5 = .ok (.aload_n 0, 1) := by decide +kernel
theorem d_Tape_open_6 : decode prog_10_method_4_code 6 = .ok (.iconst 0, 1) := by decide +kernel
theorem d_Tape_open_7 : decode prog_10_method_4_code 7 = .ok (.putfield 24, 3) := by decide +kernel
theorem d_Tape_open_10 : decode prog_10_method_4_code 10 = .ok (.aload_n 0, 1) := by decide +kernel
theorem d_Tape_open_11 : decode prog_10_method_4_code 11 = .ok (.iconst 0, 1) := by decide +kernel
theorem d_Tape_open_12 : decode prog_10_method_4_code 12 = .ok (.putfield 34, 3) := by decide +kernel
theorem d_Tape_open_15 : decode prog_10_method_4_code 15 = .ok (.aload_n 0, 1) := by decide +kernel
theorem d_Tape_open_16 : decode prog_10_method_4_code 16 = .ok (.iconst (-1), 1) := by decide +kernel
theorem d_Tape_open_17 : decode prog_10_method_4_code 17 = .ok (.putfield 20, 3) := by decide +kernel
theorem d_Tape_open_20 : decode prog_10_method_4_code 20 = .ok (.aload_n 0, 1) := by decide +kernel
theorem d_Tape_open_21 : decode prog_10_method_4_code 21 = .ok (.iconst 0, 1) := by decide +kernel
theorem d_Tape_open_22 : decode prog_10_method_4_code 22 = .ok (.invokevirtual 37, 3) := by decide +kernel
theorem d_Tape_open_25 : decode prog_10_method_4_code 25 = .ok (.return_, 1) := by decide +kernel
theorem d_Tape_fine_0 : decode prog_10_method_5_code 0 = .ok (.aload_n 0, 1) := by decide +kernel
theorem d_Tape_fine_1 : decode prog_10_method_5_code 1 = .ok (.getfield 34, 3) := by decide +kernel
theorem d_Tape_fine_4 : decode prog_10_method_5_code 4 = .ok (.ifCond .ne 7, 3) := by decide +kernel
theorem d_Tape_fine_7 : decode prog_10_method_5_code 7 = .ok (.iconst 1, 1) := by decide +kernel
theorem d_Tape_fine_8 : decode prog_10_method_5_code 8 = .ok (.goto 4, 3) := by decide +kernel
theorem d_Tape_fine_11 : decode prog_10_method_5_code 11 = .ok (.iconst 0, 1) := by decide +kernel
theorem d_Tape_fine_12 : decode prog_10_method_5_code 12 = .ok (.ireturn, 1) := by decide +kernel
theorem d_Tape_faultPlace_0 : decode prog_10_method_6_code 0 = .ok (.aload_n 0, 1) := by decide +kernel
theorem d_Tape_faultPlace_1 : decode prog_10_method_6_code 1 = .ok (.getfield 20, 3) := by decide +kernel
theorem d_Tape_faultPlace_4 : decode prog_10_method_6_code 4 = .ok (.ireturn, 1) := by decide +kernel
theorem d_Tape_answer_0 : decode prog_10_method_7_code 0 = .ok (.aload_n 0, 1) := by decide +kernel
theorem d_Tape_answer_1 : decode prog_10_method_7_code 1 = .ok (.getfield 34, 3) := by decide +kernel
theorem d_Tape_answer_4 : decode prog_10_method_7_code 4 = .ok (.bipush 10, 2) := by decide +kernel
theorem d_Tape_answer_6 : decode prog_10_method_7_code 6 = .ok (.isub, 1) := by decide +kernel
theorem d_Tape_answer_7 : decode prog_10_method_7_code 7 = .ok (.ireturn, 1) := by decide +kernel
theorem d_Tape_blame_0 : decode prog_10_method_8_code 0 = .ok (.aload_n 0, 1) := by decide +kernel
theorem d_Tape_blame_1 : decode prog_10_method_8_code 1 = .ok (.getfield 34, 3) := by decide +kernel
theorem d_Tape_blame_4 : decode prog_10_method_8_code 4 = .ok (.ifCond .ne 13, 3) := by decide +kernel
theorem d_Tape_blame_7 : decode prog_10_method_8_code 7 = .ok (.aload_n 0, 1) := by decide +kernel
theorem d_Tape_blame_8 : decode prog_10_method_8_code 8 = .ok (.iload_n 1, 1) := by decide +kernel
theorem d_Tape_blame_9 : decode prog_10_method_8_code 9 = .ok (.putfield 34, 3) := by decide +kernel
theorem d_Tape_blame_12 : decode prog_10_method_8_code 12 = .ok (.aload_n 0, 1) := by decide +kernel
theorem d_Tape_blame_13 : decode prog_10_method_8_code 13 = .ok (.iload_n 2, 1) := by decide +kernel
theorem d_Tape_blame_14 : decode prog_10_method_8_code 14 = .ok (.putfield 20, 3) := by decide +kernel
theorem d_Tape_blame_17 : decode prog_10_method_8_code 17 = .ok (.return_, 1) := by decide +kernel
theorem d_Tape_blameItem_0 : decode prog_10_method_9_code 0 = .ok (.aload_n 0, 1) := by decide +kernel
theorem d_Tape_blameItem_1 : decode prog_10_method_9_code 1 = .ok (.iload_n 1, 1) := by decide +kernel
theorem d_Tape_blameItem_2 : decode prog_10_method_9_code 2 = .ok (.aload_n 0, 1) := by decide +kernel
theorem d_Tape_blameItem_3 : decode prog_10_method_9_code 3 = .ok (.getfield 40, 3) := by decide +kernel
theorem d_Tape_blameItem_6 : decode prog_10_method_9_code 6 = .ok (.invokevirtual 43, 3) := by decide +kernel
theorem d_Tape_blameItem_9 : decode prog_10_method_9_code 9 = .ok (.return_, 1) := by decide +kernel
theorem d_Tape_require_0 : decode prog_10_method_10_code 0 = .ok (.iload_n 1, 1) := by decide +kernel
theorem d_Tape_require_1 : decode prog_10_method_10_code 1 = .ok (.ifCond .ne 12, 3) := by decide +kernel
theorem d_Tape_require_4 : decode prog_10_method_10_code 4 = .ok (.aload_n 0, 1) := by decide +kernel
theorem d_Tape_require_5 : decode prog_10_method_10_code 5 = .ok (.iconst 1, 1) := by decide +kernel
theorem d_Tape_require_6 : decode prog_10_method_10_code 6 = .ok (.aload_n 0, 1) := by decide +kernel
theorem d_Tape_require_7 : decode prog_10_method_10_code 7 = .ok (.getfield 46, 3) := by decide +kernel
theorem d_Tape_require_10 : decode prog_10_method_10_code 10 = .ok (.invokevirtual 43, 3) := by decide +kernel
theorem d_Tape_require_13 : decode prog_10_method_10_code 13 = .ok (.return_, 1) := by decide +kernel
theorem d_Tape_moveTo_0 : decode prog_10_method_11_code 0 = .ok (.aload_n 0, 1) := by decide +kernel
theorem d_Tape_moveTo_1 : decode prog_10_method_11_code 1 = .ok (.iload_n 1, 1) := by decide +kernel
theorem d_Tape_moveTo_2 : decode prog_10_method_11_code 2 = .ok (.putfield 46, 3) := by decide +kernel
theorem d_Tape_moveTo_5 : decode prog_10_method_11_code 5 = .ok (.aload_n 0, 1) := by decide +kernel
theorem d_Tape_moveTo_6 : decode prog_10_method_11_code 6 = .ok (.getfield 46, 3) := by decide +kernel
theorem d_Tape_moveTo_9 : decode prog_10_method_11_code 9 = .ok (.aload_n 0, 1) := by decide +kernel
theorem d_Tape_moveTo_10 : decode prog_10_method_11_code 10 = .ok (.getfield 31, 3) := by decide +kernel
theorem d_Tape_moveTo_13 : decode prog_10_method_11_code 13 = .ok (.if_icmp .ge 32, 3) := by decide +kernel
theorem d_Tape_moveTo_16 : decode prog_10_method_11_code 16 = .ok (.aload_n 0, 1) := by decide +kernel
theorem d_Tape_moveTo_17 : decode prog_10_method_11_code 17 = .ok (.getfield 14, 3) := by decide +kernel
theorem d_Tape_moveTo_20 : decode prog_10_method_11_code 20 = .ok (.aload_n 0, 1) := by decide +kernel
theorem d_Tape_moveTo_21 : decode prog_10_method_11_code 21 = .ok (.getfield 46, 3) := by decide +kernel
theorem d_Tape_moveTo_24 : decode prog_10_method_11_code 24 = .ok (.invokevirtual 49, 3) := by decide +kernel
theorem d_Tape_moveTo_27 : decode prog_10_method_11_code 27 = .ok (.bipush 32, 2) := by decide +kernel
theorem d_Tape_moveTo_29 : decode prog_10_method_11_code 29 = .ok (.if_icmp .ne 16, 3) := by decide +kernel
theorem d_Tape_moveTo_32 : decode prog_10_method_11_code 32 = .ok (.aload_n 0, 1) := by decide +kernel
theorem d_Tape_moveTo_33 : decode prog_10_method_11_code 33 = .ok (.dup, 1) := by decide +kernel
theorem d_Tape_moveTo_34 : decode prog_10_method_11_code 34 = .ok (.getfield 46, 3) := by decide +kernel
theorem d_Tape_moveTo_37 : decode prog_10_method_11_code 37 = .ok (.iconst 1, 1) := by decide +kernel
theorem d_Tape_moveTo_38 : decode prog_10_method_11_code 38 = .ok (.iadd, 1) := by decide +kernel
theorem d_Tape_moveTo_39 : decode prog_10_method_11_code 39 = .ok (.putfield 46, 3) := by decide +kernel
theorem d_Tape_moveTo_42 : decode prog_10_method_11_code 42 = .ok (.goto (-37), 3) := by decide +kernel
theorem d_Tape_moveTo_45 : decode prog_10_method_11_code 45 = .ok (.return_, 1) := by decide +kernel
theorem d_Tape_ended_0 : decode prog_10_method_12_code 0 = .ok (.aload_n 0, 1) := by decide +kernel
theorem d_Tape_ended_1 : decode prog_10_method_12_code 1 = .ok (.getfield 46, 3) := by decide +kernel
theorem d_Tape_ended_4 : decode prog_10_method_12_code 4 = .ok (.aload_n 0, 1) := by decide +kernel
theorem d_Tape_ended_5 : decode prog_10_method_12_code 5 = .ok (.getfield 31, 3) := by decide +kernel
theorem d_Tape_ended_8 : decode prog_10_method_12_code 8 = .ok (.if_icmp .lt 7, 3) := by decide +kernel
theorem d_Tape_ended_11 : decode prog_10_method_12_code 11 = .ok (.iconst 1, 1) := by decide +kernel
theorem d_Tape_ended_12 : decode prog_10_method_12_code 12 = .ok (.goto 4, 3) := by decide +kernel
theorem d_Tape_ended_15 : decode prog_10_method_12_code 15 = .ok (.iconst 0, 1) := by decide +kernel
theorem d_Tape_ended_16 : decode prog_10_method_12_code 16 = .ok (.ireturn, 1) := by decide +kernel
theorem d_Tape_nextIs_0 : decode prog_10_method_13_code 0 = .ok (.aload_n 0, 1) := by decide +kernel
theorem d_Tape_nextIs_1 : decode prog_10_method_13_code 1 = .ok (.getfield 46, 3) := by decide +kernel
theorem d_Tape_nextIs_4 : decode prog_10_method_13_code 4 = .ok (.aload_n 0, 1) := by decide +kernel
theorem d_Tape_nextIs_5 : decode prog_10_method_13_code 5 = .ok (.getfield 31, 3) := by decide +kernel
theorem d_Tape_nextIs_8 : decode prog_10_method_13_code 8 = .ok (.if_icmp .ge 22, 3) := by decide +kernel
theorem d_Tape_nextIs_11 : decode prog_10_method_13_code 11 = .ok (.aload_n 0, 1) := by decide +kernel
theorem d_Tape_nextIs_12 : decode prog_10_method_13_code 12 = .ok (.getfield 14, 3) := by decide +kernel
theorem d_Tape_nextIs_15 : decode prog_10_method_13_code 15 = .ok (.aload_n 0, 1) := by decide +kernel
theorem d_Tape_nextIs_16 : decode prog_10_method_13_code 16 = .ok (.getfield 46, 3) := by decide +kernel
theorem d_Tape_nextIs_19 : decode prog_10_method_13_code 19 = .ok (.invokevirtual 49, 3) := by decide +kernel
theorem d_Tape_nextIs_22 : decode prog_10_method_13_code 22 = .ok (.iload_n 1, 1) := by decide +kernel
theorem d_Tape_nextIs_23 : decode prog_10_method_13_code 23 = .ok (.if_icmp .ne 7, 3) := by decide +kernel
theorem d_Tape_nextIs_26 : decode prog_10_method_13_code 26 = .ok (.iconst 1, 1) := by decide +kernel
theorem d_Tape_nextIs_27 : decode prog_10_method_13_code 27 = .ok (.goto 4, 3) := by decide +kernel
theorem d_Tape_nextIs_30 : decode prog_10_method_13_code 30 = .ok (.iconst 0, 1) := by decide +kernel
theorem d_Tape_nextIs_31 : decode prog_10_method_13_code 31 = .ok (.ireturn, 1) := by decide +kernel
theorem d_Tape_take_0 : decode prog_10_method_14_code 0 = .ok (.aload_n 0, 1) := by decide +kernel
theorem d_Tape_take_1 : decode prog_10_method_14_code 1 = .ok (.getfield 34, 3) := by decide +kernel
theorem d_Tape_take_4 : decode prog_10_method_14_code 4 = .ok (.ifCond .ne 29, 3) := by decide +kernel
theorem d_Tape_take_7 : decode prog_10_method_14_code 7 = .ok (.aload_n 0, 1) := by decide +kernel
theorem d_Tape_take_8 : decode prog_10_method_14_code 8 = .ok (.getfield 46, 3) := by decide +kernel
theorem d_Tape_take_11 : decode prog_10_method_14_code 11 = .ok (.aload_n 0, 1) := by decide +kernel
theorem d_Tape_take_12 : decode prog_10_method_14_code 12 = .ok (.getfield 31, 3) := by decide +kernel
theorem d_Tape_take_15 : decode prog_10_method_14_code 15 = .ok (.if_icmp .ge 18, 3) := by decide +kernel
theorem d_Tape_take_18 : decode prog_10_method_14_code 18 = .ok (.aload_n 0, 1) := by decide +kernel
theorem d_Tape_take_19 : decode prog_10_method_14_code 19 = .ok (.getfield 14, 3) := by decide +kernel
theorem d_Tape_take_22 : decode prog_10_method_14_code 22 = .ok (.aload_n 0, 1) := by decide +kernel
theorem d_Tape_take_23 : decode prog_10_method_14_code 23 = .ok (.getfield 46, 3) := by decide +kernel
theorem d_Tape_take_26 : decode prog_10_method_14_code 26 = .ok (.invokevirtual 49, 3) := by decide +kernel
theorem d_Tape_take_29 : decode prog_10_method_14_code 29 = .ok (.iload_n 1, 1) := by decide +kernel
theorem d_Tape_take_30 : decode prog_10_method_14_code 30 = .ok (.if_icmp .eq 5, 3) := by decide +kernel
theorem d_Tape_take_33 : decode prog_10_method_14_code 33 = .ok (.iconst 0, 1) := by decide +kernel
theorem d_Tape_take_34 : decode prog_10_method_14_code 34 = .ok (.ireturn, 1) := by decide +kernel
theorem d_Tape_take_35 : decode prog_10_method_14_code 35 = .ok (.aload_n 0, 1) := by decide +kernel
theorem d_Tape_take_36 : decode prog_10_method_14_code 36 = .ok (.aload_n 0, 1) := by decide +kernel
theorem d_Tape_take_37 : decode prog_10_method_14_code 37 = .ok (.getfield 46, 3) := by decide +kernel
theorem d_Tape_take_40 : decode prog_10_method_14_code 40 = .ok (.putfield 40, 3) := by decide +kernel
theorem d_Tape_take_43 : decode prog_10_method_14_code 43 = .ok (.aload_n 0, 1) := by decide +kernel
theorem d_Tape_take_44 : decode prog_10_method_14_code 44 = .ok (.aload_n 0, 1) := by decide +kernel
theorem d_Tape_take_45 : decode prog_10_method_14_code 45 = .ok (.getfield 46, 3) := by decide +kernel
theorem d_Tape_take_48 : decode prog_10_method_14_code 48 = .ok (.iconst 1, 1) := by decide +kernel
theorem d_Tape_take_49 : decode prog_10_method_14_code 49 = .ok (.iadd, 1) := by decide +kernel
theorem d_Tape_take_50 : decode prog_10_method_14_code 50 = .ok (.invokevirtual 37, 3) := by decide +kernel
theorem d_Tape_take_53 : decode prog_10_method_14_code 53 = .ok (.iconst 1, 1) := by decide +kernel
theorem d_Tape_take_54 : decode prog_10_method_14_code 54 = .ok (.ireturn, 1) := by decide +kernel
theorem d_Tape_digitNext_0 : decode prog_10_method_15_code 0 = .ok (.aload_n 0, 1) := by decide +kernel
theorem d_Tape_digitNext_1 : decode prog_10_method_15_code 1 = .ok (.getfield 46, 3) := by decide +kernel
theorem d_Tape_digitNext_4 : decode prog_10_method_15_code 4 = .ok (.aload_n 0, 1) := by decide +kernel
theorem d_Tape_digitNext_5 : decode prog_10_method_15_code 5 = .ok (.getfield 31, 3) := by decide +kernel
theorem d_Tape_digitNext_8 : decode prog_10_method_15_code 8 = .ok (.if_icmp .ge 39, 3) := by decide +kernel
theorem d_Tape_digitNext_11 : decode prog_10_method_15_code 11 = .ok (.aload_n 0, 1) := by decide +kernel
theorem d_Tape_digitNext_12 : decode prog_10_method_15_code 12 = .ok (.getfield 14, 3) := by decide +kernel
theorem d_Tape_digitNext_15 : decode prog_10_method_15_code 15 = .ok (.aload_n 0, 1) := by decide +kernel
theorem d_Tape_digitNext_16 : decode prog_10_method_15_code 16 = .ok (.getfield 46, 3) := by decide +kernel
theorem d_Tape_digitNext_19 : decode prog_10_method_15_code 19 = .ok (.invokevirtual 49, 3) := by decide +kernel
theorem d_Tape_digitNext_22 : decode prog_10_method_15_code 22 = .ok (.bipush 48, 2) := by decide +kernel
theorem d_Tape_digitNext_24 : decode prog_10_method_15_code 24 = .ok (.if_icmp .lt 23, 3) := by decide +kernel
theorem d_Tape_digitNext_27 : decode prog_10_method_15_code 27 = .ok (.aload_n 0, 1) := by decide +kernel
theorem d_Tape_digitNext_28 : decode prog_10_method_15_code 28 = .ok (.getfield 14, 3) := by decide +kernel
theorem d_Tape_digitNext_31 : decode prog_10_method_15_code 31 = .ok (.aload_n 0, 1) := by decide +kernel
theorem d_Tape_digitNext_32 : decode prog_10_method_15_code 32 = .ok (.getfield 46, 3) := by decide +kernel
theorem d_Tape_digitNext_35 : decode prog_10_method_15_code 35 = .ok (.invokevirtual 49, 3) := by decide +kernel
theorem d_Tape_digitNext_38 : decode prog_10_method_15_code 38 = .ok (.bipush 57, 2) := by decide +kernel
theorem d_Tape_digitNext_40 : decode prog_10_method_15_code 40 = .ok (.if_icmp .gt 7, 3) := by decide +kernel
theorem d_Tape_digitNext_43 : decode prog_10_method_15_code 43 = .ok (.iconst 1, 1) := by decide +kernel
theorem d_Tape_digitNext_44 : decode prog_10_method_15_code 44 = .ok (.goto 4, 3) := by decide +kernel
theorem d_Tape_digitNext_47 : decode prog_10_method_15_code 47 = .ok (.iconst 0, 1) := by decide +kernel
theorem d_Tape_digitNext_48 : decode prog_10_method_15_code 48 = .ok (.ireturn, 1) := by decide +kernel
theorem d_Tape_numberIn_0 : decode prog_10_method_16_code 0 = .ok (.aload_n 0, 1) := by decide +kernel
theorem d_Tape_numberIn_1 : decode prog_10_method_16_code 1 = .ok (.aload_n 0, 1) := by decide +kernel
theorem d_Tape_numberIn_2 : decode prog_10_method_16_code 2 = .ok (.invokevirtual 53, 3) := by decide +kernel
theorem d_Tape_numberIn_5 : decode prog_10_method_16_code 5 = .ok (.invokevirtual 57, 3) := by decide +kernel
theorem d_Tape_numberIn_8 : decode prog_10_method_16_code 8 = .ok (.aload_n 0, 1) := by decide +kernel
theorem d_Tape_numberIn_9 : decode prog_10_method_16_code 9 = .ok (.aload_n 0, 1) := by decide +kernel
theorem d_Tape_numberIn_10 : decode prog_10_method_16_code 10 = .ok (.getfield 46, 3) := by decide +kernel
theorem d_Tape_numberIn_13 : decode prog_10_method_16_code 13 = .ok (.putfield 40, 3) := by decide +kernel
theorem d_Tape_numberIn_16 : decode prog_10_method_16_code 16 = .ok (.iconst 0, 1) := by decide +kernel
theorem d_Tape_numberIn_17 : decode prog_10_method_16_code 17 = .ok (.istore_n 3, 1) := by decide +kernel
theorem d_Tape_numberIn_18 : decode prog_10_method_16_code 18 = .ok (.aload_n 0, 1) := by decide +kernel
theorem d_Tape_numberIn_19 : decode prog_10_method_16_code 19 = .ok (.getfield 46, 3) := by decide +kernel
theorem d_Tape_numberIn_22 : decode prog_10_method_16_code 22 = .ok (.istore 4, 2) := by decide +kernel
theorem d_Tape_numberIn_24 : decode prog_10_method_16_code 24 = .ok (.iload 4, 2) := by decide +kernel
theorem d_Tape_numberIn_26 : decode prog_10_method_16_code 26 = .ok (.aload_n 0, 1) := by decide +kernel
theorem d_Tape_numberIn_27 : decode prog_10_method_16_code 27 = .ok (.getfield 31, 3) := by decide +kernel
theorem d_Tape_numberIn_30 : decode prog_10_method_16_code 30 = .ok (.if_icmp .ge 60, 3) := by decide +kernel
theorem d_Tape_numberIn_33 : decode prog_10_method_16_code 33 = .ok (.aload_n 0, 1) := by decide +kernel
theorem d_Tape_numberIn_34 : decode prog_10_method_16_code 34 = .ok (.getfield 14, 3) := by decide +kernel
theorem d_Tape_numberIn_37 : decode prog_10_method_16_code 37 = .ok (.iload 4, 2) := by decide +kernel
theorem d_Tape_numberIn_39 : decode prog_10_method_16_code 39 = .ok (.invokevirtual 49, 3) := by decide +kernel
theorem d_Tape_numberIn_42 : decode prog_10_method_16_code 42 = .ok (.bipush 48, 2) := by decide +kernel
theorem d_Tape_numberIn_44 : decode prog_10_method_16_code 44 = .ok (.if_icmp .lt 46, 3) := by decide +kernel
theorem d_Tape_numberIn_47 : decode prog_10_method_16_code 47 = .ok (.aload_n 0, 1) := by decide +kernel
theorem d_Tape_numberIn_48 : decode prog_10_method_16_code 48 = .ok (.getfield 14, 3) := by decide +kernel
theorem d_Tape_numberIn_51 : decode prog_10_method_16_code 51 = .ok (.iload 4, 2) := by decide +kernel
theorem d_Tape_numberIn_53 : decode prog_10_method_16_code 53 = .ok (.invokevirtual 49, 3) := by decide +kernel
theorem d_Tape_numberIn_56 : decode prog_10_method_16_code 56 = .ok (.bipush 57, 2) := by decide +kernel
theorem d_Tape_numberIn_58 : decode prog_10_method_16_code 58 = .ok (.if_icmp .gt 32, 3) := by decide +kernel
theorem d_Tape_numberIn_61 : decode prog_10_method_16_code 61 = .ok (.iload_n 3, 1) := by decide +kernel
theorem d_Tape_numberIn_62 : decode prog_10_method_16_code 62 = .ok (.bipush 10, 2) := by decide +kernel
theorem d_Tape_numberIn_64 : decode prog_10_method_16_code 64 = .ok (.imul, 1) := by decide +kernel
theorem d_Tape_numberIn_65 : decode prog_10_method_16_code 65 = .ok (.aload_n 0, 1) := by decide +kernel
theorem d_Tape_numberIn_66 : decode prog_10_method_16_code 66 = .ok (.getfield 14, 3) := by decide +kernel
theorem d_Tape_numberIn_69 : decode prog_10_method_16_code 69 = .ok (.iload 4, 2) := by decide +kernel
theorem d_Tape_numberIn_71 : decode prog_10_method_16_code 71 = .ok (.invokevirtual 49, 3) := by decide +kernel
theorem d_Tape_numberIn_74 : decode prog_10_method_16_code 74 = .ok (.iadd, 1) := by decide +kernel
theorem d_Tape_numberIn_75 : decode prog_10_method_16_code 75 = .ok (.bipush 48, 2) := by decide +kernel
theorem d_Tape_numberIn_77 : decode prog_10_method_16_code 77 = .ok (.isub, 1) := by decide +kernel
theorem d_Tape_numberIn_78 : decode prog_10_method_16_code 78 = .ok (.ldc 61, 2) := by decide +kernel
theorem d_Tape_numberIn_80 : decode prog_10_method_16_code 80 = .ok (.invokestatic 62, 3) := by decide +kernel
theorem d_Tape_numberIn_83 : decode prog_10_method_16_code 83 = .ok (.istore_n 3, 1) := by decide +kernel
theorem d_Tape_numberIn_84 : decode prog_10_method_16_code 84 = .ok (.iinc 4 1, 3) := by decide +kernel
theorem d_Tape_numberIn_87 : decode prog_10_method_16_code 87 = .ok (.goto (-63), 3) := by decide +kernel
theorem d_Tape_numberIn_90 : decode prog_10_method_16_code 90 = .ok (.aload_n 0, 1) := by decide +kernel
theorem d_Tape_numberIn_91 : decode prog_10_method_16_code 91 = .ok (.iload 4, 2) := by decide +kernel
theorem d_Tape_numberIn_93 : decode prog_10_method_16_code 93 = .ok (.invokevirtual 37, 3) := by decide +kernel
theorem d_Tape_numberIn_96 : decode prog_10_method_16_code 96 = .ok (.iload_n 3, 1) := by decide +kernel
theorem d_Tape_numberIn_97 : decode prog_10_method_16_code 97 = .ok (.iload_n 1, 1) := by decide +kernel
theorem d_Tape_numberIn_98 : decode prog_10_method_16_code 98 = .ok (.if_icmp .lt 8, 3) := by decide +kernel
theorem d_Tape_numberIn_101 : decode prog_10_method_16_code 101 = .ok (.iload_n 3, 1) := by decide +kernel
theorem d_Tape_numberIn_102 : decode prog_10_method_16_code 102 = .ok (.iload_n 2, 1) := by decide +kernel
theorem d_Tape_numberIn_103 : decode prog_10_method_16_code 103 = .ok (.if_icmp .le 8, 3) := by decide +kernel
theorem d_Tape_numberIn_106 : decode prog_10_method_16_code 106 = .ok (.aload_n 0, 1) := by decide +kernel
theorem d_Tape_numberIn_107 : decode prog_10_method_16_code 107 = .ok (.iconst 2, 1) := by decide +kernel
theorem d_Tape_numberIn_108 : decode prog_10_method_16_code 108 = .ok (.invokevirtual 68, 3) := by decide +kernel
theorem d_Tape_numberIn_111 : decode prog_10_method_16_code 111 = .ok (.iload_n 3, 1) := by decide +kernel
theorem d_Tape_numberIn_112 : decode prog_10_method_16_code 112 = .ok (.ireturn, 1) := by decide +kernel
theorem d_Tape_wordOf_0 : decode prog_10_method_17_code 0 = .ok (.aload_n 0, 1) := by decide +kernel
theorem d_Tape_wordOf_1 : decode prog_10_method_17_code 1 = .ok (.aload_n 0, 1) := by decide +kernel
theorem d_Tape_wordOf_2 : decode prog_10_method_17_code 2 = .ok (.getfield 46, 3) := by decide +kernel
theorem d_Tape_wordOf_5 : decode prog_10_method_17_code 5 = .ok (.putfield 40, 3) := by decide +kernel
theorem d_Tape_wordOf_8 : decode prog_10_method_17_code 8 = .ok (.aload_n 0, 1) := by decide +kernel
theorem d_Tape_wordOf_9 : decode prog_10_method_17_code 9 = .ok (.getfield 46, 3) := by decide +kernel
theorem d_Tape_wordOf_12 : decode prog_10_method_17_code 12 = .ok (.istore_n 2, 1) := by decide +kernel
theorem d_Tape_wordOf_13 : decode prog_10_method_17_code 13 = .ok (.iload_n 2, 1) := by decide +kernel
theorem d_Tape_wordOf_14 : decode prog_10_method_17_code 14 = .ok (.aload_n 0, 1) := by decide +kernel
theorem d_Tape_wordOf_15 : decode prog_10_method_17_code 15 = .ok (.getfield 31, 3) := by decide +kernel
theorem d_Tape_wordOf_18 : decode prog_10_method_17_code 18 = .ok (.if_icmp .ge 35, 3) := by decide +kernel
theorem d_Tape_wordOf_21 : decode prog_10_method_17_code 21 = .ok (.aload_n 0, 1) := by decide +kernel
theorem d_Tape_wordOf_22 : decode prog_10_method_17_code 22 = .ok (.getfield 14, 3) := by decide +kernel
theorem d_Tape_wordOf_25 : decode prog_10_method_17_code 25 = .ok (.iload_n 2, 1) := by decide +kernel
theorem d_Tape_wordOf_26 : decode prog_10_method_17_code 26 = .ok (.invokevirtual 49, 3) := by decide +kernel
theorem d_Tape_wordOf_29 : decode prog_10_method_17_code 29 = .ok (.bipush 97, 2) := by decide +kernel
theorem d_Tape_wordOf_31 : decode prog_10_method_17_code 31 = .ok (.if_icmp .lt 22, 3) := by decide +kernel
theorem d_Tape_wordOf_34 : decode prog_10_method_17_code 34 = .ok (.aload_n 0, 1) := by decide +kernel
theorem d_Tape_wordOf_35 : decode prog_10_method_17_code 35 = .ok (.getfield 14, 3) := by decide +kernel
theorem d_Tape_wordOf_38 : decode prog_10_method_17_code 38 = .ok (.iload_n 2, 1) := by decide +kernel
theorem d_Tape_wordOf_39 : decode prog_10_method_17_code 39 = .ok (.invokevirtual 49, 3) := by decide +kernel
theorem d_Tape_wordOf_42 : decode prog_10_method_17_code 42 = .ok (.bipush 122, 2) := by decide +kernel
theorem d_Tape_wordOf_44 : decode prog_10_method_17_code 44 = .ok (.if_icmp .gt 9, 3) := by decide +kernel
theorem d_Tape_wordOf_47 : decode prog_10_method_17_code 47 = .ok (.iinc 2 1, 3) := by decide +kernel
theorem d_Tape_wordOf_50 : decode prog_10_method_17_code 50 = .ok (.goto (-37), 3) := by decide +kernel
theorem d_Tape_wordOf_53 : decode prog_10_method_17_code 53 = .ok (.aload_n 0, 1) := by decide +kernel
theorem d_Tape_wordOf_54 : decode prog_10_method_17_code 54 = .ok (.aload_n 1, 1) := by decide +kernel
theorem d_Tape_wordOf_55 : decode prog_10_method_17_code 55 = .ok (.iload_n 2, 1) := by decide +kernel
theorem d_Tape_wordOf_56 : decode prog_10_method_17_code 56 = .ok (.invokevirtual 71, 3) := by decide +kernel
theorem d_Tape_wordOf_59 : decode prog_10_method_17_code 59 = .ok (.istore_n 3, 1) := by decide +kernel
theorem d_Tape_wordOf_60 : decode prog_10_method_17_code 60 = .ok (.aload_n 0, 1) := by decide +kernel
theorem d_Tape_wordOf_61 : decode prog_10_method_17_code 61 = .ok (.iload_n 2, 1) := by decide +kernel
theorem d_Tape_wordOf_62 : decode prog_10_method_17_code 62 = .ok (.invokevirtual 37, 3) := by decide +kernel
theorem d_Tape_wordOf_65 : decode prog_10_method_17_code 65 = .ok (.iload_n 3, 1) := by decide +kernel
theorem d_Tape_wordOf_66 : decode prog_10_method_17_code 66 = .ok (.iconst (-1), 1) := by decide +kernel
theorem d_Tape_wordOf_67 : decode prog_10_method_17_code 67 = .ok (.if_icmp .ne 8, 3) := by decide +kernel
theorem d_Tape_wordOf_70 : decode prog_10_method_17_code 70 = .ok (.aload_n 0, 1) := by decide +kernel
theorem d_Tape_wordOf_71 : decode prog_10_method_17_code 71 = .ok (.iconst 1, 1) := by decide +kernel
theorem d_Tape_wordOf_72 : decode prog_10_method_17_code 72 = .ok (.invokevirtual 68, 3) := by decide +kernel
theorem d_Tape_wordOf_75 : decode prog_10_method_17_code 75 = .ok (.iload_n 3, 1) := by decide +kernel
theorem d_Tape_wordOf_76 : decode prog_10_method_17_code 76 = .ok (.ireturn, 1) := by decide +kernel
theorem d_Tape_indexOfItem_0 : decode prog_10_method_18_code 0 = .ok (.iconst 0, 1) := by decide +kernel
theorem d_Tape_indexOfItem_1 : decode prog_10_method_18_code 1 = .ok (.istore_n 3, 1) := by decide +kernel
theorem d_Tape_indexOfItem_2 : decode prog_10_method_18_code 2 = .ok (.aload_n 0, 1) := by decide +kernel
theorem d_Tape_indexOfItem_3 : decode prog_10_method_18_code 3 = .ok (.getfield 40, 3) := by decide +kernel
theorem d_Tape_indexOfItem_6 : decode prog_10_method_18_code 6 = .ok (.istore 4, 2) := by decide +kernel
theorem d_Tape_indexOfItem_8 : decode prog_10_method_18_code 8 = .ok (.iconst 1, 1) := by decide +kernel
theorem d_Tape_indexOfItem_9 : decode prog_10_method_18_code 9 = .ok (.istore 5, 2) := by decide +kernel
theorem d_Tape_indexOfItem_11 : decode prog_10_method_18_code 11 = .ok (.iconst 0, 1) := by decide +kernel
theorem d_Tape_indexOfItem_12 : decode prog_10_method_18_code 12 = .ok (.istore 6, 2) := by decide +kernel
theorem d_Tape_indexOfItem_14 : decode prog_10_method_18_code 14 = .ok (.iload 6, 2) := by decide +kernel
theorem d_Tape_indexOfItem_16 : decode prog_10_method_18_code 16 = .ok (.aload_n 1, 1) := by decide +kernel
theorem d_Tape_indexOfItem_17 : decode prog_10_method_18_code 17 = .ok (.invokevirtual 75, 3) := by decide +kernel
theorem d_Tape_indexOfItem_20 : decode prog_10_method_18_code 20 = .ok (.if_icmp .gt 101, 3) := by decide +kernel
theorem d_Tape_indexOfItem_23 : decode prog_10_method_18_code 23 = .ok (.iload 6, 2) := by decide +kernel
theorem d_Tape_indexOfItem_25 : decode prog_10_method_18_code 25 = .ok (.aload_n 1, 1) := by decide +kernel
theorem d_Tape_indexOfItem_26 : decode prog_10_method_18_code 26 = .ok (.invokevirtual 75, 3) := by decide +kernel
theorem d_Tape_indexOfItem_29 : decode prog_10_method_18_code 29 = .ok (.if_icmp .ge 12, 3) := by decide +kernel
theorem d_Tape_indexOfItem_32 : decode prog_10_method_18_code 32 = .ok (.aload_n 1, 1) := by decide +kernel
theorem d_Tape_indexOfItem_33 : decode prog_10_method_18_code 33 = .ok (.iload 6, 2) := by decide +kernel
theorem d_Tape_indexOfItem_35 : decode prog_10_method_18_code 35 = .ok (.invokevirtual 80, 3) := by decide +kernel
theorem d_Tape_indexOfItem_38 : decode prog_10_method_18_code 38 = .ok (.goto 5, 3) := by decide +kernel
theorem d_Tape_indexOfItem_41 : decode prog_10_method_18_code 41 = .ok (.bipush 32, 2) := by decide +kernel
theorem d_Tape_indexOfItem_43 : decode prog_10_method_18_code 43 = .ok (.istore 7, 2) := by decide +kernel
theorem d_Tape_indexOfItem_45 : decode prog_10_method_18_code 45 = .ok (.iload 7, 2) := by decide +kernel
theorem d_Tape_indexOfItem_47 : decode prog_10_method_18_code 47 = .ok (.bipush 32, 2) := by decide +kernel
theorem d_Tape_indexOfItem_49 : decode prog_10_method_18_code 49 = .ok (.if_icmp .eq 41, 3) := by decide +kernel
theorem d_Tape_indexOfItem_52 : decode prog_10_method_18_code 52 = .ok (.iload 5, 2) := by decide +kernel
theorem d_Tape_indexOfItem_54 : decode prog_10_method_18_code 54 = .ok (.ifCond .eq 27, 3) := by decide +kernel
theorem d_Tape_indexOfItem_57 : decode prog_10_method_18_code 57 = .ok (.iload 4, 2) := by decide +kernel
theorem d_Tape_indexOfItem_59 : decode prog_10_method_18_code 59 = .ok (.iload_n 2, 1) := by decide +kernel
theorem d_Tape_indexOfItem_60 : decode prog_10_method_18_code 60 = .ok (.if_icmp .ge 21, 3) := by decide +kernel
theorem d_Tape_indexOfItem_63 : decode prog_10_method_18_code 63 = .ok (.aload_n 0, 1) := by decide +kernel
theorem d_Tape_indexOfItem_64 : decode prog_10_method_18_code 64 = .ok (.getfield 14, 3) := by decide +kernel
theorem d_Tape_indexOfItem_67 : decode prog_10_method_18_code 67 = .ok (.iload 4, 2) := by decide +kernel
theorem d_Tape_indexOfItem_69 : decode prog_10_method_18_code 69 = .ok (.invokevirtual 49, 3) := by decide +kernel
theorem d_Tape_indexOfItem_72 : decode prog_10_method_18_code 72 = .ok (.iload 7, 2) := by decide +kernel
theorem d_Tape_indexOfItem_74 : decode prog_10_method_18_code 74 = .ok (.if_icmp .ne 7, 3) := by decide +kernel
theorem d_Tape_indexOfItem_77 : decode prog_10_method_18_code 77 = .ok (.iconst 1, 1) := by decide +kernel
theorem d_Tape_indexOfItem_78 : decode prog_10_method_18_code 78 = .ok (.goto 4, 3) := by decide +kernel
theorem d_Tape_indexOfItem_81 : decode prog_10_method_18_code 81 = .ok (.iconst 0, 1) := by decide +kernel
theorem d_Tape_indexOfItem_82 : decode prog_10_method_18_code 82 = .ok (.istore 5, 2) := by decide +kernel
theorem d_Tape_indexOfItem_84 : decode prog_10_method_18_code 84 = .ok (.iinc 4 1, 3) := by decide +kernel
theorem d_Tape_indexOfItem_87 : decode prog_10_method_18_code 87 = .ok (.goto 28, 3) := by decide +kernel
theorem d_Tape_indexOfItem_90 : decode prog_10_method_18_code 90 = .ok (.iload 5, 2) := by decide +kernel
theorem d_Tape_indexOfItem_92 : decode prog_10_method_18_code 92 = .ok (.ifCond .eq 11, 3) := by decide +kernel
theorem d_Tape_indexOfItem_95 : decode prog_10_method_18_code 95 = .ok (.iload 4, 2) := by decide +kernel
theorem d_Tape_indexOfItem_97 : decode prog_10_method_18_code 97 = .ok (.iload_n 2, 1) := by decide +kernel
theorem d_Tape_indexOfItem_98 : decode prog_10_method_18_code 98 = .ok (.if_icmp .ne 5, 3) := by decide +kernel
theorem d_Tape_indexOfItem_101 : decode prog_10_method_18_code 101 = .ok (.iload_n 3, 1) := by decide +kernel
theorem d_Tape_indexOfItem_102 : decode prog_10_method_18_code 102 = .ok (.ireturn, 1) := by decide +kernel
theorem d_Tape_indexOfItem_103 : decode prog_10_method_18_code 103 = .ok (.iinc 3 1, 3) := by decide +kernel
theorem d_Tape_indexOfItem_106 : decode prog_10_method_18_code 106 = .ok (.aload_n 0, 1) := by decide +kernel
theorem d_Tape_indexOfItem_107 : decode prog_10_method_18_code 107 = .ok (.getfield 40, 3) := by decide +kernel
theorem d_Tape_indexOfItem_110 : decode prog_10_method_18_code 110 = .ok (.istore 4, 2) := by decide +kernel
theorem d_Tape_indexOfItem_112 : decode prog_10_method_18_code 112 = .ok (.iconst 1, 1) := by decide +kernel
theorem d_Tape_indexOfItem_113 : decode prog_10_method_18_code 113 = .ok (.istore 5, 2) := by decide +kernel
theorem d_Tape_indexOfItem_115 : decode prog_10_method_18_code 115 = .ok (.iinc 6 1, 3) := by decide +kernel
theorem d_Tape_indexOfItem_118 : decode prog_10_method_18_code 118 = .ok (.goto (-104), 3) := by decide +kernel
theorem d_Tape_indexOfItem_121 : decode prog_10_method_18_code 121 = .ok (.iconst (-1), 1) := by decide +kernel
theorem d_Tape_indexOfItem_122 : decode prog_10_method_18_code 122 = .ok (.ireturn, 1) := by decide +kernel
theorem d_Winter_init_0 : decode prog_11_method_1_code 0 = .ok (.aload_n 0, 1) := by decide +kernel
theorem d_Winter_init_1 : decode prog_11_method_1_code 1 = .ok (.invokespecial 5, 3) := by decide +kernel
theorem d_Winter_init_4 : decode prog_11_method_1_code 4 = .ok (.aload_n 0, 1) := by decide +kernel
theorem d_Winter_init_5 : decode prog_11_method_1_code 5 = .ok (.new 11, 3) := by decide +kernel
theorem d_Winter_init_8 : decode prog_11_method_1_code 8 = .ok (.dup, 1) := by decide +kernel
theorem d_Winter_init_9 : decode prog_11_method_1_code 9 = .ok (.invokespecial 13, 3) := by decide +kernel
theorem d_Winter_init_12 : decode prog_11_method_1_code 12 = .ok (.putfield 14, 3) := by decide +kernel
theorem d_Winter_init_15 : decode prog_11_method_1_code 15 = .ok (.return_, 1) := by decide +kernel
theorem d_Winter_struck_0 : decode prog_11_method_2_code 0 = .ok (.aload_n 0, 1) := by decide +kernel
theorem d_Winter_struck_1 : decode prog_11_method_2_code 1 = .ok (.getfield 14, 3) := by decide +kernel
theorem d_Winter_struck_4 : decode prog_11_method_2_code 4 = .ok (.iconst 2, 1) := by decide +kernel
theorem d_Winter_struck_5 : decode prog_11_method_2_code 5 = .ok (.invokevirtual 18, 3) := by decide +kernel
theorem d_Winter_struck_8 : decode prog_11_method_2_code 8 = .ok (.ireturn, 1) := by decide +kernel
theorem d_Winter_parish_0 : decode prog_11_method_3_code 0 = .ok (.aload_n 0, 1) := by decide +kernel
theorem d_Winter_parish_1 : decode prog_11_method_3_code 1 = .ok (.getfield 14, 3) := by decide +kernel
theorem d_Winter_parish_4 : decode prog_11_method_3_code 4 = .ok (.iconst 3, 1) := by decide +kernel
theorem d_Winter_parish_5 : decode prog_11_method_3_code 5 = .ok (.invokevirtual 18, 3) := by decide +kernel
theorem d_Winter_parish_8 : decode prog_11_method_3_code 8 = .ok (.ireturn, 1) := by decide +kernel
theorem d_Winter_alive_0 : decode prog_11_method_4_code 0 = .ok (.aload_n 0, 1) := by decide +kernel
theorem d_Winter_alive_1 : decode prog_11_method_4_code 1 = .ok (.getfield 14, 3) := by decide +kernel
theorem d_Winter_alive_4 : decode prog_11_method_4_code 4 = .ok (.iconst 5, 1) := by decide +kernel
theorem d_Winter_alive_5 : decode prog_11_method_4_code 5 = .ok (.invokevirtual 18, 3) := by decide +kernel
theorem d_Winter_alive_8 : decode prog_11_method_4_code 8 = .ok (.ireturn, 1) := by decide +kernel
theorem d_Winter_foggy_0 : decode prog_11_method_5_code 0 = .ok (.aload_n 0, 1) := by decide +kernel
theorem d_Winter_foggy_1 : decode prog_11_method_5_code 1 = .ok (.getfield 22, 3) := by decide +kernel
theorem d_Winter_foggy_4 : decode prog_11_method_5_code 4 = .ok (.ireturn, 1) := by decide +kernel
theorem d_Winter_begin_0 : decode prog_11_method_6_code 0 = .ok (.aload_n 0, 1) := by decide +kernel
theorem d_Winter_begin_1 : decode prog_11_method_6_code 1 = .ok (.getfield 14, 3) := by decide +kernel
theorem d_Winter_begin_4 : decode prog_11_method_6_code 4 = .ok (.getfield 26, 3) := by decide +kernel
theorem d_Winter_begin_7 : decode prog_11_method_6_code 7 = .ok (.aload_n 1, 1) := by decide +kernel
theorem d_Winter_begin_8 : decode prog_11_method_6_code 8 = .ok (.getfield 26, 3) := by decide +kernel
theorem d_Winter_begin_11 : decode prog_11_method_6_code 11 = .ok (.invokevirtual 30, 3) := by decide +kernel
theorem d_Winter_begin_14 : decode prog_11_method_6_code 14 = .ok (.aload_n 0, 1) := by decide +kernel
theorem d_Winter_begin_15 : decode prog_11_method_6_code 15 = .ok (.getfield 14, 3) := by decide +kernel
theorem d_Winter_begin_18 : decode prog_11_method_6_code 18 = .ok (.invokevirtual 36, 3) := by decide +kernel
theorem d_Winter_begin_21 : decode prog_11_method_6_code 21 = .ok (.aload_n 0, 1) := by decide +kernel
theorem d_Winter_begin_22 : decode prog_11_method_6_code 22 = .ok (.iload_n 2, 1) := by decide +kernel
theorem d_Winter_begin_23 : decode prog_11_method_6_code 23 = .ok (.putfield 39, 3) := by decide +kernel
theorem d_Winter_begin_26 : decode prog_11_method_6_code 26 = .ok (.aload_n 0, 1) := by decide +kernel
theorem d_Winter_begin_27 : decode prog_11_method_6_code 27 = .ok (.iconst 0, 1) := by decide +kernel
theorem d_Winter_begin_28 : decode prog_11_method_6_code 28 = .ok (.putfield 22, 3) := by decide +kernel
theorem d_Winter_begin_31 : decode prog_11_method_6_code 31 = .ok (.return_, 1) := by decide +kernel
theorem d_Winter_live_0 : decode prog_11_method_7_code 0 = .ok (.aload_n 1, 1) := by decide +kernel
theorem d_Winter_live_1 : decode prog_11_method_7_code 1 = .ok (.getfield 42, 3) := by decide +kernel
theorem d_Winter_live_4 : decode prog_11_method_7_code 4 = .ok (.iconst 0, 1) := by decide +kernel
theorem d_Winter_live_5 : decode prog_11_method_7_code 5 = .ok (.invokevirtual 45, 3) := by decide +kernel
theorem d_Winter_live_8 : decode prog_11_method_7_code 8 = .ok (.ifCond .ne 7, 3) := by decide +kernel
theorem d_Winter_live_11 : decode prog_11_method_7_code 11 = .ok (.iconst 0, 1) := by decide +kernel
theorem d_Winter_live_12 : decode prog_11_method_7_code 12 = .ok (.goto 11, 3) := by decide +kernel
theorem d_Winter_live_15 : decode prog_11_method_7_code 15 = .ok (.aload_n 1, 1) := by decide +kernel
theorem d_Winter_live_16 : decode prog_11_method_7_code 16 = .ok (.getfield 42, 3) := by decide +kernel
theorem d_Winter_live_19 : decode prog_11_method_7_code 19 = .ok (.iconst 3, 1) := by decide +kernel
theorem d_Winter_live_20 : decode prog_11_method_7_code 20 = .ok (.invokevirtual 45, 3) := by decide +kernel
theorem d_Winter_live_23 : decode prog_11_method_7_code 23 = .ok (.istore 6, 2) := by decide +kernel
theorem d_Winter_live_25 : decode prog_11_method_7_code 25 = .ok (.iconst 0, 1) := by decide +kernel
theorem d_Winter_live_26 : decode prog_11_method_7_code 26 = .ok (.istore 7, 2) := by decide +kernel
theorem d_Winter_live_28 : decode prog_11_method_7_code 28 = .ok (.iload 7, 2) := by decide +kernel
theorem d_Winter_live_30 : decode prog_11_method_7_code 30 = .ok (.iload 4, 2) := by decide +kernel
theorem d_Winter_live_32 : decode prog_11_method_7_code 32 = .ok (.if_icmp .ge 74, 3) := by decide +kernel
theorem d_Winter_live_35 : decode prog_11_method_7_code 35 = .ok (.aload_n 0, 1) := by decide +kernel
theorem d_Winter_live_36 : decode prog_11_method_7_code 36 = .ok (.bipush 16, 2) := by decide +kernel
theorem d_Winter_live_38 : decode prog_11_method_7_code 38 = .ok (.invokevirtual 46, 3) := by decide +kernel
theorem d_Winter_live_41 : decode prog_11_method_7_code 41 = .ok (.iload 5, 2) := by decide +kernel
theorem d_Winter_live_43 : decode prog_11_method_7_code 43 = .ok (.if_icmp .ge 11, 3) := by decide +kernel
theorem d_Winter_live_46 : decode prog_11_method_7_code 46 = .ok (.aload_n 0, 1) := by decide +kernel
theorem d_Winter_live_47 : decode prog_11_method_7_code 47 = .ok (.getfield 14, 3) := by decide +kernel
theorem d_Winter_live_50 : decode prog_11_method_7_code 50 = .ok (.invokevirtual 49, 3) := by decide +kernel
theorem d_Winter_live_53 : decode prog_11_method_7_code 53 = .ok (.pop, 1) := by decide +kernel
theorem d_Winter_live_54 : decode prog_11_method_7_code 54 = .ok (.aload_n 0, 1) := by decide +kernel
theorem d_Winter_live_55 : decode prog_11_method_7_code 55 = .ok (.dup, 1) := by decide +kernel
theorem d_Winter_live_56 : decode prog_11_method_7_code 56 = .ok (.getfield 22, 3) := by decide +kernel
theorem d_Winter_live_59 : decode prog_11_method_7_code 59 = .ok (.aload_n 0, 1) := by decide +kernel
theorem d_Winter_live_60 : decode prog_11_method_7_code 60 = .ok (.getfield 14, 3) := by decide +kernel
theorem d_Winter_live_63 : decode prog_11_method_7_code 63 = .ok (.iconst 1, 1) := by decide +kernel
theorem d_Winter_live_64 : decode prog_11_method_7_code 64 = .ok (.invokevirtual 18, 3) := by decide +kernel
theorem d_Winter_live_67 : decode prog_11_method_7_code 67 = .ok (.iadd, 1) := by decide +kernel
theorem d_Winter_live_68 : decode prog_11_method_7_code 68 = .ok (.putfield 22, 3) := by decide +kernel
theorem d_Winter_live_71 : decode prog_11_method_7_code 71 = .ok (.iload 6, 2) := by decide +kernel
theorem d_Winter_live_73 : decode prog_11_method_7_code 73 = .ok (.ifCond .le 19, 3) := by decide +kernel
theorem d_Winter_live_76 : decode prog_11_method_7_code 76 = .ok (.aload_n 3, 1) := by decide +kernel
theorem d_Winter_live_77 : decode prog_11_method_7_code 77 = .ok (.aload_n 1, 1) := by decide +kernel
theorem d_Winter_live_78 : decode prog_11_method_7_code 78 = .ok (.aload_n 2, 1) := by decide +kernel
theorem d_Winter_live_79 : decode prog_11_method_7_code 79 = .ok (.aload_n 0, 1) := by decide +kernel
theorem d_Winter_live_80 : decode prog_11_method_7_code 80 = .ok (.getfield 14, 3) := by decide +kernel
theorem d_Winter_live_83 : decode prog_11_method_7_code 83 = .ok (.aload_n 0, 1) := by decide +kernel
theorem d_Winter_live_84 : decode prog_11_method_7_code 84 = .ok (.iload 6, 2) := by decide +kernel
theorem d_Winter_live_86 : decode prog_11_method_7_code 86 = .ok (.invokevirtual 46, 3) := by decide +kernel
theorem d_Winter_live_89 : decode prog_11_method_7_code 89 = .ok (.invokevirtual 53, 3) := by decide +kernel
theorem d_Winter_live_92 : decode prog_11_method_7_code 92 = .ok (.aload_n 0, 1) := by decide +kernel
theorem d_Winter_live_93 : decode prog_11_method_7_code 93 = .ok (.getfield 14, 3) := by decide +kernel
theorem d_Winter_live_96 : decode prog_11_method_7_code 96 = .ok (.invokevirtual 59, 3) := by decide +kernel
theorem d_Winter_live_99 : decode prog_11_method_7_code 99 = .ok (.pop, 1) := by decide +kernel
theorem d_Winter_live_100 : decode prog_11_method_7_code 100 = .ok (.iinc 7 1, 3) := by decide +kernel
theorem d_Winter_live_103 : decode prog_11_method_7_code 103 = .ok (.goto (-75), 3) := by decide +kernel
theorem d_Winter_live_106 : decode prog_11_method_7_code 106 = .ok (.return_, 1) := by decide +kernel
theorem d_Winter_draw_0 : decode prog_11_method_8_code 0 = .ok (.aload_n 0, 1) := by decide +kernel
theorem d_Winter_draw_1 : decode prog_11_method_8_code 1 = .ok (.aload_n 0, 1) := by decide +kernel
theorem d_Winter_draw_2 : decode prog_11_method_8_code 2 = .ok (.getfield 39, 3) := by decide +kernel
theorem d_Winter_draw_5 : decode prog_11_method_8_code 5 = .ok (.ldc 62, 2) := by decide +kernel
theorem d_Winter_draw_7 : decode prog_11_method_8_code 7 = .ok (.imul, 1) := by decide +kernel
theorem d_Winter_draw_8 : decode prog_11_method_8_code 8 = .ok (.sipush 12345, 3) := by decide +kernel
theorem d_Winter_draw_11 : decode prog_11_method_8_code 11 = .ok (.iadd, 1) := by decide +kernel
theorem d_Winter_draw_12 : decode prog_11_method_8_code 12 = .ok (.putfield 39, 3) := by decide +kernel
theorem d_Winter_draw_15 : decode prog_11_method_8_code 15 = .ok (.aload_n 0, 1) := by decide +kernel
theorem d_Winter_draw_16 : decode prog_11_method_8_code 16 = .ok (.getfield 39, 3) := by decide +kernel
theorem d_Winter_draw_19 : decode prog_11_method_8_code 19 = .ok (.bipush 16, 2) := by decide +kernel
theorem d_Winter_draw_21 : decode prog_11_method_8_code 21 = .ok (.iushr, 1) := by decide +kernel
theorem d_Winter_draw_22 : decode prog_11_method_8_code 22 = .ok (.sipush 32767, 3) := by decide +kernel
theorem d_Winter_draw_25 : decode prog_11_method_8_code 25 = .ok (.iand, 1) := by decide +kernel
theorem d_Winter_draw_26 : decode prog_11_method_8_code 26 = .ok (.iload_n 1, 1) := by decide +kernel
theorem d_Winter_draw_27 : decode prog_11_method_8_code 27 = .ok (.invokestatic 63, 3) := by decide +kernel
theorem d_Winter_draw_30 : decode prog_11_method_8_code 30 = .ok (.ireturn, 1) := by decide +kernel
theorem d_Work_init_0 : decode prog_12_method_1_code 0 = .ok (.aload_n 0, 1) := by decide +kernel
theorem d_Work_init_1 : decode prog_12_method_1_code 1 = .ok (.invokespecial 3, 3) := by decide +kernel
theorem d_Work_init_4 : decode prog_12_method_1_code 4 = .ok (.aload_n 0, 1) := by decide +kernel
theorem d_Work_init_5 : decode prog_12_method_1_code 5 = .ok (.new 9, 3) := by decide +kernel
theorem d_Work_init_8 : decode prog_12_method_1_code 8 = .ok (.dup, 1) := by decide +kernel
theorem d_Work_init_9 : decode prog_12_method_1_code 9 = .ok (.sipush 150, 3) := by decide +kernel
theorem d_Work_init_12 : decode prog_12_method_1_code 12 = .ok (.invokespecial 11, 3) := by decide +kernel
theorem d_Work_init_15 : decode prog_12_method_1_code 15 = .ok (.putfield 14, 3) := by decide +kernel
theorem d_Work_init_18 : decode prog_12_method_1_code 18 = .ok (.aload_n 0, 1) := by decide +kernel
theorem d_Work_init_19 : decode prog_12_method_1_code 19 = .ok (.new 9, 3) := by decide +kernel
theorem d_Work_init_22 : decode prog_12_method_1_code 22 = .ok (.dup, 1) := by decide +kernel
theorem d_Work_init_23 : decode prog_12_method_1_code 23 = .ok (.sipush 150, 3) := by decide +kernel
theorem d_Work_init_26 : decode prog_12_method_1_code 26 = .ok (.invokespecial 11, 3) := by decide +kernel
theorem d_Work_init_29 : decode prog_12_method_1_code 29 = .ok (.putfield 20, 3) := by decide +kernel
theorem d_Work_init_32 : decode prog_12_method_1_code 32 = .ok (.aload_n 0, 1) := by decide +kernel
theorem d_Work_init_33 : decode prog_12_method_1_code 33 = .ok (.new 9, 3) := by decide +kernel
theorem d_Work_init_36 : decode prog_12_method_1_code 36 = .ok (.dup, 1) := by decide +kernel
theorem d_Work_init_37 : decode prog_12_method_1_code 37 = .ok (.sipush 150, 3) := by decide +kernel
theorem d_Work_init_40 : decode prog_12_method_1_code 40 = .ok (.invokespecial 11, 3) := by decide +kernel
theorem d_Work_init_43 : decode prog_12_method_1_code 43 = .ok (.putfield 23, 3) := by decide +kernel
theorem d_Work_init_46 : decode prog_12_method_1_code 46 = .ok (.return_, 1) := by decide +kernel
theorem d_Work_done_0 : decode prog_12_method_2_code 0 = .ok (.aload_n 0, 1) := by decide +kernel
theorem d_Work_done_1 : decode prog_12_method_2_code 1 = .ok (.getfield 26, 3) := by decide +kernel
theorem d_Work_done_4 : decode prog_12_method_2_code 4 = .ok (.ireturn, 1) := by decide +kernel
theorem d_Work_refused_0 : decode prog_12_method_3_code 0 = .ok (.aload_n 0, 1) := by decide +kernel
theorem d_Work_refused_1 : decode prog_12_method_3_code 1 = .ok (.getfield 30, 3) := by decide +kernel
theorem d_Work_refused_4 : decode prog_12_method_3_code 4 = .ok (.ireturn, 1) := by decide +kernel
theorem d_Work_readFrom_0 : decode prog_12_method_4_code 0 = .ok (.aload_n 0, 1) := by decide +kernel
theorem d_Work_readFrom_1 : decode prog_12_method_4_code 1 = .ok (.iconst 0, 1) := by decide +kernel
theorem d_Work_readFrom_2 : decode prog_12_method_4_code 2 = .ok (.putfield 33, 3) := by decide +kernel
theorem d_Work_readFrom_5 : decode prog_12_method_4_code 5 = .ok (.aload_n 0, 1) := by decide +kernel
theorem d_Work_readFrom_6 : decode prog_12_method_4_code 6 = .ok (.aload_n 1, 1) := by decide +kernel
theorem d_Work_readFrom_7 : decode prog_12_method_4_code 7 = .ok (.aload_n 2, 1) := by decide +kernel
theorem d_Work_readFrom_8 : decode prog_12_method_4_code 8 = .ok (.iconst 0, 1) := by decide +kernel
theorem d_Work_readFrom_9 : decode prog_12_method_4_code 9 = .ok (.invokevirtual 36, 3) := by decide +kernel
theorem d_Work_readFrom_12 : decode prog_12_method_4_code 12 = .ok (.aload_n 1, 1) := by decide +kernel
theorem d_Work_readFrom_13 : decode prog_12_method_4_code 13 = .ok (.aload_n 1, 1) := by decide +kernel
theorem d_Work_readFrom_14 : decode prog_12_method_4_code 14 = .ok (.invokevirtual 40, 3) := by decide +kernel
theorem d_Work_readFrom_17 : decode prog_12_method_4_code 17 = .ok (.invokevirtual 46, 3) := by decide +kernel
theorem d_Work_readFrom_20 : decode prog_12_method_4_code 20 = .ok (.return_, 1) := by decide +kernel
theorem d_Work_readSteps_0 : decode prog_12_method_5_code 0 = .ok (.iconst 0, 1) := by decide +kernel
theorem d_Work_readSteps_1 : decode prog_12_method_5_code 1 = .ok (.istore 4, 2) := by decide +kernel
theorem d_Work_readSteps_3 : decode prog_12_method_5_code 3 = .ok (.iload 4, 2) := by decide +kernel
theorem d_Work_readSteps_5 : decode prog_12_method_5_code 5 = .ok (.sipush 150, 3) := by decide +kernel
theorem d_Work_readSteps_8 : decode prog_12_method_5_code 8 = .ok (.if_icmp .ge 50, 3) := by decide +kernel
theorem d_Work_readSteps_11 : decode prog_12_method_5_code 11 = .ok (.aload_n 1, 1) := by decide +kernel
theorem d_Work_readSteps_12 : decode prog_12_method_5_code 12 = .ok (.invokevirtual 50, 3) := by decide +kernel
theorem d_Work_readSteps_15 : decode prog_12_method_5_code 15 = .ok (.ifCond .eq 43, 3) := by decide +kernel
theorem d_Work_readSteps_18 : decode prog_12_method_5_code 18 = .ok (.aload_n 1, 1) := by decide +kernel
theorem d_Work_readSteps_19 : decode prog_12_method_5_code 19 = .ok (.invokevirtual 40, 3) := by decide +kernel
theorem d_Work_readSteps_22 : decode prog_12_method_5_code 22 = .ok (.ifCond .ne 36, 3) := by decide +kernel
theorem d_Work_readSteps_25 : decode prog_12_method_5_code 25 = .ok (.aload_n 1, 1) := by decide +kernel
theorem d_Work_readSteps_26 : decode prog_12_method_5_code 26 = .ok (.bipush 93, 2) := by decide +kernel
theorem d_Work_readSteps_28 : decode prog_12_method_5_code 28 = .ok (.invokevirtual 53, 3) := by decide +kernel
theorem d_Work_readSteps_31 : decode prog_12_method_5_code 31 = .ok (.ifCond .eq 4, 3) := by decide +kernel
theorem d_Work_readSteps_34 : decode prog_12_method_5_code 34 = .ok (.return_, 1) := by decide +kernel
theorem d_Work_readSteps_35 : decode prog_12_method_5_code 35 = .ok (.aload_n 0, 1) := by decide +kernel
theorem d_Work_readSteps_36 : decode prog_12_method_5_code 36 = .ok (.aload_n 1, 1) := by decide +kernel
theorem d_Work_readSteps_37 : decode prog_12_method_5_code 37 = .ok (.aload_n 2, 1) := by decide +kernel
theorem d_Work_readSteps_38 : decode prog_12_method_5_code 38 = .ok (.iload_n 3, 1) := by decide +kernel
theorem d_Work_readSteps_39 : decode prog_12_method_5_code 39 = .ok (.invokevirtual 57, 3) := by decide +kernel
theorem d_Work_readSteps_42 : decode prog_12_method_5_code 42 = .ok (.aload_n 1, 1) := by decide +kernel
theorem d_Work_readSteps_43 : decode prog_12_method_5_code 43 = .ok (.aload_n 1, 1) := by decide +kernel
theorem d_Work_readSteps_44 : decode prog_12_method_5_code 44 = .ok (.bipush 59, 2) := by decide +kernel
theorem d_Work_readSteps_46 : decode prog_12_method_5_code 46 = .ok (.invokevirtual 60, 3) := by decide +kernel
theorem d_Work_readSteps_49 : decode prog_12_method_5_code 49 = .ok (.invokevirtual 46, 3) := by decide +kernel
theorem d_Work_readSteps_52 : decode prog_12_method_5_code 52 = .ok (.iinc 4 1, 3) := by decide +kernel
theorem d_Work_readSteps_55 : decode prog_12_method_5_code 55 = .ok (.goto (-52), 3) := by decide +kernel
theorem d_Work_readSteps_58 : decode prog_12_method_5_code 58 = .ok (.return_, 1) := by decide +kernel
theorem d_Work_readStep_0 : decode prog_12_method_6_code 0 = .ok (.aload_n 0, 1) := by decide +kernel
theorem d_Work_readStep_1 : decode prog_12_method_6_code 1 = .ok (.getfield 33, 3) := by decide +kernel
theorem d_Work_readStep_4 : decode prog_12_method_6_code 4 = .ok (.istore 4, 2) := by decide +kernel
theorem d_Work_readStep_6 : decode prog_12_method_6_code 6 = .ok (.aload_n 1, 1) := by decide +kernel
theorem d_Work_readStep_7 : decode prog_12_method_6_code 7 = .ok (.ldc 63, 2) := by decide +kernel
theorem d_Work_readStep_9 : decode prog_12_method_6_code 9 = .ok (.invokevirtual 65, 3) := by decide +kernel
theorem d_Work_readStep_12 : decode prog_12_method_6_code 12 = .ok (.istore 5, 2) := by decide +kernel
theorem d_Work_readStep_14 : decode prog_12_method_6_code 14 = .ok (.aload_n 0, 1) := by decide +kernel
theorem d_Work_readStep_15 : decode prog_12_method_6_code 15 = .ok (.getfield 14, 3) := by decide +kernel
theorem d_Work_readStep_18 : decode prog_12_method_6_code 18 = .ok (.iload 4, 2) := by decide +kernel
theorem d_Work_readStep_20 : decode prog_12_method_6_code 20 = .ok (.iload 5, 2) := by decide +kernel
theorem d_Work_readStep_22 : decode prog_12_method_6_code 22 = .ok (.invokevirtual 69, 3) := by decide +kernel
theorem d_Work_readStep_25 : decode prog_12_method_6_code 25 = .ok (.aload_n 0, 1) := by decide +kernel
theorem d_Work_readStep_26 : decode prog_12_method_6_code 26 = .ok (.dup, 1) := by decide +kernel
theorem d_Work_readStep_27 : decode prog_12_method_6_code 27 = .ok (.getfield 33, 3) := by decide +kernel
theorem d_Work_readStep_30 : decode prog_12_method_6_code 30 = .ok (.iconst 1, 1) := by decide +kernel
theorem d_Work_readStep_31 : decode prog_12_method_6_code 31 = .ok (.iadd, 1) := by decide +kernel
theorem d_Work_readStep_32 : decode prog_12_method_6_code 32 = .ok (.putfield 33, 3) := by decide +kernel
theorem d_Work_readStep_35 : decode prog_12_method_6_code 35 = .ok (.iload 5, 2) := by decide +kernel
theorem d_Work_readStep_37 : decode prog_12_method_6_code 37 = .ok (.tableswitch 160 0 6 #[43, 43, 70, 121, 160, 160, 148], 43) := by decide +kernel
theorem d_Work_readStep_80 : decode prog_12_method_6_code 80 = .ok (.aload_n 0, 1) := by decide +kernel
theorem d_Work_readStep_81 : decode prog_12_method_6_code 81 = .ok (.getfield 20, 3) := by decide +kernel
theorem d_Work_readStep_84 : decode prog_12_method_6_code 84 = .ok (.iload 4, 2) := by decide +kernel
theorem d_Work_readStep_86 : decode prog_12_method_6_code 86 = .ok (.aload_n 1, 1) := by decide +kernel
theorem d_Work_readStep_87 : decode prog_12_method_6_code 87 = .ok (.iconst 0, 1) := by decide +kernel
theorem d_Work_readStep_88 : decode prog_12_method_6_code 88 = .ok (.aload_n 2, 1) := by decide +kernel
theorem d_Work_readStep_89 : decode prog_12_method_6_code 89 = .ok (.getfield 73, 3) := by decide +kernel
theorem d_Work_readStep_92 : decode prog_12_method_6_code 92 = .ok (.iconst 1, 1) := by decide +kernel
theorem d_Work_readStep_93 : decode prog_12_method_6_code 93 = .ok (.invokevirtual 78, 3) := by decide +kernel
theorem d_Work_readStep_96 : decode prog_12_method_6_code 96 = .ok (.iconst 1, 1) := by decide +kernel
theorem d_Work_readStep_97 : decode prog_12_method_6_code 97 = .ok (.isub, 1) := by decide +kernel
theorem d_Work_readStep_98 : decode prog_12_method_6_code 98 = .ok (.invokevirtual 82, 3) := by decide +kernel
theorem d_Work_readStep_101 : decode prog_12_method_6_code 101 = .ok (.invokevirtual 69, 3) := by decide +kernel
theorem d_Work_readStep_104 : decode prog_12_method_6_code 104 = .ok (.goto 93, 3) := by decide +kernel
theorem d_Work_readStep_107 : decode prog_12_method_6_code 107 = .ok (.aload_n 0, 1) := by decide +kernel
theorem d_Work_readStep_108 : decode prog_12_method_6_code 108 = .ok (.getfield 20, 3) := by decide +kernel
theorem d_Work_readStep_111 : decode prog_12_method_6_code 111 = .ok (.iload 4, 2) := by decide +kernel
theorem d_Work_readStep_113 : decode prog_12_method_6_code 113 = .ok (.aload_n 1, 1) := by decide +kernel
theorem d_Work_readStep_114 : decode prog_12_method_6_code 114 = .ok (.iconst 0, 1) := by decide +kernel
theorem d_Work_readStep_115 : decode prog_12_method_6_code 115 = .ok (.aload_n 2, 1) := by decide +kernel
theorem d_Work_readStep_116 : decode prog_12_method_6_code 116 = .ok (.getfield 73, 3) := by decide +kernel
theorem d_Work_readStep_119 : decode prog_12_method_6_code 119 = .ok (.iconst 2, 1) := by decide +kernel
theorem d_Work_readStep_120 : decode prog_12_method_6_code 120 = .ok (.invokevirtual 78, 3) := by decide +kernel
theorem d_Work_readStep_123 : decode prog_12_method_6_code 123 = .ok (.iconst 1, 1) := by decide +kernel
theorem d_Work_readStep_124 : decode prog_12_method_6_code 124 = .ok (.isub, 1) := by decide +kernel
theorem d_Work_readStep_125 : decode prog_12_method_6_code 125 = .ok (.invokevirtual 82, 3) := by decide +kernel
theorem d_Work_readStep_128 : decode prog_12_method_6_code 128 = .ok (.invokevirtual 69, 3) := by decide +kernel
theorem d_Work_readStep_131 : decode prog_12_method_6_code 131 = .ok (.aload_n 0, 1) := by decide +kernel
theorem d_Work_readStep_132 : decode prog_12_method_6_code 132 = .ok (.getfield 23, 3) := by decide +kernel
theorem d_Work_readStep_135 : decode prog_12_method_6_code 135 = .ok (.iload 4, 2) := by decide +kernel
theorem d_Work_readStep_137 : decode prog_12_method_6_code 137 = .ok (.aload_n 1, 1) := by decide +kernel
theorem d_Work_readStep_138 : decode prog_12_method_6_code 138 = .ok (.iconst 0, 1) := by decide +kernel
theorem d_Work_readStep_139 : decode prog_12_method_6_code 139 = .ok (.aload_n 2, 1) := by decide +kernel
theorem d_Work_readStep_140 : decode prog_12_method_6_code 140 = .ok (.getfield 73, 3) := by decide +kernel
theorem d_Work_readStep_143 : decode prog_12_method_6_code 143 = .ok (.iconst 0, 1) := by decide +kernel
theorem d_Work_readStep_144 : decode prog_12_method_6_code 144 = .ok (.invokevirtual 78, 3) := by decide +kernel
theorem d_Work_readStep_147 : decode prog_12_method_6_code 147 = .ok (.iconst 1, 1) := by decide +kernel
theorem d_Work_readStep_148 : decode prog_12_method_6_code 148 = .ok (.isub, 1) := by decide +kernel
theorem d_Work_readStep_149 : decode prog_12_method_6_code 149 = .ok (.invokevirtual 82, 3) := by decide +kernel
theorem d_Work_readStep_152 : decode prog_12_method_6_code 152 = .ok (.invokevirtual 69, 3) := by decide +kernel
theorem d_Work_readStep_155 : decode prog_12_method_6_code 155 = .ok (.goto 42, 3) := by decide +kernel
theorem d_Work_readStep_158 : decode prog_12_method_6_code 158 = .ok (.aload_n 0, 1) := by decide +kernel
theorem d_Work_readStep_159 : decode prog_12_method_6_code 159 = .ok (.getfield 20, 3) := by decide +kernel
theorem d_Work_readStep_162 : decode prog_12_method_6_code 162 = .ok (.iload 4, 2) := by decide +kernel
theorem d_Work_readStep_164 : decode prog_12_method_6_code 164 = .ok (.aload_n 1, 1) := by decide +kernel
theorem d_Work_readStep_165 : decode prog_12_method_6_code 165 = .ok (.iconst 0, 1) := by decide +kernel
theorem d_Work_readStep_166 : decode prog_12_method_6_code 166 = .ok (.aload_n 2, 1) := by decide +kernel
theorem d_Work_readStep_167 : decode prog_12_method_6_code 167 = .ok (.getfield 73, 3) := by decide +kernel
theorem d_Work_readStep_170 : decode prog_12_method_6_code 170 = .ok (.iconst 3, 1) := by decide +kernel
theorem d_Work_readStep_171 : decode prog_12_method_6_code 171 = .ok (.invokevirtual 78, 3) := by decide +kernel
theorem d_Work_readStep_174 : decode prog_12_method_6_code 174 = .ok (.iconst 1, 1) := by decide +kernel
theorem d_Work_readStep_175 : decode prog_12_method_6_code 175 = .ok (.isub, 1) := by decide +kernel
theorem d_Work_readStep_176 : decode prog_12_method_6_code 176 = .ok (.invokevirtual 82, 3) := by decide +kernel
theorem d_Work_readStep_179 : decode prog_12_method_6_code 179 = .ok (.invokevirtual 69, 3) := by decide +kernel
theorem d_Work_readStep_182 : decode prog_12_method_6_code 182 = .ok (.goto 15, 3) := by decide +kernel
theorem d_Work_readStep_185 : decode prog_12_method_6_code 185 = .ok (.aload_n 0, 1) := by decide +kernel
theorem d_Work_readStep_186 : decode prog_12_method_6_code 186 = .ok (.aload_n 1, 1) := by decide +kernel
theorem d_Work_readStep_187 : decode prog_12_method_6_code 187 = .ok (.aload_n 2, 1) := by decide +kernel
theorem d_Work_readStep_188 : decode prog_12_method_6_code 188 = .ok (.iload_n 3, 1) := by decide +kernel
theorem d_Work_readStep_189 : decode prog_12_method_6_code 189 = .ok (.iload 4, 2) := by decide +kernel
theorem d_Work_readStep_191 : decode prog_12_method_6_code 191 = .ok (.invokevirtual 86, 3) := by decide +kernel
theorem d_Work_readStep_194 : decode prog_12_method_6_code 194 = .ok (.goto 3, 3) := by decide +kernel
theorem d_Work_readStep_197 : decode prog_12_method_6_code 197 = .ok (.return_, 1) := by decide +kernel
theorem d_Work_readAgain_0 : decode prog_12_method_7_code 0 = .ok (.iload_n 3, 1) := by decide +kernel
theorem d_Work_readAgain_1 : decode prog_12_method_7_code 1 = .ok (.bipush 6, 2) := by decide +kernel
theorem d_Work_readAgain_3 : decode prog_12_method_7_code 3 = .ok (.if_icmp .lt 9, 3) := by decide +kernel
theorem d_Work_readAgain_6 : decode prog_12_method_7_code 6 = .ok (.aload_n 1, 1) := by decide +kernel
theorem d_Work_readAgain_7 : decode prog_12_method_7_code 7 = .ok (.iconst 3, 1) := by decide +kernel
theorem d_Work_readAgain_8 : decode prog_12_method_7_code 8 = .ok (.invokevirtual 90, 3) := by decide +kernel
theorem d_Work_readAgain_11 : decode prog_12_method_7_code 11 = .ok (.return_, 1) := by decide +kernel
theorem d_Work_readAgain_12 : decode prog_12_method_7_code 12 = .ok (.aload_n 0, 1) := by decide +kernel
theorem d_Work_readAgain_13 : decode prog_12_method_7_code 13 = .ok (.getfield 20, 3) := by decide +kernel
theorem d_Work_readAgain_16 : decode prog_12_method_7_code 16 = .ok (.iload 4, 2) := by decide +kernel
theorem d_Work_readAgain_18 : decode prog_12_method_7_code 18 = .ok (.aload_n 1, 1) := by decide +kernel
theorem d_Work_readAgain_19 : decode prog_12_method_7_code 19 = .ok (.iconst 0, 1) := by decide +kernel
theorem d_Work_readAgain_20 : decode prog_12_method_7_code 20 = .ok (.bipush 30, 2) := by decide +kernel
theorem d_Work_readAgain_22 : decode prog_12_method_7_code 22 = .ok (.invokevirtual 82, 3) := by decide +kernel
theorem d_Work_readAgain_25 : decode prog_12_method_7_code 25 = .ok (.invokevirtual 69, 3) := by decide +kernel
theorem d_Work_readAgain_28 : decode prog_12_method_7_code 28 = .ok (.aload_n 1, 1) := by decide +kernel
theorem d_Work_readAgain_29 : decode prog_12_method_7_code 29 = .ok (.aload_n 1, 1) := by decide +kernel
theorem d_Work_readAgain_30 : decode prog_12_method_7_code 30 = .ok (.bipush 91, 2) := by decide +kernel
theorem d_Work_readAgain_32 : decode prog_12_method_7_code 32 = .ok (.invokevirtual 60, 3) := by decide +kernel
theorem d_Work_readAgain_35 : decode prog_12_method_7_code 35 = .ok (.invokevirtual 46, 3) := by decide +kernel
theorem d_Work_readAgain_38 : decode prog_12_method_7_code 38 = .ok (.aload_n 0, 1) := by decide +kernel
theorem d_Work_readAgain_39 : decode prog_12_method_7_code 39 = .ok (.aload_n 1, 1) := by decide +kernel
theorem d_Work_readAgain_40 : decode prog_12_method_7_code 40 = .ok (.aload_n 2, 1) := by decide +kernel
theorem d_Work_readAgain_41 : decode prog_12_method_7_code 41 = .ok (.iload_n 3, 1) := by decide +kernel
theorem d_Work_readAgain_42 : decode prog_12_method_7_code 42 = .ok (.iconst 1, 1) := by decide +kernel
theorem d_Work_readAgain_43 : decode prog_12_method_7_code 43 = .ok (.iadd, 1) := by decide +kernel
theorem d_Work_readAgain_44 : decode prog_12_method_7_code 44 = .ok (.invokevirtual 36, 3) := by decide +kernel
theorem d_Work_readAgain_47 : decode prog_12_method_7_code 47 = .ok (.aload_n 1, 1) := by decide +kernel
theorem d_Work_readAgain_48 : decode prog_12_method_7_code 48 = .ok (.aload_n 1, 1) := by decide +kernel
theorem d_Work_readAgain_49 : decode prog_12_method_7_code 49 = .ok (.bipush 93, 2) := by decide +kernel
theorem d_Work_readAgain_51 : decode prog_12_method_7_code 51 = .ok (.invokevirtual 60, 3) := by decide +kernel
theorem d_Work_readAgain_54 : decode prog_12_method_7_code 54 = .ok (.invokevirtual 46, 3) := by decide +kernel
theorem d_Work_readAgain_57 : decode prog_12_method_7_code 57 = .ok (.aload_n 0, 1) := by decide +kernel
theorem d_Work_readAgain_58 : decode prog_12_method_7_code 58 = .ok (.getfield 23, 3) := by decide +kernel
theorem d_Work_readAgain_61 : decode prog_12_method_7_code 61 = .ok (.iload 4, 2) := by decide +kernel
theorem d_Work_readAgain_63 : decode prog_12_method_7_code 63 = .ok (.aload_n 0, 1) := by decide +kernel
theorem d_Work_readAgain_64 : decode prog_12_method_7_code 64 = .ok (.getfield 33, 3) := by decide +kernel
theorem d_Work_readAgain_67 : decode prog_12_method_7_code 67 = .ok (.invokevirtual 69, 3) := by decide +kernel
theorem d_Work_readAgain_70 : decode prog_12_method_7_code 70 = .ok (.return_, 1) := by decide +kernel
theorem d_Work_run_0 : decode prog_12_method_8_code 0 = .ok (.aload_n 0, 1) := by decide +kernel
theorem d_Work_run_1 : decode prog_12_method_8_code 1 = .ok (.iconst 0, 1) := by decide +kernel
theorem d_Work_run_2 : decode prog_12_method_8_code 2 = .ok (.putfield 93, 3) := by decide +kernel
theorem d_Work_run_5 : decode prog_12_method_8_code 5 = .ok (.aload_n 0, 1) := by decide +kernel
theorem d_Work_run_6 : decode prog_12_method_8_code 6 = .ok (.iconst 0, 1) := by decide +kernel
theorem d_Work_run_7 : decode prog_12_method_8_code 7 = .ok (.putfield 26, 3) := by decide +kernel
theorem d_Work_run_10 : decode prog_12_method_8_code 10 = .ok (.aload_n 0, 1) := by decide +kernel
theorem d_Work_run_11 : decode prog_12_method_8_code 11 = .ok (.iconst 0, 1) := by decide +kernel
theorem d_Work_run_12 : decode prog_12_method_8_code 12 = .ok (.putfield 30, 3) := by decide +kernel
theorem d_Work_run_15 : decode prog_12_method_8_code 15 = .ok (.aload_n 0, 1) := by decide +kernel
theorem d_Work_run_16 : decode prog_12_method_8_code 16 = .ok (.iconst 0, 1) := by decide +kernel
theorem d_Work_run_17 : decode prog_12_method_8_code 17 = .ok (.aload_n 0, 1) := by decide +kernel
theorem d_Work_run_18 : decode prog_12_method_8_code 18 = .ok (.getfield 33, 3) := by decide +kernel
theorem d_Work_run_21 : decode prog_12_method_8_code 21 = .ok (.iconst 0, 1) := by decide +kernel
theorem d_Work_run_22 : decode prog_12_method_8_code 22 = .ok (.aload_n 1, 1) := by decide +kernel
theorem d_Work_run_23 : decode prog_12_method_8_code 23 = .ok (.aload_n 2, 1) := by decide +kernel
theorem d_Work_run_24 : decode prog_12_method_8_code 24 = .ok (.aload_n 3, 1) := by decide +kernel
theorem d_Work_run_25 : decode prog_12_method_8_code 25 = .ok (.aload 4, 2) := by decide +kernel
theorem d_Work_run_27 : decode prog_12_method_8_code 27 = .ok (.invokevirtual 96, 3) := by decide +kernel
theorem d_Work_run_30 : decode prog_12_method_8_code 30 = .ok (.return_, 1) := by decide +kernel
theorem d_Work_runSteps_0 : decode prog_12_method_9_code 0 = .ok (.iload_n 1, 1) := by decide +kernel
theorem d_Work_runSteps_1 : decode prog_12_method_9_code 1 = .ok (.istore 8, 2) := by decide +kernel
theorem d_Work_runSteps_3 : decode prog_12_method_9_code 3 = .ok (.iload_n 1, 1) := by decide +kernel
theorem d_Work_runSteps_4 : decode prog_12_method_9_code 4 = .ok (.istore 9, 2) := by decide +kernel
theorem d_Work_runSteps_6 : decode prog_12_method_9_code 6 = .ok (.iload 9, 2) := by decide +kernel
theorem d_Work_runSteps_8 : decode prog_12_method_9_code 8 = .ok (.iload_n 2, 1) := by decide +kernel
theorem d_Work_runSteps_9 : decode prog_12_method_9_code 9 = .ok (.if_icmp .ge 127, 3) := by decide +kernel
theorem d_Work_runSteps_12 : decode prog_12_method_9_code 12 = .ok (.iload 8, 2) := by decide +kernel
theorem d_Work_runSteps_14 : decode prog_12_method_9_code 14 = .ok (.iload_n 2, 1) := by decide +kernel
theorem d_Work_runSteps_15 : decode prog_12_method_9_code 15 = .ok (.if_icmp .ge 121, 3) := by decide +kernel
theorem d_Work_runSteps_18 : decode prog_12_method_9_code 18 = .ok (.aload_n 0, 1) := by decide +kernel
theorem d_Work_runSteps_19 : decode prog_12_method_9_code 19 = .ok (.getfield 93, 3) := by decide +kernel
theorem d_Work_runSteps_22 : decode prog_12_method_9_code 22 = .ok (.sipush 200, 3) := by decide +kernel
theorem d_Work_runSteps_25 : decode prog_12_method_9_code 25 = .ok (.if_icmp .ge 111, 3) := by decide +kernel
theorem d_Work_runSteps_28 : decode prog_12_method_9_code 28 = .ok (.iload 8, 2) := by decide +kernel
theorem d_Work_runSteps_30 : decode prog_12_method_9_code 30 = .ok (.istore 10, 2) := by decide +kernel
theorem d_Work_runSteps_32 : decode prog_12_method_9_code 32 = .ok (.iinc 8 1, 3) := by decide +kernel
theorem d_Work_runSteps_35 : decode prog_12_method_9_code 35 = .ok (.aload_n 0, 1) := by decide +kernel
theorem d_Work_runSteps_36 : decode prog_12_method_9_code 36 = .ok (.dup, 1) := by decide +kernel
theorem d_Work_runSteps_37 : decode prog_12_method_9_code 37 = .ok (.getfield 93, 3) := by decide +kernel
theorem d_Work_runSteps_40 : decode prog_12_method_9_code 40 = .ok (.iconst 1, 1) := by decide +kernel
theorem d_Work_runSteps_41 : decode prog_12_method_9_code 41 = .ok (.iadd, 1) := by decide +kernel
theorem d_Work_runSteps_42 : decode prog_12_method_9_code 42 = .ok (.putfield 93, 3) := by decide +kernel
theorem d_Work_runSteps_45 : decode prog_12_method_9_code 45 = .ok (.aload_n 0, 1) := by decide +kernel
theorem d_Work_runSteps_46 : decode prog_12_method_9_code 46 = .ok (.getfield 14, 3) := by decide +kernel
theorem d_Work_runSteps_49 : decode prog_12_method_9_code 49 = .ok (.iload 10, 2) := by decide +kernel
theorem d_Work_runSteps_51 : decode prog_12_method_9_code 51 = .ok (.invokevirtual 78, 3) := by decide +kernel
theorem d_Work_runSteps_54 : decode prog_12_method_9_code 54 = .ok (.bipush 6, 2) := by decide +kernel
theorem d_Work_runSteps_56 : decode prog_12_method_9_code 56 = .ok (.if_icmp .ne 34, 3) := by decide +kernel
theorem d_Work_runSteps_59 : decode prog_12_method_9_code 59 = .ok (.aload_n 0, 1) := by decide +kernel
theorem d_Work_runSteps_60 : decode prog_12_method_9_code 60 = .ok (.iload 10, 2) := by decide +kernel
theorem d_Work_runSteps_62 : decode prog_12_method_9_code 62 = .ok (.iload_n 3, 1) := by decide +kernel
theorem d_Work_runSteps_63 : decode prog_12_method_9_code 63 = .ok (.iconst 1, 1) := by decide +kernel
theorem d_Work_runSteps_64 : decode prog_12_method_9_code 64 = .ok (.iadd, 1) := by decide +kernel
theorem d_Work_runSteps_65 : decode prog_12_method_9_code 65 = .ok (.aload 4, 2) := by decide +kernel
theorem d_Work_runSteps_67 : decode prog_12_method_9_code 67 = .ok (.aload 5, 2) := by decide +kernel
theorem d_Work_runSteps_69 : decode prog_12_method_9_code 69 = .ok (.aload 6, 2) := by decide +kernel
theorem d_Work_runSteps_71 : decode prog_12_method_9_code 71 = .ok (.aload 7, 2) := by decide +kernel
theorem d_Work_runSteps_73 : decode prog_12_method_9_code 73 = .ok (.invokevirtual 100, 3) := by decide +kernel
theorem d_Work_runSteps_76 : decode prog_12_method_9_code 76 = .ok (.aload_n 0, 1) := by decide +kernel
theorem d_Work_runSteps_77 : decode prog_12_method_9_code 77 = .ok (.getfield 23, 3) := by decide +kernel
theorem d_Work_runSteps_80 : decode prog_12_method_9_code 80 = .ok (.iload 10, 2) := by decide +kernel
theorem d_Work_runSteps_82 : decode prog_12_method_9_code 82 = .ok (.invokevirtual 78, 3) := by decide +kernel
theorem d_Work_runSteps_85 : decode prog_12_method_9_code 85 = .ok (.istore 8, 2) := by decide +kernel
theorem d_Work_runSteps_87 : decode prog_12_method_9_code 87 = .ok (.goto 43, 3) := by decide +kernel
theorem d_Work_runSteps_90 : decode prog_12_method_9_code 90 = .ok (.aload_n 0, 1) := by decide +kernel
theorem d_Work_runSteps_91 : decode prog_12_method_9_code 91 = .ok (.iload 10, 2) := by decide +kernel
theorem d_Work_runSteps_93 : decode prog_12_method_9_code 93 = .ok (.aload 4, 2) := by decide +kernel
theorem d_Work_runSteps_95 : decode prog_12_method_9_code 95 = .ok (.aload 5, 2) := by decide +kernel
theorem d_Work_runSteps_97 : decode prog_12_method_9_code 97 = .ok (.aload 6, 2) := by decide +kernel
theorem d_Work_runSteps_99 : decode prog_12_method_9_code 99 = .ok (.aload 7, 2) := by decide +kernel
theorem d_Work_runSteps_101 : decode prog_12_method_9_code 101 = .ok (.invokevirtual 104, 3) := by decide +kernel
theorem d_Work_runSteps_104 : decode prog_12_method_9_code 104 = .ok (.ifCond .eq 16, 3) := by decide +kernel
theorem d_Work_runSteps_107 : decode prog_12_method_9_code 107 = .ok (.aload_n 0, 1) := by decide +kernel
theorem d_Work_runSteps_108 : decode prog_12_method_9_code 108 = .ok (.dup, 1) := by decide +kernel
theorem d_Work_runSteps_109 : decode prog_12_method_9_code 109 = .ok (.getfield 26, 3) := by decide +kernel
theorem d_Work_runSteps_112 : decode prog_12_method_9_code 112 = .ok (.iconst 1, 1) := by decide +kernel
theorem d_Work_runSteps_113 : decode prog_12_method_9_code 113 = .ok (.iadd, 1) := by decide +kernel
theorem d_Work_runSteps_114 : decode prog_12_method_9_code 114 = .ok (.putfield 26, 3) := by decide +kernel
theorem d_Work_runSteps_117 : decode prog_12_method_9_code 117 = .ok (.goto 13, 3) := by decide +kernel
theorem d_Work_runSteps_120 : decode prog_12_method_9_code 120 = .ok (.aload_n 0, 1) := by decide +kernel
theorem d_Work_runSteps_121 : decode prog_12_method_9_code 121 = .ok (.dup, 1) := by decide +kernel
theorem d_Work_runSteps_122 : decode prog_12_method_9_code 122 = .ok (.getfield 30, 3) := by decide +kernel
theorem d_Work_runSteps_125 : decode prog_12_method_9_code 125 = .ok (.iconst 1, 1) := by decide +kernel
theorem d_Work_runSteps_126 : decode prog_12_method_9_code 126 = .ok (.iadd, 1) := by decide +kernel
theorem d_Work_runSteps_127 : decode prog_12_method_9_code 127 = .ok (.putfield 30, 3) := by decide +kernel
theorem d_Work_runSteps_130 : decode prog_12_method_9_code 130 = .ok (.iinc 9 1, 3) := by decide +kernel
theorem d_Work_runSteps_133 : decode prog_12_method_9_code 133 = .ok (.goto (-127), 3) := by decide +kernel
theorem d_Work_runSteps_136 : decode prog_12_method_9_code 136 = .ok (.return_, 1) := by decide +kernel
theorem d_Work_runAgain_0 : decode prog_12_method_10_code 0 = .ok (.aload_n 0, 1) := by decide +kernel
theorem d_Work_runAgain_1 : decode prog_12_method_10_code 1 = .ok (.getfield 20, 3) := by decide +kernel
theorem d_Work_runAgain_4 : decode prog_12_method_10_code 4 = .ok (.iload_n 1, 1) := by decide +kernel
theorem d_Work_runAgain_5 : decode prog_12_method_10_code 5 = .ok (.invokevirtual 78, 3) := by decide +kernel
theorem d_Work_runAgain_8 : decode prog_12_method_10_code 8 = .ok (.bipush 30, 2) := by decide +kernel
theorem d_Work_runAgain_10 : decode prog_12_method_10_code 10 = .ok (.invokestatic 108, 3) := by decide +kernel
theorem d_Work_runAgain_13 : decode prog_12_method_10_code 13 = .ok (.istore 7, 2) := by decide +kernel
theorem d_Work_runAgain_15 : decode prog_12_method_10_code 15 = .ok (.iconst 0, 1) := by decide +kernel
theorem d_Work_runAgain_16 : decode prog_12_method_10_code 16 = .ok (.istore 8, 2) := by decide +kernel
theorem d_Work_runAgain_18 : decode prog_12_method_10_code 18 = .ok (.iload 8, 2) := by decide +kernel
theorem d_Work_runAgain_20 : decode prog_12_method_10_code 20 = .ok (.iload 7, 2) := by decide +kernel
theorem d_Work_runAgain_22 : decode prog_12_method_10_code 22 = .ok (.if_icmp .ge 38, 3) := by decide +kernel
theorem d_Work_runAgain_25 : decode prog_12_method_10_code 25 = .ok (.iload_n 2, 1) := by decide +kernel
theorem d_Work_runAgain_26 : decode prog_12_method_10_code 26 = .ok (.bipush 6, 2) := by decide +kernel
theorem d_Work_runAgain_28 : decode prog_12_method_10_code 28 = .ok (.if_icmp .gt 32, 3) := by decide +kernel
theorem d_Work_runAgain_31 : decode prog_12_method_10_code 31 = .ok (.aload_n 0, 1) := by decide +kernel
theorem d_Work_runAgain_32 : decode prog_12_method_10_code 32 = .ok (.iload_n 1, 1) := by decide +kernel
theorem d_Work_runAgain_33 : decode prog_12_method_10_code 33 = .ok (.iconst 1, 1) := by decide +kernel
theorem d_Work_runAgain_34 : decode prog_12_method_10_code 34 = .ok (.iadd, 1) := by decide +kernel
theorem d_Work_runAgain_35 : decode prog_12_method_10_code 35 = .ok (.aload_n 0, 1) := by decide +kernel
theorem d_Work_runAgain_36 : decode prog_12_method_10_code 36 = .ok (.getfield 23, 3) := by decide +kernel
theorem d_Work_runAgain_39 : decode prog_12_method_10_code 39 = .ok (.iload_n 1, 1) := by decide +kernel
theorem d_Work_runAgain_40 : decode prog_12_method_10_code 40 = .ok (.invokevirtual 78, 3) := by decide +kernel
theorem d_Work_runAgain_43 : decode prog_12_method_10_code 43 = .ok (.iload_n 2, 1) := by decide +kernel
theorem d_Work_runAgain_44 : decode prog_12_method_10_code 44 = .ok (.aload_n 3, 1) := by decide +kernel
theorem d_Work_runAgain_45 : decode prog_12_method_10_code 45 = .ok (.aload 4, 2) := by decide +kernel
theorem d_Work_runAgain_47 : decode prog_12_method_10_code 47 = .ok (.aload 5, 2) := by decide +kernel
theorem d_Work_runAgain_49 : decode prog_12_method_10_code 49 = .ok (.aload 6, 2) := by decide +kernel
theorem d_Work_runAgain_51 : decode prog_12_method_10_code 51 = .ok (.invokevirtual 96, 3) := by decide +kernel
theorem d_Work_runAgain_54 : decode prog_12_method_10_code 54 = .ok (.iinc 8 1, 3) := by decide +kernel
theorem d_Work_runAgain_57 : decode prog_12_method_10_code 57 = .ok (.goto (-39), 3) := by decide +kernel
theorem d_Work_runAgain_60 : decode prog_12_method_10_code 60 = .ok (.return_, 1) := by decide +kernel
theorem d_Work_doStep_0 : decode prog_12_method_11_code 0 = .ok (.aload_n 0, 1) := by decide +kernel
theorem d_Work_doStep_1 : decode prog_12_method_11_code 1 = .ok (.getfield 20, 3) := by decide +kernel
theorem d_Work_doStep_4 : decode prog_12_method_11_code 4 = .ok (.iload_n 1, 1) := by decide +kernel
theorem d_Work_doStep_5 : decode prog_12_method_11_code 5 = .ok (.invokevirtual 78, 3) := by decide +kernel
theorem d_Work_doStep_8 : decode prog_12_method_11_code 8 = .ok (.istore 6, 2) := by decide +kernel
theorem d_Work_doStep_10 : decode prog_12_method_11_code 10 = .ok (.aload_n 0, 1) := by decide +kernel
theorem d_Work_doStep_11 : decode prog_12_method_11_code 11 = .ok (.getfield 14, 3) := by decide +kernel
theorem d_Work_doStep_14 : decode prog_12_method_11_code 14 = .ok (.iload_n 1, 1) := by decide +kernel
theorem d_Work_doStep_15 : decode prog_12_method_11_code 15 = .ok (.invokevirtual 78, 3) := by decide +kernel
theorem d_Work_doStep_18 : decode prog_12_method_11_code 18 = .ok (.tableswitch 110 0 4 #[34, 43, 52, 68, 104], 34) := by decide +kernel
theorem d_Work_doStep_52 : decode prog_12_method_11_code 52 = .ok (.aload 4, 2) := by decide +kernel
theorem d_Work_doStep_54 : decode prog_12_method_11_code 54 = .ok (.iload 6, 2) := by decide +kernel
theorem d_Work_doStep_56 : decode prog_12_method_11_code 56 = .ok (.iconst 0, 1) := by decide +kernel
theorem d_Work_doStep_57 : decode prog_12_method_11_code 57 = .ok (.invokevirtual 113, 3) := by decide +kernel
theorem d_Work_doStep_60 : decode prog_12_method_11_code 60 = .ok (.ireturn, 1) := by decide +kernel
theorem d_Work_doStep_61 : decode prog_12_method_11_code 61 = .ok (.aload 4, 2) := by decide +kernel
theorem d_Work_doStep_63 : decode prog_12_method_11_code 63 = .ok (.iload 6, 2) := by decide +kernel
theorem d_Work_doStep_65 : decode prog_12_method_11_code 65 = .ok (.iconst 1, 1) := by decide +kernel
theorem d_Work_doStep_66 : decode prog_12_method_11_code 66 = .ok (.invokevirtual 113, 3) := by decide +kernel
theorem d_Work_doStep_69 : decode prog_12_method_11_code 69 = .ok (.ireturn, 1) := by decide +kernel
theorem d_Work_doStep_70 : decode prog_12_method_11_code 70 = .ok (.aload 4, 2) := by decide +kernel
theorem d_Work_doStep_72 : decode prog_12_method_11_code 72 = .ok (.iload 6, 2) := by decide +kernel
theorem d_Work_doStep_74 : decode prog_12_method_11_code 74 = .ok (.aload_n 0, 1) := by decide +kernel
theorem d_Work_doStep_75 : decode prog_12_method_11_code 75 = .ok (.getfield 23, 3) := by decide +kernel
theorem d_Work_doStep_78 : decode prog_12_method_11_code 78 = .ok (.iload_n 1, 1) := by decide +kernel
theorem d_Work_doStep_79 : decode prog_12_method_11_code 79 = .ok (.invokevirtual 78, 3) := by decide +kernel
theorem d_Work_doStep_82 : decode prog_12_method_11_code 82 = .ok (.invokevirtual 119, 3) := by decide +kernel
theorem d_Work_doStep_85 : decode prog_12_method_11_code 85 = .ok (.ireturn, 1) := by decide +kernel
theorem d_Work_doStep_86 : decode prog_12_method_11_code 86 = .ok (.aload 4, 2) := by decide +kernel
theorem d_Work_doStep_88 : decode prog_12_method_11_code 88 = .ok (.iload 6, 2) := by decide +kernel
theorem d_Work_doStep_90 : decode prog_12_method_11_code 90 = .ok (.invokevirtual 123, 3) := by decide +kernel
theorem d_Work_doStep_93 : decode prog_12_method_11_code 93 = .ok (.ifCond .ne 14, 3) := by decide +kernel
theorem d_Work_doStep_96 : decode prog_12_method_11_code 96 = .ok (.aload_n 2, 1) := by decide +kernel
theorem d_Work_doStep_97 : decode prog_12_method_11_code 97 = .ok (.getfield 73, 3) := by decide +kernel
theorem d_Work_doStep_100 : decode prog_12_method_11_code 100 = .ok (.iconst 0, 1) := by decide +kernel
theorem d_Work_doStep_101 : decode prog_12_method_11_code 101 = .ok (.invokevirtual 78, 3) := by decide +kernel
theorem d_Work_doStep_104 : decode prog_12_method_11_code 104 = .ok (.ifCond .ne 5, 3) := by decide +kernel
theorem d_Work_doStep_107 : decode prog_12_method_11_code 107 = .ok (.iconst 0, 1) := by decide +kernel
theorem d_Work_doStep_108 : decode prog_12_method_11_code 108 = .ok (.ireturn, 1) := by decide +kernel
theorem d_Work_doStep_109 : decode prog_12_method_11_code 109 = .ok (.aload 5, 2) := by decide +kernel
theorem d_Work_doStep_111 : decode prog_12_method_11_code 111 = .ok (.aload_n 2, 1) := by decide +kernel
theorem d_Work_doStep_112 : decode prog_12_method_11_code 112 = .ok (.aload_n 3, 1) := by decide +kernel
theorem d_Work_doStep_113 : decode prog_12_method_11_code 113 = .ok (.aload 4, 2) := by decide +kernel
theorem d_Work_doStep_115 : decode prog_12_method_11_code 115 = .ok (.iload 6, 2) := by decide +kernel
theorem d_Work_doStep_117 : decode prog_12_method_11_code 117 = .ok (.invokevirtual 127, 3) := by decide +kernel
theorem d_Work_doStep_120 : decode prog_12_method_11_code 120 = .ok (.iconst 1, 1) := by decide +kernel
theorem d_Work_doStep_121 : decode prog_12_method_11_code 121 = .ok (.ireturn, 1) := by decide +kernel
theorem d_Work_doStep_122 : decode prog_12_method_11_code 122 = .ok (.aload 4, 2) := by decide +kernel
theorem d_Work_doStep_124 : decode prog_12_method_11_code 124 = .ok (.invokevirtual 133, 3) := by decide +kernel
theorem d_Work_doStep_127 : decode prog_12_method_11_code 127 = .ok (.ireturn, 1) := by decide +kernel
theorem d_Work_doStep_128 : decode prog_12_method_11_code 128 = .ok (.aload 4, 2) := by decide +kernel
theorem d_Work_doStep_130 : decode prog_12_method_11_code 130 = .ok (.iconst 0, 1) := by decide +kernel
theorem d_Work_doStep_131 : decode prog_12_method_11_code 131 = .ok (.invokevirtual 136, 3) := by decide +kernel
theorem d_Work_doStep_134 : decode prog_12_method_11_code 134 = .ok (.sipush 500, 3) := by decide +kernel
theorem d_Work_doStep_137 : decode prog_12_method_11_code 137 = .ok (.if_icmp .ge 15, 3) := by decide +kernel
theorem d_Work_doStep_140 : decode prog_12_method_11_code 140 = .ok (.aload 4, 2) := by decide +kernel
theorem d_Work_doStep_142 : decode prog_12_method_11_code 142 = .ok (.invokevirtual 137, 3) := by decide +kernel
theorem d_Work_doStep_145 : decode prog_12_method_11_code 145 = .ok (.ifCond .eq 7, 3) := by decide +kernel
theorem d_Work_doStep_148 : decode prog_12_method_11_code 148 = .ok (.iconst 1, 1) := by decide +kernel
theorem d_Work_doStep_149 : decode prog_12_method_11_code 149 = .ok (.goto 4, 3) := by decide +kernel
theorem d_Work_doStep_152 : decode prog_12_method_11_code 152 = .ok (.iconst 0, 1) := by decide +kernel
theorem d_Work_doStep_153 : decode prog_12_method_11_code 153 = .ok (.ireturn, 1) := by decide +kernel
theorem d_DL_init_0 : decode prog_1_method_1_code 0 = .ok (.aload_n 0, 1) := by decide +kernel
theorem d_DL_init_1 : decode prog_1_method_1_code 1 = .ok (.invokespecial 1, 3) := by decide +kernel
theorem d_DL_init_4 : decode prog_1_method_1_code 4 = .ok (.aload_n 0, 1) := by decide +kernel
theorem d_DL_init_5 : decode prog_1_method_1_code 5 = .ok (.new 7, 3) := by decide +kernel
theorem d_DL_init_8 : decode prog_1_method_1_code 8 = .ok (.dup, 1) := by decide +kernel
theorem d_DL_init_9 : decode prog_1_method_1_code 9 = .ok (.invokespecial 9, 3) := by decide +kernel
theorem d_DL_init_12 : decode prog_1_method_1_code 12 = .ok (.putfield 10, 3) := by decide +kernel
theorem d_DL_init_15 : decode prog_1_method_1_code 15 = .ok (.aload_n 0, 1) := by decide +kernel
theorem d_DL_init_16 : decode prog_1_method_1_code 16 = .ok (.new 16, 3) := by decide +kernel
theorem d_DL_init_19 : decode prog_1_method_1_code 19 = .ok (.dup, 1) := by decide +kernel
theorem d_DL_init_20 : decode prog_1_method_1_code 20 = .ok (.invokespecial 18, 3) := by decide +kernel
theorem d_DL_init_23 : decode prog_1_method_1_code 23 = .ok (.putfield 19, 3) := by decide +kernel
theorem d_DL_init_26 : decode prog_1_method_1_code 26 = .ok (.aload_n 0, 1) := by decide +kernel
theorem d_DL_init_27 : decode prog_1_method_1_code 27 = .ok (.new 16, 3) := by decide +kernel
theorem d_DL_init_30 : decode prog_1_method_1_code 30 = .ok (.dup, 1) := by decide +kernel
theorem d_DL_init_31 : decode prog_1_method_1_code 31 = .ok (.invokespecial 18, 3) := by decide +kernel
theorem d_DL_init_34 : decode prog_1_method_1_code 34 = .ok (.putfield 23, 3) := by decide +kernel
theorem d_DL_init_37 : decode prog_1_method_1_code 37 = .ok (.aload_n 0, 1) := by decide +kernel
theorem d_DL_init_38 : decode prog_1_method_1_code 38 = .ok (.new 26, 3) := by decide +kernel
theorem d_DL_init_41 : decode prog_1_method_1_code 41 = .ok (.dup, 1) := by decide +kernel
theorem d_DL_init_42 : decode prog_1_method_1_code 42 = .ok (.invokespecial 28, 3) := by decide +kernel
theorem d_DL_init_45 : decode prog_1_method_1_code 45 = .ok (.putfield 29, 3) := by decide +kernel
theorem d_DL_init_48 : decode prog_1_method_1_code 48 = .ok (.aload_n 0, 1) := by decide +kernel
theorem d_DL_init_49 : decode prog_1_method_1_code 49 = .ok (.new 26, 3) := by decide +kernel
theorem d_DL_init_52 : decode prog_1_method_1_code 52 = .ok (.dup, 1) := by decide +kernel
theorem d_DL_init_53 : decode prog_1_method_1_code 53 = .ok (.invokespecial 28, 3) := by decide +kernel
theorem d_DL_init_56 : decode prog_1_method_1_code 56 = .ok (.putfield 33, 3) := by decide +kernel
theorem d_DL_init_59 : decode prog_1_method_1_code 59 = .ok (.aload_n 0, 1) := by decide +kernel
theorem d_DL_init_60 : decode prog_1_method_1_code 60 = .ok (.new 36, 3) := by decide +kernel
theorem d_DL_init_63 : decode prog_1_method_1_code 63 = .ok (.dup, 1) := by decide +kernel
theorem d_DL_init_64 : decode prog_1_method_1_code 64 = .ok (.invokespecial 38, 3) := by decide +kernel
theorem d_DL_init_67 : decode prog_1_method_1_code 67 = .ok (.putfield 39, 3) := by decide +kernel
theorem d_DL_init_70 : decode prog_1_method_1_code 70 = .ok (.aload_n 0, 1) := by decide +kernel
theorem d_DL_init_71 : decode prog_1_method_1_code 71 = .ok (.new 36, 3) := by decide +kernel
theorem d_DL_init_74 : decode prog_1_method_1_code 74 = .ok (.dup, 1) := by decide +kernel
theorem d_DL_init_75 : decode prog_1_method_1_code 75 = .ok (.invokespecial 38, 3) := by decide +kernel
theorem d_DL_init_78 : decode prog_1_method_1_code 78 = .ok (.putfield 43, 3) := by decide +kernel
theorem d_DL_init_81 : decode prog_1_method_1_code 81 = .ok (.aload_n 0, 1) := by decide +kernel
theorem d_DL_init_82 : decode prog_1_method_1_code 82 = .ok (.new 46, 3) := by decide +kernel
theorem d_DL_init_85 : decode prog_1_method_1_code 85 = .ok (.dup, 1) := by decide +kernel
theorem d_DL_init_86 : decode prog_1_method_1_code 86 = .ok (.invokespecial 48, 3) := by decide +kernel
theorem d_DL_init_89 : decode prog_1_method_1_code 89 = .ok (.putfield 49, 3) := by decide +kernel
theorem d_DL_init_92 : decode prog_1_method_1_code 92 = .ok (.aload_n 0, 1) := by decide +kernel
theorem d_DL_init_93 : decode prog_1_method_1_code 93 = .ok (.new 53, 3) := by decide +kernel
theorem d_DL_init_96 : decode prog_1_method_1_code 96 = .ok (.dup, 1) := by decide +kernel
theorem d_DL_init_97 : decode prog_1_method_1_code 97 = .ok (.invokespecial 55, 3) := by decide +kernel
theorem d_DL_init_100 : decode prog_1_method_1_code 100 = .ok (.putfield 56, 3) := by decide +kernel
theorem d_DL_init_103 : decode prog_1_method_1_code 103 = .ok (.aload_n 0, 1) := by decide +kernel
theorem d_DL_init_104 : decode prog_1_method_1_code 104 = .ok (.new 60, 3) := by decide +kernel
theorem d_DL_init_107 : decode prog_1_method_1_code 107 = .ok (.dup, 1) := by decide +kernel
theorem d_DL_init_108 : decode prog_1_method_1_code 108 = .ok (.invokespecial 62, 3) := by decide +kernel
theorem d_DL_init_111 : decode prog_1_method_1_code 111 = .ok (.putfield 63, 3) := by decide +kernel
theorem d_DL_init_114 : decode prog_1_method_1_code 114 = .ok (.aload_n 0, 1) := by decide +kernel
theorem d_DL_init_115 : decode prog_1_method_1_code 115 = .ok (.new 67, 3) := by decide +kernel
theorem d_DL_init_118 : decode prog_1_method_1_code 118 = .ok (.dup, 1) := by decide +kernel
theorem d_DL_init_119 : decode prog_1_method_1_code 119 = .ok (.invokespecial 69, 3) := by decide +kernel
theorem d_DL_init_122 : decode prog_1_method_1_code 122 = .ok (.putfield 70, 3) := by decide +kernel
theorem d_DL_init_125 : decode prog_1_method_1_code 125 = .ok (.aload_n 0, 1) := by decide +kernel
theorem d_DL_init_126 : decode prog_1_method_1_code 126 = .ok (.new 74, 3) := by decide +kernel
theorem d_DL_init_129 : decode prog_1_method_1_code 129 = .ok (.dup, 1) := by decide +kernel
theorem d_DL_init_130 : decode prog_1_method_1_code 130 = .ok (.invokespecial 76, 3) := by decide +kernel
theorem d_DL_init_133 : decode prog_1_method_1_code 133 = .ok (.putfield 77, 3) := by decide +kernel
theorem d_DL_init_136 : decode prog_1_method_1_code 136 = .ok (.aload_n 0, 1) := by decide +kernel
theorem d_DL_init_137 : decode prog_1_method_1_code 137 = .ok (.new 81, 3) := by decide +kernel
theorem d_DL_init_140 : decode prog_1_method_1_code 140 = .ok (.dup, 1) := by decide +kernel
theorem d_DL_init_141 : decode prog_1_method_1_code 141 = .ok (.invokespecial 83, 3) := by decide +kernel
theorem d_DL_init_144 : decode prog_1_method_1_code 144 = .ok (.putfield 84, 3) := by decide +kernel
theorem d_DL_init_147 : decode prog_1_method_1_code 147 = .ok (.aload_n 0, 1) := by decide +kernel
theorem d_DL_init_148 : decode prog_1_method_1_code 148 = .ok (.new 88, 3) := by decide +kernel
theorem d_DL_init_151 : decode prog_1_method_1_code 151 = .ok (.dup, 1) := by decide +kernel
theorem d_DL_init_152 : decode prog_1_method_1_code 152 = .ok (.sipush 256, 3) := by decide +kernel
theorem d_DL_init_155 : decode prog_1_method_1_code 155 = .ok (.invokespecial 90, 3) := by decide +kernel
theorem d_DL_init_158 : decode prog_1_method_1_code 158 = .ok (.putfield 93, 3) := by decide +kernel
theorem d_DL_init_161 : decode prog_1_method_1_code 161 = .ok (.return_, 1) := by decide +kernel
theorem d_DL_feed_0 : decode prog_1_method_2_code 0 = .ok (.aload_n 0, 1) := by decide +kernel
theorem d_DL_feed_1 : decode prog_1_method_2_code 1 = .ok (.getfield 10, 3) := by decide +kernel
theorem d_DL_feed_4 : decode prog_1_method_2_code 4 = .ok (.invokevirtual 97, 3) := by decide +kernel
theorem d_DL_feed_7 : decode prog_1_method_2_code 7 = .ok (.bipush 20, 2) := by decide +kernel
theorem d_DL_feed_9 : decode prog_1_method_2_code 9 = .ok (.iadd, 1) := by decide +kernel
theorem d_DL_feed_10 : decode prog_1_method_2_code 10 = .ok (.sipush 600, 3) := by decide +kernel
theorem d_DL_feed_13 : decode prog_1_method_2_code 13 = .ok (.if_icmp .le 5, 3) := by decide +kernel
theorem d_DL_feed_16 : decode prog_1_method_2_code 16 = .ok (.iconst (-1), 1) := by decide +kernel
theorem d_DL_feed_17 : decode prog_1_method_2_code 17 = .ok (.ireturn, 1) := by decide +kernel
theorem d_DL_feed_18 : decode prog_1_method_2_code 18 = .ok (.aload_n 0, 1) := by decide +kernel
theorem d_DL_feed_19 : decode prog_1_method_2_code 19 = .ok (.getfield 10, 3) := by decide +kernel
theorem d_DL_feed_22 : decode prog_1_method_2_code 22 = .ok (.iload_n 1, 1) := by decide +kernel
theorem d_DL_feed_23 : decode prog_1_method_2_code 23 = .ok (.invokevirtual 101, 3) := by decide +kernel
theorem d_DL_feed_26 : decode prog_1_method_2_code 26 = .ok (.aload_n 0, 1) := by decide +kernel
theorem d_DL_feed_27 : decode prog_1_method_2_code 27 = .ok (.getfield 10, 3) := by decide +kernel
theorem d_DL_feed_30 : decode prog_1_method_2_code 30 = .ok (.iload_n 2, 1) := by decide +kernel
theorem d_DL_feed_31 : decode prog_1_method_2_code 31 = .ok (.invokevirtual 101, 3) := by decide +kernel
theorem d_DL_feed_34 : decode prog_1_method_2_code 34 = .ok (.aload_n 0, 1) := by decide +kernel
theorem d_DL_feed_35 : decode prog_1_method_2_code 35 = .ok (.getfield 10, 3) := by decide +kernel
theorem d_DL_feed_38 : decode prog_1_method_2_code 38 = .ok (.iload_n 3, 1) := by decide +kernel
theorem d_DL_feed_39 : decode prog_1_method_2_code 39 = .ok (.invokevirtual 101, 3) := by decide +kernel
theorem d_DL_feed_42 : decode prog_1_method_2_code 42 = .ok (.aload_n 0, 1) := by decide +kernel
theorem d_DL_feed_43 : decode prog_1_method_2_code 43 = .ok (.getfield 10, 3) := by decide +kernel
theorem d_DL_feed_46 : decode prog_1_method_2_code 46 = .ok (.iload 4, 2) := by decide +kernel
theorem d_DL_feed_48 : decode prog_1_method_2_code 48 = .ok (.invokevirtual 101, 3) := by decide +kernel
theorem d_DL_feed_51 : decode prog_1_method_2_code 51 = .ok (.aload_n 0, 1) := by decide +kernel
theorem d_DL_feed_52 : decode prog_1_method_2_code 52 = .ok (.getfield 10, 3) := by decide +kernel
theorem d_DL_feed_55 : decode prog_1_method_2_code 55 = .ok (.iload 5, 2) := by decide +kernel
theorem d_DL_feed_57 : decode prog_1_method_2_code 57 = .ok (.invokevirtual 101, 3) := by decide +kernel
theorem d_DL_feed_60 : decode prog_1_method_2_code 60 = .ok (.aload_n 0, 1) := by decide +kernel
theorem d_DL_feed_61 : decode prog_1_method_2_code 61 = .ok (.getfield 10, 3) := by decide +kernel
theorem d_DL_feed_64 : decode prog_1_method_2_code 64 = .ok (.invokevirtual 97, 3) := by decide +kernel
theorem d_DL_feed_67 : decode prog_1_method_2_code 67 = .ok (.ireturn, 1) := by decide +kernel
theorem d_DL_coast_0 : decode prog_1_method_3_code 0 = .ok (.aload_n 0, 1) := by decide +kernel
theorem d_DL_coast_1 : decode prog_1_method_3_code 1 = .ok (.iload_n 1, 1) := by decide +kernel
theorem d_DL_coast_2 : decode prog_1_method_3_code 2 = .ok (.sipush 600, 3) := by decide +kernel
theorem d_DL_coast_5 : decode prog_1_method_3_code 5 = .ok (.invokevirtual 104, 3) := by decide +kernel
theorem d_DL_coast_8 : decode prog_1_method_3_code 8 = .ok (.aload_n 0, 1) := by decide +kernel
theorem d_DL_coast_9 : decode prog_1_method_3_code 9 = .ok (.getfield 23, 3) := by decide +kernel
theorem d_DL_coast_12 : decode prog_1_method_3_code 12 = .ok (.aload_n 0, 1) := by decide +kernel
theorem d_DL_coast_13 : decode prog_1_method_3_code 13 = .ok (.getfield 10, 3) := by decide +kernel
theorem d_DL_coast_16 : decode prog_1_method_3_code 16 = .ok (.invokevirtual 108, 3) := by decide +kernel
theorem d_DL_coast_19 : decode prog_1_method_3_code 19 = .ok (.aload_n 0, 1) := by decide +kernel
theorem d_DL_coast_20 : decode prog_1_method_3_code 20 = .ok (.getfield 10, 3) := by decide +kernel
theorem d_DL_coast_23 : decode prog_1_method_3_code 23 = .ok (.invokevirtual 112, 3) := by decide +kernel
theorem d_DL_coast_26 : decode prog_1_method_3_code 26 = .ok (.ifCond .ne 11, 3) := by decide +kernel
theorem d_DL_coast_29 : decode prog_1_method_3_code 29 = .ok (.aload_n 0, 1) := by decide +kernel
theorem d_DL_coast_30 : decode prog_1_method_3_code 30 = .ok (.getfield 10, 3) := by decide +kernel
theorem d_DL_coast_33 : decode prog_1_method_3_code 33 = .ok (.invokevirtual 116, 3) := by decide +kernel
theorem d_DL_coast_36 : decode prog_1_method_3_code 36 = .ok (.ireturn, 1) := by decide +kernel
theorem d_DL_coast_37 : decode prog_1_method_3_code 37 = .ok (.aload_n 0, 1) := by decide +kernel
theorem d_DL_coast_38 : decode prog_1_method_3_code 38 = .ok (.getfield 19, 3) := by decide +kernel
theorem d_DL_coast_41 : decode prog_1_method_3_code 41 = .ok (.aload_n 0, 1) := by decide +kernel
theorem d_DL_coast_42 : decode prog_1_method_3_code 42 = .ok (.getfield 23, 3) := by decide +kernel
theorem d_DL_coast_45 : decode prog_1_method_3_code 45 = .ok (.invokevirtual 119, 3) := by decide +kernel
theorem d_DL_coast_48 : decode prog_1_method_3_code 48 = .ok (.aload_n 0, 1) := by decide +kernel
theorem d_DL_coast_49 : decode prog_1_method_3_code 49 = .ok (.getfield 29, 3) := by decide +kernel
theorem d_DL_coast_52 : decode prog_1_method_3_code 52 = .ok (.invokevirtual 123, 3) := by decide +kernel
theorem d_DL_coast_55 : decode prog_1_method_3_code 55 = .ok (.aload_n 0, 1) := by decide +kernel
theorem d_DL_coast_56 : decode prog_1_method_3_code 56 = .ok (.getfield 39, 3) := by decide +kernel
theorem d_DL_coast_59 : decode prog_1_method_3_code 59 = .ok (.invokevirtual 126, 3) := by decide +kernel
theorem d_DL_coast_62 : decode prog_1_method_3_code 62 = .ok (.aload_n 0, 1) := by decide +kernel
theorem d_DL_coast_63 : decode prog_1_method_3_code 63 = .ok (.getfield 84, 3) := by decide +kernel
theorem d_DL_coast_66 : decode prog_1_method_3_code 66 = .ok (.invokevirtual 127, 3) := by decide +kernel
theorem d_DL_coast_69 : decode prog_1_method_3_code 69 = .ok (.aload_n 0, 1) := by decide +kernel
theorem d_DL_coast_70 : decode prog_1_method_3_code 70 = .ok (.getfield 56, 3) := by decide +kernel
theorem d_DL_coast_73 : decode prog_1_method_3_code 73 = .ok (.aload_n 0, 1) := by decide +kernel
theorem d_DL_coast_74 : decode prog_1_method_3_code 74 = .ok (.getfield 19, 3) := by decide +kernel
theorem d_DL_coast_77 : decode prog_1_method_3_code 77 = .ok (.invokevirtual 128, 3) := by decide +kernel
theorem d_DL_coast_80 : decode prog_1_method_3_code 80 = .ok (.aload_n 0, 1) := by decide +kernel
theorem d_DL_coast_81 : decode prog_1_method_3_code 81 = .ok (.iconst 0, 1) := by decide +kernel
theorem d_DL_coast_82 : decode prog_1_method_3_code 82 = .ok (.putfield 130, 3) := by decide +kernel
theorem d_DL_coast_85 : decode prog_1_method_3_code 85 = .ok (.aload_n 0, 1) := by decide +kernel
theorem d_DL_coast_86 : decode prog_1_method_3_code 86 = .ok (.getfield 19, 3) := by decide +kernel
theorem d_DL_coast_89 : decode prog_1_method_3_code 89 = .ok (.getfield 134, 3) := by decide +kernel
theorem d_DL_coast_92 : decode prog_1_method_3_code 92 = .ok (.iconst 3, 1) := by decide +kernel
theorem d_DL_coast_93 : decode prog_1_method_3_code 93 = .ok (.invokevirtual 137, 3) := by decide +kernel
theorem d_DL_coast_96 : decode prog_1_method_3_code 96 = .ok (.ireturn, 1) := by decide +kernel
theorem d_DL_law_0 : decode prog_1_method_4_code 0 = .ok (.aload_n 0, 1) := by decide +kernel
theorem d_DL_law_1 : decode prog_1_method_4_code 1 = .ok (.iload_n 1, 1) := by decide +kernel
theorem d_DL_law_2 : decode prog_1_method_4_code 2 = .ok (.sipush 150, 3) := by decide +kernel
theorem d_DL_law_5 : decode prog_1_method_4_code 5 = .ok (.invokevirtual 104, 3) := by decide +kernel
theorem d_DL_law_8 : decode prog_1_method_4_code 8 = .ok (.aload_n 0, 1) := by decide +kernel
theorem d_DL_law_9 : decode prog_1_method_4_code 9 = .ok (.getfield 33, 3) := by decide +kernel
theorem d_DL_law_12 : decode prog_1_method_4_code 12 = .ok (.aload_n 0, 1) := by decide +kernel
theorem d_DL_law_13 : decode prog_1_method_4_code 13 = .ok (.getfield 10, 3) := by decide +kernel
theorem d_DL_law_16 : decode prog_1_method_4_code 16 = .ok (.invokevirtual 141, 3) := by decide +kernel
theorem d_DL_law_19 : decode prog_1_method_4_code 19 = .ok (.aload_n 0, 1) := by decide +kernel
theorem d_DL_law_20 : decode prog_1_method_4_code 20 = .ok (.getfield 10, 3) := by decide +kernel
theorem d_DL_law_23 : decode prog_1_method_4_code 23 = .ok (.invokevirtual 112, 3) := by decide +kernel
theorem d_DL_law_26 : decode prog_1_method_4_code 26 = .ok (.ifCond .ne 11, 3) := by decide +kernel
theorem d_DL_law_29 : decode prog_1_method_4_code 29 = .ok (.aload_n 0, 1) := by decide +kernel
theorem d_DL_law_30 : decode prog_1_method_4_code 30 = .ok (.getfield 10, 3) := by decide +kernel
theorem d_DL_law_33 : decode prog_1_method_4_code 33 = .ok (.invokevirtual 116, 3) := by decide +kernel
theorem d_DL_law_36 : decode prog_1_method_4_code 36 = .ok (.ireturn, 1) := by decide +kernel
theorem d_DL_law_37 : decode prog_1_method_4_code 37 = .ok (.aload_n 0, 1) := by decide +kernel
theorem d_DL_law_38 : decode prog_1_method_4_code 38 = .ok (.getfield 29, 3) := by decide +kernel
theorem d_DL_law_41 : decode prog_1_method_4_code 41 = .ok (.aload_n 0, 1) := by decide +kernel
theorem d_DL_law_42 : decode prog_1_method_4_code 42 = .ok (.getfield 33, 3) := by decide +kernel
theorem d_DL_law_45 : decode prog_1_method_4_code 45 = .ok (.invokevirtual 142, 3) := by decide +kernel
theorem d_DL_law_48 : decode prog_1_method_4_code 48 = .ok (.iconst 1, 1) := by decide +kernel
theorem d_DL_law_49 : decode prog_1_method_4_code 49 = .ok (.ireturn, 1) := by decide +kernel
theorem d_DL_work_0 : decode prog_1_method_5_code 0 = .ok (.aload_n 0, 1) := by decide +kernel
theorem d_DL_work_1 : decode prog_1_method_5_code 1 = .ok (.iload_n 1, 1) := by decide +kernel
theorem d_DL_work_2 : decode prog_1_method_5_code 2 = .ok (.sipush 150, 3) := by decide +kernel
theorem d_DL_work_5 : decode prog_1_method_5_code 5 = .ok (.invokevirtual 104, 3) := by decide +kernel
theorem d_DL_work_8 : decode prog_1_method_5_code 8 = .ok (.aload_n 0, 1) := by decide +kernel
theorem d_DL_work_9 : decode prog_1_method_5_code 9 = .ok (.getfield 84, 3) := by decide +kernel
theorem d_DL_work_12 : decode prog_1_method_5_code 12 = .ok (.invokevirtual 145, 3) := by decide +kernel
theorem d_DL_work_15 : decode prog_1_method_5_code 15 = .ok (.bipush 16, 2) := by decide +kernel
theorem d_DL_work_17 : decode prog_1_method_5_code 17 = .ok (.if_icmp .lt 6, 3) := by decide +kernel
theorem d_DL_work_20 : decode prog_1_method_5_code 20 = .ok (.bipush (-20), 2) := by decide +kernel
theorem d_DL_work_22 : decode prog_1_method_5_code 22 = .ok (.ireturn, 1) := by decide +kernel
theorem d_DL_work_23 : decode prog_1_method_5_code 23 = .ok (.aload_n 0, 1) := by decide +kernel
theorem d_DL_work_24 : decode prog_1_method_5_code 24 = .ok (.getfield 49, 3) := by decide +kernel
theorem d_DL_work_27 : decode prog_1_method_5_code 27 = .ok (.aload_n 0, 1) := by decide +kernel
theorem d_DL_work_28 : decode prog_1_method_5_code 28 = .ok (.getfield 10, 3) := by decide +kernel
theorem d_DL_work_31 : decode prog_1_method_5_code 31 = .ok (.aload_n 0, 1) := by decide +kernel
theorem d_DL_work_32 : decode prog_1_method_5_code 32 = .ok (.getfield 19, 3) := by decide +kernel
theorem d_DL_work_35 : decode prog_1_method_5_code 35 = .ok (.invokevirtual 148, 3) := by decide +kernel
theorem d_DL_work_38 : decode prog_1_method_5_code 38 = .ok (.aload_n 0, 1) := by decide +kernel
theorem d_DL_work_39 : decode prog_1_method_5_code 39 = .ok (.getfield 10, 3) := by decide +kernel
theorem d_DL_work_42 : decode prog_1_method_5_code 42 = .ok (.invokevirtual 112, 3) := by decide +kernel
theorem d_DL_work_45 : decode prog_1_method_5_code 45 = .ok (.ifCond .ne 11, 3) := by decide +kernel
theorem d_DL_work_48 : decode prog_1_method_5_code 48 = .ok (.aload_n 0, 1) := by decide +kernel
theorem d_DL_work_49 : decode prog_1_method_5_code 49 = .ok (.getfield 10, 3) := by decide +kernel
theorem d_DL_work_52 : decode prog_1_method_5_code 52 = .ok (.invokevirtual 116, 3) := by decide +kernel
theorem d_DL_work_55 : decode prog_1_method_5_code 55 = .ok (.ireturn, 1) := by decide +kernel
theorem d_DL_work_56 : decode prog_1_method_5_code 56 = .ok (.aload_n 0, 1) := by decide +kernel
theorem d_DL_work_57 : decode prog_1_method_5_code 57 = .ok (.getfield 84, 3) := by decide +kernel
theorem d_DL_work_60 : decode prog_1_method_5_code 60 = .ok (.aload_n 0, 1) := by decide +kernel
theorem d_DL_work_61 : decode prog_1_method_5_code 61 = .ok (.getfield 56, 3) := by decide +kernel
theorem d_DL_work_64 : decode prog_1_method_5_code 64 = .ok (.invokevirtual 151, 3) := by decide +kernel
theorem d_DL_work_67 : decode prog_1_method_5_code 67 = .ok (.aload_n 0, 1) := by decide +kernel
theorem d_DL_work_68 : decode prog_1_method_5_code 68 = .ok (.getfield 49, 3) := by decide +kernel
theorem d_DL_work_71 : decode prog_1_method_5_code 71 = .ok (.aload_n 0, 1) := by decide +kernel
theorem d_DL_work_72 : decode prog_1_method_5_code 72 = .ok (.getfield 19, 3) := by decide +kernel
theorem d_DL_work_75 : decode prog_1_method_5_code 75 = .ok (.aload_n 0, 1) := by decide +kernel
theorem d_DL_work_76 : decode prog_1_method_5_code 76 = .ok (.getfield 29, 3) := by decide +kernel
theorem d_DL_work_79 : decode prog_1_method_5_code 79 = .ok (.aload_n 0, 1) := by decide +kernel
theorem d_DL_work_80 : decode prog_1_method_5_code 80 = .ok (.getfield 56, 3) := by decide +kernel
theorem d_DL_work_83 : decode prog_1_method_5_code 83 = .ok (.aload_n 0, 1) := by decide +kernel
theorem d_DL_work_84 : decode prog_1_method_5_code 84 = .ok (.getfield 63, 3) := by decide +kernel
theorem d_DL_work_87 : decode prog_1_method_5_code 87 = .ok (.invokevirtual 155, 3) := by decide +kernel
theorem d_DL_work_90 : decode prog_1_method_5_code 90 = .ok (.aload_n 0, 1) := by decide +kernel
theorem d_DL_work_91 : decode prog_1_method_5_code 91 = .ok (.aload_n 0, 1) := by decide +kernel
theorem d_DL_work_92 : decode prog_1_method_5_code 92 = .ok (.getfield 49, 3) := by decide +kernel
theorem d_DL_work_95 : decode prog_1_method_5_code 95 = .ok (.invokevirtual 159, 3) := by decide +kernel
theorem d_DL_work_98 : decode prog_1_method_5_code 98 = .ok (.putfield 130, 3) := by decide +kernel
theorem d_DL_work_101 : decode prog_1_method_5_code 101 = .ok (.aload_n 0, 1) := by decide +kernel
theorem d_DL_work_102 : decode prog_1_method_5_code 102 = .ok (.getfield 49, 3) := by decide +kernel
theorem d_DL_work_105 : decode prog_1_method_5_code 105 = .ok (.invokevirtual 162, 3) := by decide +kernel
theorem d_DL_work_108 : decode prog_1_method_5_code 108 = .ok (.ireturn, 1) := by decide +kernel
theorem d_DL_log_0 : decode prog_1_method_6_code 0 = .ok (.aload_n 0, 1) := by decide +kernel
theorem d_DL_log_1 : decode prog_1_method_6_code 1 = .ok (.iload_n 1, 1) := by decide +kernel
theorem d_DL_log_2 : decode prog_1_method_6_code 2 = .ok (.bipush 100, 2) := by decide +kernel
theorem d_DL_log_4 : decode prog_1_method_6_code 4 = .ok (.invokevirtual 104, 3) := by decide +kernel
theorem d_DL_log_7 : decode prog_1_method_6_code 7 = .ok (.aload_n 0, 1) := by decide +kernel
theorem d_DL_log_8 : decode prog_1_method_6_code 8 = .ok (.getfield 43, 3) := by decide +kernel
theorem d_DL_log_11 : decode prog_1_method_6_code 11 = .ok (.aload_n 0, 1) := by decide +kernel
theorem d_DL_log_12 : decode prog_1_method_6_code 12 = .ok (.getfield 10, 3) := by decide +kernel
theorem d_DL_log_15 : decode prog_1_method_6_code 15 = .ok (.invokevirtual 165, 3) := by decide +kernel
theorem d_DL_log_18 : decode prog_1_method_6_code 18 = .ok (.aload_n 0, 1) := by decide +kernel
theorem d_DL_log_19 : decode prog_1_method_6_code 19 = .ok (.getfield 10, 3) := by decide +kernel
theorem d_DL_log_22 : decode prog_1_method_6_code 22 = .ok (.invokevirtual 112, 3) := by decide +kernel
theorem d_DL_log_25 : decode prog_1_method_6_code 25 = .ok (.ifCond .ne 11, 3) := by decide +kernel
theorem d_DL_log_28 : decode prog_1_method_6_code 28 = .ok (.aload_n 0, 1) := by decide +kernel
theorem d_DL_log_29 : decode prog_1_method_6_code 29 = .ok (.getfield 10, 3) := by decide +kernel
theorem d_DL_log_32 : decode prog_1_method_6_code 32 = .ok (.invokevirtual 116, 3) := by decide +kernel
theorem d_DL_log_35 : decode prog_1_method_6_code 35 = .ok (.ireturn, 1) := by decide +kernel
theorem d_DL_log_36 : decode prog_1_method_6_code 36 = .ok (.aload_n 0, 1) := by decide +kernel
theorem d_DL_log_37 : decode prog_1_method_6_code 37 = .ok (.getfield 39, 3) := by decide +kernel
theorem d_DL_log_40 : decode prog_1_method_6_code 40 = .ok (.aload_n 0, 1) := by decide +kernel
theorem d_DL_log_41 : decode prog_1_method_6_code 41 = .ok (.getfield 43, 3) := by decide +kernel
theorem d_DL_log_44 : decode prog_1_method_6_code 44 = .ok (.invokevirtual 166, 3) := by decide +kernel
theorem d_DL_log_47 : decode prog_1_method_6_code 47 = .ok (.aload_n 0, 1) := by decide +kernel
theorem d_DL_log_48 : decode prog_1_method_6_code 48 = .ok (.getfield 39, 3) := by decide +kernel
theorem d_DL_log_51 : decode prog_1_method_6_code 51 = .ok (.invokevirtual 169, 3) := by decide +kernel
theorem d_DL_log_54 : decode prog_1_method_6_code 54 = .ok (.ireturn, 1) := by decide +kernel
theorem d_DL_fault_0 : decode prog_1_method_7_code 0 = .ok (.aload_n 0, 1) := by decide +kernel
theorem d_DL_fault_1 : decode prog_1_method_7_code 1 = .ok (.getfield 10, 3) := by decide +kernel
theorem d_DL_fault_4 : decode prog_1_method_7_code 4 = .ok (.invokevirtual 172, 3) := by decide +kernel
theorem d_DL_fault_7 : decode prog_1_method_7_code 7 = .ok (.ireturn, 1) := by decide +kernel
theorem d_DL_undo_0 : decode prog_1_method_8_code 0 = .ok (.aload_n 0, 1) := by decide +kernel
theorem d_DL_undo_1 : decode prog_1_method_8_code 1 = .ok (.getfield 84, 3) := by decide +kernel
theorem d_DL_undo_4 : decode prog_1_method_8_code 4 = .ok (.invokevirtual 145, 3) := by decide +kernel
theorem d_DL_undo_7 : decode prog_1_method_8_code 7 = .ok (.ifCond .ne 5, 3) := by decide +kernel
theorem d_DL_undo_10 : decode prog_1_method_8_code 10 = .ok (.iconst (-1), 1) := by decide +kernel
theorem d_DL_undo_11 : decode prog_1_method_8_code 11 = .ok (.ireturn, 1) := by decide +kernel
theorem d_DL_undo_12 : decode prog_1_method_8_code 12 = .ok (.aload_n 0, 1) := by decide +kernel
theorem d_DL_undo_13 : decode prog_1_method_8_code 13 = .ok (.iconst 0, 1) := by decide +kernel
theorem d_DL_undo_14 : decode prog_1_method_8_code 14 = .ok (.putfield 130, 3) := by decide +kernel
theorem d_DL_undo_17 : decode prog_1_method_8_code 17 = .ok (.aload_n 0, 1) := by decide +kernel
theorem d_DL_undo_18 : decode prog_1_method_8_code 18 = .ok (.getfield 84, 3) := by decide +kernel
theorem d_DL_undo_21 : decode prog_1_method_8_code 21 = .ok (.aload_n 0, 1) := by decide +kernel
theorem d_DL_undo_22 : decode prog_1_method_8_code 22 = .ok (.getfield 56, 3) := by decide +kernel
theorem d_DL_undo_25 : decode prog_1_method_8_code 25 = .ok (.invokevirtual 175, 3) := by decide +kernel
theorem d_DL_undo_28 : decode prog_1_method_8_code 28 = .ok (.ireturn, 1) := by decide +kernel
theorem d_DL_told_0 : decode prog_1_method_9_code 0 = .ok (.aload_n 0, 1) := by decide +kernel
theorem d_DL_told_1 : decode prog_1_method_9_code 1 = .ok (.iload_n 1, 1) := by decide +kernel
theorem d_DL_told_2 : decode prog_1_method_9_code 2 = .ok (.iconst 0, 1) := by decide +kernel
theorem d_DL_told_3 : decode prog_1_method_9_code 3 = .ok (.bipush 12, 2) := by decide +kernel
theorem d_DL_told_5 : decode prog_1_method_9_code 5 = .ok (.invokevirtual 179, 3) := by decide +kernel
theorem d_DL_told_8 : decode prog_1_method_9_code 8 = .ok (.iload_n 1, 1) := by decide +kernel
theorem d_DL_told_9 : decode prog_1_method_9_code 9 = .ok (.iconst 4, 1) := by decide +kernel
theorem d_DL_told_10 : decode prog_1_method_9_code 10 = .ok (.if_icmp .gt 15, 3) := by decide +kernel
theorem d_DL_told_13 : decode prog_1_method_9_code 13 = .ok (.aload_n 0, 1) := by decide +kernel
theorem d_DL_told_14 : decode prog_1_method_9_code 14 = .ok (.getfield 19, 3) := by decide +kernel
theorem d_DL_told_17 : decode prog_1_method_9_code 17 = .ok (.getfield 134, 3) := by decide +kernel
theorem d_DL_told_20 : decode prog_1_method_9_code 20 = .ok (.iload_n 1, 1) := by decide +kernel
theorem d_DL_told_21 : decode prog_1_method_9_code 21 = .ok (.invokevirtual 137, 3) := by decide +kernel
theorem d_DL_told_24 : decode prog_1_method_9_code 24 = .ok (.ireturn, 1) := by decide +kernel
theorem d_DL_told_25 : decode prog_1_method_9_code 25 = .ok (.iload_n 1, 1) := by decide +kernel
theorem d_DL_told_26 : decode prog_1_method_9_code 26 = .ok (.bipush 11, 2) := by decide +kernel
theorem d_DL_told_28 : decode prog_1_method_9_code 28 = .ok (.if_icmp .ne 11, 3) := by decide +kernel
theorem d_DL_told_31 : decode prog_1_method_9_code 31 = .ok (.aload_n 0, 1) := by decide +kernel
theorem d_DL_told_32 : decode prog_1_method_9_code 32 = .ok (.getfield 39, 3) := by decide +kernel
theorem d_DL_told_35 : decode prog_1_method_9_code 35 = .ok (.invokevirtual 169, 3) := by decide +kernel
theorem d_DL_told_38 : decode prog_1_method_9_code 38 = .ok (.ireturn, 1) := by decide +kernel
theorem d_DL_told_39 : decode prog_1_method_9_code 39 = .ok (.iload_n 1, 1) := by decide +kernel
theorem d_DL_told_40 : decode prog_1_method_9_code 40 = .ok (.bipush 12, 2) := by decide +kernel
theorem d_DL_told_42 : decode prog_1_method_9_code 42 = .ok (.if_icmp .ne 10, 3) := by decide +kernel
theorem d_DL_told_45 : decode prog_1_method_9_code 45 = .ok (.aload_n 0, 1) := by decide +kernel
theorem d_DL_told_46 : decode prog_1_method_9_code 46 = .ok (.getfield 130, 3) := by decide +kernel
theorem d_DL_told_49 : decode prog_1_method_9_code 49 = .ok (.goto 15, 3) := by decide +kernel
theorem d_DL_told_52 : decode prog_1_method_9_code 52 = .ok (.aload_n 0, 1) := by decide +kernel
theorem d_DL_told_53 : decode prog_1_method_9_code 53 = .ok (.getfield 56, 3) := by decide +kernel
theorem d_DL_told_56 : decode prog_1_method_9_code 56 = .ok (.iconst 0, 1) := by decide +kernel
theorem d_DL_told_57 : decode prog_1_method_9_code 57 = .ok (.iload_n 1, 1) := by decide +kernel
theorem d_DL_told_58 : decode prog_1_method_9_code 58 = .ok (.iadd, 1) := by decide +kernel
theorem d_DL_told_59 : decode prog_1_method_9_code 59 = .ok (.iconst 5, 1) := by decide +kernel
theorem d_DL_told_60 : decode prog_1_method_9_code 60 = .ok (.isub, 1) := by decide +kernel
theorem d_DL_told_61 : decode prog_1_method_9_code 61 = .ok (.invokevirtual 183, 3) := by decide +kernel
theorem d_DL_told_64 : decode prog_1_method_9_code 64 = .ok (.ireturn, 1) := by decide +kernel
theorem d_DL_cell_0 : decode prog_1_method_10_code 0 = .ok (.aload_n 0, 1) := by decide +kernel
theorem d_DL_cell_1 : decode prog_1_method_10_code 1 = .ok (.iconst 0, 1) := by decide +kernel
theorem d_DL_cell_2 : decode prog_1_method_10_code 2 = .ok (.iload_n 1, 1) := by decide +kernel
theorem d_DL_cell_3 : decode prog_1_method_10_code 3 = .ok (.invokevirtual 184, 3) := by decide +kernel
theorem d_DL_cell_6 : decode prog_1_method_10_code 6 = .ok (.aload_n 0, 1) := by decide +kernel
theorem d_DL_cell_7 : decode prog_1_method_10_code 7 = .ok (.iload_n 2, 1) := by decide +kernel
theorem d_DL_cell_8 : decode prog_1_method_10_code 8 = .ok (.iconst 0, 1) := by decide +kernel
theorem d_DL_cell_9 : decode prog_1_method_10_code 9 = .ok (.iconst 3, 1) := by decide +kernel
theorem d_DL_cell_10 : decode prog_1_method_10_code 10 = .ok (.invokevirtual 179, 3) := by decide +kernel
theorem d_DL_cell_13 : decode prog_1_method_10_code 13 = .ok (.iload_n 2, 1) := by decide +kernel
theorem d_DL_cell_14 : decode prog_1_method_10_code 14 = .ok (.tableswitch 64 0 2 #[26, 38, 51], 26) := by decide +kernel
theorem d_DL_cell_40 : decode prog_1_method_10_code 40 = .ok (.aload_n 0, 1) := by decide +kernel
theorem d_DL_cell_41 : decode prog_1_method_10_code 41 = .ok (.getfield 19, 3) := by decide +kernel
theorem d_DL_cell_44 : decode prog_1_method_10_code 44 = .ok (.getfield 187, 3) := by decide +kernel
theorem d_DL_cell_47 : decode prog_1_method_10_code 47 = .ok (.iload_n 1, 1) := by decide +kernel
theorem d_DL_cell_48 : decode prog_1_method_10_code 48 = .ok (.invokevirtual 137, 3) := by decide +kernel
theorem d_DL_cell_51 : decode prog_1_method_10_code 51 = .ok (.ireturn, 1) := by decide +kernel
theorem d_DL_cell_52 : decode prog_1_method_10_code 52 = .ok (.aload_n 0, 1) := by decide +kernel
theorem d_DL_cell_53 : decode prog_1_method_10_code 53 = .ok (.getfield 56, 3) := by decide +kernel
theorem d_DL_cell_56 : decode prog_1_method_10_code 56 = .ok (.aload_n 0, 1) := by decide +kernel
theorem d_DL_cell_57 : decode prog_1_method_10_code 57 = .ok (.getfield 19, 3) := by decide +kernel
theorem d_DL_cell_60 : decode prog_1_method_10_code 60 = .ok (.iload_n 1, 1) := by decide +kernel
theorem d_DL_cell_61 : decode prog_1_method_10_code 61 = .ok (.invokevirtual 190, 3) := by decide +kernel
theorem d_DL_cell_64 : decode prog_1_method_10_code 64 = .ok (.ireturn, 1) := by decide +kernel
theorem d_DL_cell_65 : decode prog_1_method_10_code 65 = .ok (.aload_n 0, 1) := by decide +kernel
theorem d_DL_cell_66 : decode prog_1_method_10_code 66 = .ok (.getfield 56, 3) := by decide +kernel
theorem d_DL_cell_69 : decode prog_1_method_10_code 69 = .ok (.aload_n 0, 1) := by decide +kernel
theorem d_DL_cell_70 : decode prog_1_method_10_code 70 = .ok (.getfield 19, 3) := by decide +kernel
theorem d_DL_cell_73 : decode prog_1_method_10_code 73 = .ok (.iload_n 1, 1) := by decide +kernel
theorem d_DL_cell_74 : decode prog_1_method_10_code 74 = .ok (.invokevirtual 194, 3) := by decide +kernel
theorem d_DL_cell_77 : decode prog_1_method_10_code 77 = .ok (.ireturn, 1) := by decide +kernel
theorem d_DL_cell_78 : decode prog_1_method_10_code 78 = .ok (.aload_n 0, 1) := by decide +kernel
theorem d_DL_cell_79 : decode prog_1_method_10_code 79 = .ok (.getfield 56, 3) := by decide +kernel
theorem d_DL_cell_82 : decode prog_1_method_10_code 82 = .ok (.bipush 17, 2) := by decide +kernel
theorem d_DL_cell_84 : decode prog_1_method_10_code 84 = .ok (.iload_n 1, 1) := by decide +kernel
theorem d_DL_cell_85 : decode prog_1_method_10_code 85 = .ok (.iadd, 1) := by decide +kernel
theorem d_DL_cell_86 : decode prog_1_method_10_code 86 = .ok (.invokevirtual 183, 3) := by decide +kernel
theorem d_DL_cell_89 : decode prog_1_method_10_code 89 = .ok (.ireturn, 1) := by decide +kernel
theorem d_DL_light_0 : decode prog_1_method_11_code 0 = .ok (.aload_n 0, 1) := by decide +kernel
theorem d_DL_light_1 : decode prog_1_method_11_code 1 = .ok (.iconst 1, 1) := by decide +kernel
theorem d_DL_light_2 : decode prog_1_method_11_code 2 = .ok (.iload_n 1, 1) := by decide +kernel
theorem d_DL_light_3 : decode prog_1_method_11_code 3 = .ok (.invokevirtual 184, 3) := by decide +kernel
theorem d_DL_light_6 : decode prog_1_method_11_code 6 = .ok (.aload_n 0, 1) := by decide +kernel
theorem d_DL_light_7 : decode prog_1_method_11_code 7 = .ok (.iload_n 2, 1) := by decide +kernel
theorem d_DL_light_8 : decode prog_1_method_11_code 8 = .ok (.iconst 0, 1) := by decide +kernel
theorem d_DL_light_9 : decode prog_1_method_11_code 9 = .ok (.iconst 2, 1) := by decide +kernel
theorem d_DL_light_10 : decode prog_1_method_11_code 10 = .ok (.invokevirtual 179, 3) := by decide +kernel
theorem d_DL_light_13 : decode prog_1_method_11_code 13 = .ok (.iload_n 2, 1) := by decide +kernel
theorem d_DL_light_14 : decode prog_1_method_11_code 14 = .ok (.iconst 2, 1) := by decide +kernel
theorem d_DL_light_15 : decode prog_1_method_11_code 15 = .ok (.if_icmp .ne 20, 3) := by decide +kernel
theorem d_DL_light_18 : decode prog_1_method_11_code 18 = .ok (.aload_n 0, 1) := by decide +kernel
theorem d_DL_light_19 : decode prog_1_method_11_code 19 = .ok (.getfield 56, 3) := by decide +kernel
theorem d_DL_light_22 : decode prog_1_method_11_code 22 = .ok (.iload_n 1, 1) := by decide +kernel
theorem d_DL_light_23 : decode prog_1_method_11_code 23 = .ok (.invokevirtual 197, 3) := by decide +kernel
theorem d_DL_light_26 : decode prog_1_method_11_code 26 = .ok (.ifCond .eq 7, 3) := by decide +kernel
theorem d_DL_light_29 : decode prog_1_method_11_code 29 = .ok (.iconst 1, 1) := by decide +kernel
theorem d_DL_light_30 : decode prog_1_method_11_code 30 = .ok (.goto 4, 3) := by decide +kernel
theorem d_DL_light_33 : decode prog_1_method_11_code 33 = .ok (.iconst 0, 1) := by decide +kernel
theorem d_DL_light_34 : decode prog_1_method_11_code 34 = .ok (.ireturn, 1) := by decide +kernel
theorem d_DL_light_35 : decode prog_1_method_11_code 35 = .ok (.iload_n 2, 1) := by decide +kernel
theorem d_DL_light_36 : decode prog_1_method_11_code 36 = .ok (.ifCond .ne 17, 3) := by decide +kernel
theorem d_DL_light_39 : decode prog_1_method_11_code 39 = .ok (.aload_n 0, 1) := by decide +kernel
theorem d_DL_light_40 : decode prog_1_method_11_code 40 = .ok (.getfield 19, 3) := by decide +kernel
theorem d_DL_light_43 : decode prog_1_method_11_code 43 = .ok (.getfield 201, 3) := by decide +kernel
theorem d_DL_light_46 : decode prog_1_method_11_code 46 = .ok (.iload_n 1, 1) := by decide +kernel
theorem d_DL_light_47 : decode prog_1_method_11_code 47 = .ok (.invokevirtual 137, 3) := by decide +kernel
theorem d_DL_light_50 : decode prog_1_method_11_code 50 = .ok (.goto 14, 3) := by decide +kernel
theorem d_DL_light_53 : decode prog_1_method_11_code 53 = .ok (.aload_n 0, 1) := by decide +kernel
theorem d_DL_light_54 : decode prog_1_method_11_code 54 = .ok (.getfield 19, 3) := by decide +kernel
theorem d_DL_light_57 : decode prog_1_method_11_code 57 = .ok (.getfield 204, 3) := by decide +kernel
theorem d_DL_light_60 : decode prog_1_method_11_code 60 = .ok (.iload_n 1, 1) := by decide +kernel
theorem d_DL_light_61 : decode prog_1_method_11_code 61 = .ok (.invokevirtual 137, 3) := by decide +kernel
theorem d_DL_light_64 : decode prog_1_method_11_code 64 = .ok (.ireturn, 1) := by decide +kernel
theorem d_DL_donkey_0 : decode prog_1_method_12_code 0 = .ok (.aload_n 0, 1) := by decide +kernel
theorem d_DL_donkey_1 : decode prog_1_method_12_code 1 = .ok (.iconst 2, 1) := by decide +kernel
theorem d_DL_donkey_2 : decode prog_1_method_12_code 2 = .ok (.iload_n 1, 1) := by decide +kernel
theorem d_DL_donkey_3 : decode prog_1_method_12_code 3 = .ok (.invokevirtual 184, 3) := by decide +kernel
theorem d_DL_donkey_6 : decode prog_1_method_12_code 6 = .ok (.aload_n 0, 1) := by decide +kernel
theorem d_DL_donkey_7 : decode prog_1_method_12_code 7 = .ok (.iload_n 2, 1) := by decide +kernel
theorem d_DL_donkey_8 : decode prog_1_method_12_code 8 = .ok (.iconst 0, 1) := by decide +kernel
theorem d_DL_donkey_9 : decode prog_1_method_12_code 9 = .ok (.iconst 1, 1) := by decide +kernel
theorem d_DL_donkey_10 : decode prog_1_method_12_code 10 = .ok (.invokevirtual 179, 3) := by decide +kernel
theorem d_DL_donkey_13 : decode prog_1_method_12_code 13 = .ok (.iload_n 2, 1) := by decide +kernel
theorem d_DL_donkey_14 : decode prog_1_method_12_code 14 = .ok (.ifCond .ne 17, 3) := by decide +kernel
theorem d_DL_donkey_17 : decode prog_1_method_12_code 17 = .ok (.aload_n 0, 1) := by decide +kernel
theorem d_DL_donkey_18 : decode prog_1_method_12_code 18 = .ok (.getfield 56, 3) := by decide +kernel
theorem d_DL_donkey_21 : decode prog_1_method_12_code 21 = .ok (.bipush 8, 2) := by decide +kernel
theorem d_DL_donkey_23 : decode prog_1_method_12_code 23 = .ok (.iload_n 1, 1) := by decide +kernel
theorem d_DL_donkey_24 : decode prog_1_method_12_code 24 = .ok (.iadd, 1) := by decide +kernel
theorem d_DL_donkey_25 : decode prog_1_method_12_code 25 = .ok (.invokevirtual 183, 3) := by decide +kernel
theorem d_DL_donkey_28 : decode prog_1_method_12_code 28 = .ok (.goto 14, 3) := by decide +kernel
theorem d_DL_donkey_31 : decode prog_1_method_12_code 31 = .ok (.aload_n 0, 1) := by decide +kernel
theorem d_DL_donkey_32 : decode prog_1_method_12_code 32 = .ok (.getfield 19, 3) := by decide +kernel
theorem d_DL_donkey_35 : decode prog_1_method_12_code 35 = .ok (.getfield 207, 3) := by decide +kernel
theorem d_DL_donkey_38 : decode prog_1_method_12_code 38 = .ok (.iload_n 1, 1) := by decide +kernel
theorem d_DL_donkey_39 : decode prog_1_method_12_code 39 = .ok (.invokevirtual 137, 3) := by decide +kernel
theorem d_DL_donkey_42 : decode prog_1_method_12_code 42 = .ok (.ireturn, 1) := by decide +kernel
theorem d_DL_ship_0 : decode prog_1_method_13_code 0 = .ok (.aload_n 0, 1) := by decide +kernel
theorem d_DL_ship_1 : decode prog_1_method_13_code 1 = .ok (.iconst 3, 1) := by decide +kernel
theorem d_DL_ship_2 : decode prog_1_method_13_code 2 = .ok (.iload_n 1, 1) := by decide +kernel
theorem d_DL_ship_3 : decode prog_1_method_13_code 3 = .ok (.invokevirtual 184, 3) := by decide +kernel
theorem d_DL_ship_6 : decode prog_1_method_13_code 6 = .ok (.aload_n 0, 1) := by decide +kernel
theorem d_DL_ship_7 : decode prog_1_method_13_code 7 = .ok (.iload_n 2, 1) := by decide +kernel
theorem d_DL_ship_8 : decode prog_1_method_13_code 8 = .ok (.iconst 0, 1) := by decide +kernel
theorem d_DL_ship_9 : decode prog_1_method_13_code 9 = .ok (.iconst 5, 1) := by decide +kernel
theorem d_DL_ship_10 : decode prog_1_method_13_code 10 = .ok (.invokevirtual 179, 3) := by decide +kernel
theorem d_DL_ship_13 : decode prog_1_method_13_code 13 = .ok (.iload_n 2, 1) := by decide +kernel
theorem d_DL_ship_14 : decode prog_1_method_13_code 14 = .ok (.iconst 4, 1) := by decide +kernel
theorem d_DL_ship_15 : decode prog_1_method_13_code 15 = .ok (.if_icmp .ne 20, 3) := by decide +kernel
theorem d_DL_ship_18 : decode prog_1_method_13_code 18 = .ok (.aload_n 0, 1) := by decide +kernel
theorem d_DL_ship_19 : decode prog_1_method_13_code 19 = .ok (.getfield 56, 3) := by decide +kernel
theorem d_DL_ship_22 : decode prog_1_method_13_code 22 = .ok (.iload_n 1, 1) := by decide +kernel
theorem d_DL_ship_23 : decode prog_1_method_13_code 23 = .ok (.invokevirtual 210, 3) := by decide +kernel
theorem d_DL_ship_26 : decode prog_1_method_13_code 26 = .ok (.ifCond .eq 7, 3) := by decide +kernel
theorem d_DL_ship_29 : decode prog_1_method_13_code 29 = .ok (.iconst 1, 1) := by decide +kernel
theorem d_DL_ship_30 : decode prog_1_method_13_code 30 = .ok (.goto 4, 3) := by decide +kernel
theorem d_DL_ship_33 : decode prog_1_method_13_code 33 = .ok (.iconst 0, 1) := by decide +kernel
theorem d_DL_ship_34 : decode prog_1_method_13_code 34 = .ok (.ireturn, 1) := by decide +kernel
theorem d_DL_ship_35 : decode prog_1_method_13_code 35 = .ok (.iload_n 2, 1) := by decide +kernel
theorem d_DL_ship_36 : decode prog_1_method_13_code 36 = .ok (.iconst 5, 1) := by decide +kernel
theorem d_DL_ship_37 : decode prog_1_method_13_code 37 = .ok (.if_icmp .ne 17, 3) := by decide +kernel
theorem d_DL_ship_40 : decode prog_1_method_13_code 40 = .ok (.aload_n 0, 1) := by decide +kernel
theorem d_DL_ship_41 : decode prog_1_method_13_code 41 = .ok (.getfield 56, 3) := by decide +kernel
theorem d_DL_ship_44 : decode prog_1_method_13_code 44 = .ok (.bipush 11, 2) := by decide +kernel
theorem d_DL_ship_46 : decode prog_1_method_13_code 46 = .ok (.iload_n 1, 1) := by decide +kernel
theorem d_DL_ship_47 : decode prog_1_method_13_code 47 = .ok (.iadd, 1) := by decide +kernel
theorem d_DL_ship_48 : decode prog_1_method_13_code 48 = .ok (.invokevirtual 183, 3) := by decide +kernel
theorem d_DL_ship_51 : decode prog_1_method_13_code 51 = .ok (.goto 12, 3) := by decide +kernel
theorem d_DL_ship_54 : decode prog_1_method_13_code 54 = .ok (.aload_n 0, 1) := by decide +kernel
theorem d_DL_ship_55 : decode prog_1_method_13_code 55 = .ok (.getfield 19, 3) := by decide +kernel
theorem d_DL_ship_58 : decode prog_1_method_13_code 58 = .ok (.iload_n 1, 1) := by decide +kernel
theorem d_DL_ship_59 : decode prog_1_method_13_code 59 = .ok (.iload_n 2, 1) := by decide +kernel
theorem d_DL_ship_60 : decode prog_1_method_13_code 60 = .ok (.invokevirtual 213, 3) := by decide +kernel
theorem d_DL_ship_63 : decode prog_1_method_13_code 63 = .ok (.ireturn, 1) := by decide +kernel
theorem d_DL_seen_0 : decode prog_1_method_14_code 0 = .ok (.aload_n 0, 1) := by decide +kernel
theorem d_DL_seen_1 : decode prog_1_method_14_code 1 = .ok (.iconst 0, 1) := by decide +kernel
theorem d_DL_seen_2 : decode prog_1_method_14_code 2 = .ok (.iload_n 1, 1) := by decide +kernel
theorem d_DL_seen_3 : decode prog_1_method_14_code 3 = .ok (.invokevirtual 184, 3) := by decide +kernel
theorem d_DL_seen_6 : decode prog_1_method_14_code 6 = .ok (.aload_n 0, 1) := by decide +kernel
theorem d_DL_seen_7 : decode prog_1_method_14_code 7 = .ok (.iload_n 2, 1) := by decide +kernel
theorem d_DL_seen_8 : decode prog_1_method_14_code 8 = .ok (.iconst 0, 1) := by decide +kernel
theorem d_DL_seen_9 : decode prog_1_method_14_code 9 = .ok (.bipush 99, 2) := by decide +kernel
theorem d_DL_seen_11 : decode prog_1_method_14_code 11 = .ok (.invokevirtual 179, 3) := by decide +kernel
theorem d_DL_seen_14 : decode prog_1_method_14_code 14 = .ok (.aload_n 0, 1) := by decide +kernel
theorem d_DL_seen_15 : decode prog_1_method_14_code 15 = .ok (.iload_n 1, 1) := by decide +kernel
theorem d_DL_seen_16 : decode prog_1_method_14_code 16 = .ok (.iload_n 2, 1) := by decide +kernel
theorem d_DL_seen_17 : decode prog_1_method_14_code 17 = .ok (.invokevirtual 217, 3) := by decide +kernel
theorem d_DL_seen_20 : decode prog_1_method_14_code 20 = .ok (.ireturn, 1) := by decide +kernel
theorem d_DL_would_0 : decode prog_1_method_15_code 0 = .ok (.aload_n 0, 1) := by decide +kernel
theorem d_DL_would_1 : decode prog_1_method_15_code 1 = .ok (.iconst 3, 1) := by decide +kernel
theorem d_DL_would_2 : decode prog_1_method_15_code 2 = .ok (.iload_n 1, 1) := by decide +kernel
theorem d_DL_would_3 : decode prog_1_method_15_code 3 = .ok (.invokevirtual 184, 3) := by decide +kernel
theorem d_DL_would_6 : decode prog_1_method_15_code 6 = .ok (.aload_n 0, 1) := by decide +kernel
theorem d_DL_would_7 : decode prog_1_method_15_code 7 = .ok (.iload_n 2, 1) := by decide +kernel
theorem d_DL_would_8 : decode prog_1_method_15_code 8 = .ok (.iconst 0, 1) := by decide +kernel
theorem d_DL_would_9 : decode prog_1_method_15_code 9 = .ok (.bipush 20, 2) := by decide +kernel
theorem d_DL_would_11 : decode prog_1_method_15_code 11 = .ok (.invokevirtual 179, 3) := by decide +kernel
theorem d_DL_would_14 : decode prog_1_method_15_code 14 = .ok (.aload_n 0, 1) := by decide +kernel
theorem d_DL_would_15 : decode prog_1_method_15_code 15 = .ok (.iload_n 3, 1) := by decide +kernel
theorem d_DL_would_16 : decode prog_1_method_15_code 16 = .ok (.iconst 0, 1) := by decide +kernel
theorem d_DL_would_17 : decode prog_1_method_15_code 17 = .ok (.bipush 20, 2) := by decide +kernel
theorem d_DL_would_19 : decode prog_1_method_15_code 19 = .ok (.invokevirtual 179, 3) := by decide +kernel
theorem d_DL_would_22 : decode prog_1_method_15_code 22 = .ok (.aload_n 0, 1) := by decide +kernel
theorem d_DL_would_23 : decode prog_1_method_15_code 23 = .ok (.iload 4, 2) := by decide +kernel
theorem d_DL_would_25 : decode prog_1_method_15_code 25 = .ok (.iconst 0, 1) := by decide +kernel
theorem d_DL_would_26 : decode prog_1_method_15_code 26 = .ok (.bipush 11, 2) := by decide +kernel
theorem d_DL_would_28 : decode prog_1_method_15_code 28 = .ok (.invokevirtual 179, 3) := by decide +kernel
theorem d_DL_would_31 : decode prog_1_method_15_code 31 = .ok (.aload_n 0, 1) := by decide +kernel
theorem d_DL_would_32 : decode prog_1_method_15_code 32 = .ok (.iload 5, 2) := by decide +kernel
theorem d_DL_would_34 : decode prog_1_method_15_code 34 = .ok (.iconst 0, 1) := by decide +kernel
theorem d_DL_would_35 : decode prog_1_method_15_code 35 = .ok (.bipush 11, 2) := by decide +kernel
theorem d_DL_would_37 : decode prog_1_method_15_code 37 = .ok (.invokevirtual 179, 3) := by decide +kernel
theorem d_DL_would_40 : decode prog_1_method_15_code 40 = .ok (.aload_n 0, 1) := by decide +kernel
theorem d_DL_would_41 : decode prog_1_method_15_code 41 = .ok (.iload 6, 2) := by decide +kernel
theorem d_DL_would_43 : decode prog_1_method_15_code 43 = .ok (.iconst 0, 1) := by decide +kernel
theorem d_DL_would_44 : decode prog_1_method_15_code 44 = .ok (.sipush 500, 3) := by decide +kernel
theorem d_DL_would_47 : decode prog_1_method_15_code 47 = .ok (.invokevirtual 179, 3) := by decide +kernel
theorem d_DL_would_50 : decode prog_1_method_15_code 50 = .ok (.aload_n 0, 1) := by decide +kernel
theorem d_DL_would_51 : decode prog_1_method_15_code 51 = .ok (.iload 7, 2) := by decide +kernel
theorem d_DL_would_53 : decode prog_1_method_15_code 53 = .ok (.iconst 0, 1) := by decide +kernel
theorem d_DL_would_54 : decode prog_1_method_15_code 54 = .ok (.iconst 1, 1) := by decide +kernel
theorem d_DL_would_55 : decode prog_1_method_15_code 55 = .ok (.invokevirtual 179, 3) := by decide +kernel
theorem d_DL_would_58 : decode prog_1_method_15_code 58 = .ok (.aload_n 0, 1) := by decide +kernel
theorem d_DL_would_59 : decode prog_1_method_15_code 59 = .ok (.getfield 29, 3) := by decide +kernel
theorem d_DL_would_62 : decode prog_1_method_15_code 62 = .ok (.iload 6, 2) := by decide +kernel
theorem d_DL_would_64 : decode prog_1_method_15_code 64 = .ok (.iload 7, 2) := by decide +kernel
theorem d_DL_would_66 : decode prog_1_method_15_code 66 = .ok (.invokevirtual 220, 3) := by decide +kernel
theorem d_DL_would_69 : decode prog_1_method_15_code 69 = .ok (.aload_n 0, 1) := by decide +kernel
theorem d_DL_would_70 : decode prog_1_method_15_code 70 = .ok (.getfield 29, 3) := by decide +kernel
theorem d_DL_would_73 : decode prog_1_method_15_code 73 = .ok (.aload_n 0, 1) := by decide +kernel
theorem d_DL_would_74 : decode prog_1_method_15_code 74 = .ok (.getfield 19, 3) := by decide +kernel
theorem d_DL_would_77 : decode prog_1_method_15_code 77 = .ok (.iload_n 1, 1) := by decide +kernel
theorem d_DL_would_78 : decode prog_1_method_15_code 78 = .ok (.iload_n 2, 1) := by decide +kernel
theorem d_DL_would_79 : decode prog_1_method_15_code 79 = .ok (.iload_n 3, 1) := by decide +kernel
theorem d_DL_would_80 : decode prog_1_method_15_code 80 = .ok (.iload 4, 2) := by decide +kernel
theorem d_DL_would_82 : decode prog_1_method_15_code 82 = .ok (.iload 5, 2) := by decide +kernel
theorem d_DL_would_84 : decode prog_1_method_15_code 84 = .ok (.invokevirtual 223, 3) := by decide +kernel
theorem d_DL_would_87 : decode prog_1_method_15_code 87 = .ok (.aload_n 0, 1) := by decide +kernel
theorem d_DL_would_88 : decode prog_1_method_15_code 88 = .ok (.getfield 29, 3) := by decide +kernel
theorem d_DL_would_91 : decode prog_1_method_15_code 91 = .ok (.invokevirtual 227, 3) := by decide +kernel
theorem d_DL_would_94 : decode prog_1_method_15_code 94 = .ok (.ireturn, 1) := by decide +kernel
theorem d_DL_tried_0 : decode prog_1_method_16_code 0 = .ok (.aload_n 0, 1) := by decide +kernel
theorem d_DL_tried_1 : decode prog_1_method_16_code 1 = .ok (.iconst 3, 1) := by decide +kernel
theorem d_DL_tried_2 : decode prog_1_method_16_code 2 = .ok (.iload_n 1, 1) := by decide +kernel
theorem d_DL_tried_3 : decode prog_1_method_16_code 3 = .ok (.invokevirtual 184, 3) := by decide +kernel
theorem d_DL_tried_6 : decode prog_1_method_16_code 6 = .ok (.aload_n 0, 1) := by decide +kernel
theorem d_DL_tried_7 : decode prog_1_method_16_code 7 = .ok (.iload_n 2, 1) := by decide +kernel
theorem d_DL_tried_8 : decode prog_1_method_16_code 8 = .ok (.iconst 0, 1) := by decide +kernel
theorem d_DL_tried_9 : decode prog_1_method_16_code 9 = .ok (.iconst 4, 1) := by decide +kernel
theorem d_DL_tried_10 : decode prog_1_method_16_code 10 = .ok (.invokevirtual 179, 3) := by decide +kernel
theorem d_DL_tried_13 : decode prog_1_method_16_code 13 = .ok (.aload_n 0, 1) := by decide +kernel
theorem d_DL_tried_14 : decode prog_1_method_16_code 14 = .ok (.getfield 63, 3) := by decide +kernel
theorem d_DL_tried_17 : decode prog_1_method_16_code 17 = .ok (.aload_n 0, 1) := by decide +kernel
theorem d_DL_tried_18 : decode prog_1_method_16_code 18 = .ok (.getfield 19, 3) := by decide +kernel
theorem d_DL_tried_21 : decode prog_1_method_16_code 21 = .ok (.aload_n 0, 1) := by decide +kernel
theorem d_DL_tried_22 : decode prog_1_method_16_code 22 = .ok (.getfield 29, 3) := by decide +kernel
theorem d_DL_tried_25 : decode prog_1_method_16_code 25 = .ok (.aload_n 0, 1) := by decide +kernel
theorem d_DL_tried_26 : decode prog_1_method_16_code 26 = .ok (.getfield 56, 3) := by decide +kernel
theorem d_DL_tried_29 : decode prog_1_method_16_code 29 = .ok (.invokevirtual 230, 3) := by decide +kernel
theorem d_DL_tried_32 : decode prog_1_method_16_code 32 = .ok (.aload_n 0, 1) := by decide +kernel
theorem d_DL_tried_33 : decode prog_1_method_16_code 33 = .ok (.getfield 63, 3) := by decide +kernel
theorem d_DL_tried_36 : decode prog_1_method_16_code 36 = .ok (.aload_n 0, 1) := by decide +kernel
theorem d_DL_tried_37 : decode prog_1_method_16_code 37 = .ok (.getfield 19, 3) := by decide +kernel
theorem d_DL_tried_40 : decode prog_1_method_16_code 40 = .ok (.aload_n 0, 1) := by decide +kernel
theorem d_DL_tried_41 : decode prog_1_method_16_code 41 = .ok (.getfield 29, 3) := by decide +kernel
theorem d_DL_tried_44 : decode prog_1_method_16_code 44 = .ok (.iload_n 1, 1) := by decide +kernel
theorem d_DL_tried_45 : decode prog_1_method_16_code 45 = .ok (.invokevirtual 234, 3) := by decide +kernel
theorem d_DL_tried_48 : decode prog_1_method_16_code 48 = .ok (.istore_n 3, 1) := by decide +kernel
theorem d_DL_tried_49 : decode prog_1_method_16_code 49 = .ok (.iload_n 2, 1) := by decide +kernel
theorem d_DL_tried_50 : decode prog_1_method_16_code 50 = .ok (.tableswitch 70 0 3 #[30, 32, 50, 60], 30) := by decide +kernel
theorem d_DL_tried_80 : decode prog_1_method_16_code 80 = .ok (.iload_n 3, 1) := by decide +kernel
theorem d_DL_tried_81 : decode prog_1_method_16_code 81 = .ok (.ireturn, 1) := by decide +kernel
theorem d_DL_tried_82 : decode prog_1_method_16_code 82 = .ok (.aload_n 0, 1) := by decide +kernel
theorem d_DL_tried_83 : decode prog_1_method_16_code 83 = .ok (.getfield 63, 3) := by decide +kernel
theorem d_DL_tried_86 : decode prog_1_method_16_code 86 = .ok (.aload_n 0, 1) := by decide +kernel
theorem d_DL_tried_87 : decode prog_1_method_16_code 87 = .ok (.getfield 19, 3) := by decide +kernel
theorem d_DL_tried_90 : decode prog_1_method_16_code 90 = .ok (.aload_n 0, 1) := by decide +kernel
theorem d_DL_tried_91 : decode prog_1_method_16_code 91 = .ok (.getfield 29, 3) := by decide +kernel
theorem d_DL_tried_94 : decode prog_1_method_16_code 94 = .ok (.iload_n 1, 1) := by decide +kernel
theorem d_DL_tried_95 : decode prog_1_method_16_code 95 = .ok (.iload_n 3, 1) := by decide +kernel
theorem d_DL_tried_96 : decode prog_1_method_16_code 96 = .ok (.invokevirtual 238, 3) := by decide +kernel
theorem d_DL_tried_99 : decode prog_1_method_16_code 99 = .ok (.ireturn, 1) := by decide +kernel
theorem d_DL_tried_100 : decode prog_1_method_16_code 100 = .ok (.aload_n 0, 1) := by decide +kernel
theorem d_DL_tried_101 : decode prog_1_method_16_code 101 = .ok (.getfield 19, 3) := by decide +kernel
theorem d_DL_tried_104 : decode prog_1_method_16_code 104 = .ok (.iload_n 1, 1) := by decide +kernel
theorem d_DL_tried_105 : decode prog_1_method_16_code 105 = .ok (.iload_n 3, 1) := by decide +kernel
theorem d_DL_tried_106 : decode prog_1_method_16_code 106 = .ok (.invokevirtual 242, 3) := by decide +kernel
theorem d_DL_tried_109 : decode prog_1_method_16_code 109 = .ok (.ireturn, 1) := by decide +kernel
theorem d_DL_tried_110 : decode prog_1_method_16_code 110 = .ok (.aload_n 0, 1) := by decide +kernel
theorem d_DL_tried_111 : decode prog_1_method_16_code 111 = .ok (.getfield 19, 3) := by decide +kernel
theorem d_DL_tried_114 : decode prog_1_method_16_code 114 = .ok (.iload_n 1, 1) := by decide +kernel
theorem d_DL_tried_115 : decode prog_1_method_16_code 115 = .ok (.iload_n 3, 1) := by decide +kernel
theorem d_DL_tried_116 : decode prog_1_method_16_code 116 = .ok (.invokevirtual 245, 3) := by decide +kernel
theorem d_DL_tried_119 : decode prog_1_method_16_code 119 = .ok (.ireturn, 1) := by decide +kernel
theorem d_DL_tried_120 : decode prog_1_method_16_code 120 = .ok (.aload_n 0, 1) := by decide +kernel
theorem d_DL_tried_121 : decode prog_1_method_16_code 121 = .ok (.getfield 63, 3) := by decide +kernel
theorem d_DL_tried_124 : decode prog_1_method_16_code 124 = .ok (.aload_n 0, 1) := by decide +kernel
theorem d_DL_tried_125 : decode prog_1_method_16_code 125 = .ok (.getfield 19, 3) := by decide +kernel
theorem d_DL_tried_128 : decode prog_1_method_16_code 128 = .ok (.iload_n 3, 1) := by decide +kernel
theorem d_DL_tried_129 : decode prog_1_method_16_code 129 = .ok (.invokevirtual 248, 3) := by decide +kernel
theorem d_DL_tried_132 : decode prog_1_method_16_code 132 = .ok (.ireturn, 1) := by decide +kernel
theorem d_DL_safe_0 : decode prog_1_method_17_code 0 = .ok (.aload_n 0, 1) := by decide +kernel
theorem d_DL_safe_1 : decode prog_1_method_17_code 1 = .ok (.getfield 63, 3) := by decide +kernel
theorem d_DL_safe_4 : decode prog_1_method_17_code 4 = .ok (.aload_n 0, 1) := by decide +kernel
theorem d_DL_safe_5 : decode prog_1_method_17_code 5 = .ok (.getfield 19, 3) := by decide +kernel
theorem d_DL_safe_8 : decode prog_1_method_17_code 8 = .ok (.aload_n 0, 1) := by decide +kernel
theorem d_DL_safe_9 : decode prog_1_method_17_code 9 = .ok (.getfield 29, 3) := by decide +kernel
theorem d_DL_safe_12 : decode prog_1_method_17_code 12 = .ok (.aload_n 0, 1) := by decide +kernel
theorem d_DL_safe_13 : decode prog_1_method_17_code 13 = .ok (.getfield 56, 3) := by decide +kernel
theorem d_DL_safe_16 : decode prog_1_method_17_code 16 = .ok (.invokevirtual 230, 3) := by decide +kernel
theorem d_DL_safe_19 : decode prog_1_method_17_code 19 = .ok (.iconst 0, 1) := by decide +kernel
theorem d_DL_safe_20 : decode prog_1_method_17_code 20 = .ok (.istore_n 1, 1) := by decide +kernel
theorem d_DL_safe_21 : decode prog_1_method_17_code 21 = .ok (.iconst 0, 1) := by decide +kernel
theorem d_DL_safe_22 : decode prog_1_method_17_code 22 = .ok (.istore_n 2, 1) := by decide +kernel
theorem d_DL_safe_23 : decode prog_1_method_17_code 23 = .ok (.iload_n 2, 1) := by decide +kernel
theorem d_DL_safe_24 : decode prog_1_method_17_code 24 = .ok (.aload_n 0, 1) := by decide +kernel
theorem d_DL_safe_25 : decode prog_1_method_17_code 25 = .ok (.getfield 19, 3) := by decide +kernel
theorem d_DL_safe_28 : decode prog_1_method_17_code 28 = .ok (.getfield 134, 3) := by decide +kernel
theorem d_DL_safe_31 : decode prog_1_method_17_code 31 = .ok (.iconst 3, 1) := by decide +kernel
theorem d_DL_safe_32 : decode prog_1_method_17_code 32 = .ok (.invokevirtual 137, 3) := by decide +kernel
theorem d_DL_safe_35 : decode prog_1_method_17_code 35 = .ok (.if_icmp .ge 35, 3) := by decide +kernel
theorem d_DL_safe_38 : decode prog_1_method_17_code 38 = .ok (.aload_n 0, 1) := by decide +kernel
theorem d_DL_safe_39 : decode prog_1_method_17_code 39 = .ok (.getfield 63, 3) := by decide +kernel
theorem d_DL_safe_42 : decode prog_1_method_17_code 42 = .ok (.aload_n 0, 1) := by decide +kernel
theorem d_DL_safe_43 : decode prog_1_method_17_code 43 = .ok (.getfield 19, 3) := by decide +kernel
theorem d_DL_safe_46 : decode prog_1_method_17_code 46 = .ok (.aload_n 0, 1) := by decide +kernel
theorem d_DL_safe_47 : decode prog_1_method_17_code 47 = .ok (.getfield 29, 3) := by decide +kernel
theorem d_DL_safe_50 : decode prog_1_method_17_code 50 = .ok (.iload_n 2, 1) := by decide +kernel
theorem d_DL_safe_51 : decode prog_1_method_17_code 51 = .ok (.invokevirtual 234, 3) := by decide +kernel
theorem d_DL_safe_54 : decode prog_1_method_17_code 54 = .ok (.iconst (-1), 1) := by decide +kernel
theorem d_DL_safe_55 : decode prog_1_method_17_code 55 = .ok (.if_icmp .ne 9, 3) := by decide +kernel
theorem d_DL_safe_58 : decode prog_1_method_17_code 58 = .ok (.iload_n 1, 1) := by decide +kernel
theorem d_DL_safe_59 : decode prog_1_method_17_code 59 = .ok (.iconst 1, 1) := by decide +kernel
theorem d_DL_safe_60 : decode prog_1_method_17_code 60 = .ok (.iload_n 2, 1) := by decide +kernel
theorem d_DL_safe_61 : decode prog_1_method_17_code 61 = .ok (.ishl, 1) := by decide +kernel
theorem d_DL_safe_62 : decode prog_1_method_17_code 62 = .ok (.ior, 1) := by decide +kernel
theorem d_DL_safe_63 : decode prog_1_method_17_code 63 = .ok (.istore_n 1, 1) := by decide +kernel
theorem d_DL_safe_64 : decode prog_1_method_17_code 64 = .ok (.iinc 2 1, 3) := by decide +kernel
theorem d_DL_safe_67 : decode prog_1_method_17_code 67 = .ok (.goto (-44), 3) := by decide +kernel
theorem d_DL_safe_70 : decode prog_1_method_17_code 70 = .ok (.iload_n 1, 1) := by decide +kernel
theorem d_DL_safe_71 : decode prog_1_method_17_code 71 = .ok (.ireturn, 1) := by decide +kernel
theorem d_DL_put_0 : decode prog_1_method_18_code 0 = .ok (.aload_n 0, 1) := by decide +kernel
theorem d_DL_put_1 : decode prog_1_method_18_code 1 = .ok (.iload_n 1, 1) := by decide +kernel
theorem d_DL_put_2 : decode prog_1_method_18_code 2 = .ok (.invokevirtual 251, 3) := by decide +kernel
theorem d_DL_put_5 : decode prog_1_method_18_code 5 = .ok (.aload_n 0, 1) := by decide +kernel
theorem d_DL_put_6 : decode prog_1_method_18_code 6 = .ok (.iload_n 2, 1) := by decide +kernel
theorem d_DL_put_7 : decode prog_1_method_18_code 7 = .ok (.iconst 0, 1) := by decide +kernel
theorem d_DL_put_8 : decode prog_1_method_18_code 8 = .ok (.iconst 1, 1) := by decide +kernel
theorem d_DL_put_9 : decode prog_1_method_18_code 9 = .ok (.invokevirtual 179, 3) := by decide +kernel
theorem d_DL_put_12 : decode prog_1_method_18_code 12 = .ok (.aload_n 0, 1) := by decide +kernel
theorem d_DL_put_13 : decode prog_1_method_18_code 13 = .ok (.getfield 70, 3) := by decide +kernel
theorem d_DL_put_16 : decode prog_1_method_18_code 16 = .ok (.aload_n 0, 1) := by decide +kernel
theorem d_DL_put_17 : decode prog_1_method_18_code 17 = .ok (.getfield 19, 3) := by decide +kernel
theorem d_DL_put_20 : decode prog_1_method_18_code 20 = .ok (.aload_n 0, 1) := by decide +kernel
theorem d_DL_put_21 : decode prog_1_method_18_code 21 = .ok (.getfield 29, 3) := by decide +kernel
theorem d_DL_put_24 : decode prog_1_method_18_code 24 = .ok (.aload_n 0, 1) := by decide +kernel
theorem d_DL_put_25 : decode prog_1_method_18_code 25 = .ok (.getfield 56, 3) := by decide +kernel
theorem d_DL_put_28 : decode prog_1_method_18_code 28 = .ok (.aload_n 0, 1) := by decide +kernel
theorem d_DL_put_29 : decode prog_1_method_18_code 29 = .ok (.getfield 63, 3) := by decide +kernel
theorem d_DL_put_32 : decode prog_1_method_18_code 32 = .ok (.iload_n 1, 1) := by decide +kernel
theorem d_DL_put_33 : decode prog_1_method_18_code 33 = .ok (.invokevirtual 254, 3) := by decide +kernel
theorem d_DL_put_36 : decode prog_1_method_18_code 36 = .ok (.iload_n 2, 1) := by decide +kernel
theorem d_DL_put_37 : decode prog_1_method_18_code 37 = .ok (.ifCond .ne 13, 3) := by decide +kernel
theorem d_DL_put_40 : decode prog_1_method_18_code 40 = .ok (.aload_n 0, 1) := by decide +kernel
theorem d_DL_put_41 : decode prog_1_method_18_code 41 = .ok (.getfield 70, 3) := by decide +kernel
theorem d_DL_put_44 : decode prog_1_method_18_code 44 = .ok (.invokevirtual 258, 3) := by decide +kernel
theorem d_DL_put_47 : decode prog_1_method_18_code 47 = .ok (.goto 10, 3) := by decide +kernel
theorem d_DL_put_50 : decode prog_1_method_18_code 50 = .ok (.aload_n 0, 1) := by decide +kernel
theorem d_DL_put_51 : decode prog_1_method_18_code 51 = .ok (.getfield 70, 3) := by decide +kernel
theorem d_DL_put_54 : decode prog_1_method_18_code 54 = .ok (.invokevirtual 261, 3) := by decide +kernel
theorem d_DL_put_57 : decode prog_1_method_18_code 57 = .ok (.ireturn, 1) := by decide +kernel
theorem d_DL_save_0 : decode prog_1_method_19_code 0 = .ok (.aload_n 0, 1) := by decide +kernel
theorem d_DL_save_1 : decode prog_1_method_19_code 1 = .ok (.iload_n 1, 1) := by decide +kernel
theorem d_DL_save_2 : decode prog_1_method_19_code 2 = .ok (.iconst 0, 1) := by decide +kernel
theorem d_DL_save_3 : decode prog_1_method_19_code 3 = .ok (.iconst 2, 1) := by decide +kernel
theorem d_DL_save_4 : decode prog_1_method_19_code 4 = .ok (.invokevirtual 179, 3) := by decide +kernel
theorem d_DL_save_7 : decode prog_1_method_19_code 7 = .ok (.aload_n 0, 1) := by decide +kernel
theorem d_DL_save_8 : decode prog_1_method_19_code 8 = .ok (.getfield 19, 3) := by decide +kernel
theorem d_DL_save_11 : decode prog_1_method_19_code 11 = .ok (.getfield 134, 3) := by decide +kernel
theorem d_DL_save_14 : decode prog_1_method_19_code 14 = .ok (.iconst 0, 1) := by decide +kernel
theorem d_DL_save_15 : decode prog_1_method_19_code 15 = .ok (.invokevirtual 137, 3) := by decide +kernel
theorem d_DL_save_18 : decode prog_1_method_19_code 18 = .ok (.ifCond .ne 5, 3) := by decide +kernel
theorem d_DL_save_21 : decode prog_1_method_19_code 21 = .ok (.iconst (-1), 1) := by decide +kernel
theorem d_DL_save_22 : decode prog_1_method_19_code 22 = .ok (.ireturn, 1) := by decide +kernel
theorem d_DL_save_23 : decode prog_1_method_19_code 23 = .ok (.aload_n 0, 1) := by decide +kernel
theorem d_DL_save_24 : decode prog_1_method_19_code 24 = .ok (.getfield 70, 3) := by decide +kernel
theorem d_DL_save_27 : decode prog_1_method_19_code 27 = .ok (.aload_n 0, 1) := by decide +kernel
theorem d_DL_save_28 : decode prog_1_method_19_code 28 = .ok (.getfield 19, 3) := by decide +kernel
theorem d_DL_save_31 : decode prog_1_method_19_code 31 = .ok (.aload_n 0, 1) := by decide +kernel
theorem d_DL_save_32 : decode prog_1_method_19_code 32 = .ok (.getfield 29, 3) := by decide +kernel
theorem d_DL_save_35 : decode prog_1_method_19_code 35 = .ok (.aload_n 0, 1) := by decide +kernel
theorem d_DL_save_36 : decode prog_1_method_19_code 36 = .ok (.getfield 56, 3) := by decide +kernel
theorem d_DL_save_39 : decode prog_1_method_19_code 39 = .ok (.aload_n 0, 1) := by decide +kernel
theorem d_DL_save_40 : decode prog_1_method_19_code 40 = .ok (.getfield 63, 3) := by decide +kernel
theorem d_DL_save_43 : decode prog_1_method_19_code 43 = .ok (.invokevirtual 264, 3) := by decide +kernel
theorem d_DL_save_46 : decode prog_1_method_19_code 46 = .ok (.iload_n 1, 1) := by decide +kernel
theorem d_DL_save_47 : decode prog_1_method_19_code 47 = .ok (.ifCond .ne 11, 3) := by decide +kernel
theorem d_DL_save_50 : decode prog_1_method_19_code 50 = .ok (.aload_n 0, 1) := by decide +kernel
theorem d_DL_save_51 : decode prog_1_method_19_code 51 = .ok (.getfield 70, 3) := by decide +kernel
theorem d_DL_save_54 : decode prog_1_method_19_code 54 = .ok (.invokevirtual 258, 3) := by decide +kernel
theorem d_DL_save_57 : decode prog_1_method_19_code 57 = .ok (.ireturn, 1) := by decide +kernel
theorem d_DL_save_58 : decode prog_1_method_19_code 58 = .ok (.iload_n 1, 1) := by decide +kernel
theorem d_DL_save_59 : decode prog_1_method_19_code 59 = .ok (.iconst 1, 1) := by decide +kernel
theorem d_DL_save_60 : decode prog_1_method_19_code 60 = .ok (.if_icmp .ne 13, 3) := by decide +kernel
theorem d_DL_save_63 : decode prog_1_method_19_code 63 = .ok (.aload_n 0, 1) := by decide +kernel
theorem d_DL_save_64 : decode prog_1_method_19_code 64 = .ok (.getfield 70, 3) := by decide +kernel
theorem d_DL_save_67 : decode prog_1_method_19_code 67 = .ok (.invokevirtual 267, 3) := by decide +kernel
theorem d_DL_save_70 : decode prog_1_method_19_code 70 = .ok (.goto 10, 3) := by decide +kernel
theorem d_DL_save_73 : decode prog_1_method_19_code 73 = .ok (.aload_n 0, 1) := by decide +kernel
theorem d_DL_save_74 : decode prog_1_method_19_code 74 = .ok (.getfield 70, 3) := by decide +kernel
theorem d_DL_save_77 : decode prog_1_method_19_code 77 = .ok (.invokevirtual 270, 3) := by decide +kernel
theorem d_DL_save_80 : decode prog_1_method_19_code 80 = .ok (.ireturn, 1) := by decide +kernel
theorem d_DL_fits_0 : decode prog_1_method_20_code 0 = .ok (.aload_n 0, 1) := by decide +kernel
theorem d_DL_fits_1 : decode prog_1_method_20_code 1 = .ok (.iload_n 1, 1) := by decide +kernel
theorem d_DL_fits_2 : decode prog_1_method_20_code 2 = .ok (.iconst 0, 1) := by decide +kernel
theorem d_DL_fits_3 : decode prog_1_method_20_code 3 = .ok (.iconst 1, 1) := by decide +kernel
theorem d_DL_fits_4 : decode prog_1_method_20_code 4 = .ok (.invokevirtual 179, 3) := by decide +kernel
theorem d_DL_fits_7 : decode prog_1_method_20_code 7 = .ok (.iload_n 1, 1) := by decide +kernel
theorem d_DL_fits_8 : decode prog_1_method_20_code 8 = .ok (.ifCond .ne 13, 3) := by decide +kernel
theorem d_DL_fits_11 : decode prog_1_method_20_code 11 = .ok (.aload_n 0, 1) := by decide +kernel
theorem d_DL_fits_12 : decode prog_1_method_20_code 12 = .ok (.getfield 39, 3) := by decide +kernel
theorem d_DL_fits_15 : decode prog_1_method_20_code 15 = .ok (.invokevirtual 273, 3) := by decide +kernel
theorem d_DL_fits_18 : decode prog_1_method_20_code 18 = .ok (.goto 10, 3) := by decide +kernel
theorem d_DL_fits_21 : decode prog_1_method_20_code 21 = .ok (.aload_n 0, 1) := by decide +kernel
theorem d_DL_fits_22 : decode prog_1_method_20_code 22 = .ok (.getfield 39, 3) := by decide +kernel
theorem d_DL_fits_25 : decode prog_1_method_20_code 25 = .ok (.invokevirtual 276, 3) := by decide +kernel
theorem d_DL_fits_28 : decode prog_1_method_20_code 28 = .ok (.ireturn, 1) := by decide +kernel
theorem d_DL_look_0 : decode prog_1_method_21_code 0 = .ok (.aload_n 0, 1) := by decide +kernel
theorem d_DL_look_1 : decode prog_1_method_21_code 1 = .ok (.iload_n 1, 1) := by decide +kernel
theorem d_DL_look_2 : decode prog_1_method_21_code 2 = .ok (.iconst 0, 1) := by decide +kernel
theorem d_DL_look_3 : decode prog_1_method_21_code 3 = .ok (.iconst 1, 1) := by decide +kernel
theorem d_DL_look_4 : decode prog_1_method_21_code 4 = .ok (.invokevirtual 179, 3) := by decide +kernel
theorem d_DL_look_7 : decode prog_1_method_21_code 7 = .ok (.aload_n 0, 1) := by decide +kernel
theorem d_DL_look_8 : decode prog_1_method_21_code 8 = .ok (.getfield 39, 3) := by decide +kernel
theorem d_DL_look_11 : decode prog_1_method_21_code 11 = .ok (.invokevirtual 279, 3) := by decide +kernel
theorem d_DL_look_14 : decode prog_1_method_21_code 14 = .ok (.istore_n 2, 1) := by decide +kernel
theorem d_DL_look_15 : decode prog_1_method_21_code 15 = .ok (.iload_n 1, 1) := by decide +kernel
theorem d_DL_look_16 : decode prog_1_method_21_code 16 = .ok (.ifCond .ne 7, 3) := by decide +kernel
theorem d_DL_look_19 : decode prog_1_method_21_code 19 = .ok (.iload_n 2, 1) := by decide +kernel
theorem d_DL_look_20 : decode prog_1_method_21_code 20 = .ok (.goto 11, 3) := by decide +kernel
theorem d_DL_look_23 : decode prog_1_method_21_code 23 = .ok (.aload_n 0, 1) := by decide +kernel
theorem d_DL_look_24 : decode prog_1_method_21_code 24 = .ok (.getfield 39, 3) := by decide +kernel
theorem d_DL_look_27 : decode prog_1_method_21_code 27 = .ok (.iload_n 2, 1) := by decide +kernel
theorem d_DL_look_28 : decode prog_1_method_21_code 28 = .ok (.invokevirtual 282, 3) := by decide +kernel
theorem d_DL_look_31 : decode prog_1_method_21_code 31 = .ok (.ireturn, 1) := by decide +kernel
theorem d_DL_code_0 : decode prog_1_method_22_code 0 = .ok (.aload_n 0, 1) := by decide +kernel
theorem d_DL_code_1 : decode prog_1_method_22_code 1 = .ok (.iload_n 1, 1) := by decide +kernel
theorem d_DL_code_2 : decode prog_1_method_22_code 2 = .ok (.iconst 1, 1) := by decide +kernel
theorem d_DL_code_3 : decode prog_1_method_22_code 3 = .ok (.bipush 8, 2) := by decide +kernel
theorem d_DL_code_5 : decode prog_1_method_22_code 5 = .ok (.invokevirtual 179, 3) := by decide +kernel
theorem d_DL_code_8 : decode prog_1_method_22_code 8 = .ok (.aload_n 0, 1) := by decide +kernel
theorem d_DL_code_9 : decode prog_1_method_22_code 9 = .ok (.iload_n 2, 1) := by decide +kernel
theorem d_DL_code_10 : decode prog_1_method_22_code 10 = .ok (.iconst 0, 1) := by decide +kernel
theorem d_DL_code_11 : decode prog_1_method_22_code 11 = .ok (.iconst 1, 1) := by decide +kernel
theorem d_DL_code_12 : decode prog_1_method_22_code 12 = .ok (.invokevirtual 179, 3) := by decide +kernel
theorem d_DL_code_15 : decode prog_1_method_22_code 15 = .ok (.aload_n 0, 1) := by decide +kernel
theorem d_DL_code_16 : decode prog_1_method_22_code 16 = .ok (.getfield 19, 3) := by decide +kernel
theorem d_DL_code_19 : decode prog_1_method_22_code 19 = .ok (.iload_n 1, 1) := by decide +kernel
theorem d_DL_code_20 : decode prog_1_method_22_code 20 = .ok (.aload_n 0, 1) := by decide +kernel
theorem d_DL_code_21 : decode prog_1_method_22_code 21 = .ok (.getfield 93, 3) := by decide +kernel
theorem d_DL_code_24 : decode prog_1_method_22_code 24 = .ok (.invokevirtual 285, 3) := by decide +kernel
theorem d_DL_code_27 : decode prog_1_method_22_code 27 = .ok (.iload_n 2, 1) := by decide +kernel
theorem d_DL_code_28 : decode prog_1_method_22_code 28 = .ok (.ifCond .ne 17, 3) := by decide +kernel
theorem d_DL_code_31 : decode prog_1_method_22_code 31 = .ok (.iconst 1, 1) := by decide +kernel
theorem d_DL_code_32 : decode prog_1_method_22_code 32 = .ok (.iload_n 1, 1) := by decide +kernel
theorem d_DL_code_33 : decode prog_1_method_22_code 33 = .ok (.ishl, 1) := by decide +kernel
theorem d_DL_code_34 : decode prog_1_method_22_code 34 = .ok (.aload_n 0, 1) := by decide +kernel
theorem d_DL_code_35 : decode prog_1_method_22_code 35 = .ok (.getfield 93, 3) := by decide +kernel
theorem d_DL_code_38 : decode prog_1_method_22_code 38 = .ok (.invokevirtual 289, 3) := by decide +kernel
theorem d_DL_code_41 : decode prog_1_method_22_code 41 = .ok (.isub, 1) := by decide +kernel
theorem d_DL_code_42 : decode prog_1_method_22_code 42 = .ok (.goto 8, 3) := by decide +kernel
theorem d_DL_code_45 : decode prog_1_method_22_code 45 = .ok (.aload_n 0, 1) := by decide +kernel
theorem d_DL_code_46 : decode prog_1_method_22_code 46 = .ok (.iload_n 1, 1) := by decide +kernel
theorem d_DL_code_47 : decode prog_1_method_22_code 47 = .ok (.invokevirtual 292, 3) := by decide +kernel
theorem d_DL_code_50 : decode prog_1_method_22_code 50 = .ok (.ireturn, 1) := by decide +kernel
theorem d_DL_shortest_0 : decode prog_1_method_23_code 0 = .ok (.iconst 1, 1) := by decide +kernel
theorem d_DL_shortest_1 : decode prog_1_method_23_code 1 = .ok (.istore_n 1, 1) := by decide +kernel
theorem d_DL_shortest_2 : decode prog_1_method_23_code 2 = .ok (.iload_n 1, 1) := by decide +kernel
theorem d_DL_shortest_3 : decode prog_1_method_23_code 3 = .ok (.bipush 8, 2) := by decide +kernel
theorem d_DL_shortest_5 : decode prog_1_method_23_code 5 = .ok (.if_icmp .gt 32, 3) := by decide +kernel
theorem d_DL_shortest_8 : decode prog_1_method_23_code 8 = .ok (.aload_n 0, 1) := by decide +kernel
theorem d_DL_shortest_9 : decode prog_1_method_23_code 9 = .ok (.getfield 19, 3) := by decide +kernel
theorem d_DL_shortest_12 : decode prog_1_method_23_code 12 = .ok (.iload_n 1, 1) := by decide +kernel
theorem d_DL_shortest_13 : decode prog_1_method_23_code 13 = .ok (.aload_n 0, 1) := by decide +kernel
theorem d_DL_shortest_14 : decode prog_1_method_23_code 14 = .ok (.getfield 93, 3) := by decide +kernel
theorem d_DL_shortest_17 : decode prog_1_method_23_code 17 = .ok (.invokevirtual 285, 3) := by decide +kernel
theorem d_DL_shortest_20 : decode prog_1_method_23_code 20 = .ok (.aload_n 0, 1) := by decide +kernel
theorem d_DL_shortest_21 : decode prog_1_method_23_code 21 = .ok (.iload_n 1, 1) := by decide +kernel
theorem d_DL_shortest_22 : decode prog_1_method_23_code 22 = .ok (.invokevirtual 292, 3) := by decide +kernel
theorem d_DL_shortest_25 : decode prog_1_method_23_code 25 = .ok (.iconst (-1), 1) := by decide +kernel
theorem d_DL_shortest_26 : decode prog_1_method_23_code 26 = .ok (.if_icmp .eq 5, 3) := by decide +kernel
theorem d_DL_shortest_29 : decode prog_1_method_23_code 29 = .ok (.iload_n 1, 1) := by decide +kernel
theorem d_DL_shortest_30 : decode prog_1_method_23_code 30 = .ok (.ireturn, 1) := by decide +kernel
theorem d_DL_shortest_31 : decode prog_1_method_23_code 31 = .ok (.iinc 1 1, 3) := by decide +kernel
theorem d_DL_shortest_34 : decode prog_1_method_23_code 34 = .ok (.goto (-32), 3) := by decide +kernel
theorem d_DL_shortest_37 : decode prog_1_method_23_code 37 = .ok (.iconst (-1), 1) := by decide +kernel
theorem d_DL_shortest_38 : decode prog_1_method_23_code 38 = .ok (.ireturn, 1) := by decide +kernel
theorem d_DL_wink_0 : decode prog_1_method_24_code 0 = .ok (.aload_n 0, 1) := by decide +kernel
theorem d_DL_wink_1 : decode prog_1_method_24_code 1 = .ok (.iload_n 1, 1) := by decide +kernel
theorem d_DL_wink_2 : decode prog_1_method_24_code 2 = .ok (.iconst 0, 1) := by decide +kernel
theorem d_DL_wink_3 : decode prog_1_method_24_code 3 = .ok (.bipush 16, 2) := by decide +kernel
theorem d_DL_wink_5 : decode prog_1_method_24_code 5 = .ok (.invokevirtual 179, 3) := by decide +kernel
theorem d_DL_wink_8 : decode prog_1_method_24_code 8 = .ok (.aload_n 0, 1) := by decide +kernel
theorem d_DL_wink_9 : decode prog_1_method_24_code 9 = .ok (.iload_n 2, 1) := by decide +kernel
theorem d_DL_wink_10 : decode prog_1_method_24_code 10 = .ok (.iconst 0, 1) := by decide +kernel
theorem d_DL_wink_11 : decode prog_1_method_24_code 11 = .ok (.bipush 16, 2) := by decide +kernel
theorem d_DL_wink_13 : decode prog_1_method_24_code 13 = .ok (.invokevirtual 179, 3) := by decide +kernel
theorem d_DL_wink_16 : decode prog_1_method_24_code 16 = .ok (.aload_n 0, 1) := by decide +kernel
theorem d_DL_wink_17 : decode prog_1_method_24_code 17 = .ok (.iload_n 3, 1) := by decide +kernel
theorem d_DL_wink_18 : decode prog_1_method_24_code 18 = .ok (.iconst 0, 1) := by decide +kernel
theorem d_DL_wink_19 : decode prog_1_method_24_code 19 = .ok (.bipush 16, 2) := by decide +kernel
theorem d_DL_wink_21 : decode prog_1_method_24_code 21 = .ok (.invokevirtual 179, 3) := by decide +kernel
theorem d_DL_wink_24 : decode prog_1_method_24_code 24 = .ok (.aload_n 0, 1) := by decide +kernel
theorem d_DL_wink_25 : decode prog_1_method_24_code 25 = .ok (.iload 5, 2) := by decide +kernel
theorem d_DL_wink_27 : decode prog_1_method_24_code 27 = .ok (.iconst 0, 1) := by decide +kernel
theorem d_DL_wink_28 : decode prog_1_method_24_code 28 = .ok (.bipush 6, 2) := by decide +kernel
theorem d_DL_wink_30 : decode prog_1_method_24_code 30 = .ok (.invokevirtual 179, 3) := by decide +kernel
theorem d_DL_wink_33 : decode prog_1_method_24_code 33 = .ok (.aload_n 0, 1) := by decide +kernel
theorem d_DL_wink_34 : decode prog_1_method_24_code 34 = .ok (.iload 4, 2) := by decide +kernel
theorem d_DL_wink_36 : decode prog_1_method_24_code 36 = .ok (.iconst 0, 1) := by decide +kernel
theorem d_DL_wink_37 : decode prog_1_method_24_code 37 = .ok (.iload 5, 2) := by decide +kernel
theorem d_DL_wink_39 : decode prog_1_method_24_code 39 = .ok (.invokevirtual 179, 3) := by decide +kernel
theorem d_DL_wink_42 : decode prog_1_method_24_code 42 = .ok (.aload_n 0, 1) := by decide +kernel
theorem d_DL_wink_43 : decode prog_1_method_24_code 43 = .ok (.iload 6, 2) := by decide +kernel
theorem d_DL_wink_45 : decode prog_1_method_24_code 45 = .ok (.iconst 0, 1) := by decide +kernel
theorem d_DL_wink_46 : decode prog_1_method_24_code 46 = .ok (.iconst 1, 1) := by decide +kernel
theorem d_DL_wink_47 : decode prog_1_method_24_code 47 = .ok (.invokevirtual 179, 3) := by decide +kernel
theorem d_DL_wink_50 : decode prog_1_method_24_code 50 = .ok (.iload_n 1, 1) := by decide +kernel
theorem d_DL_wink_51 : decode prog_1_method_24_code 51 = .ok (.i2l, 1) := by decide +kernel
theorem d_DL_wink_52 : decode prog_1_method_24_code 52 = .ok (.iload_n 2, 1) := by decide +kernel
theorem d_DL_wink_53 : decode prog_1_method_24_code 53 = .ok (.iload 4, 2) := by decide +kernel
theorem d_DL_wink_55 : decode prog_1_method_24_code 55 = .ok (.invokestatic 295, 3) := by decide +kernel
theorem d_DL_wink_58 : decode prog_1_method_24_code 58 = .ok (.lmul, 1) := by decide +kernel
theorem d_DL_wink_59 : decode prog_1_method_24_code 59 = .ok (.bipush 16, 2) := by decide +kernel
theorem d_DL_wink_61 : decode prog_1_method_24_code 61 = .ok (.iload_n 2, 1) := by decide +kernel
theorem d_DL_wink_62 : decode prog_1_method_24_code 62 = .ok (.isub, 1) := by decide +kernel
theorem d_DL_wink_63 : decode prog_1_method_24_code 63 = .ok (.iload 5, 2) := by decide +kernel
theorem d_DL_wink_65 : decode prog_1_method_24_code 65 = .ok (.iload 4, 2) := by decide +kernel
theorem d_DL_wink_67 : decode prog_1_method_24_code 67 = .ok (.isub, 1) := by decide +kernel
theorem d_DL_wink_68 : decode prog_1_method_24_code 68 = .ok (.invokestatic 295, 3) := by decide +kernel
theorem d_DL_wink_71 : decode prog_1_method_24_code 71 = .ok (.lmul, 1) := by decide +kernel
theorem d_DL_wink_72 : decode prog_1_method_24_code 72 = .ok (.lstore 7, 2) := by decide +kernel
theorem d_DL_wink_74 : decode prog_1_method_24_code 74 = .ok (.lload 7, 2) := by decide +kernel
theorem d_DL_wink_76 : decode prog_1_method_24_code 76 = .ok (.bipush 16, 2) := by decide +kernel
theorem d_DL_wink_78 : decode prog_1_method_24_code 78 = .ok (.iload_n 1, 1) := by decide +kernel
theorem d_DL_wink_79 : decode prog_1_method_24_code 79 = .ok (.isub, 1) := by decide +kernel
theorem d_DL_wink_80 : decode prog_1_method_24_code 80 = .ok (.i2l, 1) := by decide +kernel
theorem d_DL_wink_81 : decode prog_1_method_24_code 81 = .ok (.iload_n 3, 1) := by decide +kernel
theorem d_DL_wink_82 : decode prog_1_method_24_code 82 = .ok (.iload 4, 2) := by decide +kernel
theorem d_DL_wink_84 : decode prog_1_method_24_code 84 = .ok (.invokestatic 295, 3) := by decide +kernel
theorem d_DL_wink_87 : decode prog_1_method_24_code 87 = .ok (.lmul, 1) := by decide +kernel
theorem d_DL_wink_88 : decode prog_1_method_24_code 88 = .ok (.bipush 16, 2) := by decide +kernel
theorem d_DL_wink_90 : decode prog_1_method_24_code 90 = .ok (.iload_n 3, 1) := by decide +kernel
theorem d_DL_wink_91 : decode prog_1_method_24_code 91 = .ok (.isub, 1) := by decide +kernel
theorem d_DL_wink_92 : decode prog_1_method_24_code 92 = .ok (.iload 5, 2) := by decide +kernel
theorem d_DL_wink_94 : decode prog_1_method_24_code 94 = .ok (.iload 4, 2) := by decide +kernel
theorem d_DL_wink_96 : decode prog_1_method_24_code 96 = .ok (.isub, 1) := by decide +kernel
theorem d_DL_wink_97 : decode prog_1_method_24_code 97 = .ok (.invokestatic 295, 3) := by decide +kernel
theorem d_DL_wink_100 : decode prog_1_method_24_code 100 = .ok (.lmul, 1) := by decide +kernel
theorem d_DL_wink_101 : decode prog_1_method_24_code 101 = .ok (.ladd, 1) := by decide +kernel
theorem d_DL_wink_102 : decode prog_1_method_24_code 102 = .ok (.lstore 9, 2) := by decide +kernel
theorem d_DL_wink_104 : decode prog_1_method_24_code 104 = .ok (.lload 7, 2) := by decide +kernel
theorem d_DL_wink_106 : decode prog_1_method_24_code 106 = .ok (.lconst 0, 1) := by decide +kernel
theorem d_DL_wink_107 : decode prog_1_method_24_code 107 = .ok (.lcmp, 1) := by decide +kernel
theorem d_DL_wink_108 : decode prog_1_method_24_code 108 = .ok (.ifCond .ne 7, 3) := by decide +kernel
theorem d_DL_wink_111 : decode prog_1_method_24_code 111 = .ok (.iload 6, 2) := by decide +kernel
theorem d_DL_wink_113 : decode prog_1_method_24_code 113 = .ok (.i2l, 1) := by decide +kernel
theorem d_DL_wink_114 : decode prog_1_method_24_code 114 = .ok (.lreturn, 1) := by decide +kernel
theorem d_DL_wink_115 : decode prog_1_method_24_code 115 = .ok (.lload 9, 2) := by decide +kernel
theorem d_DL_wink_117 : decode prog_1_method_24_code 117 = .ok (.lload 7, 2) := by decide +kernel
theorem d_DL_wink_119 : decode prog_1_method_24_code 119 = .ok (.invokestatic 299, 3) := by decide +kernel
theorem d_DL_wink_122 : decode prog_1_method_24_code 122 = .ok (.lstore 11, 2) := by decide +kernel
theorem d_DL_wink_124 : decode prog_1_method_24_code 124 = .ok (.lload 11, 2) := by decide +kernel
theorem d_DL_wink_126 : decode prog_1_method_24_code 126 = .ok (.lconst 0, 1) := by decide +kernel
theorem d_DL_wink_127 : decode prog_1_method_24_code 127 = .ok (.lcmp, 1) := by decide +kernel
theorem d_DL_wink_128 : decode prog_1_method_24_code 128 = .ok (.ifCond .ne 7, 3) := by decide +kernel
theorem d_DL_wink_131 : decode prog_1_method_24_code 131 = .ok (.iload 6, 2) := by decide +kernel
theorem d_DL_wink_133 : decode prog_1_method_24_code 133 = .ok (.i2l, 1) := by decide +kernel
theorem d_DL_wink_134 : decode prog_1_method_24_code 134 = .ok (.lreturn, 1) := by decide +kernel
theorem d_DL_wink_135 : decode prog_1_method_24_code 135 = .ok (.iload 6, 2) := by decide +kernel
theorem d_DL_wink_137 : decode prog_1_method_24_code 137 = .ok (.ifCond .ne 11, 3) := by decide +kernel
theorem d_DL_wink_140 : decode prog_1_method_24_code 140 = .ok (.lload 7, 2) := by decide +kernel
theorem d_DL_wink_142 : decode prog_1_method_24_code 142 = .ok (.lload 11, 2) := by decide +kernel
theorem d_DL_wink_144 : decode prog_1_method_24_code 144 = .ok (.ldiv, 1) := by decide +kernel
theorem d_DL_wink_145 : decode prog_1_method_24_code 145 = .ok (.goto 8, 3) := by decide +kernel
theorem d_DL_wink_148 : decode prog_1_method_24_code 148 = .ok (.lload 9, 2) := by decide +kernel
theorem d_DL_wink_150 : decode prog_1_method_24_code 150 = .ok (.lload 11, 2) := by decide +kernel
theorem d_DL_wink_152 : decode prog_1_method_24_code 152 = .ok (.ldiv, 1) := by decide +kernel
theorem d_DL_wink_153 : decode prog_1_method_24_code 153 = .ok (.lreturn, 1) := by decide +kernel
theorem d_DL_carriers_0 : decode prog_1_method_25_code 0 = .ok (.aload_n 0, 1) := by decide +kernel
theorem d_DL_carriers_1 : decode prog_1_method_25_code 1 = .ok (.iload_n 1, 1) := by decide +kernel
theorem d_DL_carriers_2 : decode prog_1_method_25_code 2 = .ok (.iconst 0, 1) := by decide +kernel
theorem d_DL_carriers_3 : decode prog_1_method_25_code 3 = .ok (.iconst 2, 1) := by decide +kernel
theorem d_DL_carriers_4 : decode prog_1_method_25_code 4 = .ok (.invokevirtual 179, 3) := by decide +kernel
theorem d_DL_carriers_7 : decode prog_1_method_25_code 7 = .ok (.iload_n 1, 1) := by decide +kernel
theorem d_DL_carriers_8 : decode prog_1_method_25_code 8 = .ok (.ifCond .ne 11, 3) := by decide +kernel
theorem d_DL_carriers_11 : decode prog_1_method_25_code 11 = .ok (.aload_n 0, 1) := by decide +kernel
theorem d_DL_carriers_12 : decode prog_1_method_25_code 12 = .ok (.getfield 19, 3) := by decide +kernel
theorem d_DL_carriers_15 : decode prog_1_method_25_code 15 = .ok (.invokevirtual 303, 3) := by decide +kernel
theorem d_DL_carriers_18 : decode prog_1_method_25_code 18 = .ok (.ireturn, 1) := by decide +kernel
theorem d_DL_carriers_19 : decode prog_1_method_25_code 19 = .ok (.aload_n 0, 1) := by decide +kernel
theorem d_DL_carriers_20 : decode prog_1_method_25_code 20 = .ok (.getfield 19, 3) := by decide +kernel
theorem d_DL_carriers_23 : decode prog_1_method_25_code 23 = .ok (.invokevirtual 306, 3) := by decide +kernel
theorem d_DL_carriers_26 : decode prog_1_method_25_code 26 = .ok (.istore_n 2, 1) := by decide +kernel
theorem d_DL_carriers_27 : decode prog_1_method_25_code 27 = .ok (.iload_n 1, 1) := by decide +kernel
theorem d_DL_carriers_28 : decode prog_1_method_25_code 28 = .ok (.iconst 1, 1) := by decide +kernel
theorem d_DL_carriers_29 : decode prog_1_method_25_code 29 = .ok (.if_icmp .ne 5, 3) := by decide +kernel
theorem d_DL_carriers_32 : decode prog_1_method_25_code 32 = .ok (.iload_n 2, 1) := by decide +kernel
theorem d_DL_carriers_33 : decode prog_1_method_25_code 33 = .ok (.ireturn, 1) := by decide +kernel
theorem d_DL_carriers_34 : decode prog_1_method_25_code 34 = .ok (.iload_n 2, 1) := by decide +kernel
theorem d_DL_carriers_35 : decode prog_1_method_25_code 35 = .ok (.iconst (-1), 1) := by decide +kernel
theorem d_DL_carriers_36 : decode prog_1_method_25_code 36 = .ok (.if_icmp .ne 7, 3) := by decide +kernel
theorem d_DL_carriers_39 : decode prog_1_method_25_code 39 = .ok (.iconst 0, 1) := by decide +kernel
theorem d_DL_carriers_40 : decode prog_1_method_25_code 40 = .ok (.goto 18, 3) := by decide +kernel
theorem d_DL_carriers_43 : decode prog_1_method_25_code 43 = .ok (.aload_n 0, 1) := by decide +kernel
theorem d_DL_carriers_44 : decode prog_1_method_25_code 44 = .ok (.getfield 19, 3) := by decide +kernel
theorem d_DL_carriers_47 : decode prog_1_method_25_code 47 = .ok (.iload_n 2, 1) := by decide +kernel
theorem d_DL_carriers_48 : decode prog_1_method_25_code 48 = .ok (.bipush 100, 2) := by decide +kernel
theorem d_DL_carriers_50 : decode prog_1_method_25_code 50 = .ok (.idiv, 1) := by decide +kernel
theorem d_DL_carriers_51 : decode prog_1_method_25_code 51 = .ok (.iload_n 2, 1) := by decide +kernel
theorem d_DL_carriers_52 : decode prog_1_method_25_code 52 = .ok (.bipush 100, 2) := by decide +kernel
theorem d_DL_carriers_54 : decode prog_1_method_25_code 54 = .ok (.irem, 1) := by decide +kernel
theorem d_DL_carriers_55 : decode prog_1_method_25_code 55 = .ok (.invokevirtual 309, 3) := by decide +kernel
theorem d_DL_carriers_58 : decode prog_1_method_25_code 58 = .ok (.ireturn, 1) := by decide +kernel
theorem d_DL_share_0 : decode prog_1_method_26_code 0 = .ok (.aload_n 0, 1) := by decide +kernel
theorem d_DL_share_1 : decode prog_1_method_26_code 1 = .ok (.iconst 4, 1) := by decide +kernel
theorem d_DL_share_2 : decode prog_1_method_26_code 2 = .ok (.iload_n 1, 1) := by decide +kernel
theorem d_DL_share_3 : decode prog_1_method_26_code 3 = .ok (.invokevirtual 184, 3) := by decide +kernel
theorem d_DL_share_6 : decode prog_1_method_26_code 6 = .ok (.aload_n 0, 1) := by decide +kernel
theorem d_DL_share_7 : decode prog_1_method_26_code 7 = .ok (.iload_n 2, 1) := by decide +kernel
theorem d_DL_share_8 : decode prog_1_method_26_code 8 = .ok (.iconst 0, 1) := by decide +kernel
theorem d_DL_share_9 : decode prog_1_method_26_code 9 = .ok (.sipush 999, 3) := by decide +kernel
theorem d_DL_share_12 : decode prog_1_method_26_code 12 = .ok (.invokevirtual 179, 3) := by decide +kernel
theorem d_DL_share_15 : decode prog_1_method_26_code 15 = .ok (.aload_n 0, 1) := by decide +kernel
theorem d_DL_share_16 : decode prog_1_method_26_code 16 = .ok (.getfield 19, 3) := by decide +kernel
theorem d_DL_share_19 : decode prog_1_method_26_code 19 = .ok (.iload_n 1, 1) := by decide +kernel
theorem d_DL_share_20 : decode prog_1_method_26_code 20 = .ok (.iload_n 2, 1) := by decide +kernel
theorem d_DL_share_21 : decode prog_1_method_26_code 21 = .ok (.invokevirtual 312, 3) := by decide +kernel
theorem d_DL_share_24 : decode prog_1_method_26_code 24 = .ok (.ireturn, 1) := by decide +kernel
theorem d_DL_drawn_0 : decode prog_1_method_27_code 0 = .ok (.aload_n 0, 1) := by decide +kernel
theorem d_DL_drawn_1 : decode prog_1_method_27_code 1 = .ok (.iconst 0, 1) := by decide +kernel
theorem d_DL_drawn_2 : decode prog_1_method_27_code 2 = .ok (.iload_n 1, 1) := by decide +kernel
theorem d_DL_drawn_3 : decode prog_1_method_27_code 3 = .ok (.invokevirtual 184, 3) := by decide +kernel
theorem d_DL_drawn_6 : decode prog_1_method_27_code 6 = .ok (.iconst 0, 1) := by decide +kernel
theorem d_DL_drawn_7 : decode prog_1_method_27_code 7 = .ok (.istore_n 2, 1) := by decide +kernel
theorem d_DL_drawn_8 : decode prog_1_method_27_code 8 = .ok (.iconst 0, 1) := by decide +kernel
theorem d_DL_drawn_9 : decode prog_1_method_27_code 9 = .ok (.istore_n 3, 1) := by decide +kernel
theorem d_DL_drawn_10 : decode prog_1_method_27_code 10 = .ok (.iload_n 3, 1) := by decide +kernel
theorem d_DL_drawn_11 : decode prog_1_method_27_code 11 = .ok (.aload_n 0, 1) := by decide +kernel
theorem d_DL_drawn_12 : decode prog_1_method_27_code 12 = .ok (.getfield 19, 3) := by decide +kernel
theorem d_DL_drawn_15 : decode prog_1_method_27_code 15 = .ok (.getfield 134, 3) := by decide +kernel
theorem d_DL_drawn_18 : decode prog_1_method_27_code 18 = .ok (.iconst 3, 1) := by decide +kernel
theorem d_DL_drawn_19 : decode prog_1_method_27_code 19 = .ok (.invokevirtual 137, 3) := by decide +kernel
theorem d_DL_drawn_22 : decode prog_1_method_27_code 22 = .ok (.if_icmp .ge 27, 3) := by decide +kernel
theorem d_DL_drawn_25 : decode prog_1_method_27_code 25 = .ok (.aload_n 0, 1) := by decide +kernel
theorem d_DL_drawn_26 : decode prog_1_method_27_code 26 = .ok (.getfield 19, 3) := by decide +kernel
theorem d_DL_drawn_29 : decode prog_1_method_27_code 29 = .ok (.iload_n 3, 1) := by decide +kernel
theorem d_DL_drawn_30 : decode prog_1_method_27_code 30 = .ok (.iload_n 1, 1) := by decide +kernel
theorem d_DL_drawn_31 : decode prog_1_method_27_code 31 = .ok (.invokevirtual 315, 3) := by decide +kernel
theorem d_DL_drawn_34 : decode prog_1_method_27_code 34 = .ok (.ifCond .eq 9, 3) := by decide +kernel
theorem d_DL_drawn_37 : decode prog_1_method_27_code 37 = .ok (.iload_n 2, 1) := by decide +kernel
theorem d_DL_drawn_38 : decode prog_1_method_27_code 38 = .ok (.iconst 1, 1) := by decide +kernel
theorem d_DL_drawn_39 : decode prog_1_method_27_code 39 = .ok (.iload_n 3, 1) := by decide +kernel
theorem d_DL_drawn_40 : decode prog_1_method_27_code 40 = .ok (.ishl, 1) := by decide +kernel
theorem d_DL_drawn_41 : decode prog_1_method_27_code 41 = .ok (.ior, 1) := by decide +kernel
theorem d_DL_drawn_42 : decode prog_1_method_27_code 42 = .ok (.istore_n 2, 1) := by decide +kernel
theorem d_DL_drawn_43 : decode prog_1_method_27_code 43 = .ok (.iinc 3 1, 3) := by decide +kernel
theorem d_DL_drawn_46 : decode prog_1_method_27_code 46 = .ok (.goto (-36), 3) := by decide +kernel
theorem d_DL_drawn_49 : decode prog_1_method_27_code 49 = .ok (.iload_n 2, 1) := by decide +kernel
theorem d_DL_drawn_50 : decode prog_1_method_27_code 50 = .ok (.ireturn, 1) := by decide +kernel
theorem d_DL_flash_0 : decode prog_1_method_28_code 0 = .ok (.aload_n 0, 1) := by decide +kernel
theorem d_DL_flash_1 : decode prog_1_method_28_code 1 = .ok (.iconst 1, 1) := by decide +kernel
theorem d_DL_flash_2 : decode prog_1_method_28_code 2 = .ok (.iload_n 1, 1) := by decide +kernel
theorem d_DL_flash_3 : decode prog_1_method_28_code 3 = .ok (.invokevirtual 184, 3) := by decide +kernel
theorem d_DL_flash_6 : decode prog_1_method_28_code 6 = .ok (.aload_n 0, 1) := by decide +kernel
theorem d_DL_flash_7 : decode prog_1_method_28_code 7 = .ok (.iload_n 2, 1) := by decide +kernel
theorem d_DL_flash_8 : decode prog_1_method_28_code 8 = .ok (.iconst 0, 1) := by decide +kernel
theorem d_DL_flash_9 : decode prog_1_method_28_code 9 = .ok (.bipush 99, 2) := by decide +kernel
theorem d_DL_flash_11 : decode prog_1_method_28_code 11 = .ok (.invokevirtual 179, 3) := by decide +kernel
theorem d_DL_flash_14 : decode prog_1_method_28_code 14 = .ok (.aload_n 0, 1) := by decide +kernel
theorem d_DL_flash_15 : decode prog_1_method_28_code 15 = .ok (.getfield 19, 3) := by decide +kernel
theorem d_DL_flash_18 : decode prog_1_method_28_code 18 = .ok (.getfield 204, 3) := by decide +kernel
theorem d_DL_flash_21 : decode prog_1_method_28_code 21 = .ok (.iload_n 1, 1) := by decide +kernel
theorem d_DL_flash_22 : decode prog_1_method_28_code 22 = .ok (.invokevirtual 137, 3) := by decide +kernel
theorem d_DL_flash_25 : decode prog_1_method_28_code 25 = .ok (.istore_n 3, 1) := by decide +kernel
theorem d_DL_flash_26 : decode prog_1_method_28_code 26 = .ok (.iload_n 2, 1) := by decide +kernel
theorem d_DL_flash_27 : decode prog_1_method_28_code 27 = .ok (.iload_n 3, 1) := by decide +kernel
theorem d_DL_flash_28 : decode prog_1_method_28_code 28 = .ok (.invokestatic 319, 3) := by decide +kernel
theorem d_DL_flash_31 : decode prog_1_method_28_code 31 = .ok (.istore 4, 2) := by decide +kernel
theorem d_DL_flash_33 : decode prog_1_method_28_code 33 = .ok (.iload 4, 2) := by decide +kernel
theorem d_DL_flash_35 : decode prog_1_method_28_code 35 = .ok (.ifCond .ne 7, 3) := by decide +kernel
theorem d_DL_flash_38 : decode prog_1_method_28_code 38 = .ok (.iload_n 2, 1) := by decide +kernel
theorem d_DL_flash_39 : decode prog_1_method_28_code 39 = .ok (.goto 9, 3) := by decide +kernel
theorem d_DL_flash_42 : decode prog_1_method_28_code 42 = .ok (.iload_n 2, 1) := by decide +kernel
theorem d_DL_flash_43 : decode prog_1_method_28_code 43 = .ok (.iload_n 3, 1) := by decide +kernel
theorem d_DL_flash_44 : decode prog_1_method_28_code 44 = .ok (.iadd, 1) := by decide +kernel
theorem d_DL_flash_45 : decode prog_1_method_28_code 45 = .ok (.iload 4, 2) := by decide +kernel
theorem d_DL_flash_47 : decode prog_1_method_28_code 47 = .ok (.isub, 1) := by decide +kernel
theorem d_DL_flash_48 : decode prog_1_method_28_code 48 = .ok (.ireturn, 1) := by decide +kernel
theorem d_DL_alike_0 : decode prog_1_method_29_code 0 = .ok (.aload_n 0, 1) := by decide +kernel
theorem d_DL_alike_1 : decode prog_1_method_29_code 1 = .ok (.iconst 2, 1) := by decide +kernel
theorem d_DL_alike_2 : decode prog_1_method_29_code 2 = .ok (.iload_n 1, 1) := by decide +kernel
theorem d_DL_alike_3 : decode prog_1_method_29_code 3 = .ok (.invokevirtual 184, 3) := by decide +kernel
theorem d_DL_alike_6 : decode prog_1_method_29_code 6 = .ok (.aload_n 0, 1) := by decide +kernel
theorem d_DL_alike_7 : decode prog_1_method_29_code 7 = .ok (.iconst 1, 1) := by decide +kernel
theorem d_DL_alike_8 : decode prog_1_method_29_code 8 = .ok (.iload_n 2, 1) := by decide +kernel
theorem d_DL_alike_9 : decode prog_1_method_29_code 9 = .ok (.invokevirtual 184, 3) := by decide +kernel
theorem d_DL_alike_12 : decode prog_1_method_29_code 12 = .ok (.aload_n 0, 1) := by decide +kernel
theorem d_DL_alike_13 : decode prog_1_method_29_code 13 = .ok (.iload_n 3, 1) := by decide +kernel
theorem d_DL_alike_14 : decode prog_1_method_29_code 14 = .ok (.iconst 0, 1) := by decide +kernel
theorem d_DL_alike_15 : decode prog_1_method_29_code 15 = .ok (.iconst 1, 1) := by decide +kernel
theorem d_DL_alike_16 : decode prog_1_method_29_code 16 = .ok (.invokevirtual 179, 3) := by decide +kernel
theorem d_DL_alike_19 : decode prog_1_method_29_code 19 = .ok (.iconst 0, 1) := by decide +kernel
theorem d_DL_alike_20 : decode prog_1_method_29_code 20 = .ok (.istore 4, 2) := by decide +kernel
theorem d_DL_alike_22 : decode prog_1_method_29_code 22 = .ok (.iconst 0, 1) := by decide +kernel
theorem d_DL_alike_23 : decode prog_1_method_29_code 23 = .ok (.istore 5, 2) := by decide +kernel
theorem d_DL_alike_25 : decode prog_1_method_29_code 25 = .ok (.iload 5, 2) := by decide +kernel
theorem d_DL_alike_27 : decode prog_1_method_29_code 27 = .ok (.bipush 30, 2) := by decide +kernel
theorem d_DL_alike_29 : decode prog_1_method_29_code 29 = .ok (.if_icmp .ge 78, 3) := by decide +kernel
theorem d_DL_alike_32 : decode prog_1_method_29_code 32 = .ok (.iload 5, 2) := by decide +kernel
theorem d_DL_alike_34 : decode prog_1_method_29_code 34 = .ok (.aload_n 0, 1) := by decide +kernel
theorem d_DL_alike_35 : decode prog_1_method_29_code 35 = .ok (.getfield 19, 3) := by decide +kernel
theorem d_DL_alike_38 : decode prog_1_method_29_code 38 = .ok (.getfield 207, 3) := by decide +kernel
theorem d_DL_alike_41 : decode prog_1_method_29_code 41 = .ok (.iload_n 1, 1) := by decide +kernel
theorem d_DL_alike_42 : decode prog_1_method_29_code 42 = .ok (.invokevirtual 137, 3) := by decide +kernel
theorem d_DL_alike_45 : decode prog_1_method_29_code 45 = .ok (.invokestatic 322, 3) := by decide +kernel
theorem d_DL_alike_48 : decode prog_1_method_29_code 48 = .ok (.istore 6, 2) := by decide +kernel
theorem d_DL_alike_50 : decode prog_1_method_29_code 50 = .ok (.iload 5, 2) := by decide +kernel
theorem d_DL_alike_52 : decode prog_1_method_29_code 52 = .ok (.aload_n 0, 1) := by decide +kernel
theorem d_DL_alike_53 : decode prog_1_method_29_code 53 = .ok (.getfield 19, 3) := by decide +kernel
theorem d_DL_alike_56 : decode prog_1_method_29_code 56 = .ok (.getfield 204, 3) := by decide +kernel
theorem d_DL_alike_59 : decode prog_1_method_29_code 59 = .ok (.iload_n 2, 1) := by decide +kernel
theorem d_DL_alike_60 : decode prog_1_method_29_code 60 = .ok (.invokevirtual 137, 3) := by decide +kernel
theorem d_DL_alike_63 : decode prog_1_method_29_code 63 = .ok (.invokestatic 322, 3) := by decide +kernel
theorem d_DL_alike_66 : decode prog_1_method_29_code 66 = .ok (.istore 7, 2) := by decide +kernel
theorem d_DL_alike_68 : decode prog_1_method_29_code 68 = .ok (.iload_n 3, 1) := by decide +kernel
theorem d_DL_alike_69 : decode prog_1_method_29_code 69 = .ok (.ifCond .ne 16, 3) := by decide +kernel
theorem d_DL_alike_72 : decode prog_1_method_29_code 72 = .ok (.iload 6, 2) := by decide +kernel
theorem d_DL_alike_74 : decode prog_1_method_29_code 74 = .ok (.ifCond .eq 27, 3) := by decide +kernel
theorem d_DL_alike_77 : decode prog_1_method_29_code 77 = .ok (.iload 7, 2) := by decide +kernel
theorem d_DL_alike_79 : decode prog_1_method_29_code 79 = .ok (.ifCond .eq 22, 3) := by decide +kernel
theorem d_DL_alike_82 : decode prog_1_method_29_code 82 = .ok (.goto 10, 3) := by decide +kernel
theorem d_DL_alike_85 : decode prog_1_method_29_code 85 = .ok (.iload 6, 2) := by decide +kernel
theorem d_DL_alike_87 : decode prog_1_method_29_code 87 = .ok (.iload 7, 2) := by decide +kernel
theorem d_DL_alike_89 : decode prog_1_method_29_code 89 = .ok (.if_icmp .eq 12, 3) := by decide +kernel
theorem d_DL_alike_92 : decode prog_1_method_29_code 92 = .ok (.iload 4, 2) := by decide +kernel
theorem d_DL_alike_94 : decode prog_1_method_29_code 94 = .ok (.iconst 1, 1) := by decide +kernel
theorem d_DL_alike_95 : decode prog_1_method_29_code 95 = .ok (.iload 5, 2) := by decide +kernel
theorem d_DL_alike_97 : decode prog_1_method_29_code 97 = .ok (.ishl, 1) := by decide +kernel
theorem d_DL_alike_98 : decode prog_1_method_29_code 98 = .ok (.ior, 1) := by decide +kernel
theorem d_DL_alike_99 : decode prog_1_method_29_code 99 = .ok (.istore 4, 2) := by decide +kernel
theorem d_DL_alike_101 : decode prog_1_method_29_code 101 = .ok (.iinc 5 1, 3) := by decide +kernel
theorem d_DL_alike_104 : decode prog_1_method_29_code 104 = .ok (.goto (-79), 3) := by decide +kernel
theorem d_DL_alike_107 : decode prog_1_method_29_code 107 = .ok (.iload 4, 2) := by decide +kernel
theorem d_DL_alike_109 : decode prog_1_method_29_code 109 = .ok (.ireturn, 1) := by decide +kernel
theorem d_DL_blind_0 : decode prog_1_method_30_code 0 = .ok (.aload_n 0, 1) := by decide +kernel
theorem d_DL_blind_1 : decode prog_1_method_30_code 1 = .ok (.iconst 3, 1) := by decide +kernel
theorem d_DL_blind_2 : decode prog_1_method_30_code 2 = .ok (.iload_n 1, 1) := by decide +kernel
theorem d_DL_blind_3 : decode prog_1_method_30_code 3 = .ok (.invokevirtual 184, 3) := by decide +kernel
theorem d_DL_blind_6 : decode prog_1_method_30_code 6 = .ok (.aload_n 0, 1) := by decide +kernel
theorem d_DL_blind_7 : decode prog_1_method_30_code 7 = .ok (.getfield 63, 3) := by decide +kernel
theorem d_DL_blind_10 : decode prog_1_method_30_code 10 = .ok (.aload_n 0, 1) := by decide +kernel
theorem d_DL_blind_11 : decode prog_1_method_30_code 11 = .ok (.getfield 19, 3) := by decide +kernel
theorem d_DL_blind_14 : decode prog_1_method_30_code 14 = .ok (.aload_n 0, 1) := by decide +kernel
theorem d_DL_blind_15 : decode prog_1_method_30_code 15 = .ok (.getfield 29, 3) := by decide +kernel
theorem d_DL_blind_18 : decode prog_1_method_30_code 18 = .ok (.aload_n 0, 1) := by decide +kernel
theorem d_DL_blind_19 : decode prog_1_method_30_code 19 = .ok (.getfield 56, 3) := by decide +kernel
theorem d_DL_blind_22 : decode prog_1_method_30_code 22 = .ok (.invokevirtual 230, 3) := by decide +kernel
theorem d_DL_blind_25 : decode prog_1_method_30_code 25 = .ok (.aload_n 0, 1) := by decide +kernel
theorem d_DL_blind_26 : decode prog_1_method_30_code 26 = .ok (.getfield 63, 3) := by decide +kernel
theorem d_DL_blind_29 : decode prog_1_method_30_code 29 = .ok (.aload_n 0, 1) := by decide +kernel
theorem d_DL_blind_30 : decode prog_1_method_30_code 30 = .ok (.getfield 19, 3) := by decide +kernel
theorem d_DL_blind_33 : decode prog_1_method_30_code 33 = .ok (.aload_n 0, 1) := by decide +kernel
theorem d_DL_blind_34 : decode prog_1_method_30_code 34 = .ok (.getfield 63, 3) := by decide +kernel
theorem d_DL_blind_37 : decode prog_1_method_30_code 37 = .ok (.aload_n 0, 1) := by decide +kernel
theorem d_DL_blind_38 : decode prog_1_method_30_code 38 = .ok (.getfield 19, 3) := by decide +kernel
theorem d_DL_blind_41 : decode prog_1_method_30_code 41 = .ok (.aload_n 0, 1) := by decide +kernel
theorem d_DL_blind_42 : decode prog_1_method_30_code 42 = .ok (.getfield 29, 3) := by decide +kernel
theorem d_DL_blind_45 : decode prog_1_method_30_code 45 = .ok (.iload_n 1, 1) := by decide +kernel
theorem d_DL_blind_46 : decode prog_1_method_30_code 46 = .ok (.invokevirtual 234, 3) := by decide +kernel
theorem d_DL_blind_49 : decode prog_1_method_30_code 49 = .ok (.invokevirtual 325, 3) := by decide +kernel
theorem d_DL_blind_52 : decode prog_1_method_30_code 52 = .ok (.ireturn, 1) := by decide +kernel
theorem d_DL_reefs_0 : decode prog_1_method_31_code 0 = .ok (.aload_n 0, 1) := by decide +kernel
theorem d_DL_reefs_1 : decode prog_1_method_31_code 1 = .ok (.iload_n 1, 1) := by decide +kernel
theorem d_DL_reefs_2 : decode prog_1_method_31_code 2 = .ok (.iconst 0, 1) := by decide +kernel
theorem d_DL_reefs_3 : decode prog_1_method_31_code 3 = .ok (.iconst 2, 1) := by decide +kernel
theorem d_DL_reefs_4 : decode prog_1_method_31_code 4 = .ok (.invokevirtual 179, 3) := by decide +kernel
theorem d_DL_reefs_7 : decode prog_1_method_31_code 7 = .ok (.iload_n 1, 1) := by decide +kernel
theorem d_DL_reefs_8 : decode prog_1_method_31_code 8 = .ok (.iconst 2, 1) := by decide +kernel
theorem d_DL_reefs_9 : decode prog_1_method_31_code 9 = .ok (.if_icmp .ne 11, 3) := by decide +kernel
theorem d_DL_reefs_12 : decode prog_1_method_31_code 12 = .ok (.aload_n 0, 1) := by decide +kernel
theorem d_DL_reefs_13 : decode prog_1_method_31_code 13 = .ok (.getfield 19, 3) := by decide +kernel
theorem d_DL_reefs_16 : decode prog_1_method_31_code 16 = .ok (.invokevirtual 328, 3) := by decide +kernel
theorem d_DL_reefs_19 : decode prog_1_method_31_code 19 = .ok (.ireturn, 1) := by decide +kernel
theorem d_DL_reefs_20 : decode prog_1_method_31_code 20 = .ok (.aload_n 0, 1) := by decide +kernel
theorem d_DL_reefs_21 : decode prog_1_method_31_code 21 = .ok (.getfield 19, 3) := by decide +kernel
theorem d_DL_reefs_24 : decode prog_1_method_31_code 24 = .ok (.invokevirtual 331, 3) := by decide +kernel
theorem d_DL_reefs_27 : decode prog_1_method_31_code 27 = .ok (.istore_n 2, 1) := by decide +kernel
theorem d_DL_reefs_28 : decode prog_1_method_31_code 28 = .ok (.iload_n 1, 1) := by decide +kernel
theorem d_DL_reefs_29 : decode prog_1_method_31_code 29 = .ok (.iconst 1, 1) := by decide +kernel
theorem d_DL_reefs_30 : decode prog_1_method_31_code 30 = .ok (.if_icmp .ne 7, 3) := by decide +kernel
theorem d_DL_reefs_33 : decode prog_1_method_31_code 33 = .ok (.iload_n 2, 1) := by decide +kernel
theorem d_DL_reefs_34 : decode prog_1_method_31_code 34 = .ok (.goto 11, 3) := by decide +kernel
theorem d_DL_reefs_37 : decode prog_1_method_31_code 37 = .ok (.aload_n 0, 1) := by decide +kernel
theorem d_DL_reefs_38 : decode prog_1_method_31_code 38 = .ok (.getfield 19, 3) := by decide +kernel
theorem d_DL_reefs_41 : decode prog_1_method_31_code 41 = .ok (.iload_n 2, 1) := by decide +kernel
theorem d_DL_reefs_42 : decode prog_1_method_31_code 42 = .ok (.invokevirtual 334, 3) := by decide +kernel
theorem d_DL_reefs_45 : decode prog_1_method_31_code 45 = .ok (.ireturn, 1) := by decide +kernel
theorem d_DL_brightest_0 : decode prog_1_method_32_code 0 = .ok (.aload_n 0, 1) := by decide +kernel
theorem d_DL_brightest_1 : decode prog_1_method_32_code 1 = .ok (.iload_n 1, 1) := by decide +kernel
theorem d_DL_brightest_2 : decode prog_1_method_32_code 2 = .ok (.iconst 0, 1) := by decide +kernel
theorem d_DL_brightest_3 : decode prog_1_method_32_code 3 = .ok (.iconst 1, 1) := by decide +kernel
theorem d_DL_brightest_4 : decode prog_1_method_32_code 4 = .ok (.invokevirtual 179, 3) := by decide +kernel
theorem d_DL_brightest_7 : decode prog_1_method_32_code 7 = .ok (.iconst (-1), 1) := by decide +kernel
theorem d_DL_brightest_8 : decode prog_1_method_32_code 8 = .ok (.istore_n 2, 1) := by decide +kernel
theorem d_DL_brightest_9 : decode prog_1_method_32_code 9 = .ok (.iconst (-1), 1) := by decide +kernel
theorem d_DL_brightest_10 : decode prog_1_method_32_code 10 = .ok (.istore_n 3, 1) := by decide +kernel
theorem d_DL_brightest_11 : decode prog_1_method_32_code 11 = .ok (.iconst 0, 1) := by decide +kernel
theorem d_DL_brightest_12 : decode prog_1_method_32_code 12 = .ok (.istore 4, 2) := by decide +kernel
theorem d_DL_brightest_14 : decode prog_1_method_32_code 14 = .ok (.iload 4, 2) := by decide +kernel
theorem d_DL_brightest_16 : decode prog_1_method_32_code 16 = .ok (.aload_n 0, 1) := by decide +kernel
theorem d_DL_brightest_17 : decode prog_1_method_32_code 17 = .ok (.getfield 19, 3) := by decide +kernel
theorem d_DL_brightest_20 : decode prog_1_method_32_code 20 = .ok (.getfield 134, 3) := by decide +kernel
theorem d_DL_brightest_23 : decode prog_1_method_32_code 23 = .ok (.iconst 0, 1) := by decide +kernel
theorem d_DL_brightest_24 : decode prog_1_method_32_code 24 = .ok (.invokevirtual 137, 3) := by decide +kernel
theorem d_DL_brightest_27 : decode prog_1_method_32_code 27 = .ok (.if_icmp .ge 31, 3) := by decide +kernel
theorem d_DL_brightest_30 : decode prog_1_method_32_code 30 = .ok (.aload_n 0, 1) := by decide +kernel
theorem d_DL_brightest_31 : decode prog_1_method_32_code 31 = .ok (.iload 4, 2) := by decide +kernel
theorem d_DL_brightest_33 : decode prog_1_method_32_code 33 = .ok (.iload 4, 2) := by decide +kernel
theorem d_DL_brightest_35 : decode prog_1_method_32_code 35 = .ok (.invokevirtual 217, 3) := by decide +kernel
theorem d_DL_brightest_38 : decode prog_1_method_32_code 38 = .ok (.istore 5, 2) := by decide +kernel
theorem d_DL_brightest_40 : decode prog_1_method_32_code 40 = .ok (.iload 5, 2) := by decide +kernel
theorem d_DL_brightest_42 : decode prog_1_method_32_code 42 = .ok (.iload_n 3, 1) := by decide +kernel
theorem d_DL_brightest_43 : decode prog_1_method_32_code 43 = .ok (.if_icmp .le 9, 3) := by decide +kernel
theorem d_DL_brightest_46 : decode prog_1_method_32_code 46 = .ok (.iload 4, 2) := by decide +kernel
theorem d_DL_brightest_48 : decode prog_1_method_32_code 48 = .ok (.istore_n 2, 1) := by decide +kernel
theorem d_DL_brightest_49 : decode prog_1_method_32_code 49 = .ok (.iload 5, 2) := by decide +kernel
theorem d_DL_brightest_51 : decode prog_1_method_32_code 51 = .ok (.istore_n 3, 1) := by decide +kernel
theorem d_DL_brightest_52 : decode prog_1_method_32_code 52 = .ok (.iinc 4 1, 3) := by decide +kernel
theorem d_DL_brightest_55 : decode prog_1_method_32_code 55 = .ok (.goto (-41), 3) := by decide +kernel
theorem d_DL_brightest_58 : decode prog_1_method_32_code 58 = .ok (.iload_n 1, 1) := by decide +kernel
theorem d_DL_brightest_59 : decode prog_1_method_32_code 59 = .ok (.ifCond .ne 7, 3) := by decide +kernel
theorem d_DL_brightest_62 : decode prog_1_method_32_code 62 = .ok (.iload_n 2, 1) := by decide +kernel
theorem d_DL_brightest_63 : decode prog_1_method_32_code 63 = .ok (.goto 4, 3) := by decide +kernel
theorem d_DL_brightest_66 : decode prog_1_method_32_code 66 = .ok (.iload_n 3, 1) := by decide +kernel
theorem d_DL_brightest_67 : decode prog_1_method_32_code 67 = .ok (.ireturn, 1) := by decide +kernel
theorem d_DL_wrecks_0 : decode prog_1_method_33_code 0 = .ok (.aload_n 0, 1) := by decide +kernel
theorem d_DL_wrecks_1 : decode prog_1_method_33_code 1 = .ok (.iload_n 1, 1) := by decide +kernel
theorem d_DL_wrecks_2 : decode prog_1_method_33_code 2 = .ok (.invokevirtual 251, 3) := by decide +kernel
theorem d_DL_wrecks_5 : decode prog_1_method_33_code 5 = .ok (.aload_n 0, 1) := by decide +kernel
theorem d_DL_wrecks_6 : decode prog_1_method_33_code 6 = .ok (.iload_n 2, 1) := by decide +kernel
theorem d_DL_wrecks_7 : decode prog_1_method_33_code 7 = .ok (.iconst 0, 1) := by decide +kernel
theorem d_DL_wrecks_8 : decode prog_1_method_33_code 8 = .ok (.iconst 2, 1) := by decide +kernel
theorem d_DL_wrecks_9 : decode prog_1_method_33_code 9 = .ok (.invokevirtual 179, 3) := by decide +kernel
theorem d_DL_wrecks_12 : decode prog_1_method_33_code 12 = .ok (.aload_n 0, 1) := by decide +kernel
theorem d_DL_wrecks_13 : decode prog_1_method_33_code 13 = .ok (.getfield 63, 3) := by decide +kernel
theorem d_DL_wrecks_16 : decode prog_1_method_33_code 16 = .ok (.aload_n 0, 1) := by decide +kernel
theorem d_DL_wrecks_17 : decode prog_1_method_33_code 17 = .ok (.getfield 19, 3) := by decide +kernel
theorem d_DL_wrecks_20 : decode prog_1_method_33_code 20 = .ok (.aload_n 0, 1) := by decide +kernel
theorem d_DL_wrecks_21 : decode prog_1_method_33_code 21 = .ok (.getfield 29, 3) := by decide +kernel
theorem d_DL_wrecks_24 : decode prog_1_method_33_code 24 = .ok (.aload_n 0, 1) := by decide +kernel
theorem d_DL_wrecks_25 : decode prog_1_method_33_code 25 = .ok (.getfield 56, 3) := by decide +kernel
theorem d_DL_wrecks_28 : decode prog_1_method_33_code 28 = .ok (.invokevirtual 230, 3) := by decide +kernel
theorem d_DL_wrecks_31 : decode prog_1_method_33_code 31 = .ok (.iconst 0, 1) := by decide +kernel
theorem d_DL_wrecks_32 : decode prog_1_method_33_code 32 = .ok (.istore_n 3, 1) := by decide +kernel
theorem d_DL_wrecks_33 : decode prog_1_method_33_code 33 = .ok (.iconst 0, 1) := by decide +kernel
theorem d_DL_wrecks_34 : decode prog_1_method_33_code 34 = .ok (.istore 4, 2) := by decide +kernel
theorem d_DL_wrecks_36 : decode prog_1_method_33_code 36 = .ok (.iload 4, 2) := by decide +kernel
theorem d_DL_wrecks_38 : decode prog_1_method_33_code 38 = .ok (.aload_n 0, 1) := by decide +kernel
theorem d_DL_wrecks_39 : decode prog_1_method_33_code 39 = .ok (.getfield 19, 3) := by decide +kernel
theorem d_DL_wrecks_42 : decode prog_1_method_33_code 42 = .ok (.getfield 134, 3) := by decide +kernel
theorem d_DL_wrecks_45 : decode prog_1_method_33_code 45 = .ok (.iconst 3, 1) := by decide +kernel
theorem d_DL_wrecks_46 : decode prog_1_method_33_code 46 = .ok (.invokevirtual 137, 3) := by decide +kernel
theorem d_DL_wrecks_49 : decode prog_1_method_33_code 49 = .ok (.if_icmp .ge 59, 3) := by decide +kernel
theorem d_DL_wrecks_52 : decode prog_1_method_33_code 52 = .ok (.iload_n 1, 1) := by decide +kernel
theorem d_DL_wrecks_53 : decode prog_1_method_33_code 53 = .ok (.iload 4, 2) := by decide +kernel
theorem d_DL_wrecks_55 : decode prog_1_method_33_code 55 = .ok (.invokestatic 337, 3) := by decide +kernel
theorem d_DL_wrecks_58 : decode prog_1_method_33_code 58 = .ok (.ifCond .eq 23, 3) := by decide +kernel
theorem d_DL_wrecks_61 : decode prog_1_method_33_code 61 = .ok (.aload_n 0, 1) := by decide +kernel
theorem d_DL_wrecks_62 : decode prog_1_method_33_code 62 = .ok (.getfield 63, 3) := by decide +kernel
theorem d_DL_wrecks_65 : decode prog_1_method_33_code 65 = .ok (.aload_n 0, 1) := by decide +kernel
theorem d_DL_wrecks_66 : decode prog_1_method_33_code 66 = .ok (.getfield 19, 3) := by decide +kernel
theorem d_DL_wrecks_69 : decode prog_1_method_33_code 69 = .ok (.aload_n 0, 1) := by decide +kernel
theorem d_DL_wrecks_70 : decode prog_1_method_33_code 70 = .ok (.getfield 29, 3) := by decide +kernel
theorem d_DL_wrecks_73 : decode prog_1_method_33_code 73 = .ok (.iload 4, 2) := by decide +kernel
theorem d_DL_wrecks_75 : decode prog_1_method_33_code 75 = .ok (.invokevirtual 234, 3) := by decide +kernel
theorem d_DL_wrecks_78 : decode prog_1_method_33_code 78 = .ok (.goto 4, 3) := by decide +kernel
theorem d_DL_wrecks_81 : decode prog_1_method_33_code 81 = .ok (.iconst (-1), 1) := by decide +kernel
theorem d_DL_wrecks_82 : decode prog_1_method_33_code 82 = .ok (.istore 5, 2) := by decide +kernel
theorem d_DL_wrecks_84 : decode prog_1_method_33_code 84 = .ok (.iload 5, 2) := by decide +kernel
theorem d_DL_wrecks_86 : decode prog_1_method_33_code 86 = .ok (.iconst (-1), 1) := by decide +kernel
theorem d_DL_wrecks_87 : decode prog_1_method_33_code 87 = .ok (.if_icmp .eq 15, 3) := by decide +kernel
theorem d_DL_wrecks_90 : decode prog_1_method_33_code 90 = .ok (.iload_n 3, 1) := by decide +kernel
theorem d_DL_wrecks_91 : decode prog_1_method_33_code 91 = .ok (.aload_n 0, 1) := by decide +kernel
theorem d_DL_wrecks_92 : decode prog_1_method_33_code 92 = .ok (.iload 4, 2) := by decide +kernel
theorem d_DL_wrecks_94 : decode prog_1_method_33_code 94 = .ok (.iload 5, 2) := by decide +kernel
theorem d_DL_wrecks_96 : decode prog_1_method_33_code 96 = .ok (.iload_n 2, 1) := by decide +kernel
theorem d_DL_wrecks_97 : decode prog_1_method_33_code 97 = .ok (.invokevirtual 340, 3) := by decide +kernel
theorem d_DL_wrecks_100 : decode prog_1_method_33_code 100 = .ok (.iadd, 1) := by decide +kernel
theorem d_DL_wrecks_101 : decode prog_1_method_33_code 101 = .ok (.istore_n 3, 1) := by decide +kernel
theorem d_DL_wrecks_102 : decode prog_1_method_33_code 102 = .ok (.iinc 4 1, 3) := by decide +kernel
theorem d_DL_wrecks_105 : decode prog_1_method_33_code 105 = .ok (.goto (-69), 3) := by decide +kernel
theorem d_DL_wrecks_108 : decode prog_1_method_33_code 108 = .ok (.iload_n 3, 1) := by decide +kernel
theorem d_DL_wrecks_109 : decode prog_1_method_33_code 109 = .ok (.ireturn, 1) := by decide +kernel
theorem d_DL_winter_0 : decode prog_1_method_34_code 0 = .ok (.aload_n 0, 1) := by decide +kernel
theorem d_DL_winter_1 : decode prog_1_method_34_code 1 = .ok (.iload_n 2, 1) := by decide +kernel
theorem d_DL_winter_2 : decode prog_1_method_34_code 2 = .ok (.iconst 1, 1) := by decide +kernel
theorem d_DL_winter_3 : decode prog_1_method_34_code 3 = .ok (.bipush 96, 2) := by decide +kernel
theorem d_DL_winter_5 : decode prog_1_method_34_code 5 = .ok (.invokevirtual 179, 3) := by decide +kernel
theorem d_DL_winter_8 : decode prog_1_method_34_code 8 = .ok (.aload_n 0, 1) := by decide +kernel
theorem d_DL_winter_9 : decode prog_1_method_34_code 9 = .ok (.iload_n 3, 1) := by decide +kernel
theorem d_DL_winter_10 : decode prog_1_method_34_code 10 = .ok (.iconst 0, 1) := by decide +kernel
theorem d_DL_winter_11 : decode prog_1_method_34_code 11 = .ok (.bipush 16, 2) := by decide +kernel
theorem d_DL_winter_13 : decode prog_1_method_34_code 13 = .ok (.invokevirtual 179, 3) := by decide +kernel
theorem d_DL_winter_16 : decode prog_1_method_34_code 16 = .ok (.aload_n 0, 1) := by decide +kernel
theorem d_DL_winter_17 : decode prog_1_method_34_code 17 = .ok (.iload 4, 2) := by decide +kernel
theorem d_DL_winter_19 : decode prog_1_method_34_code 19 = .ok (.iconst 0, 1) := by decide +kernel
theorem d_DL_winter_20 : decode prog_1_method_34_code 20 = .ok (.iconst 3, 1) := by decide +kernel
theorem d_DL_winter_21 : decode prog_1_method_34_code 21 = .ok (.invokevirtual 179, 3) := by decide +kernel
theorem d_DL_winter_24 : decode prog_1_method_34_code 24 = .ok (.aload_n 0, 1) := by decide +kernel
theorem d_DL_winter_25 : decode prog_1_method_34_code 25 = .ok (.getfield 77, 3) := by decide +kernel
theorem d_DL_winter_28 : decode prog_1_method_34_code 28 = .ok (.aload_n 0, 1) := by decide +kernel
theorem d_DL_winter_29 : decode prog_1_method_34_code 29 = .ok (.getfield 56, 3) := by decide +kernel
theorem d_DL_winter_32 : decode prog_1_method_34_code 32 = .ok (.iload_n 1, 1) := by decide +kernel
theorem d_DL_winter_33 : decode prog_1_method_34_code 33 = .ok (.invokevirtual 344, 3) := by decide +kernel
theorem d_DL_winter_36 : decode prog_1_method_34_code 36 = .ok (.aload_n 0, 1) := by decide +kernel
theorem d_DL_winter_37 : decode prog_1_method_34_code 37 = .ok (.getfield 77, 3) := by decide +kernel
theorem d_DL_winter_40 : decode prog_1_method_34_code 40 = .ok (.aload_n 0, 1) := by decide +kernel
theorem d_DL_winter_41 : decode prog_1_method_34_code 41 = .ok (.getfield 19, 3) := by decide +kernel
theorem d_DL_winter_44 : decode prog_1_method_34_code 44 = .ok (.aload_n 0, 1) := by decide +kernel
theorem d_DL_winter_45 : decode prog_1_method_34_code 45 = .ok (.getfield 29, 3) := by decide +kernel
theorem d_DL_winter_48 : decode prog_1_method_34_code 48 = .ok (.aload_n 0, 1) := by decide +kernel
theorem d_DL_winter_49 : decode prog_1_method_34_code 49 = .ok (.getfield 63, 3) := by decide +kernel
theorem d_DL_winter_52 : decode prog_1_method_34_code 52 = .ok (.iload_n 2, 1) := by decide +kernel
theorem d_DL_winter_53 : decode prog_1_method_34_code 53 = .ok (.iload_n 3, 1) := by decide +kernel
theorem d_DL_winter_54 : decode prog_1_method_34_code 54 = .ok (.invokevirtual 347, 3) := by decide +kernel
theorem d_DL_winter_57 : decode prog_1_method_34_code 57 = .ok (.iload 4, 2) := by decide +kernel
theorem d_DL_winter_59 : decode prog_1_method_34_code 59 = .ok (.tableswitch 49 0 2 #[25, 33, 41], 25) := by decide +kernel
theorem d_DL_winter_84 : decode prog_1_method_34_code 84 = .ok (.aload_n 0, 1) := by decide +kernel
theorem d_DL_winter_85 : decode prog_1_method_34_code 85 = .ok (.getfield 77, 3) := by decide +kernel
theorem d_DL_winter_88 : decode prog_1_method_34_code 88 = .ok (.invokevirtual 351, 3) := by decide +kernel
theorem d_DL_winter_91 : decode prog_1_method_34_code 91 = .ok (.ireturn, 1) := by decide +kernel
theorem d_DL_winter_92 : decode prog_1_method_34_code 92 = .ok (.aload_n 0, 1) := by decide +kernel
theorem d_DL_winter_93 : decode prog_1_method_34_code 93 = .ok (.getfield 77, 3) := by decide +kernel
theorem d_DL_winter_96 : decode prog_1_method_34_code 96 = .ok (.invokevirtual 354, 3) := by decide +kernel
theorem d_DL_winter_99 : decode prog_1_method_34_code 99 = .ok (.ireturn, 1) := by decide +kernel
theorem d_DL_winter_100 : decode prog_1_method_34_code 100 = .ok (.aload_n 0, 1) := by decide +kernel
theorem d_DL_winter_101 : decode prog_1_method_34_code 101 = .ok (.getfield 77, 3) := by decide +kernel
theorem d_DL_winter_104 : decode prog_1_method_34_code 104 = .ok (.invokevirtual 357, 3) := by decide +kernel
theorem d_DL_winter_107 : decode prog_1_method_34_code 107 = .ok (.ireturn, 1) := by decide +kernel
theorem d_DL_winter_108 : decode prog_1_method_34_code 108 = .ok (.aload_n 0, 1) := by decide +kernel
theorem d_DL_winter_109 : decode prog_1_method_34_code 109 = .ok (.getfield 77, 3) := by decide +kernel
theorem d_DL_winter_112 : decode prog_1_method_34_code 112 = .ok (.invokevirtual 359, 3) := by decide +kernel
theorem d_DL_winter_115 : decode prog_1_method_34_code 115 = .ok (.ireturn, 1) := by decide +kernel
theorem d_DL_span_0 : decode prog_1_method_35_code 0 = .ok (.aload_n 0, 1) := by decide +kernel
theorem d_DL_span_1 : decode prog_1_method_35_code 1 = .ok (.iload_n 2, 1) := by decide +kernel
theorem d_DL_span_2 : decode prog_1_method_35_code 2 = .ok (.iconst 1, 1) := by decide +kernel
theorem d_DL_span_3 : decode prog_1_method_35_code 3 = .ok (.bipush 20, 2) := by decide +kernel
theorem d_DL_span_5 : decode prog_1_method_35_code 5 = .ok (.invokevirtual 179, 3) := by decide +kernel
theorem d_DL_span_8 : decode prog_1_method_35_code 8 = .ok (.aload_n 0, 1) := by decide +kernel
theorem d_DL_span_9 : decode prog_1_method_35_code 9 = .ok (.iload_n 3, 1) := by decide +kernel
theorem d_DL_span_10 : decode prog_1_method_35_code 10 = .ok (.iconst 1, 1) := by decide +kernel
theorem d_DL_span_11 : decode prog_1_method_35_code 11 = .ok (.bipush 96, 2) := by decide +kernel
theorem d_DL_span_13 : decode prog_1_method_35_code 13 = .ok (.invokevirtual 179, 3) := by decide +kernel
theorem d_DL_span_16 : decode prog_1_method_35_code 16 = .ok (.aload_n 0, 1) := by decide +kernel
theorem d_DL_span_17 : decode prog_1_method_35_code 17 = .ok (.iload 4, 2) := by decide +kernel
theorem d_DL_span_19 : decode prog_1_method_35_code 19 = .ok (.iconst 0, 1) := by decide +kernel
theorem d_DL_span_20 : decode prog_1_method_35_code 20 = .ok (.bipush 16, 2) := by decide +kernel
theorem d_DL_span_22 : decode prog_1_method_35_code 22 = .ok (.invokevirtual 179, 3) := by decide +kernel
theorem d_DL_span_25 : decode prog_1_method_35_code 25 = .ok (.aload_n 0, 1) := by decide +kernel
theorem d_DL_span_26 : decode prog_1_method_35_code 26 = .ok (.iload 5, 2) := by decide +kernel
theorem d_DL_span_28 : decode prog_1_method_35_code 28 = .ok (.iconst 0, 1) := by decide +kernel
theorem d_DL_span_29 : decode prog_1_method_35_code 29 = .ok (.iconst 2, 1) := by decide +kernel
theorem d_DL_span_30 : decode prog_1_method_35_code 30 = .ok (.invokevirtual 179, 3) := by decide +kernel
theorem d_DL_span_33 : decode prog_1_method_35_code 33 = .ok (.sipush 3840, 3) := by decide +kernel
theorem d_DL_span_36 : decode prog_1_method_35_code 36 = .ok (.istore 6, 2) := by decide +kernel
theorem d_DL_span_38 : decode prog_1_method_35_code 38 = .ok (.iconst 0, 1) := by decide +kernel
theorem d_DL_span_39 : decode prog_1_method_35_code 39 = .ok (.istore 7, 2) := by decide +kernel
theorem d_DL_span_41 : decode prog_1_method_35_code 41 = .ok (.iconst 0, 1) := by decide +kernel
theorem d_DL_span_42 : decode prog_1_method_35_code 42 = .ok (.istore 8, 2) := by decide +kernel
theorem d_DL_span_44 : decode prog_1_method_35_code 44 = .ok (.iconst 0, 1) := by decide +kernel
theorem d_DL_span_45 : decode prog_1_method_35_code 45 = .ok (.istore 9, 2) := by decide +kernel
theorem d_DL_span_47 : decode prog_1_method_35_code 47 = .ok (.iload 9, 2) := by decide +kernel
theorem d_DL_span_49 : decode prog_1_method_35_code 49 = .ok (.iload_n 2, 1) := by decide +kernel
theorem d_DL_span_50 : decode prog_1_method_35_code 50 = .ok (.if_icmp .ge 94, 3) := by decide +kernel
theorem d_DL_span_53 : decode prog_1_method_35_code 53 = .ok (.aload_n 0, 1) := by decide +kernel
theorem d_DL_span_54 : decode prog_1_method_35_code 54 = .ok (.getfield 77, 3) := by decide +kernel
theorem d_DL_span_57 : decode prog_1_method_35_code 57 = .ok (.aload_n 0, 1) := by decide +kernel
theorem d_DL_span_58 : decode prog_1_method_35_code 58 = .ok (.getfield 56, 3) := by decide +kernel
theorem d_DL_span_61 : decode prog_1_method_35_code 61 = .ok (.iload_n 1, 1) := by decide +kernel
theorem d_DL_span_62 : decode prog_1_method_35_code 62 = .ok (.iload 9, 2) := by decide +kernel
theorem d_DL_span_64 : decode prog_1_method_35_code 64 = .ok (.iadd, 1) := by decide +kernel
theorem d_DL_span_65 : decode prog_1_method_35_code 65 = .ok (.invokevirtual 344, 3) := by decide +kernel
theorem d_DL_span_68 : decode prog_1_method_35_code 68 = .ok (.aload_n 0, 1) := by decide +kernel
theorem d_DL_span_69 : decode prog_1_method_35_code 69 = .ok (.getfield 77, 3) := by decide +kernel
theorem d_DL_span_72 : decode prog_1_method_35_code 72 = .ok (.aload_n 0, 1) := by decide +kernel
theorem d_DL_span_73 : decode prog_1_method_35_code 73 = .ok (.getfield 19, 3) := by decide +kernel
theorem d_DL_span_76 : decode prog_1_method_35_code 76 = .ok (.aload_n 0, 1) := by decide +kernel
theorem d_DL_span_77 : decode prog_1_method_35_code 77 = .ok (.getfield 29, 3) := by decide +kernel
theorem d_DL_span_80 : decode prog_1_method_35_code 80 = .ok (.aload_n 0, 1) := by decide +kernel
theorem d_DL_span_81 : decode prog_1_method_35_code 81 = .ok (.getfield 63, 3) := by decide +kernel
theorem d_DL_span_84 : decode prog_1_method_35_code 84 = .ok (.iload_n 3, 1) := by decide +kernel
theorem d_DL_span_85 : decode prog_1_method_35_code 85 = .ok (.iload 4, 2) := by decide +kernel
theorem d_DL_span_87 : decode prog_1_method_35_code 87 = .ok (.invokevirtual 347, 3) := by decide +kernel
theorem d_DL_span_90 : decode prog_1_method_35_code 90 = .ok (.iload 6, 2) := by decide +kernel
theorem d_DL_span_92 : decode prog_1_method_35_code 92 = .ok (.aload_n 0, 1) := by decide +kernel
theorem d_DL_span_93 : decode prog_1_method_35_code 93 = .ok (.getfield 77, 3) := by decide +kernel
theorem d_DL_span_96 : decode prog_1_method_35_code 96 = .ok (.invokevirtual 354, 3) := by decide +kernel
theorem d_DL_span_99 : decode prog_1_method_35_code 99 = .ok (.invokestatic 362, 3) := by decide +kernel
theorem d_DL_span_102 : decode prog_1_method_35_code 102 = .ok (.istore 6, 2) := by decide +kernel
theorem d_DL_span_104 : decode prog_1_method_35_code 104 = .ok (.iload 7, 2) := by decide +kernel
theorem d_DL_span_106 : decode prog_1_method_35_code 106 = .ok (.aload_n 0, 1) := by decide +kernel
theorem d_DL_span_107 : decode prog_1_method_35_code 107 = .ok (.getfield 77, 3) := by decide +kernel
theorem d_DL_span_110 : decode prog_1_method_35_code 110 = .ok (.invokevirtual 354, 3) := by decide +kernel
theorem d_DL_span_113 : decode prog_1_method_35_code 113 = .ok (.invokestatic 367, 3) := by decide +kernel
theorem d_DL_span_116 : decode prog_1_method_35_code 116 = .ok (.istore 7, 2) := by decide +kernel
theorem d_DL_span_118 : decode prog_1_method_35_code 118 = .ok (.iload 8, 2) := by decide +kernel
theorem d_DL_span_120 : decode prog_1_method_35_code 120 = .ok (.aload_n 0, 1) := by decide +kernel
theorem d_DL_span_121 : decode prog_1_method_35_code 121 = .ok (.getfield 77, 3) := by decide +kernel
theorem d_DL_span_124 : decode prog_1_method_35_code 124 = .ok (.invokevirtual 351, 3) := by decide +kernel
theorem d_DL_span_127 : decode prog_1_method_35_code 127 = .ok (.ifCond .ne 7, 3) := by decide +kernel
theorem d_DL_span_130 : decode prog_1_method_35_code 130 = .ok (.iconst 1, 1) := by decide +kernel
theorem d_DL_span_131 : decode prog_1_method_35_code 131 = .ok (.goto 4, 3) := by decide +kernel
theorem d_DL_span_134 : decode prog_1_method_35_code 134 = .ok (.iconst 0, 1) := by decide +kernel
theorem d_DL_span_135 : decode prog_1_method_35_code 135 = .ok (.iadd, 1) := by decide +kernel
theorem d_DL_span_136 : decode prog_1_method_35_code 136 = .ok (.istore 8, 2) := by decide +kernel
theorem d_DL_span_138 : decode prog_1_method_35_code 138 = .ok (.iinc 9 1, 3) := by decide +kernel
theorem d_DL_span_141 : decode prog_1_method_35_code 141 = .ok (.goto (-94), 3) := by decide +kernel
theorem d_DL_span_144 : decode prog_1_method_35_code 144 = .ok (.iload 5, 2) := by decide +kernel
theorem d_DL_span_146 : decode prog_1_method_35_code 146 = .ok (.ifCond .ne 6, 3) := by decide +kernel
theorem d_DL_span_149 : decode prog_1_method_35_code 149 = .ok (.iload 6, 2) := by decide +kernel
theorem d_DL_span_151 : decode prog_1_method_35_code 151 = .ok (.ireturn, 1) := by decide +kernel
theorem d_DL_span_152 : decode prog_1_method_35_code 152 = .ok (.iload 5, 2) := by decide +kernel
theorem d_DL_span_154 : decode prog_1_method_35_code 154 = .ok (.iconst 1, 1) := by decide +kernel
theorem d_DL_span_155 : decode prog_1_method_35_code 155 = .ok (.if_icmp .ne 8, 3) := by decide +kernel
theorem d_DL_span_158 : decode prog_1_method_35_code 158 = .ok (.iload 7, 2) := by decide +kernel
theorem d_DL_span_160 : decode prog_1_method_35_code 160 = .ok (.goto 5, 3) := by decide +kernel
theorem d_DL_span_163 : decode prog_1_method_35_code 163 = .ok (.iload 8, 2) := by decide +kernel
theorem d_DL_span_165 : decode prog_1_method_35_code 165 = .ok (.ireturn, 1) := by decide +kernel
theorem d_DL_image_0 : decode prog_1_method_36_code 0 = .ok (.aload_n 0, 1) := by decide +kernel
theorem d_DL_image_1 : decode prog_1_method_36_code 1 = .ok (.getfield 84, 3) := by decide +kernel
theorem d_DL_image_4 : decode prog_1_method_36_code 4 = .ok (.invokevirtual 370, 3) := by decide +kernel
theorem d_DL_image_7 : decode prog_1_method_36_code 7 = .ok (.iconst 3, 1) := by decide +kernel
theorem d_DL_image_8 : decode prog_1_method_36_code 8 = .ok (.if_icmp .lt 7, 3) := by decide +kernel
theorem d_DL_image_11 : decode prog_1_method_36_code 11 = .ok (.iconst (-1), 1) := by decide +kernel
theorem d_DL_image_12 : decode prog_1_method_36_code 12 = .ok (.goto 14, 3) := by decide +kernel
theorem d_DL_image_15 : decode prog_1_method_36_code 15 = .ok (.aload_n 0, 1) := by decide +kernel
theorem d_DL_image_16 : decode prog_1_method_36_code 16 = .ok (.getfield 84, 3) := by decide +kernel
theorem d_DL_image_19 : decode prog_1_method_36_code 19 = .ok (.aload_n 0, 1) := by decide +kernel
theorem d_DL_image_20 : decode prog_1_method_36_code 20 = .ok (.getfield 56, 3) := by decide +kernel
theorem d_DL_image_23 : decode prog_1_method_36_code 23 = .ok (.invokevirtual 373, 3) := by decide +kernel
theorem d_DL_image_26 : decode prog_1_method_36_code 26 = .ok (.ireturn, 1) := by decide +kernel
theorem d_DL_restore_0 : decode prog_1_method_37_code 0 = .ok (.aload_n 0, 1) := by decide +kernel
theorem d_DL_restore_1 : decode prog_1_method_37_code 1 = .ok (.getfield 84, 3) := by decide +kernel
theorem d_DL_restore_4 : decode prog_1_method_37_code 4 = .ok (.invokevirtual 370, 3) := by decide +kernel
theorem d_DL_restore_7 : decode prog_1_method_37_code 7 = .ok (.ifCond .ne 5, 3) := by decide +kernel
theorem d_DL_restore_10 : decode prog_1_method_37_code 10 = .ok (.iconst (-1), 1) := by decide +kernel
theorem d_DL_restore_11 : decode prog_1_method_37_code 11 = .ok (.ireturn, 1) := by decide +kernel
theorem d_DL_restore_12 : decode prog_1_method_37_code 12 = .ok (.aload_n 0, 1) := by decide +kernel
theorem d_DL_restore_13 : decode prog_1_method_37_code 13 = .ok (.iconst 0, 1) := by decide +kernel
theorem d_DL_restore_14 : decode prog_1_method_37_code 14 = .ok (.putfield 130, 3) := by decide +kernel
theorem d_DL_restore_17 : decode prog_1_method_37_code 17 = .ok (.aload_n 0, 1) := by decide +kernel
theorem d_DL_restore_18 : decode prog_1_method_37_code 18 = .ok (.getfield 84, 3) := by decide +kernel
theorem d_DL_restore_21 : decode prog_1_method_37_code 21 = .ok (.aload_n 0, 1) := by decide +kernel
theorem d_DL_restore_22 : decode prog_1_method_37_code 22 = .ok (.getfield 56, 3) := by decide +kernel
theorem d_DL_restore_25 : decode prog_1_method_37_code 25 = .ok (.invokevirtual 376, 3) := by decide +kernel
theorem d_DL_restore_28 : decode prog_1_method_37_code 28 = .ok (.ireturn, 1) := by decide +kernel
theorem d_DL_status_0 : decode prog_1_method_38_code 0 = .ok (.iload_n 1, 1) := by decide +kernel
theorem d_DL_status_1 : decode prog_1_method_38_code 1 = .ok (.ifCond .ne 8, 3) := by decide +kernel
theorem d_DL_status_4 : decode prog_1_method_38_code 4 = .ok (.aload_n 0, 1) := by decide +kernel
theorem d_DL_status_5 : decode prog_1_method_38_code 5 = .ok (.getfield 379, 3) := by decide +kernel
theorem d_DL_status_8 : decode prog_1_method_38_code 8 = .ok (.ireturn, 1) := by decide +kernel
theorem d_DL_status_9 : decode prog_1_method_38_code 9 = .ok (.iload_n 1, 1) := by decide +kernel
theorem d_DL_status_10 : decode prog_1_method_38_code 10 = .ok (.iconst 1, 1) := by decide +kernel
theorem d_DL_status_11 : decode prog_1_method_38_code 11 = .ok (.if_icmp .ne 10, 3) := by decide +kernel
theorem d_DL_status_14 : decode prog_1_method_38_code 14 = .ok (.aload_n 0, 1) := by decide +kernel
theorem d_DL_status_15 : decode prog_1_method_38_code 15 = .ok (.getfield 382, 3) := by decide +kernel
theorem d_DL_status_18 : decode prog_1_method_38_code 18 = .ok (.goto 4, 3) := by decide +kernel
theorem d_DL_status_21 : decode prog_1_method_38_code 21 = .ok (.iconst (-1), 1) := by decide +kernel
theorem d_DL_status_22 : decode prog_1_method_38_code 22 = .ok (.ireturn, 1) := by decide +kernel
theorem d_DL_count_0 : decode prog_1_method_39_code 0 = .ok (.iload_n 1, 1) := by decide +kernel
theorem d_DL_count_1 : decode prog_1_method_39_code 1 = .ok (.tableswitch 51 0 2 #[27, 35, 43], 27) := by decide +kernel
theorem d_DL_count_28 : decode prog_1_method_39_code 28 = .ok (.aload_n 0, 1) := by decide +kernel
theorem d_DL_count_29 : decode prog_1_method_39_code 29 = .ok (.getfield 84, 3) := by decide +kernel
theorem d_DL_count_32 : decode prog_1_method_39_code 32 = .ok (.invokevirtual 370, 3) := by decide +kernel
theorem d_DL_count_35 : decode prog_1_method_39_code 35 = .ok (.ireturn, 1) := by decide +kernel
theorem d_DL_count_36 : decode prog_1_method_39_code 36 = .ok (.aload_n 0, 1) := by decide +kernel
theorem d_DL_count_37 : decode prog_1_method_39_code 37 = .ok (.getfield 10, 3) := by decide +kernel
theorem d_DL_count_40 : decode prog_1_method_39_code 40 = .ok (.invokevirtual 97, 3) := by decide +kernel
theorem d_DL_count_43 : decode prog_1_method_39_code 43 = .ok (.ireturn, 1) := by decide +kernel
theorem d_DL_count_44 : decode prog_1_method_39_code 44 = .ok (.aload_n 0, 1) := by decide +kernel
theorem d_DL_count_45 : decode prog_1_method_39_code 45 = .ok (.getfield 84, 3) := by decide +kernel
theorem d_DL_count_48 : decode prog_1_method_39_code 48 = .ok (.invokevirtual 145, 3) := by decide +kernel
theorem d_DL_count_51 : decode prog_1_method_39_code 51 = .ok (.ireturn, 1) := by decide +kernel
theorem d_DL_count_52 : decode prog_1_method_39_code 52 = .ok (.iconst (-1), 1) := by decide +kernel
theorem d_DL_count_53 : decode prog_1_method_39_code 53 = .ok (.ireturn, 1) := by decide +kernel
theorem d_DL_openText_0 : decode prog_1_method_40_code 0 = .ok (.aload_n 0, 1) := by decide +kernel
theorem d_DL_openText_1 : decode prog_1_method_40_code 1 = .ok (.iload_n 1, 1) := by decide +kernel
theorem d_DL_openText_2 : decode prog_1_method_40_code 2 = .ok (.iconst 0, 1) := by decide +kernel
theorem d_DL_openText_3 : decode prog_1_method_40_code 3 = .ok (.iload_n 2, 1) := by decide +kernel
theorem d_DL_openText_4 : decode prog_1_method_40_code 4 = .ok (.aload_n 0, 1) := by decide +kernel
theorem d_DL_openText_5 : decode prog_1_method_40_code 5 = .ok (.getfield 10, 3) := by decide +kernel
theorem d_DL_openText_8 : decode prog_1_method_40_code 8 = .ok (.invokevirtual 97, 3) := by decide +kernel
theorem d_DL_openText_11 : decode prog_1_method_40_code 11 = .ok (.invokestatic 362, 3) := by decide +kernel
theorem d_DL_openText_14 : decode prog_1_method_40_code 14 = .ok (.invokevirtual 179, 3) := by decide +kernel
theorem d_DL_openText_17 : decode prog_1_method_40_code 17 = .ok (.aload_n 0, 1) := by decide +kernel
theorem d_DL_openText_18 : decode prog_1_method_40_code 18 = .ok (.getfield 10, 3) := by decide +kernel
theorem d_DL_openText_21 : decode prog_1_method_40_code 21 = .ok (.iload_n 1, 1) := by decide +kernel
theorem d_DL_openText_22 : decode prog_1_method_40_code 22 = .ok (.invokevirtual 385, 3) := by decide +kernel
theorem d_DL_openText_25 : decode prog_1_method_40_code 25 = .ok (.return_, 1) := by decide +kernel
theorem d_DL_needThere_0 : decode prog_1_method_41_code 0 = .ok (.iload_n 2, 1) := by decide +kernel
theorem d_DL_needThere_1 : decode prog_1_method_41_code 1 = .ok (.ifCond .lt 18, 3) := by decide +kernel
theorem d_DL_needThere_4 : decode prog_1_method_41_code 4 = .ok (.iload_n 2, 1) := by decide +kernel
theorem d_DL_needThere_5 : decode prog_1_method_41_code 5 = .ok (.aload_n 0, 1) := by decide +kernel
theorem d_DL_needThere_6 : decode prog_1_method_41_code 6 = .ok (.getfield 19, 3) := by decide +kernel
theorem d_DL_needThere_9 : decode prog_1_method_41_code 9 = .ok (.getfield 134, 3) := by decide +kernel
theorem d_DL_needThere_12 : decode prog_1_method_41_code 12 = .ok (.iload_n 1, 1) := by decide +kernel
theorem d_DL_needThere_13 : decode prog_1_method_41_code 13 = .ok (.invokevirtual 137, 3) := by decide +kernel
theorem d_DL_needThere_16 : decode prog_1_method_41_code 16 = .ok (.if_icmp .lt 24, 3) := by decide +kernel
theorem d_DL_needThere_19 : decode prog_1_method_41_code 19 = .ok (.aload_n 0, 1) := by decide +kernel
theorem d_DL_needThere_20 : decode prog_1_method_41_code 20 = .ok (.dup, 1) := by decide +kernel
theorem d_DL_needThere_21 : decode prog_1_method_41_code 21 = .ok (.getfield 379, 3) := by decide +kernel
theorem d_DL_needThere_24 : decode prog_1_method_41_code 24 = .ok (.iconst 1, 1) := by decide +kernel
theorem d_DL_needThere_25 : decode prog_1_method_41_code 25 = .ok (.iadd, 1) := by decide +kernel
theorem d_DL_needThere_26 : decode prog_1_method_41_code 26 = .ok (.putfield 379, 3) := by decide +kernel
theorem d_DL_needThere_29 : decode prog_1_method_41_code 29 = .ok (.new 388, 3) := by decide +kernel
theorem d_DL_needThere_32 : decode prog_1_method_41_code 32 = .ok (.dup, 1) := by decide +kernel
theorem d_DL_needThere_33 : decode prog_1_method_41_code 33 = .ok (.ldc_w 390, 3) := by decide +kernel
theorem d_DL_needThere_36 : decode prog_1_method_41_code 36 = .ok (.invokespecial 392, 3) := by decide +kernel
theorem d_DL_needThere_39 : decode prog_1_method_41_code 39 = .ok (.athrow, 1) := by decide +kernel
theorem d_DL_needThere_40 : decode prog_1_method_41_code 40 = .ok (.return_, 1) := by decide +kernel
theorem d_DL_needWithin_0 : decode prog_1_method_42_code 0 = .ok (.iload_n 1, 1) := by decide +kernel
theorem d_DL_needWithin_1 : decode prog_1_method_42_code 1 = .ok (.iload_n 2, 1) := by decide +kernel
theorem d_DL_needWithin_2 : decode prog_1_method_42_code 2 = .ok (.if_icmp .lt 8, 3) := by decide +kernel
theorem d_DL_needWithin_5 : decode prog_1_method_42_code 5 = .ok (.iload_n 1, 1) := by decide +kernel
theorem d_DL_needWithin_6 : decode prog_1_method_42_code 6 = .ok (.iload_n 3, 1) := by decide +kernel
theorem d_DL_needWithin_7 : decode prog_1_method_42_code 7 = .ok (.if_icmp .le 24, 3) := by decide +kernel
theorem d_DL_needWithin_10 : decode prog_1_method_42_code 10 = .ok (.aload_n 0, 1) := by decide +kernel
theorem d_DL_needWithin_11 : decode prog_1_method_42_code 11 = .ok (.dup, 1) := by decide +kernel
theorem d_DL_needWithin_12 : decode prog_1_method_42_code 12 = .ok (.getfield 382, 3) := by decide +kernel
theorem d_DL_needWithin_15 : decode prog_1_method_42_code 15 = .ok (.iconst 1, 1) := by decide +kernel
theorem d_DL_needWithin_16 : decode prog_1_method_42_code 16 = .ok (.iadd, 1) := by decide +kernel
theorem d_DL_needWithin_17 : decode prog_1_method_42_code 17 = .ok (.putfield 382, 3) := by decide +kernel
theorem d_DL_needWithin_20 : decode prog_1_method_42_code 20 = .ok (.new 395, 3) := by decide +kernel
theorem d_DL_needWithin_23 : decode prog_1_method_42_code 23 = .ok (.dup, 1) := by decide +kernel
theorem d_DL_needWithin_24 : decode prog_1_method_42_code 24 = .ok (.ldc_w 397, 3) := by decide +kernel
theorem d_DL_needWithin_27 : decode prog_1_method_42_code 27 = .ok (.invokespecial 399, 3) := by decide +kernel
theorem d_DL_needWithin_30 : decode prog_1_method_42_code 30 = .ok (.athrow, 1) := by decide +kernel
theorem d_DL_needWithin_31 : decode prog_1_method_42_code 31 = .ok (.return_, 1) := by decide +kernel
theorem d_DL_needShips_0 : decode prog_1_method_43_code 0 = .ok (.aload_n 0, 1) := by decide +kernel
theorem d_DL_needShips_1 : decode prog_1_method_43_code 1 = .ok (.iload_n 1, 1) := by decide +kernel
theorem d_DL_needShips_2 : decode prog_1_method_43_code 2 = .ok (.iconst 0, 1) := by decide +kernel
theorem d_DL_needShips_3 : decode prog_1_method_43_code 3 = .ok (.iconst 1, 1) := by decide +kernel
theorem d_DL_needShips_4 : decode prog_1_method_43_code 4 = .ok (.aload_n 0, 1) := by decide +kernel
theorem d_DL_needShips_5 : decode prog_1_method_43_code 5 = .ok (.getfield 19, 3) := by decide +kernel
theorem d_DL_needShips_8 : decode prog_1_method_43_code 8 = .ok (.getfield 134, 3) := by decide +kernel
theorem d_DL_needShips_11 : decode prog_1_method_43_code 11 = .ok (.iconst 3, 1) := by decide +kernel
theorem d_DL_needShips_12 : decode prog_1_method_43_code 12 = .ok (.invokevirtual 137, 3) := by decide +kernel
theorem d_DL_needShips_15 : decode prog_1_method_43_code 15 = .ok (.ishl, 1) := by decide +kernel
theorem d_DL_needShips_16 : decode prog_1_method_43_code 16 = .ok (.iconst 1, 1) := by decide +kernel
theorem d_DL_needShips_17 : decode prog_1_method_43_code 17 = .ok (.isub, 1) := by decide +kernel
theorem d_DL_needShips_18 : decode prog_1_method_43_code 18 = .ok (.invokevirtual 179, 3) := by decide +kernel
theorem d_DL_needShips_21 : decode prog_1_method_43_code 21 = .ok (.return_, 1) := by decide +kernel
theorem d_DL_flashesSeen_0 : decode prog_1_method_44_code 0 = .ok (.aload_n 0, 1) := by decide +kernel
theorem d_DL_flashesSeen_1 : decode prog_1_method_44_code 1 = .ok (.getfield 56, 3) := by decide +kernel
theorem d_DL_flashesSeen_4 : decode prog_1_method_44_code 4 = .ok (.aload_n 0, 1) := by decide +kernel
theorem d_DL_flashesSeen_5 : decode prog_1_method_44_code 5 = .ok (.getfield 19, 3) := by decide +kernel
theorem d_DL_flashesSeen_8 : decode prog_1_method_44_code 8 = .ok (.invokevirtual 400, 3) := by decide +kernel
theorem d_DL_flashesSeen_11 : decode prog_1_method_44_code 11 = .ok (.istore_n 3, 1) := by decide +kernel
theorem d_DL_flashesSeen_12 : decode prog_1_method_44_code 12 = .ok (.aload_n 0, 1) := by decide +kernel
theorem d_DL_flashesSeen_13 : decode prog_1_method_44_code 13 = .ok (.getfield 56, 3) := by decide +kernel
theorem d_DL_flashesSeen_16 : decode prog_1_method_44_code 16 = .ok (.aload_n 0, 1) := by decide +kernel
theorem d_DL_flashesSeen_17 : decode prog_1_method_44_code 17 = .ok (.getfield 19, 3) := by decide +kernel
theorem d_DL_flashesSeen_20 : decode prog_1_method_44_code 20 = .ok (.iload_n 1, 1) := by decide +kernel
theorem d_DL_flashesSeen_21 : decode prog_1_method_44_code 21 = .ok (.iload_n 2, 1) := by decide +kernel
theorem d_DL_flashesSeen_22 : decode prog_1_method_44_code 22 = .ok (.iload_n 3, 1) := by decide +kernel
theorem d_DL_flashesSeen_23 : decode prog_1_method_44_code 23 = .ok (.invokevirtual 404, 3) := by decide +kernel
theorem d_DL_flashesSeen_26 : decode prog_1_method_44_code 26 = .ok (.aload_n 0, 1) := by decide +kernel
theorem d_DL_flashesSeen_27 : decode prog_1_method_44_code 27 = .ok (.getfield 56, 3) := by decide +kernel
theorem d_DL_flashesSeen_30 : decode prog_1_method_44_code 30 = .ok (.aload_n 0, 1) := by decide +kernel
theorem d_DL_flashesSeen_31 : decode prog_1_method_44_code 31 = .ok (.getfield 19, 3) := by decide +kernel
theorem d_DL_flashesSeen_34 : decode prog_1_method_44_code 34 = .ok (.iload_n 1, 1) := by decide +kernel
theorem d_DL_flashesSeen_35 : decode prog_1_method_44_code 35 = .ok (.iload_n 2, 1) := by decide +kernel
theorem d_DL_flashesSeen_36 : decode prog_1_method_44_code 36 = .ok (.iload_n 3, 1) := by decide +kernel
theorem d_DL_flashesSeen_37 : decode prog_1_method_44_code 37 = .ok (.invokevirtual 408, 3) := by decide +kernel
theorem d_DL_flashesSeen_40 : decode prog_1_method_44_code 40 = .ok (.iadd, 1) := by decide +kernel
theorem d_DL_flashesSeen_41 : decode prog_1_method_44_code 41 = .ok (.ireturn, 1) := by decide +kernel
theorem d_DL_wreckNumber_0 : decode prog_1_method_45_code 0 = .ok (.iload_n 3, 1) := by decide +kernel
theorem d_DL_wreckNumber_1 : decode prog_1_method_45_code 1 = .ok (.ifCond .ne 5, 3) := by decide +kernel
theorem d_DL_wreckNumber_4 : decode prog_1_method_45_code 4 = .ok (.iconst 1, 1) := by decide +kernel
theorem d_DL_wreckNumber_5 : decode prog_1_method_45_code 5 = .ok (.ireturn, 1) := by decide +kernel
theorem d_DL_wreckNumber_6 : decode prog_1_method_45_code 6 = .ok (.iload_n 3, 1) := by decide +kernel
theorem d_DL_wreckNumber_7 : decode prog_1_method_45_code 7 = .ok (.iconst 1, 1) := by decide +kernel
theorem d_DL_wreckNumber_8 : decode prog_1_method_45_code 8 = .ok (.if_icmp .ne 17, 3) := by decide +kernel
theorem d_DL_wreckNumber_11 : decode prog_1_method_45_code 11 = .ok (.aload_n 0, 1) := by decide +kernel
theorem d_DL_wreckNumber_12 : decode prog_1_method_45_code 12 = .ok (.getfield 19, 3) := by decide +kernel
theorem d_DL_wreckNumber_15 : decode prog_1_method_45_code 15 = .ok (.getfield 411, 3) := by decide +kernel
theorem d_DL_wreckNumber_18 : decode prog_1_method_45_code 18 = .ok (.iload_n 1, 1) := by decide +kernel
theorem d_DL_wreckNumber_19 : decode prog_1_method_45_code 19 = .ok (.invokevirtual 137, 3) := by decide +kernel
theorem d_DL_wreckNumber_22 : decode prog_1_method_45_code 22 = .ok (.goto 12, 3) := by decide +kernel
theorem d_DL_wreckNumber_25 : decode prog_1_method_45_code 25 = .ok (.aload_n 0, 1) := by decide +kernel
theorem d_DL_wreckNumber_26 : decode prog_1_method_45_code 26 = .ok (.getfield 19, 3) := by decide +kernel
theorem d_DL_wreckNumber_29 : decode prog_1_method_45_code 29 = .ok (.iload_n 1, 1) := by decide +kernel
theorem d_DL_wreckNumber_30 : decode prog_1_method_45_code 30 = .ok (.iload_n 2, 1) := by decide +kernel
theorem d_DL_wreckNumber_31 : decode prog_1_method_45_code 31 = .ok (.invokevirtual 242, 3) := by decide +kernel
theorem d_DL_wreckNumber_34 : decode prog_1_method_45_code 34 = .ok (.ireturn, 1) := by decide +kernel
theorem d_DL_firstUnmade_0 : decode prog_1_method_46_code 0 = .ok (.iconst 0, 1) := by decide +kernel
theorem d_DL_firstUnmade_1 : decode prog_1_method_46_code 1 = .ok (.istore_n 2, 1) := by decide +kernel
theorem d_DL_firstUnmade_2 : decode prog_1_method_46_code 2 = .ok (.iload_n 2, 1) := by decide +kernel
theorem d_DL_firstUnmade_3 : decode prog_1_method_46_code 3 = .ok (.iconst 1, 1) := by decide +kernel
theorem d_DL_firstUnmade_4 : decode prog_1_method_46_code 4 = .ok (.iload_n 1, 1) := by decide +kernel
theorem d_DL_firstUnmade_5 : decode prog_1_method_46_code 5 = .ok (.ishl, 1) := by decide +kernel
theorem d_DL_firstUnmade_6 : decode prog_1_method_46_code 6 = .ok (.if_icmp .ge 22, 3) := by decide +kernel
theorem d_DL_firstUnmade_9 : decode prog_1_method_46_code 9 = .ok (.aload_n 0, 1) := by decide +kernel
theorem d_DL_firstUnmade_10 : decode prog_1_method_46_code 10 = .ok (.getfield 93, 3) := by decide +kernel
theorem d_DL_firstUnmade_13 : decode prog_1_method_46_code 13 = .ok (.iload_n 2, 1) := by decide +kernel
theorem d_DL_firstUnmade_14 : decode prog_1_method_46_code 14 = .ok (.invokevirtual 137, 3) := by decide +kernel
theorem d_DL_firstUnmade_17 : decode prog_1_method_46_code 17 = .ok (.ifCond .ne 5, 3) := by decide +kernel
theorem d_DL_firstUnmade_20 : decode prog_1_method_46_code 20 = .ok (.iload_n 2, 1) := by decide +kernel
theorem d_DL_firstUnmade_21 : decode prog_1_method_46_code 21 = .ok (.ireturn, 1) := by decide +kernel
theorem d_DL_firstUnmade_22 : decode prog_1_method_46_code 22 = .ok (.iinc 2 1, 3) := by decide +kernel
theorem d_DL_firstUnmade_25 : decode prog_1_method_46_code 25 = .ok (.goto (-23), 3) := by decide +kernel
theorem d_DL_firstUnmade_28 : decode prog_1_method_46_code 28 = .ok (.iconst (-1), 1) := by decide +kernel
theorem d_DL_firstUnmade_29 : decode prog_1_method_46_code 29 = .ok (.ireturn, 1) := by decide +kernel
theorem d_DL_power_0 : decode prog_1_method_47_code 0 = .ok (.lconst 1, 1) := by decide +kernel
theorem d_DL_power_1 : decode prog_1_method_47_code 1 = .ok (.lstore_n 2, 1) := by decide +kernel
theorem d_DL_power_2 : decode prog_1_method_47_code 2 = .ok (.iconst 0, 1) := by decide +kernel
theorem d_DL_power_3 : decode prog_1_method_47_code 3 = .ok (.istore 4, 2) := by decide +kernel
theorem d_DL_power_5 : decode prog_1_method_47_code 5 = .ok (.iload 4, 2) := by decide +kernel
theorem d_DL_power_7 : decode prog_1_method_47_code 7 = .ok (.iload_n 1, 1) := by decide +kernel
theorem d_DL_power_8 : decode prog_1_method_47_code 8 = .ok (.if_icmp .ge 14, 3) := by decide +kernel
theorem d_DL_power_11 : decode prog_1_method_47_code 11 = .ok (.lload_n 2, 1) := by decide +kernel
theorem d_DL_power_12 : decode prog_1_method_47_code 12 = .ok (.iload_n 0, 1) := by decide +kernel
theorem d_DL_power_13 : decode prog_1_method_47_code 13 = .ok (.i2l, 1) := by decide +kernel
theorem d_DL_power_14 : decode prog_1_method_47_code 14 = .ok (.lmul, 1) := by decide +kernel
theorem d_DL_power_15 : decode prog_1_method_47_code 15 = .ok (.lstore_n 2, 1) := by decide +kernel
theorem d_DL_power_16 : decode prog_1_method_47_code 16 = .ok (.iinc 4 1, 3) := by decide +kernel
theorem d_DL_power_19 : decode prog_1_method_47_code 19 = .ok (.goto (-14), 3) := by decide +kernel
theorem d_DL_power_22 : decode prog_1_method_47_code 22 = .ok (.lload_n 2, 1) := by decide +kernel
theorem d_DL_power_23 : decode prog_1_method_47_code 23 = .ok (.lreturn, 1) := by decide +kernel
theorem d_DL_commonDivisor_0 : decode prog_1_method_48_code 0 = .ok (.iconst 0, 1) := by decide +kernel
theorem d_DL_commonDivisor_1 : decode prog_1_method_48_code 1 = .ok (.istore 4, 2) := by decide +kernel
theorem d_DL_commonDivisor_3 : decode prog_1_method_48_code 3 = .ok (.iload 4, 2) := by decide +kernel
theorem d_DL_commonDivisor_5 : decode prog_1_method_48_code 5 = .ok (.bipush 100, 2) := by decide +kernel
theorem d_DL_commonDivisor_7 : decode prog_1_method_48_code 7 = .ok (.if_icmp .ge 25, 3) := by decide +kernel
theorem d_DL_commonDivisor_10 : decode prog_1_method_48_code 10 = .ok (.lload_n 2, 1) := by decide +kernel
theorem d_DL_commonDivisor_11 : decode prog_1_method_48_code 11 = .ok (.lconst 0, 1) := by decide +kernel
theorem d_DL_commonDivisor_12 : decode prog_1_method_48_code 12 = .ok (.lcmp, 1) := by decide +kernel
theorem d_DL_commonDivisor_13 : decode prog_1_method_48_code 13 = .ok (.ifCond .eq 19, 3) := by decide +kernel
theorem d_DL_commonDivisor_16 : decode prog_1_method_48_code 16 = .ok (.lload_n 0, 1) := by decide +kernel
theorem d_DL_commonDivisor_17 : decode prog_1_method_48_code 17 = .ok (.lload_n 2, 1) := by decide +kernel
theorem d_DL_commonDivisor_18 : decode prog_1_method_48_code 18 = .ok (.lrem, 1) := by decide +kernel
theorem d_DL_commonDivisor_19 : decode prog_1_method_48_code 19 = .ok (.lstore 5, 2) := by decide +kernel
theorem d_DL_commonDivisor_21 : decode prog_1_method_48_code 21 = .ok (.lload_n 2, 1) := by decide +kernel
theorem d_DL_commonDivisor_22 : decode prog_1_method_48_code 22 = .ok (.lstore_n 0, 1) := by decide +kernel
theorem d_DL_commonDivisor_23 : decode prog_1_method_48_code 23 = .ok (.lload 5, 2) := by decide +kernel
theorem d_DL_commonDivisor_25 : decode prog_1_method_48_code 25 = .ok (.lstore_n 2, 1) := by decide +kernel
theorem d_DL_commonDivisor_26 : decode prog_1_method_48_code 26 = .ok (.iinc 4 1, 3) := by decide +kernel
theorem d_DL_commonDivisor_29 : decode prog_1_method_48_code 29 = .ok (.goto (-26), 3) := by decide +kernel
theorem d_DL_commonDivisor_32 : decode prog_1_method_48_code 32 = .ok (.lload_n 0, 1) := by decide +kernel
theorem d_DL_commonDivisor_33 : decode prog_1_method_48_code 33 = .ok (.lreturn, 1) := by decide +kernel
theorem d_DL_left_0 : decode prog_1_method_49_code 0 = .ok (.iload_n 1, 1) := by decide +kernel
theorem d_DL_left_1 : decode prog_1_method_49_code 1 = .ok (.ifCond .ne 7, 3) := by decide +kernel
theorem d_DL_left_4 : decode prog_1_method_49_code 4 = .ok (.iconst 0, 1) := by decide +kernel
theorem d_DL_left_5 : decode prog_1_method_49_code 5 = .ok (.goto 6, 3) := by decide +kernel
theorem d_DL_left_8 : decode prog_1_method_49_code 8 = .ok (.iload_n 0, 1) := by decide +kernel
theorem d_DL_left_9 : decode prog_1_method_49_code 9 = .ok (.iload_n 1, 1) := by decide +kernel
theorem d_DL_left_10 : decode prog_1_method_49_code 10 = .ok (.irem, 1) := by decide +kernel
theorem d_DL_left_11 : decode prog_1_method_49_code 11 = .ok (.ireturn, 1) := by decide +kernel
theorem d_DL_cut_0 : decode prog_1_method_50_code 0 = .ok (.iload_n 1, 1) := by decide +kernel
theorem d_DL_cut_1 : decode prog_1_method_50_code 1 = .ok (.ifCond .ne 7, 3) := by decide +kernel
theorem d_DL_cut_4 : decode prog_1_method_50_code 4 = .ok (.iconst 0, 1) := by decide +kernel
theorem d_DL_cut_5 : decode prog_1_method_50_code 5 = .ok (.goto 6, 3) := by decide +kernel
theorem d_DL_cut_8 : decode prog_1_method_50_code 8 = .ok (.iload_n 0, 1) := by decide +kernel
theorem d_DL_cut_9 : decode prog_1_method_50_code 9 = .ok (.iload_n 1, 1) := by decide +kernel
theorem d_DL_cut_10 : decode prog_1_method_50_code 10 = .ok (.idiv, 1) := by decide +kernel
theorem d_DL_cut_11 : decode prog_1_method_50_code 11 = .ok (.ireturn, 1) := by decide +kernel
theorem d_DL_flashesIn_0 : decode prog_1_method_51_code 0 = .ok (.iload_n 1, 1) := by decide +kernel
theorem d_DL_flashesIn_1 : decode prog_1_method_51_code 1 = .ok (.ifCond .eq 13, 3) := by decide +kernel
theorem d_DL_flashesIn_4 : decode prog_1_method_51_code 4 = .ok (.iload_n 0, 1) := by decide +kernel
theorem d_DL_flashesIn_5 : decode prog_1_method_51_code 5 = .ok (.iload_n 1, 1) := by decide +kernel
theorem d_DL_flashesIn_6 : decode prog_1_method_51_code 6 = .ok (.irem, 1) := by decide +kernel
theorem d_DL_flashesIn_7 : decode prog_1_method_51_code 7 = .ok (.ifCond .ne 7, 3) := by decide +kernel
theorem d_DL_flashesIn_10 : decode prog_1_method_51_code 10 = .ok (.iconst 1, 1) := by decide +kernel
theorem d_DL_flashesIn_11 : decode prog_1_method_51_code 11 = .ok (.goto 4, 3) := by decide +kernel
theorem d_DL_flashesIn_14 : decode prog_1_method_51_code 14 = .ok (.iconst 0, 1) := by decide +kernel
theorem d_DL_flashesIn_15 : decode prog_1_method_51_code 15 = .ok (.ireturn, 1) := by decide +kernel
theorem d_DL_isSeen_0 : decode prog_1_method_52_code 0 = .ok (.iload_n 1, 1) := by decide +kernel
theorem d_DL_isSeen_1 : decode prog_1_method_52_code 1 = .ok (.ifCond .eq 24, 3) := by decide +kernel
theorem d_DL_isSeen_4 : decode prog_1_method_52_code 4 = .ok (.iload_n 3, 1) := by decide +kernel
theorem d_DL_isSeen_5 : decode prog_1_method_52_code 5 = .ok (.iload_n 1, 1) := by decide +kernel
theorem d_DL_isSeen_6 : decode prog_1_method_52_code 6 = .ok (.irem, 1) := by decide +kernel
theorem d_DL_isSeen_7 : decode prog_1_method_52_code 7 = .ok (.ifCond .ne 18, 3) := by decide +kernel
theorem d_DL_isSeen_10 : decode prog_1_method_52_code 10 = .ok (.iload_n 0, 1) := by decide +kernel
theorem d_DL_isSeen_11 : decode prog_1_method_52_code 11 = .ok (.iload_n 2, 1) := by decide +kernel
theorem d_DL_isSeen_12 : decode prog_1_method_52_code 12 = .ok (.isub, 1) := by decide +kernel
theorem d_DL_isSeen_13 : decode prog_1_method_52_code 13 = .ok (.invokestatic 414, 3) := by decide +kernel
theorem d_DL_isSeen_16 : decode prog_1_method_52_code 16 = .ok (.iload 4, 2) := by decide +kernel
theorem d_DL_isSeen_18 : decode prog_1_method_52_code 18 = .ok (.if_icmp .gt 7, 3) := by decide +kernel
theorem d_DL_isSeen_21 : decode prog_1_method_52_code 21 = .ok (.iconst 1, 1) := by decide +kernel
theorem d_DL_isSeen_22 : decode prog_1_method_52_code 22 = .ok (.goto 4, 3) := by decide +kernel
theorem d_DL_isSeen_25 : decode prog_1_method_52_code 25 = .ok (.iconst 0, 1) := by decide +kernel
theorem d_DL_isSeen_26 : decode prog_1_method_52_code 26 = .ok (.ireturn, 1) := by decide +kernel
theorem d_DL_hasBit_0 : decode prog_1_method_53_code 0 = .ok (.iload_n 0, 1) := by decide +kernel
theorem d_DL_hasBit_1 : decode prog_1_method_53_code 1 = .ok (.iload_n 1, 1) := by decide +kernel
theorem d_DL_hasBit_2 : decode prog_1_method_53_code 2 = .ok (.ishr, 1) := by decide +kernel
theorem d_DL_hasBit_3 : decode prog_1_method_53_code 3 = .ok (.iconst 1, 1) := by decide +kernel
theorem d_DL_hasBit_4 : decode prog_1_method_53_code 4 = .ok (.iand, 1) := by decide +kernel
theorem d_DL_hasBit_5 : decode prog_1_method_53_code 5 = .ok (.iconst 1, 1) := by decide +kernel
theorem d_DL_hasBit_6 : decode prog_1_method_53_code 6 = .ok (.if_icmp .ne 7, 3) := by decide +kernel
theorem d_DL_hasBit_9 : decode prog_1_method_53_code 9 = .ok (.iconst 1, 1) := by decide +kernel
theorem d_DL_hasBit_10 : decode prog_1_method_53_code 10 = .ok (.goto 4, 3) := by decide +kernel
theorem d_DL_hasBit_13 : decode prog_1_method_53_code 13 = .ok (.iconst 0, 1) := by decide +kernel
theorem d_DL_hasBit_14 : decode prog_1_method_53_code 14 = .ok (.ireturn, 1) := by decide +kernel
