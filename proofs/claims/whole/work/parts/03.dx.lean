theorem d_X_init_0 : decode b_X_init 0 = .ok (.aload_n 0, 1) := by decide +kernel
theorem d_X_init_1 : decode b_X_init 1 = .ok (.invokespecial 1, 3) := by decide +kernel
theorem d_X_init_4 : decode b_X_init 4 = .ok (.aload_n 0, 1) := by decide +kernel
theorem d_X_init_5 : decode b_X_init 5 = .ok (.bipush 12, 2) := by decide +kernel
theorem d_X_init_7 : decode b_X_init 7 = .ok (.newarray .int, 2) := by decide +kernel
theorem d_X_init_9 : decode b_X_init 9 = .ok (.putfield 9, 3) := by decide +kernel
theorem d_X_init_12 : decode b_X_init 12 = .ok (.aload_n 0, 1) := by decide +kernel
theorem d_X_init_13 : decode b_X_init 13 = .ok (.bipush 12, 2) := by decide +kernel
theorem d_X_init_15 : decode b_X_init 15 = .ok (.newarray .int, 2) := by decide +kernel
theorem d_X_init_17 : decode b_X_init 17 = .ok (.putfield 13, 3) := by decide +kernel
theorem d_X_init_20 : decode b_X_init 20 = .ok (.aload_n 0, 1) := by decide +kernel
theorem d_X_init_21 : decode b_X_init 21 = .ok (.bipush 12, 2) := by decide +kernel
theorem d_X_init_23 : decode b_X_init 23 = .ok (.newarray .int, 2) := by decide +kernel
theorem d_X_init_25 : decode b_X_init 25 = .ok (.putfield 16, 3) := by decide +kernel
theorem d_X_init_28 : decode b_X_init 28 = .ok (.aload_n 0, 1) := by decide +kernel
theorem d_X_init_29 : decode b_X_init 29 = .ok (.bipush 12, 2) := by decide +kernel
theorem d_X_init_31 : decode b_X_init 31 = .ok (.newarray .int, 2) := by decide +kernel
theorem d_X_init_33 : decode b_X_init 33 = .ok (.putfield 19, 3) := by decide +kernel
theorem d_X_init_36 : decode b_X_init 36 = .ok (.aload_n 0, 1) := by decide +kernel
theorem d_X_init_37 : decode b_X_init 37 = .ok (.bipush 20, 2) := by decide +kernel
theorem d_X_init_39 : decode b_X_init 39 = .ok (.newarray .int, 2) := by decide +kernel
theorem d_X_init_41 : decode b_X_init 41 = .ok (.putfield 22, 3) := by decide +kernel
theorem d_X_init_44 : decode b_X_init 44 = .ok (.aload_n 0, 1) := by decide +kernel
theorem d_X_init_45 : decode b_X_init 45 = .ok (.bipush 20, 2) := by decide +kernel
theorem d_X_init_47 : decode b_X_init 47 = .ok (.newarray .int, 2) := by decide +kernel
theorem d_X_init_49 : decode b_X_init 49 = .ok (.putfield 25, 3) := by decide +kernel
theorem d_X_init_52 : decode b_X_init 52 = .ok (.aload_n 0, 1) := by decide +kernel
theorem d_X_init_53 : decode b_X_init 53 = .ok (.bipush 20, 2) := by decide +kernel
theorem d_X_init_55 : decode b_X_init 55 = .ok (.newarray .int, 2) := by decide +kernel
theorem d_X_init_57 : decode b_X_init 57 = .ok (.putfield 28, 3) := by decide +kernel
theorem d_X_init_60 : decode b_X_init 60 = .ok (.aload_n 0, 1) := by decide +kernel
theorem d_X_init_61 : decode b_X_init 61 = .ok (.iconst 5, 1) := by decide +kernel
theorem d_X_init_62 : decode b_X_init 62 = .ok (.newarray .int, 2) := by decide +kernel
theorem d_X_init_64 : decode b_X_init 64 = .ok (.putfield 31, 3) := by decide +kernel
theorem d_X_init_67 : decode b_X_init 67 = .ok (.aload_n 0, 1) := by decide +kernel
theorem d_X_init_68 : decode b_X_init 68 = .ok (.iconst 5, 1) := by decide +kernel
theorem d_X_init_69 : decode b_X_init 69 = .ok (.newarray .int, 2) := by decide +kernel
theorem d_X_init_71 : decode b_X_init 71 = .ok (.putfield 34, 3) := by decide +kernel
theorem d_X_init_74 : decode b_X_init 74 = .ok (.aload_n 0, 1) := by decide +kernel
theorem d_X_init_75 : decode b_X_init 75 = .ok (.bipush 20, 2) := by decide +kernel
theorem d_X_init_77 : decode b_X_init 77 = .ok (.newarray .int, 2) := by decide +kernel
theorem d_X_init_79 : decode b_X_init 79 = .ok (.putfield 37, 3) := by decide +kernel
theorem d_X_init_82 : decode b_X_init 82 = .ok (.aload_n 0, 1) := by decide +kernel
theorem d_X_init_83 : decode b_X_init 83 = .ok (.bipush 20, 2) := by decide +kernel
theorem d_X_init_85 : decode b_X_init 85 = .ok (.newarray .int, 2) := by decide +kernel
theorem d_X_init_87 : decode b_X_init 87 = .ok (.putfield 40, 3) := by decide +kernel
theorem d_X_init_90 : decode b_X_init 90 = .ok (.aload_n 0, 1) := by decide +kernel
theorem d_X_init_91 : decode b_X_init 91 = .ok (.bipush 20, 2) := by decide +kernel
theorem d_X_init_93 : decode b_X_init 93 = .ok (.newarray .int, 2) := by decide +kernel
theorem d_X_init_95 : decode b_X_init 95 = .ok (.putfield 43, 3) := by decide +kernel
theorem d_X_init_98 : decode b_X_init 98 = .ok (.aload_n 0, 1) := by decide +kernel
theorem d_X_init_99 : decode b_X_init 99 = .ok (.bipush 20, 2) := by decide +kernel
theorem d_X_init_101 : decode b_X_init 101 = .ok (.newarray .int, 2) := by decide +kernel
theorem d_X_init_103 : decode b_X_init 103 = .ok (.putfield 46, 3) := by decide +kernel
theorem d_X_init_106 : decode b_X_init 106 = .ok (.iconst 0, 1) := by decide +kernel
theorem d_X_init_107 : decode b_X_init 107 = .ok (.istore_n 1, 1) := by decide +kernel
theorem d_X_init_108 : decode b_X_init 108 = .ok (.iload_n 1, 1) := by decide +kernel
theorem d_X_init_109 : decode b_X_init 109 = .ok (.iconst 5, 1) := by decide +kernel
theorem d_X_init_110 : decode b_X_init 110 = .ok (.if_icmp .ge 16, 3) := by decide +kernel
theorem d_X_init_113 : decode b_X_init 113 = .ok (.aload_n 0, 1) := by decide +kernel
theorem d_X_init_114 : decode b_X_init 114 = .ok (.getfield 31, 3) := by decide +kernel
theorem d_X_init_117 : decode b_X_init 117 = .ok (.iload_n 1, 1) := by decide +kernel
theorem d_X_init_118 : decode b_X_init 118 = .ok (.iconst (-1), 1) := by decide +kernel
theorem d_X_init_119 : decode b_X_init 119 = .ok (.iastore, 1) := by decide +kernel
theorem d_X_init_120 : decode b_X_init 120 = .ok (.iinc 1 1, 3) := by decide +kernel
theorem d_X_init_123 : decode b_X_init 123 = .ok (.goto (-15), 3) := by decide +kernel
theorem d_X_init_126 : decode b_X_init 126 = .ok (.return_, 1) := by decide +kernel
theorem d_X_code_0 : decode b_X_code 0 = .ok (.iload_n 1, 1) := by decide +kernel
theorem d_X_code_1 : decode b_X_code 1 = .ok (.invokestatic 49, 3) := by decide +kernel
theorem d_X_code_4 : decode b_X_code 4 = .ok (.ifCond .eq 13, 3) := by decide +kernel
theorem d_X_code_7 : decode b_X_code 7 = .ok (.iload_n 2, 1) := by decide +kernel
theorem d_X_code_8 : decode b_X_code 8 = .ok (.ifCond .lt 9, 3) := by decide +kernel
theorem d_X_code_11 : decode b_X_code 11 = .ok (.iload_n 2, 1) := by decide +kernel
theorem d_X_code_12 : decode b_X_code 12 = .ok (.bipush 100, 2) := by decide +kernel
theorem d_X_code_14 : decode b_X_code 14 = .ok (.if_icmp .le 13, 3) := by decide +kernel
theorem d_X_code_17 : decode b_X_code 17 = .ok (.new 53, 3) := by decide +kernel
theorem d_X_code_20 : decode b_X_code 20 = .ok (.dup, 1) := by decide +kernel
theorem d_X_code_21 : decode b_X_code 21 = .ok (.ldc 55, 2) := by decide +kernel
theorem d_X_code_23 : decode b_X_code 23 = .ok (.invokespecial 57, 3) := by decide +kernel
theorem d_X_code_26 : decode b_X_code 26 = .ok (.athrow, 1) := by decide +kernel
theorem d_X_code_27 : decode b_X_code 27 = .ok (.aload_n 0, 1) := by decide +kernel
theorem d_X_code_28 : decode b_X_code 28 = .ok (.getfield 60, 3) := by decide +kernel
theorem d_X_code_31 : decode b_X_code 31 = .ok (.bipush 12, 2) := by decide +kernel
theorem d_X_code_33 : decode b_X_code 33 = .ok (.if_icmp .lt 13, 3) := by decide +kernel
theorem d_X_code_36 : decode b_X_code 36 = .ok (.new 64, 3) := by decide +kernel
theorem d_X_code_39 : decode b_X_code 39 = .ok (.dup, 1) := by decide +kernel
theorem d_X_code_40 : decode b_X_code 40 = .ok (.ldc 66, 2) := by decide +kernel
theorem d_X_code_42 : decode b_X_code 42 = .ok (.invokespecial 68, 3) := by decide +kernel
theorem d_X_code_45 : decode b_X_code 45 = .ok (.athrow, 1) := by decide +kernel
theorem d_X_code_46 : decode b_X_code 46 = .ok (.aload_n 0, 1) := by decide +kernel
theorem d_X_code_47 : decode b_X_code 47 = .ok (.iload_n 1, 1) := by decide +kernel
theorem d_X_code_48 : decode b_X_code 48 = .ok (.invokevirtual 69, 3) := by decide +kernel
theorem d_X_code_51 : decode b_X_code 51 = .ok (.iconst (-1), 1) := by decide +kernel
theorem d_X_code_52 : decode b_X_code 52 = .ok (.if_icmp .eq 5, 3) := by decide +kernel
theorem d_X_code_55 : decode b_X_code 55 = .ok (.iconst 0, 1) := by decide +kernel
theorem d_X_code_56 : decode b_X_code 56 = .ok (.ireturn, 1) := by decide +kernel
theorem d_X_code_57 : decode b_X_code 57 = .ok (.aload_n 0, 1) := by decide +kernel
theorem d_X_code_58 : decode b_X_code 58 = .ok (.iload_n 1, 1) := by decide +kernel
theorem d_X_code_59 : decode b_X_code 59 = .ok (.invokevirtual 73, 3) := by decide +kernel
theorem d_X_code_62 : decode b_X_code 62 = .ok (.istore_n 3, 1) := by decide +kernel
theorem d_X_code_63 : decode b_X_code 63 = .ok (.aload_n 0, 1) := by decide +kernel
theorem d_X_code_64 : decode b_X_code 64 = .ok (.iload_n 3, 1) := by decide +kernel
theorem d_X_code_65 : decode b_X_code 65 = .ok (.invokevirtual 76, 3) := by decide +kernel
theorem d_X_code_68 : decode b_X_code 68 = .ok (.aload_n 0, 1) := by decide +kernel
theorem d_X_code_69 : decode b_X_code 69 = .ok (.getfield 9, 3) := by decide +kernel
theorem d_X_code_72 : decode b_X_code 72 = .ok (.iload_n 3, 1) := by decide +kernel
theorem d_X_code_73 : decode b_X_code 73 = .ok (.iload_n 1, 1) := by decide +kernel
theorem d_X_code_74 : decode b_X_code 74 = .ok (.iastore, 1) := by decide +kernel
theorem d_X_code_75 : decode b_X_code 75 = .ok (.aload_n 0, 1) := by decide +kernel
theorem d_X_code_76 : decode b_X_code 76 = .ok (.getfield 13, 3) := by decide +kernel
theorem d_X_code_79 : decode b_X_code 79 = .ok (.iload_n 3, 1) := by decide +kernel
theorem d_X_code_80 : decode b_X_code 80 = .ok (.iload_n 2, 1) := by decide +kernel
theorem d_X_code_81 : decode b_X_code 81 = .ok (.iastore, 1) := by decide +kernel
theorem d_X_code_82 : decode b_X_code 82 = .ok (.aload_n 0, 1) := by decide +kernel
theorem d_X_code_83 : decode b_X_code 83 = .ok (.getfield 16, 3) := by decide +kernel
theorem d_X_code_86 : decode b_X_code 86 = .ok (.iload_n 3, 1) := by decide +kernel
theorem d_X_code_87 : decode b_X_code 87 = .ok (.iconst 0, 1) := by decide +kernel
theorem d_X_code_88 : decode b_X_code 88 = .ok (.iastore, 1) := by decide +kernel
theorem d_X_code_89 : decode b_X_code 89 = .ok (.aload_n 0, 1) := by decide +kernel
theorem d_X_code_90 : decode b_X_code 90 = .ok (.getfield 19, 3) := by decide +kernel
theorem d_X_code_93 : decode b_X_code 93 = .ok (.iload_n 3, 1) := by decide +kernel
theorem d_X_code_94 : decode b_X_code 94 = .ok (.iconst 1, 1) := by decide +kernel
theorem d_X_code_95 : decode b_X_code 95 = .ok (.iastore, 1) := by decide +kernel
theorem d_X_code_96 : decode b_X_code 96 = .ok (.aload_n 0, 1) := by decide +kernel
theorem d_X_code_97 : decode b_X_code 97 = .ok (.dup, 1) := by decide +kernel
theorem d_X_code_98 : decode b_X_code 98 = .ok (.getfield 60, 3) := by decide +kernel
theorem d_X_code_101 : decode b_X_code 101 = .ok (.iconst 1, 1) := by decide +kernel
theorem d_X_code_102 : decode b_X_code 102 = .ok (.iadd, 1) := by decide +kernel
theorem d_X_code_103 : decode b_X_code 103 = .ok (.putfield 60, 3) := by decide +kernel
theorem d_X_code_106 : decode b_X_code 106 = .ok (.iconst 0, 1) := by decide +kernel
theorem d_X_code_107 : decode b_X_code 107 = .ok (.istore 4, 2) := by decide +kernel
theorem d_X_code_109 : decode b_X_code 109 = .ok (.iload 4, 2) := by decide +kernel
theorem d_X_code_111 : decode b_X_code 111 = .ok (.bipush 20, 2) := by decide +kernel
theorem d_X_code_113 : decode b_X_code 113 = .ok (.if_icmp .ge 22, 3) := by decide +kernel
theorem d_X_code_116 : decode b_X_code 116 = .ok (.aload_n 0, 1) := by decide +kernel
theorem d_X_code_117 : decode b_X_code 117 = .ok (.getfield 28, 3) := by decide +kernel
theorem d_X_code_120 : decode b_X_code 120 = .ok (.iload 4, 2) := by decide +kernel
theorem d_X_code_122 : decode b_X_code 122 = .ok (.aload_n 0, 1) := by decide +kernel
theorem d_X_code_123 : decode b_X_code 123 = .ok (.iload 4, 2) := by decide +kernel
theorem d_X_code_125 : decode b_X_code 125 = .ok (.invokevirtual 80, 3) := by decide +kernel
theorem d_X_code_128 : decode b_X_code 128 = .ok (.iastore, 1) := by decide +kernel
theorem d_X_code_129 : decode b_X_code 129 = .ok (.iinc 4 1, 3) := by decide +kernel
theorem d_X_code_132 : decode b_X_code 132 = .ok (.goto (-23), 3) := by decide +kernel
theorem d_X_code_135 : decode b_X_code 135 = .ok (.aload_n 0, 1) := by decide +kernel
theorem d_X_code_136 : decode b_X_code 136 = .ok (.getfield 60, 3) := by decide +kernel
theorem d_X_code_139 : decode b_X_code 139 = .ok (.ireturn, 1) := by decide +kernel
theorem d_X_share_0 : decode b_X_share 0 = .ok (.aload_n 0, 1) := by decide +kernel
theorem d_X_share_1 : decode b_X_share 1 = .ok (.iload_n 1, 1) := by decide +kernel
theorem d_X_share_2 : decode b_X_share 2 = .ok (.invokevirtual 69, 3) := by decide +kernel
theorem d_X_share_5 : decode b_X_share 5 = .ok (.istore 4, 2) := by decide +kernel
theorem d_X_share_7 : decode b_X_share 7 = .ok (.iload 4, 2) := by decide +kernel
theorem d_X_share_9 : decode b_X_share 9 = .ok (.iconst (-1), 1) := by decide +kernel
theorem d_X_share_10 : decode b_X_share 10 = .ok (.if_icmp .eq 26, 3) := by decide +kernel
theorem d_X_share_13 : decode b_X_share 13 = .ok (.iload_n 2, 1) := by decide +kernel
theorem d_X_share_14 : decode b_X_share 14 = .ok (.ifCond .lt 22, 3) := by decide +kernel
theorem d_X_share_17 : decode b_X_share 17 = .ok (.iload_n 2, 1) := by decide +kernel
theorem d_X_share_18 : decode b_X_share 18 = .ok (.sipush 1000, 3) := by decide +kernel
theorem d_X_share_21 : decode b_X_share 21 = .ok (.if_icmp .gt 15, 3) := by decide +kernel
theorem d_X_share_24 : decode b_X_share 24 = .ok (.iload_n 3, 1) := by decide +kernel
theorem d_X_share_25 : decode b_X_share 25 = .ok (.iconst 1, 1) := by decide +kernel
theorem d_X_share_26 : decode b_X_share 26 = .ok (.if_icmp .lt 10, 3) := by decide +kernel
theorem d_X_share_29 : decode b_X_share 29 = .ok (.iload_n 3, 1) := by decide +kernel
theorem d_X_share_30 : decode b_X_share 30 = .ok (.sipush 1000, 3) := by decide +kernel
theorem d_X_share_33 : decode b_X_share 33 = .ok (.if_icmp .le 5, 3) := by decide +kernel
theorem d_X_share_36 : decode b_X_share 36 = .ok (.iconst 0, 1) := by decide +kernel
theorem d_X_share_37 : decode b_X_share 37 = .ok (.ireturn, 1) := by decide +kernel
theorem d_X_share_38 : decode b_X_share 38 = .ok (.aload_n 0, 1) := by decide +kernel
theorem d_X_share_39 : decode b_X_share 39 = .ok (.getfield 16, 3) := by decide +kernel
theorem d_X_share_42 : decode b_X_share 42 = .ok (.iload 4, 2) := by decide +kernel
theorem d_X_share_44 : decode b_X_share 44 = .ok (.iload_n 2, 1) := by decide +kernel
theorem d_X_share_45 : decode b_X_share 45 = .ok (.iastore, 1) := by decide +kernel
theorem d_X_share_46 : decode b_X_share 46 = .ok (.aload_n 0, 1) := by decide +kernel
theorem d_X_share_47 : decode b_X_share 47 = .ok (.getfield 19, 3) := by decide +kernel
theorem d_X_share_50 : decode b_X_share 50 = .ok (.iload 4, 2) := by decide +kernel
theorem d_X_share_52 : decode b_X_share 52 = .ok (.iload_n 3, 1) := by decide +kernel
theorem d_X_share_53 : decode b_X_share 53 = .ok (.iastore, 1) := by decide +kernel
theorem d_X_share_54 : decode b_X_share 54 = .ok (.iconst 1, 1) := by decide +kernel
theorem d_X_share_55 : decode b_X_share 55 = .ok (.ireturn, 1) := by decide +kernel
theorem d_X_rule_0 : decode b_X_rule 0 = .ok (.aload_n 0, 1) := by decide +kernel
theorem d_X_rule_1 : decode b_X_rule 1 = .ok (.iload_n 3, 1) := by decide +kernel
theorem d_X_rule_2 : decode b_X_rule 2 = .ok (.invokevirtual 69, 3) := by decide +kernel
theorem d_X_rule_5 : decode b_X_rule 5 = .ok (.istore 5, 2) := by decide +kernel
theorem d_X_rule_7 : decode b_X_rule 7 = .ok (.iload_n 1, 1) := by decide +kernel
theorem d_X_rule_8 : decode b_X_rule 8 = .ok (.invokestatic 83, 3) := by decide +kernel
theorem d_X_rule_11 : decode b_X_rule 11 = .ok (.ifCond .eq 16, 3) := by decide +kernel
theorem d_X_rule_14 : decode b_X_rule 14 = .ok (.iload_n 2, 1) := by decide +kernel
theorem d_X_rule_15 : decode b_X_rule 15 = .ok (.invokestatic 86, 3) := by decide +kernel
theorem d_X_rule_18 : decode b_X_rule 18 = .ok (.ifCond .eq 9, 3) := by decide +kernel
theorem d_X_rule_21 : decode b_X_rule 21 = .ok (.iload 5, 2) := by decide +kernel
theorem d_X_rule_23 : decode b_X_rule 23 = .ok (.iconst (-1), 1) := by decide +kernel
theorem d_X_rule_24 : decode b_X_rule 24 = .ok (.if_icmp .ne 13, 3) := by decide +kernel
theorem d_X_rule_27 : decode b_X_rule 27 = .ok (.new 53, 3) := by decide +kernel
theorem d_X_rule_30 : decode b_X_rule 30 = .ok (.dup, 1) := by decide +kernel
theorem d_X_rule_31 : decode b_X_rule 31 = .ok (.ldc 89, 2) := by decide +kernel
theorem d_X_rule_33 : decode b_X_rule 33 = .ok (.invokespecial 57, 3) := by decide +kernel
theorem d_X_rule_36 : decode b_X_rule 36 = .ok (.athrow, 1) := by decide +kernel
theorem d_X_rule_37 : decode b_X_rule 37 = .ok (.aload_n 0, 1) := by decide +kernel
theorem d_X_rule_38 : decode b_X_rule 38 = .ok (.getfield 91, 3) := by decide +kernel
theorem d_X_rule_41 : decode b_X_rule 41 = .ok (.bipush 60, 2) := by decide +kernel
theorem d_X_rule_43 : decode b_X_rule 43 = .ok (.if_icmp .lt 13, 3) := by decide +kernel
theorem d_X_rule_46 : decode b_X_rule 46 = .ok (.new 64, 3) := by decide +kernel
theorem d_X_rule_49 : decode b_X_rule 49 = .ok (.dup, 1) := by decide +kernel
theorem d_X_rule_50 : decode b_X_rule 50 = .ok (.ldc 94, 2) := by decide +kernel
theorem d_X_rule_52 : decode b_X_rule 52 = .ok (.invokespecial 68, 3) := by decide +kernel
theorem d_X_rule_55 : decode b_X_rule 55 = .ok (.athrow, 1) := by decide +kernel
theorem d_X_rule_56 : decode b_X_rule 56 = .ok (.iload_n 1, 1) := by decide +kernel
theorem d_X_rule_57 : decode b_X_rule 57 = .ok (.iload_n 2, 1) := by decide +kernel
theorem d_X_rule_58 : decode b_X_rule 58 = .ok (.invokestatic 96, 3) := by decide +kernel
theorem d_X_rule_61 : decode b_X_rule 61 = .ok (.istore 6, 2) := by decide +kernel
theorem d_X_rule_63 : decode b_X_rule 63 = .ok (.aload_n 0, 1) := by decide +kernel
theorem d_X_rule_64 : decode b_X_rule 64 = .ok (.getfield 22, 3) := by decide +kernel
theorem d_X_rule_67 : decode b_X_rule 67 = .ok (.iload 6, 2) := by decide +kernel
theorem d_X_rule_69 : decode b_X_rule 69 = .ok (.iaload, 1) := by decide +kernel
theorem d_X_rule_70 : decode b_X_rule 70 = .ok (.aload_n 0, 1) := by decide +kernel
theorem d_X_rule_71 : decode b_X_rule 71 = .ok (.getfield 25, 3) := by decide +kernel
theorem d_X_rule_74 : decode b_X_rule 74 = .ok (.iload 6, 2) := by decide +kernel
theorem d_X_rule_76 : decode b_X_rule 76 = .ok (.iaload, 1) := by decide +kernel
theorem d_X_rule_77 : decode b_X_rule 77 = .ok (.ior, 1) := by decide +kernel
theorem d_X_rule_78 : decode b_X_rule 78 = .ok (.iload 5, 2) := by decide +kernel
theorem d_X_rule_80 : decode b_X_rule 80 = .ok (.invokestatic 100, 3) := by decide +kernel
theorem d_X_rule_83 : decode b_X_rule 83 = .ok (.ifCond .eq 5, 3) := by decide +kernel
theorem d_X_rule_86 : decode b_X_rule 86 = .ok (.iconst 0, 1) := by decide +kernel
theorem d_X_rule_87 : decode b_X_rule 87 = .ok (.ireturn, 1) := by decide +kernel
theorem d_X_rule_88 : decode b_X_rule 88 = .ok (.iload 4, 2) := by decide +kernel
theorem d_X_rule_90 : decode b_X_rule 90 = .ok (.ifCond .eq 20, 3) := by decide +kernel
theorem d_X_rule_93 : decode b_X_rule 93 = .ok (.aload_n 0, 1) := by decide +kernel
theorem d_X_rule_94 : decode b_X_rule 94 = .ok (.getfield 22, 3) := by decide +kernel
theorem d_X_rule_97 : decode b_X_rule 97 = .ok (.iload 6, 2) := by decide +kernel
theorem d_X_rule_99 : decode b_X_rule 99 = .ok (.dup2, 1) := by decide +kernel
theorem d_X_rule_100 : decode b_X_rule 100 = .ok (.iaload, 1) := by decide +kernel
theorem d_X_rule_101 : decode b_X_rule 101 = .ok (.iconst 1, 1) := by decide +kernel
theorem d_X_rule_102 : decode b_X_rule 102 = .ok (.iload 5, 2) := by decide +kernel
theorem d_X_rule_104 : decode b_X_rule 104 = .ok (.ishl, 1) := by decide +kernel
theorem d_X_rule_105 : decode b_X_rule 105 = .ok (.ior, 1) := by decide +kernel
theorem d_X_rule_106 : decode b_X_rule 106 = .ok (.iastore, 1) := by decide +kernel
theorem d_X_rule_107 : decode b_X_rule 107 = .ok (.goto 17, 3) := by decide +kernel
theorem d_X_rule_110 : decode b_X_rule 110 = .ok (.aload_n 0, 1) := by decide +kernel
theorem d_X_rule_111 : decode b_X_rule 111 = .ok (.getfield 25, 3) := by decide +kernel
theorem d_X_rule_114 : decode b_X_rule 114 = .ok (.iload 6, 2) := by decide +kernel
theorem d_X_rule_116 : decode b_X_rule 116 = .ok (.dup2, 1) := by decide +kernel
theorem d_X_rule_117 : decode b_X_rule 117 = .ok (.iaload, 1) := by decide +kernel
theorem d_X_rule_118 : decode b_X_rule 118 = .ok (.iconst 1, 1) := by decide +kernel
theorem d_X_rule_119 : decode b_X_rule 119 = .ok (.iload 5, 2) := by decide +kernel
theorem d_X_rule_121 : decode b_X_rule 121 = .ok (.ishl, 1) := by decide +kernel
theorem d_X_rule_122 : decode b_X_rule 122 = .ok (.ior, 1) := by decide +kernel
theorem d_X_rule_123 : decode b_X_rule 123 = .ok (.iastore, 1) := by decide +kernel
theorem d_X_rule_124 : decode b_X_rule 124 = .ok (.aload_n 0, 1) := by decide +kernel
theorem d_X_rule_125 : decode b_X_rule 125 = .ok (.getfield 28, 3) := by decide +kernel
theorem d_X_rule_128 : decode b_X_rule 128 = .ok (.iload 6, 2) := by decide +kernel
theorem d_X_rule_130 : decode b_X_rule 130 = .ok (.aload_n 0, 1) := by decide +kernel
theorem d_X_rule_131 : decode b_X_rule 131 = .ok (.iload 6, 2) := by decide +kernel
theorem d_X_rule_133 : decode b_X_rule 133 = .ok (.invokevirtual 80, 3) := by decide +kernel
theorem d_X_rule_136 : decode b_X_rule 136 = .ok (.iastore, 1) := by decide +kernel
theorem d_X_rule_137 : decode b_X_rule 137 = .ok (.aload_n 0, 1) := by decide +kernel
theorem d_X_rule_138 : decode b_X_rule 138 = .ok (.dup, 1) := by decide +kernel
theorem d_X_rule_139 : decode b_X_rule 139 = .ok (.getfield 91, 3) := by decide +kernel
theorem d_X_rule_142 : decode b_X_rule 142 = .ok (.iconst 1, 1) := by decide +kernel
theorem d_X_rule_143 : decode b_X_rule 143 = .ok (.iadd, 1) := by decide +kernel
theorem d_X_rule_144 : decode b_X_rule 144 = .ok (.putfield 91, 3) := by decide +kernel
theorem d_X_rule_147 : decode b_X_rule 147 = .ok (.aload_n 0, 1) := by decide +kernel
theorem d_X_rule_148 : decode b_X_rule 148 = .ok (.getfield 91, 3) := by decide +kernel
theorem d_X_rule_151 : decode b_X_rule 151 = .ok (.ireturn, 1) := by decide +kernel
theorem d_X_answer_0 : decode b_X_answer 0 = .ok (.iload_n 1, 1) := by decide +kernel
theorem d_X_answer_1 : decode b_X_answer 1 = .ok (.invokestatic 83, 3) := by decide +kernel
theorem d_X_answer_4 : decode b_X_answer 4 = .ok (.ifCond .eq 15, 3) := by decide +kernel
theorem d_X_answer_7 : decode b_X_answer 7 = .ok (.iload_n 2, 1) := by decide +kernel
theorem d_X_answer_8 : decode b_X_answer 8 = .ok (.iconst (-1), 1) := by decide +kernel
theorem d_X_answer_9 : decode b_X_answer 9 = .ok (.if_icmp .eq 20, 3) := by decide +kernel
theorem d_X_answer_12 : decode b_X_answer 12 = .ok (.iload_n 2, 1) := by decide +kernel
theorem d_X_answer_13 : decode b_X_answer 13 = .ok (.invokestatic 86, 3) := by decide +kernel
theorem d_X_answer_16 : decode b_X_answer 16 = .ok (.ifCond .ne 13, 3) := by decide +kernel
theorem d_X_answer_19 : decode b_X_answer 19 = .ok (.new 53, 3) := by decide +kernel
theorem d_X_answer_22 : decode b_X_answer 22 = .ok (.dup, 1) := by decide +kernel
theorem d_X_answer_23 : decode b_X_answer 23 = .ok (.ldc 104, 2) := by decide +kernel
theorem d_X_answer_25 : decode b_X_answer 25 = .ok (.invokespecial 57, 3) := by decide +kernel
theorem d_X_answer_28 : decode b_X_answer 28 = .ok (.athrow, 1) := by decide +kernel
theorem d_X_answer_29 : decode b_X_answer 29 = .ok (.aload_n 0, 1) := by decide +kernel
theorem d_X_answer_30 : decode b_X_answer 30 = .ok (.getfield 31, 3) := by decide +kernel
theorem d_X_answer_33 : decode b_X_answer 33 = .ok (.iload_n 1, 1) := by decide +kernel
theorem d_X_answer_34 : decode b_X_answer 34 = .ok (.iaload, 1) := by decide +kernel
theorem d_X_answer_35 : decode b_X_answer 35 = .ok (.iload_n 2, 1) := by decide +kernel
theorem d_X_answer_36 : decode b_X_answer 36 = .ok (.if_icmp .eq 19, 3) := by decide +kernel
theorem d_X_answer_39 : decode b_X_answer 39 = .ok (.aload_n 0, 1) := by decide +kernel
theorem d_X_answer_40 : decode b_X_answer 40 = .ok (.iload_n 1, 1) := by decide +kernel
theorem d_X_answer_41 : decode b_X_answer 41 = .ok (.invokevirtual 106, 3) := by decide +kernel
theorem d_X_answer_44 : decode b_X_answer 44 = .ok (.iload_n 2, 1) := by decide +kernel
theorem d_X_answer_45 : decode b_X_answer 45 = .ok (.iconst (-1), 1) := by decide +kernel
theorem d_X_answer_46 : decode b_X_answer 46 = .ok (.if_icmp .eq 9, 3) := by decide +kernel
theorem d_X_answer_49 : decode b_X_answer 49 = .ok (.aload_n 0, 1) := by decide +kernel
theorem d_X_answer_50 : decode b_X_answer 50 = .ok (.iload_n 1, 1) := by decide +kernel
theorem d_X_answer_51 : decode b_X_answer 51 = .ok (.iload_n 2, 1) := by decide +kernel
theorem d_X_answer_52 : decode b_X_answer 52 = .ok (.invokevirtual 109, 3) := by decide +kernel
theorem d_X_answer_55 : decode b_X_answer 55 = .ok (.aload_n 0, 1) := by decide +kernel
theorem d_X_answer_56 : decode b_X_answer 56 = .ok (.invokevirtual 113, 3) := by decide +kernel
theorem d_X_answer_59 : decode b_X_answer 59 = .ok (.invokestatic 117, 3) := by decide +kernel
theorem d_X_answer_62 : decode b_X_answer 62 = .ok (.ireturn, 1) := by decide +kernel
theorem d_X_question_0 : decode b_X_question 0 = .ok (.aload_n 0, 1) := by decide +kernel
theorem d_X_question_1 : decode b_X_question 1 = .ok (.invokevirtual 113, 3) := by decide +kernel
theorem d_X_question_4 : decode b_X_question 4 = .ok (.istore_n 1, 1) := by decide +kernel
theorem d_X_question_5 : decode b_X_question 5 = .ok (.aload_n 0, 1) := by decide +kernel
theorem d_X_question_6 : decode b_X_question 6 = .ok (.iload_n 1, 1) := by decide +kernel
theorem d_X_question_7 : decode b_X_question 7 = .ok (.aload_n 0, 1) := by decide +kernel
theorem d_X_question_8 : decode b_X_question 8 = .ok (.invokevirtual 122, 3) := by decide +kernel
theorem d_X_question_11 : decode b_X_question 11 = .ok (.invokevirtual 125, 3) := by decide +kernel
theorem d_X_question_14 : decode b_X_question 14 = .ok (.istore_n 2, 1) := by decide +kernel
theorem d_X_question_15 : decode b_X_question 15 = .ok (.iconst (-1), 1) := by decide +kernel
theorem d_X_question_16 : decode b_X_question 16 = .ok (.istore_n 3, 1) := by decide +kernel
theorem d_X_question_17 : decode b_X_question 17 = .ok (.iload_n 2, 1) := by decide +kernel
theorem d_X_question_18 : decode b_X_question 18 = .ok (.invokestatic 117, 3) := by decide +kernel
theorem d_X_question_21 : decode b_X_question 21 = .ok (.iconst 1, 1) := by decide +kernel
theorem d_X_question_22 : decode b_X_question 22 = .ok (.iadd, 1) := by decide +kernel
theorem d_X_question_23 : decode b_X_question 23 = .ok (.istore 4, 2) := by decide +kernel
theorem d_X_question_25 : decode b_X_question 25 = .ok (.iconst 0, 1) := by decide +kernel
theorem d_X_question_26 : decode b_X_question 26 = .ok (.istore 5, 2) := by decide +kernel
theorem d_X_question_28 : decode b_X_question 28 = .ok (.iload 5, 2) := by decide +kernel
theorem d_X_question_30 : decode b_X_question 30 = .ok (.iconst 5, 1) := by decide +kernel
theorem d_X_question_31 : decode b_X_question 31 = .ok (.if_icmp .ge 50, 3) := by decide +kernel
theorem d_X_question_34 : decode b_X_question 34 = .ok (.iload 4, 2) := by decide +kernel
theorem d_X_question_36 : decode b_X_question 36 = .ok (.iconst 1, 1) := by decide +kernel
theorem d_X_question_37 : decode b_X_question 37 = .ok (.if_icmp .le 44, 3) := by decide +kernel
theorem d_X_question_40 : decode b_X_question 40 = .ok (.iload_n 2, 1) := by decide +kernel
theorem d_X_question_41 : decode b_X_question 41 = .ok (.iload 5, 2) := by decide +kernel
theorem d_X_question_43 : decode b_X_question 43 = .ok (.invokestatic 100, 3) := by decide +kernel
theorem d_X_question_46 : decode b_X_question 46 = .ok (.ifCond .eq 29, 3) := by decide +kernel
theorem d_X_question_49 : decode b_X_question 49 = .ok (.aload_n 0, 1) := by decide +kernel
theorem d_X_question_50 : decode b_X_question 50 = .ok (.iload 5, 2) := by decide +kernel
theorem d_X_question_52 : decode b_X_question 52 = .ok (.iload_n 1, 1) := by decide +kernel
theorem d_X_question_53 : decode b_X_question 53 = .ok (.iload_n 2, 1) := by decide +kernel
theorem d_X_question_54 : decode b_X_question 54 = .ok (.iload 4, 2) := by decide +kernel
theorem d_X_question_56 : decode b_X_question 56 = .ok (.invokevirtual 128, 3) := by decide +kernel
theorem d_X_question_59 : decode b_X_question 59 = .ok (.istore 6, 2) := by decide +kernel
theorem d_X_question_61 : decode b_X_question 61 = .ok (.iload 6, 2) := by decide +kernel
theorem d_X_question_63 : decode b_X_question 63 = .ok (.iload 4, 2) := by decide +kernel
theorem d_X_question_65 : decode b_X_question 65 = .ok (.if_icmp .ge 10, 3) := by decide +kernel
theorem d_X_question_68 : decode b_X_question 68 = .ok (.iload 6, 2) := by decide +kernel
theorem d_X_question_70 : decode b_X_question 70 = .ok (.istore 4, 2) := by decide +kernel
theorem d_X_question_72 : decode b_X_question 72 = .ok (.iload 5, 2) := by decide +kernel
theorem d_X_question_74 : decode b_X_question 74 = .ok (.istore_n 3, 1) := by decide +kernel
theorem d_X_question_75 : decode b_X_question 75 = .ok (.iinc 5 1, 3) := by decide +kernel
theorem d_X_question_78 : decode b_X_question 78 = .ok (.goto (-50), 3) := by decide +kernel
theorem d_X_question_81 : decode b_X_question 81 = .ok (.iload_n 3, 1) := by decide +kernel
theorem d_X_question_82 : decode b_X_question 82 = .ok (.ireturn, 1) := by decide +kernel
theorem d_X_needed_0 : decode b_X_needed 0 = .ok (.aload_n 0, 1) := by decide +kernel
theorem d_X_needed_1 : decode b_X_needed 1 = .ok (.aload_n 0, 1) := by decide +kernel
theorem d_X_needed_2 : decode b_X_needed 2 = .ok (.invokevirtual 113, 3) := by decide +kernel
theorem d_X_needed_5 : decode b_X_needed 5 = .ok (.aload_n 0, 1) := by decide +kernel
theorem d_X_needed_6 : decode b_X_needed 6 = .ok (.invokevirtual 122, 3) := by decide +kernel
theorem d_X_needed_9 : decode b_X_needed 9 = .ok (.iconst 1, 1) := by decide +kernel
theorem d_X_needed_10 : decode b_X_needed 10 = .ok (.iconst 5, 1) := by decide +kernel
theorem d_X_needed_11 : decode b_X_needed 11 = .ok (.invokevirtual 132, 3) := by decide +kernel
theorem d_X_needed_14 : decode b_X_needed 14 = .ok (.ireturn, 1) := by decide +kernel
theorem d_X_found_0 : decode b_X_found 0 = .ok (.aload_n 0, 1) := by decide +kernel
theorem d_X_found_1 : decode b_X_found 1 = .ok (.invokevirtual 135, 3) := by decide +kernel
theorem d_X_found_4 : decode b_X_found 4 = .ok (.istore_n 1, 1) := by decide +kernel
theorem d_X_found_5 : decode b_X_found 5 = .ok (.iload_n 1, 1) := by decide +kernel
theorem d_X_found_6 : decode b_X_found 6 = .ok (.ifCond .le 5, 3) := by decide +kernel
theorem d_X_found_9 : decode b_X_found 9 = .ok (.iload_n 1, 1) := by decide +kernel
theorem d_X_found_10 : decode b_X_found 10 = .ok (.ireturn, 1) := by decide +kernel
theorem d_X_found_11 : decode b_X_found 11 = .ok (.aload_n 0, 1) := by decide +kernel
theorem d_X_found_12 : decode b_X_found 12 = .ok (.aload_n 0, 1) := by decide +kernel
theorem d_X_found_13 : decode b_X_found 13 = .ok (.aload_n 0, 1) := by decide +kernel
theorem d_X_found_14 : decode b_X_found 14 = .ok (.aload_n 0, 1) := by decide +kernel
theorem d_X_found_15 : decode b_X_found 15 = .ok (.invokevirtual 113, 3) := by decide +kernel
theorem d_X_found_18 : decode b_X_found 18 = .ok (.invokevirtual 138, 3) := by decide +kernel
theorem d_X_found_21 : decode b_X_found 21 = .ok (.invokevirtual 141, 3) := by decide +kernel
theorem d_X_found_24 : decode b_X_found 24 = .ok (.invokevirtual 144, 3) := by decide +kernel
theorem d_X_found_27 : decode b_X_found 27 = .ok (.ireturn, 1) := by decide +kernel
theorem d_X_why_0 : decode b_X_why 0 = .ok (.aload_n 0, 1) := by decide +kernel
theorem d_X_why_1 : decode b_X_why 1 = .ok (.invokevirtual 135, 3) := by decide +kernel
theorem d_X_why_4 : decode b_X_why 4 = .ok (.ifCond .le 5, 3) := by decide +kernel
theorem d_X_why_7 : decode b_X_why 7 = .ok (.iconst 1, 1) := by decide +kernel
theorem d_X_why_8 : decode b_X_why 8 = .ok (.ireturn, 1) := by decide +kernel
theorem d_X_why_9 : decode b_X_why 9 = .ok (.aload_n 0, 1) := by decide +kernel
theorem d_X_why_10 : decode b_X_why 10 = .ok (.invokevirtual 113, 3) := by decide +kernel
theorem d_X_why_13 : decode b_X_why 13 = .ok (.istore_n 1, 1) := by decide +kernel
theorem d_X_why_14 : decode b_X_why 14 = .ok (.iload_n 1, 1) := by decide +kernel
theorem d_X_why_15 : decode b_X_why 15 = .ok (.ifCond .ne 5, 3) := by decide +kernel
theorem d_X_why_18 : decode b_X_why 18 = .ok (.iconst 0, 1) := by decide +kernel
theorem d_X_why_19 : decode b_X_why 19 = .ok (.ireturn, 1) := by decide +kernel
theorem d_X_why_20 : decode b_X_why 20 = .ok (.iload_n 1, 1) := by decide +kernel
theorem d_X_why_21 : decode b_X_why 21 = .ok (.invokestatic 117, 3) := by decide +kernel
theorem d_X_why_24 : decode b_X_why 24 = .ok (.iconst 1, 1) := by decide +kernel
theorem d_X_why_25 : decode b_X_why 25 = .ok (.if_icmp .ne 5, 3) := by decide +kernel
theorem d_X_why_28 : decode b_X_why 28 = .ok (.iconst 2, 1) := by decide +kernel
theorem d_X_why_29 : decode b_X_why 29 = .ok (.ireturn, 1) := by decide +kernel
theorem d_X_why_30 : decode b_X_why 30 = .ok (.aload_n 0, 1) := by decide +kernel
theorem d_X_why_31 : decode b_X_why 31 = .ok (.iload_n 1, 1) := by decide +kernel
theorem d_X_why_32 : decode b_X_why 32 = .ok (.invokevirtual 138, 3) := by decide +kernel
theorem d_X_why_35 : decode b_X_why 35 = .ok (.istore_n 1, 1) := by decide +kernel
theorem d_X_why_36 : decode b_X_why 36 = .ok (.iload_n 1, 1) := by decide +kernel
theorem d_X_why_37 : decode b_X_why 37 = .ok (.invokestatic 117, 3) := by decide +kernel
theorem d_X_why_40 : decode b_X_why 40 = .ok (.iconst 1, 1) := by decide +kernel
theorem d_X_why_41 : decode b_X_why 41 = .ok (.if_icmp .ne 5, 3) := by decide +kernel
theorem d_X_why_44 : decode b_X_why 44 = .ok (.iconst 3, 1) := by decide +kernel
theorem d_X_why_45 : decode b_X_why 45 = .ok (.ireturn, 1) := by decide +kernel
theorem d_X_why_46 : decode b_X_why 46 = .ok (.aload_n 0, 1) := by decide +kernel
theorem d_X_why_47 : decode b_X_why 47 = .ok (.iload_n 1, 1) := by decide +kernel
theorem d_X_why_48 : decode b_X_why 48 = .ok (.invokevirtual 141, 3) := by decide +kernel
theorem d_X_why_51 : decode b_X_why 51 = .ok (.istore_n 1, 1) := by decide +kernel
theorem d_X_why_52 : decode b_X_why 52 = .ok (.iload_n 1, 1) := by decide +kernel
theorem d_X_why_53 : decode b_X_why 53 = .ok (.invokestatic 117, 3) := by decide +kernel
theorem d_X_why_56 : decode b_X_why 56 = .ok (.iconst 1, 1) := by decide +kernel
theorem d_X_why_57 : decode b_X_why 57 = .ok (.if_icmp .ne 7, 3) := by decide +kernel
theorem d_X_why_60 : decode b_X_why 60 = .ok (.iconst 4, 1) := by decide +kernel
theorem d_X_why_61 : decode b_X_why 61 = .ok (.goto 4, 3) := by decide +kernel
theorem d_X_why_64 : decode b_X_why 64 = .ok (.iconst 5, 1) := by decide +kernel
theorem d_X_why_65 : decode b_X_why 65 = .ok (.ireturn, 1) := by decide +kernel
theorem d_X_left_0 : decode b_X_left 0 = .ok (.aload_n 0, 1) := by decide +kernel
theorem d_X_left_1 : decode b_X_left 1 = .ok (.invokevirtual 113, 3) := by decide +kernel
theorem d_X_left_4 : decode b_X_left 4 = .ok (.istore_n 2, 1) := by decide +kernel
theorem d_X_left_5 : decode b_X_left 5 = .ok (.iconst 0, 1) := by decide +kernel
theorem d_X_left_6 : decode b_X_left 6 = .ok (.istore_n 3, 1) := by decide +kernel
theorem d_X_left_7 : decode b_X_left 7 = .ok (.iconst 0, 1) := by decide +kernel
theorem d_X_left_8 : decode b_X_left 8 = .ok (.istore 4, 2) := by decide +kernel
theorem d_X_left_10 : decode b_X_left 10 = .ok (.iload 4, 2) := by decide +kernel
theorem d_X_left_12 : decode b_X_left 12 = .ok (.aload_n 0, 1) := by decide +kernel
theorem d_X_left_13 : decode b_X_left 13 = .ok (.getfield 60, 3) := by decide +kernel
theorem d_X_left_16 : decode b_X_left 16 = .ok (.if_icmp .ge 34, 3) := by decide +kernel
theorem d_X_left_19 : decode b_X_left 19 = .ok (.iload_n 2, 1) := by decide +kernel
theorem d_X_left_20 : decode b_X_left 20 = .ok (.iload 4, 2) := by decide +kernel
theorem d_X_left_22 : decode b_X_left 22 = .ok (.invokestatic 100, 3) := by decide +kernel
theorem d_X_left_25 : decode b_X_left 25 = .ok (.ifCond .eq 19, 3) := by decide +kernel
theorem d_X_left_28 : decode b_X_left 28 = .ok (.iload_n 3, 1) := by decide +kernel
theorem d_X_left_29 : decode b_X_left 29 = .ok (.iload_n 1, 1) := by decide +kernel
theorem d_X_left_30 : decode b_X_left 30 = .ok (.if_icmp .ne 11, 3) := by decide +kernel
theorem d_X_left_33 : decode b_X_left 33 = .ok (.aload_n 0, 1) := by decide +kernel
theorem d_X_left_34 : decode b_X_left 34 = .ok (.getfield 9, 3) := by decide +kernel
theorem d_X_left_37 : decode b_X_left 37 = .ok (.iload 4, 2) := by decide +kernel
theorem d_X_left_39 : decode b_X_left 39 = .ok (.iaload, 1) := by decide +kernel
theorem d_X_left_40 : decode b_X_left 40 = .ok (.ireturn, 1) := by decide +kernel
theorem d_X_left_41 : decode b_X_left 41 = .ok (.iinc 3 1, 3) := by decide +kernel
theorem d_X_left_44 : decode b_X_left 44 = .ok (.iinc 4 1, 3) := by decide +kernel
theorem d_X_left_47 : decode b_X_left 47 = .ok (.goto (-37), 3) := by decide +kernel
theorem d_X_left_50 : decode b_X_left 50 = .ok (.iconst (-1), 1) := by decide +kernel
theorem d_X_left_51 : decode b_X_left 51 = .ok (.ireturn, 1) := by decide +kernel
theorem d_X_emptied_0 : decode b_X_emptied 0 = .ok (.aload_n 0, 1) := by decide +kernel
theorem d_X_emptied_1 : decode b_X_emptied 1 = .ok (.getfield 60, 3) := by decide +kernel
theorem d_X_emptied_4 : decode b_X_emptied 4 = .ok (.ifCond .ne 5, 3) := by decide +kernel
theorem d_X_emptied_7 : decode b_X_emptied 7 = .ok (.iconst (-1), 1) := by decide +kernel
theorem d_X_emptied_8 : decode b_X_emptied 8 = .ok (.ireturn, 1) := by decide +kernel
theorem d_X_emptied_9 : decode b_X_emptied 9 = .ok (.aload_n 0, 1) := by decide +kernel
theorem d_X_emptied_10 : decode b_X_emptied 10 = .ok (.invokevirtual 147, 3) := by decide +kernel
theorem d_X_emptied_13 : decode b_X_emptied 13 = .ok (.istore_n 1, 1) := by decide +kernel
theorem d_X_emptied_14 : decode b_X_emptied 14 = .ok (.iconst 0, 1) := by decide +kernel
theorem d_X_emptied_15 : decode b_X_emptied 15 = .ok (.istore_n 2, 1) := by decide +kernel
theorem d_X_emptied_16 : decode b_X_emptied 16 = .ok (.iload_n 2, 1) := by decide +kernel
theorem d_X_emptied_17 : decode b_X_emptied 17 = .ok (.aload_n 0, 1) := by decide +kernel
theorem d_X_emptied_18 : decode b_X_emptied 18 = .ok (.getfield 150, 3) := by decide +kernel
theorem d_X_emptied_21 : decode b_X_emptied 21 = .ok (.if_icmp .ge 43, 3) := by decide +kernel
theorem d_X_emptied_24 : decode b_X_emptied 24 = .ok (.aload_n 0, 1) := by decide +kernel
theorem d_X_emptied_25 : decode b_X_emptied 25 = .ok (.getfield 34, 3) := by decide +kernel
theorem d_X_emptied_28 : decode b_X_emptied 28 = .ok (.iload_n 2, 1) := by decide +kernel
theorem d_X_emptied_29 : decode b_X_emptied 29 = .ok (.iaload, 1) := by decide +kernel
theorem d_X_emptied_30 : decode b_X_emptied 30 = .ok (.istore_n 3, 1) := by decide +kernel
theorem d_X_emptied_31 : decode b_X_emptied 31 = .ok (.iload_n 1, 1) := by decide +kernel
theorem d_X_emptied_32 : decode b_X_emptied 32 = .ok (.aload_n 0, 1) := by decide +kernel
theorem d_X_emptied_33 : decode b_X_emptied 33 = .ok (.iload_n 3, 1) := by decide +kernel
theorem d_X_emptied_34 : decode b_X_emptied 34 = .ok (.aload_n 0, 1) := by decide +kernel
theorem d_X_emptied_35 : decode b_X_emptied 35 = .ok (.iload_n 3, 1) := by decide +kernel
theorem d_X_emptied_36 : decode b_X_emptied 36 = .ok (.invokevirtual 153, 3) := by decide +kernel
theorem d_X_emptied_39 : decode b_X_emptied 39 = .ok (.invokevirtual 156, 3) := by decide +kernel
theorem d_X_emptied_42 : decode b_X_emptied 42 = .ok (.iand, 1) := by decide +kernel
theorem d_X_emptied_43 : decode b_X_emptied 43 = .ok (.istore_n 1, 1) := by decide +kernel
theorem d_X_emptied_44 : decode b_X_emptied 44 = .ok (.iload_n 1, 1) := by decide +kernel
theorem d_X_emptied_45 : decode b_X_emptied 45 = .ok (.ifCond .ne 13, 3) := by decide +kernel
theorem d_X_emptied_48 : decode b_X_emptied 48 = .ok (.iload_n 3, 1) := by decide +kernel
theorem d_X_emptied_49 : decode b_X_emptied 49 = .ok (.aload_n 0, 1) := by decide +kernel
theorem d_X_emptied_50 : decode b_X_emptied 50 = .ok (.iload_n 3, 1) := by decide +kernel
theorem d_X_emptied_51 : decode b_X_emptied 51 = .ok (.invokevirtual 153, 3) := by decide +kernel
theorem d_X_emptied_54 : decode b_X_emptied 54 = .ok (.invokestatic 96, 3) := by decide +kernel
theorem d_X_emptied_57 : decode b_X_emptied 57 = .ok (.ireturn, 1) := by decide +kernel
theorem d_X_emptied_58 : decode b_X_emptied 58 = .ok (.iinc 2 1, 3) := by decide +kernel
theorem d_X_emptied_61 : decode b_X_emptied 61 = .ok (.goto (-45), 3) := by decide +kernel
theorem d_X_emptied_64 : decode b_X_emptied 64 = .ok (.iconst (-1), 1) := by decide +kernel
theorem d_X_emptied_65 : decode b_X_emptied 65 = .ok (.ireturn, 1) := by decide +kernel
theorem d_X_explain_0 : decode b_X_explain 0 = .ok (.aload_n 0, 1) := by decide +kernel
theorem d_X_explain_1 : decode b_X_explain 1 = .ok (.iload_n 1, 1) := by decide +kernel
theorem d_X_explain_2 : decode b_X_explain 2 = .ok (.invokevirtual 69, 3) := by decide +kernel
theorem d_X_explain_5 : decode b_X_explain 5 = .ok (.istore_n 2, 1) := by decide +kernel
theorem d_X_explain_6 : decode b_X_explain 6 = .ok (.iload_n 2, 1) := by decide +kernel
theorem d_X_explain_7 : decode b_X_explain 7 = .ok (.iconst (-1), 1) := by decide +kernel
theorem d_X_explain_8 : decode b_X_explain 8 = .ok (.if_icmp .ne 13, 3) := by decide +kernel
theorem d_X_explain_11 : decode b_X_explain 11 = .ok (.new 53, 3) := by decide +kernel
theorem d_X_explain_14 : decode b_X_explain 14 = .ok (.dup, 1) := by decide +kernel
theorem d_X_explain_15 : decode b_X_explain 15 = .ok (.ldc 159, 2) := by decide +kernel
theorem d_X_explain_17 : decode b_X_explain 17 = .ok (.invokespecial 57, 3) := by decide +kernel
theorem d_X_explain_20 : decode b_X_explain 20 = .ok (.athrow, 1) := by decide +kernel
theorem d_X_explain_21 : decode b_X_explain 21 = .ok (.iconst 0, 1) := by decide +kernel
theorem d_X_explain_22 : decode b_X_explain 22 = .ok (.istore_n 3, 1) := by decide +kernel
theorem d_X_explain_23 : decode b_X_explain 23 = .ok (.iload_n 3, 1) := by decide +kernel
theorem d_X_explain_24 : decode b_X_explain 24 = .ok (.aload_n 0, 1) := by decide +kernel
theorem d_X_explain_25 : decode b_X_explain 25 = .ok (.getfield 150, 3) := by decide +kernel
theorem d_X_explain_28 : decode b_X_explain 28 = .ok (.if_icmp .ge 48, 3) := by decide +kernel
theorem d_X_explain_31 : decode b_X_explain 31 = .ok (.aload_n 0, 1) := by decide +kernel
theorem d_X_explain_32 : decode b_X_explain 32 = .ok (.getfield 34, 3) := by decide +kernel
theorem d_X_explain_35 : decode b_X_explain 35 = .ok (.iload_n 3, 1) := by decide +kernel
theorem d_X_explain_36 : decode b_X_explain 36 = .ok (.iaload, 1) := by decide +kernel
theorem d_X_explain_37 : decode b_X_explain 37 = .ok (.istore 4, 2) := by decide +kernel
theorem d_X_explain_39 : decode b_X_explain 39 = .ok (.aload_n 0, 1) := by decide +kernel
theorem d_X_explain_40 : decode b_X_explain 40 = .ok (.iload 4, 2) := by decide +kernel
theorem d_X_explain_42 : decode b_X_explain 42 = .ok (.aload_n 0, 1) := by decide +kernel
theorem d_X_explain_43 : decode b_X_explain 43 = .ok (.iload 4, 2) := by decide +kernel
theorem d_X_explain_45 : decode b_X_explain 45 = .ok (.invokevirtual 153, 3) := by decide +kernel
theorem d_X_explain_48 : decode b_X_explain 48 = .ok (.invokevirtual 156, 3) := by decide +kernel
theorem d_X_explain_51 : decode b_X_explain 51 = .ok (.iload_n 2, 1) := by decide +kernel
theorem d_X_explain_52 : decode b_X_explain 52 = .ok (.invokestatic 100, 3) := by decide +kernel
theorem d_X_explain_55 : decode b_X_explain 55 = .ok (.ifCond .ne 15, 3) := by decide +kernel
theorem d_X_explain_58 : decode b_X_explain 58 = .ok (.iload 4, 2) := by decide +kernel
theorem d_X_explain_60 : decode b_X_explain 60 = .ok (.aload_n 0, 1) := by decide +kernel
theorem d_X_explain_61 : decode b_X_explain 61 = .ok (.iload 4, 2) := by decide +kernel
theorem d_X_explain_63 : decode b_X_explain 63 = .ok (.invokevirtual 153, 3) := by decide +kernel
theorem d_X_explain_66 : decode b_X_explain 66 = .ok (.invokestatic 96, 3) := by decide +kernel
theorem d_X_explain_69 : decode b_X_explain 69 = .ok (.ireturn, 1) := by decide +kernel
theorem d_X_explain_70 : decode b_X_explain 70 = .ok (.iinc 3 1, 3) := by decide +kernel
theorem d_X_explain_73 : decode b_X_explain 73 = .ok (.goto (-50), 3) := by decide +kernel
theorem d_X_explain_76 : decode b_X_explain 76 = .ok (.iconst (-1), 1) := by decide +kernel
theorem d_X_explain_77 : decode b_X_explain 77 = .ok (.ireturn, 1) := by decide +kernel
theorem d_X_precedent_0 : decode b_X_precedent 0 = .ok (.iload 4, 2) := by decide +kernel
theorem d_X_precedent_2 : decode b_X_precedent 2 = .ok (.iconst (-1), 1) := by decide +kernel
theorem d_X_precedent_3 : decode b_X_precedent 3 = .ok (.if_icmp .ne 7, 3) := by decide +kernel
theorem d_X_precedent_6 : decode b_X_precedent 6 = .ok (.iconst 1, 1) := by decide +kernel
theorem d_X_precedent_7 : decode b_X_precedent 7 = .ok (.goto 4, 3) := by decide +kernel
theorem d_X_precedent_10 : decode b_X_precedent 10 = .ok (.iconst 0, 1) := by decide +kernel
theorem d_X_precedent_11 : decode b_X_precedent 11 = .ok (.istore 7, 2) := by decide +kernel
theorem d_X_precedent_13 : decode b_X_precedent 13 = .ok (.iload_n 2, 1) := by decide +kernel
theorem d_X_precedent_14 : decode b_X_precedent 14 = .ok (.invokestatic 83, 3) := by decide +kernel
theorem d_X_precedent_17 : decode b_X_precedent 17 = .ok (.ifCond .eq 56, 3) := by decide +kernel
theorem d_X_precedent_20 : decode b_X_precedent 20 = .ok (.iload_n 3, 1) := by decide +kernel
theorem d_X_precedent_21 : decode b_X_precedent 21 = .ok (.invokestatic 86, 3) := by decide +kernel
theorem d_X_precedent_24 : decode b_X_precedent 24 = .ok (.ifCond .eq 49, 3) := by decide +kernel
theorem d_X_precedent_27 : decode b_X_precedent 27 = .ok (.iload 7, 2) := by decide +kernel
theorem d_X_precedent_29 : decode b_X_precedent 29 = .ok (.ifCond .ne 25, 3) := by decide +kernel
theorem d_X_precedent_32 : decode b_X_precedent 32 = .ok (.iload 4, 2) := by decide +kernel
theorem d_X_precedent_34 : decode b_X_precedent 34 = .ok (.invokestatic 83, 3) := by decide +kernel
theorem d_X_precedent_37 : decode b_X_precedent 37 = .ok (.ifCond .eq 36, 3) := by decide +kernel
theorem d_X_precedent_40 : decode b_X_precedent 40 = .ok (.iload 5, 2) := by decide +kernel
theorem d_X_precedent_42 : decode b_X_precedent 42 = .ok (.invokestatic 86, 3) := by decide +kernel
theorem d_X_precedent_45 : decode b_X_precedent 45 = .ok (.ifCond .eq 28, 3) := by decide +kernel
theorem d_X_precedent_48 : decode b_X_precedent 48 = .ok (.iload 4, 2) := by decide +kernel
theorem d_X_precedent_50 : decode b_X_precedent 50 = .ok (.iload_n 2, 1) := by decide +kernel
theorem d_X_precedent_51 : decode b_X_precedent 51 = .ok (.if_icmp .eq 22, 3) := by decide +kernel
theorem d_X_precedent_54 : decode b_X_precedent 54 = .ok (.iload_n 1, 1) := by decide +kernel
theorem d_X_precedent_55 : decode b_X_precedent 55 = .ok (.invokestatic 49, 3) := by decide +kernel
theorem d_X_precedent_58 : decode b_X_precedent 58 = .ok (.ifCond .eq 15, 3) := by decide +kernel
theorem d_X_precedent_61 : decode b_X_precedent 61 = .ok (.iload 6, 2) := by decide +kernel
theorem d_X_precedent_63 : decode b_X_precedent 63 = .ok (.ifCond .lt 10, 3) := by decide +kernel
theorem d_X_precedent_66 : decode b_X_precedent 66 = .ok (.iload 6, 2) := by decide +kernel
theorem d_X_precedent_68 : decode b_X_precedent 68 = .ok (.ldc 161, 2) := by decide +kernel
theorem d_X_precedent_70 : decode b_X_precedent 70 = .ok (.if_icmp .le 13, 3) := by decide +kernel
theorem d_X_precedent_73 : decode b_X_precedent 73 = .ok (.new 53, 3) := by decide +kernel
theorem d_X_precedent_76 : decode b_X_precedent 76 = .ok (.dup, 1) := by decide +kernel
theorem d_X_precedent_77 : decode b_X_precedent 77 = .ok (.ldc 162, 2) := by decide +kernel
theorem d_X_precedent_79 : decode b_X_precedent 79 = .ok (.invokespecial 57, 3) := by decide +kernel
theorem d_X_precedent_82 : decode b_X_precedent 82 = .ok (.athrow, 1) := by decide +kernel
theorem d_X_precedent_83 : decode b_X_precedent 83 = .ok (.aload_n 0, 1) := by decide +kernel
theorem d_X_precedent_84 : decode b_X_precedent 84 = .ok (.getfield 164, 3) := by decide +kernel
theorem d_X_precedent_87 : decode b_X_precedent 87 = .ok (.bipush 20, 2) := by decide +kernel
theorem d_X_precedent_89 : decode b_X_precedent 89 = .ok (.if_icmp .lt 13, 3) := by decide +kernel
theorem d_X_precedent_92 : decode b_X_precedent 92 = .ok (.new 64, 3) := by decide +kernel
theorem d_X_precedent_95 : decode b_X_precedent 95 = .ok (.dup, 1) := by decide +kernel
theorem d_X_precedent_96 : decode b_X_precedent 96 = .ok (.ldc 167, 2) := by decide +kernel
theorem d_X_precedent_98 : decode b_X_precedent 98 = .ok (.invokespecial 68, 3) := by decide +kernel
theorem d_X_precedent_101 : decode b_X_precedent 101 = .ok (.athrow, 1) := by decide +kernel
theorem d_X_precedent_102 : decode b_X_precedent 102 = .ok (.aload_n 0, 1) := by decide +kernel
theorem d_X_precedent_103 : decode b_X_precedent 103 = .ok (.getfield 37, 3) := by decide +kernel
theorem d_X_precedent_106 : decode b_X_precedent 106 = .ok (.aload_n 0, 1) := by decide +kernel
theorem d_X_precedent_107 : decode b_X_precedent 107 = .ok (.getfield 164, 3) := by decide +kernel
theorem d_X_precedent_110 : decode b_X_precedent 110 = .ok (.iload_n 1, 1) := by decide +kernel
theorem d_X_precedent_111 : decode b_X_precedent 111 = .ok (.iastore, 1) := by decide +kernel
theorem d_X_precedent_112 : decode b_X_precedent 112 = .ok (.aload_n 0, 1) := by decide +kernel
theorem d_X_precedent_113 : decode b_X_precedent 113 = .ok (.getfield 40, 3) := by decide +kernel
theorem d_X_precedent_116 : decode b_X_precedent 116 = .ok (.aload_n 0, 1) := by decide +kernel
theorem d_X_precedent_117 : decode b_X_precedent 117 = .ok (.getfield 164, 3) := by decide +kernel
theorem d_X_precedent_120 : decode b_X_precedent 120 = .ok (.iload_n 2, 1) := by decide +kernel
theorem d_X_precedent_121 : decode b_X_precedent 121 = .ok (.iload_n 3, 1) := by decide +kernel
theorem d_X_precedent_122 : decode b_X_precedent 122 = .ok (.invokestatic 96, 3) := by decide +kernel
theorem d_X_precedent_125 : decode b_X_precedent 125 = .ok (.iastore, 1) := by decide +kernel
theorem d_X_precedent_126 : decode b_X_precedent 126 = .ok (.aload_n 0, 1) := by decide +kernel
theorem d_X_precedent_127 : decode b_X_precedent 127 = .ok (.getfield 43, 3) := by decide +kernel
theorem d_X_precedent_130 : decode b_X_precedent 130 = .ok (.aload_n 0, 1) := by decide +kernel
theorem d_X_precedent_131 : decode b_X_precedent 131 = .ok (.getfield 164, 3) := by decide +kernel
theorem d_X_precedent_134 : decode b_X_precedent 134 = .ok (.iload 7, 2) := by decide +kernel
theorem d_X_precedent_136 : decode b_X_precedent 136 = .ok (.ifCond .eq 7, 3) := by decide +kernel
theorem d_X_precedent_139 : decode b_X_precedent 139 = .ok (.iconst (-1), 1) := by decide +kernel
theorem d_X_precedent_140 : decode b_X_precedent 140 = .ok (.goto 10, 3) := by decide +kernel
theorem d_X_precedent_143 : decode b_X_precedent 143 = .ok (.iload 4, 2) := by decide +kernel
theorem d_X_precedent_145 : decode b_X_precedent 145 = .ok (.iload 5, 2) := by decide +kernel
theorem d_X_precedent_147 : decode b_X_precedent 147 = .ok (.invokestatic 96, 3) := by decide +kernel
theorem d_X_precedent_150 : decode b_X_precedent 150 = .ok (.iastore, 1) := by decide +kernel
theorem d_X_precedent_151 : decode b_X_precedent 151 = .ok (.aload_n 0, 1) := by decide +kernel
theorem d_X_precedent_152 : decode b_X_precedent 152 = .ok (.getfield 46, 3) := by decide +kernel
theorem d_X_precedent_155 : decode b_X_precedent 155 = .ok (.aload_n 0, 1) := by decide +kernel
theorem d_X_precedent_156 : decode b_X_precedent 156 = .ok (.getfield 164, 3) := by decide +kernel
theorem d_X_precedent_159 : decode b_X_precedent 159 = .ok (.iload 6, 2) := by decide +kernel
theorem d_X_precedent_161 : decode b_X_precedent 161 = .ok (.iastore, 1) := by decide +kernel
theorem d_X_precedent_162 : decode b_X_precedent 162 = .ok (.aload_n 0, 1) := by decide +kernel
theorem d_X_precedent_163 : decode b_X_precedent 163 = .ok (.dup, 1) := by decide +kernel
theorem d_X_precedent_164 : decode b_X_precedent 164 = .ok (.getfield 164, 3) := by decide +kernel
theorem d_X_precedent_167 : decode b_X_precedent 167 = .ok (.iconst 1, 1) := by decide +kernel
theorem d_X_precedent_168 : decode b_X_precedent 168 = .ok (.iadd, 1) := by decide +kernel
theorem d_X_precedent_169 : decode b_X_precedent 169 = .ok (.putfield 164, 3) := by decide +kernel
theorem d_X_precedent_172 : decode b_X_precedent 172 = .ok (.aload_n 0, 1) := by decide +kernel
theorem d_X_precedent_173 : decode b_X_precedent 173 = .ok (.getfield 164, 3) := by decide +kernel
theorem d_X_precedent_176 : decode b_X_precedent 176 = .ok (.ireturn, 1) := by decide +kernel
theorem d_X_contradicts_0 : decode b_X_contradicts 0 = .ok (.aload_n 0, 1) := by decide +kernel
theorem d_X_contradicts_1 : decode b_X_contradicts 1 = .ok (.invokevirtual 135, 3) := by decide +kernel
theorem d_X_contradicts_4 : decode b_X_contradicts 4 = .ok (.iconst (-1), 1) := by decide +kernel
theorem d_X_contradicts_5 : decode b_X_contradicts 5 = .ok (.if_icmp .ne 7, 3) := by decide +kernel
theorem d_X_contradicts_8 : decode b_X_contradicts 8 = .ok (.iconst 1, 1) := by decide +kernel
theorem d_X_contradicts_9 : decode b_X_contradicts 9 = .ok (.goto 4, 3) := by decide +kernel
theorem d_X_contradicts_12 : decode b_X_contradicts 12 = .ok (.iconst 0, 1) := by decide +kernel
theorem d_X_contradicts_13 : decode b_X_contradicts 13 = .ok (.ireturn, 1) := by decide +kernel
theorem d_X_day_0 : decode b_X_day 0 = .ok (.iload_n 1, 1) := by decide +kernel
theorem d_X_day_1 : decode b_X_day 1 = .ok (.aload_n 0, 1) := by decide +kernel
theorem d_X_day_2 : decode b_X_day 2 = .ok (.getfield 169, 3) := by decide +kernel
theorem d_X_day_5 : decode b_X_day 5 = .ok (.if_icmp .lt 9, 3) := by decide +kernel
theorem d_X_day_8 : decode b_X_day 8 = .ok (.iload_n 1, 1) := by decide +kernel
theorem d_X_day_9 : decode b_X_day 9 = .ok (.ldc 161, 2) := by decide +kernel
theorem d_X_day_11 : decode b_X_day 11 = .ok (.if_icmp .le 5, 3) := by decide +kernel
theorem d_X_day_14 : decode b_X_day 14 = .ok (.iconst 0, 1) := by decide +kernel
theorem d_X_day_15 : decode b_X_day 15 = .ok (.ireturn, 1) := by decide +kernel
theorem d_X_day_16 : decode b_X_day 16 = .ok (.aload_n 0, 1) := by decide +kernel
theorem d_X_day_17 : decode b_X_day 17 = .ok (.iload_n 1, 1) := by decide +kernel
theorem d_X_day_18 : decode b_X_day 18 = .ok (.putfield 169, 3) := by decide +kernel
theorem d_X_day_21 : decode b_X_day 21 = .ok (.iconst 1, 1) := by decide +kernel
theorem d_X_day_22 : decode b_X_day 22 = .ok (.ireturn, 1) := by decide +kernel
theorem d_X_count_0 : decode b_X_count 0 = .ok (.iload_n 1, 1) := by decide +kernel
theorem d_X_count_1 : decode b_X_count 1 = .ok (.tableswitch 81 0 6 #[43, 48, 53, 58, 66, 71, 76], 43) := by decide +kernel
theorem d_X_count_44 : decode b_X_count 44 = .ok (.aload_n 0, 1) := by decide +kernel
theorem d_X_count_45 : decode b_X_count 45 = .ok (.getfield 60, 3) := by decide +kernel
theorem d_X_count_48 : decode b_X_count 48 = .ok (.ireturn, 1) := by decide +kernel
theorem d_X_count_49 : decode b_X_count 49 = .ok (.aload_n 0, 1) := by decide +kernel
theorem d_X_count_50 : decode b_X_count 50 = .ok (.getfield 91, 3) := by decide +kernel
theorem d_X_count_53 : decode b_X_count 53 = .ok (.ireturn, 1) := by decide +kernel
theorem d_X_count_54 : decode b_X_count 54 = .ok (.aload_n 0, 1) := by decide +kernel
theorem d_X_count_55 : decode b_X_count 55 = .ok (.getfield 150, 3) := by decide +kernel
theorem d_X_count_58 : decode b_X_count 58 = .ok (.ireturn, 1) := by decide +kernel
theorem d_X_count_59 : decode b_X_count 59 = .ok (.aload_n 0, 1) := by decide +kernel
theorem d_X_count_60 : decode b_X_count 60 = .ok (.invokevirtual 113, 3) := by decide +kernel
theorem d_X_count_63 : decode b_X_count 63 = .ok (.invokestatic 117, 3) := by decide +kernel
theorem d_X_count_66 : decode b_X_count 66 = .ok (.ireturn, 1) := by decide +kernel
theorem d_X_count_67 : decode b_X_count 67 = .ok (.aload_n 0, 1) := by decide +kernel
theorem d_X_count_68 : decode b_X_count 68 = .ok (.getfield 164, 3) := by decide +kernel
theorem d_X_count_71 : decode b_X_count 71 = .ok (.ireturn, 1) := by decide +kernel
theorem d_X_count_72 : decode b_X_count 72 = .ok (.aload_n 0, 1) := by decide +kernel
theorem d_X_count_73 : decode b_X_count 73 = .ok (.invokevirtual 172, 3) := by decide +kernel
theorem d_X_count_76 : decode b_X_count 76 = .ok (.ireturn, 1) := by decide +kernel
theorem d_X_count_77 : decode b_X_count 77 = .ok (.aload_n 0, 1) := by decide +kernel
theorem d_X_count_78 : decode b_X_count 78 = .ok (.getfield 169, 3) := by decide +kernel
theorem d_X_count_81 : decode b_X_count 81 = .ok (.ireturn, 1) := by decide +kernel
theorem d_X_count_82 : decode b_X_count 82 = .ok (.aload_n 0, 1) := by decide +kernel
theorem d_X_count_83 : decode b_X_count 83 = .ok (.iload_n 1, 1) := by decide +kernel
theorem d_X_count_84 : decode b_X_count 84 = .ok (.bipush 10, 2) := by decide +kernel
theorem d_X_count_86 : decode b_X_count 86 = .ok (.isub, 1) := by decide +kernel
theorem d_X_count_87 : decode b_X_count 87 = .ok (.invokevirtual 153, 3) := by decide +kernel
theorem d_X_count_90 : decode b_X_count 90 = .ok (.ireturn, 1) := by decide +kernel
theorem d_X_isNumber_0 : decode b_X_isNumber 0 = .ok (.iload_n 0, 1) := by decide +kernel
theorem d_X_isNumber_1 : decode b_X_isNumber 1 = .ok (.iconst 1, 1) := by decide +kernel
theorem d_X_isNumber_2 : decode b_X_isNumber 2 = .ok (.if_icmp .lt 13, 3) := by decide +kernel
theorem d_X_isNumber_5 : decode b_X_isNumber 5 = .ok (.iload_n 0, 1) := by decide +kernel
theorem d_X_isNumber_6 : decode b_X_isNumber 6 = .ok (.ldc 175, 2) := by decide +kernel
theorem d_X_isNumber_8 : decode b_X_isNumber 8 = .ok (.if_icmp .gt 7, 3) := by decide +kernel
theorem d_X_isNumber_11 : decode b_X_isNumber 11 = .ok (.iconst 1, 1) := by decide +kernel
theorem d_X_isNumber_12 : decode b_X_isNumber 12 = .ok (.goto 4, 3) := by decide +kernel
theorem d_X_isNumber_15 : decode b_X_isNumber 15 = .ok (.iconst 0, 1) := by decide +kernel
theorem d_X_isNumber_16 : decode b_X_isNumber 16 = .ok (.ireturn, 1) := by decide +kernel
theorem d_X_isQuestion_0 : decode b_X_isQuestion 0 = .ok (.iload_n 0, 1) := by decide +kernel
theorem d_X_isQuestion_1 : decode b_X_isQuestion 1 = .ok (.ifCond .lt 12, 3) := by decide +kernel
theorem d_X_isQuestion_4 : decode b_X_isQuestion 4 = .ok (.iload_n 0, 1) := by decide +kernel
theorem d_X_isQuestion_5 : decode b_X_isQuestion 5 = .ok (.iconst 5, 1) := by decide +kernel
theorem d_X_isQuestion_6 : decode b_X_isQuestion 6 = .ok (.if_icmp .ge 7, 3) := by decide +kernel
theorem d_X_isQuestion_9 : decode b_X_isQuestion 9 = .ok (.iconst 1, 1) := by decide +kernel
theorem d_X_isQuestion_10 : decode b_X_isQuestion 10 = .ok (.goto 4, 3) := by decide +kernel
theorem d_X_isQuestion_13 : decode b_X_isQuestion 13 = .ok (.iconst 0, 1) := by decide +kernel
theorem d_X_isQuestion_14 : decode b_X_isQuestion 14 = .ok (.ireturn, 1) := by decide +kernel
theorem d_X_isAnswer_0 : decode b_X_isAnswer 0 = .ok (.iload_n 0, 1) := by decide +kernel
theorem d_X_isAnswer_1 : decode b_X_isAnswer 1 = .ok (.ifCond .lt 12, 3) := by decide +kernel
theorem d_X_isAnswer_4 : decode b_X_isAnswer 4 = .ok (.iload_n 0, 1) := by decide +kernel
theorem d_X_isAnswer_5 : decode b_X_isAnswer 5 = .ok (.iconst 4, 1) := by decide +kernel
theorem d_X_isAnswer_6 : decode b_X_isAnswer 6 = .ok (.if_icmp .ge 7, 3) := by decide +kernel
theorem d_X_isAnswer_9 : decode b_X_isAnswer 9 = .ok (.iconst 1, 1) := by decide +kernel
theorem d_X_isAnswer_10 : decode b_X_isAnswer 10 = .ok (.goto 4, 3) := by decide +kernel
theorem d_X_isAnswer_13 : decode b_X_isAnswer 13 = .ok (.iconst 0, 1) := by decide +kernel
theorem d_X_isAnswer_14 : decode b_X_isAnswer 14 = .ok (.ireturn, 1) := by decide +kernel
theorem d_X_pairOf_0 : decode b_X_pairOf 0 = .ok (.iconst 4, 1) := by decide +kernel
theorem d_X_pairOf_1 : decode b_X_pairOf 1 = .ok (.iload_n 0, 1) := by decide +kernel
theorem d_X_pairOf_2 : decode b_X_pairOf 2 = .ok (.imul, 1) := by decide +kernel
theorem d_X_pairOf_3 : decode b_X_pairOf 3 = .ok (.iload_n 1, 1) := by decide +kernel
theorem d_X_pairOf_4 : decode b_X_pairOf 4 = .ok (.iadd, 1) := by decide +kernel
theorem d_X_pairOf_5 : decode b_X_pairOf 5 = .ok (.ireturn, 1) := by decide +kernel
theorem d_X_contains_0 : decode b_X_contains 0 = .ok (.iload_n 0, 1) := by decide +kernel
theorem d_X_contains_1 : decode b_X_contains 1 = .ok (.iload_n 1, 1) := by decide +kernel
theorem d_X_contains_2 : decode b_X_contains 2 = .ok (.ishr, 1) := by decide +kernel
theorem d_X_contains_3 : decode b_X_contains 3 = .ok (.iconst 1, 1) := by decide +kernel
theorem d_X_contains_4 : decode b_X_contains 4 = .ok (.iand, 1) := by decide +kernel
theorem d_X_contains_5 : decode b_X_contains 5 = .ok (.ifCond .eq 7, 3) := by decide +kernel
theorem d_X_contains_8 : decode b_X_contains 8 = .ok (.iconst 1, 1) := by decide +kernel
theorem d_X_contains_9 : decode b_X_contains 9 = .ok (.goto 4, 3) := by decide +kernel
theorem d_X_contains_12 : decode b_X_contains 12 = .ok (.iconst 0, 1) := by decide +kernel
theorem d_X_contains_13 : decode b_X_contains 13 = .ok (.ireturn, 1) := by decide +kernel
theorem d_X_everyCode_0 : decode b_X_everyCode 0 = .ok (.iconst 1, 1) := by decide +kernel
theorem d_X_everyCode_1 : decode b_X_everyCode 1 = .ok (.aload_n 0, 1) := by decide +kernel
theorem d_X_everyCode_2 : decode b_X_everyCode 2 = .ok (.getfield 60, 3) := by decide +kernel
theorem d_X_everyCode_5 : decode b_X_everyCode 5 = .ok (.ishl, 1) := by decide +kernel
theorem d_X_everyCode_6 : decode b_X_everyCode 6 = .ok (.iconst 1, 1) := by decide +kernel
theorem d_X_everyCode_7 : decode b_X_everyCode 7 = .ok (.isub, 1) := by decide +kernel
theorem d_X_everyCode_8 : decode b_X_everyCode 8 = .ok (.ireturn, 1) := by decide +kernel
theorem d_X_placeOf_0 : decode b_X_placeOf 0 = .ok (.iconst 0, 1) := by decide +kernel
theorem d_X_placeOf_1 : decode b_X_placeOf 1 = .ok (.istore_n 2, 1) := by decide +kernel
theorem d_X_placeOf_2 : decode b_X_placeOf 2 = .ok (.iload_n 2, 1) := by decide +kernel
theorem d_X_placeOf_3 : decode b_X_placeOf 3 = .ok (.aload_n 0, 1) := by decide +kernel
theorem d_X_placeOf_4 : decode b_X_placeOf 4 = .ok (.getfield 60, 3) := by decide +kernel
theorem d_X_placeOf_7 : decode b_X_placeOf 7 = .ok (.if_icmp .ge 21, 3) := by decide +kernel
theorem d_X_placeOf_10 : decode b_X_placeOf 10 = .ok (.aload_n 0, 1) := by decide +kernel
theorem d_X_placeOf_11 : decode b_X_placeOf 11 = .ok (.getfield 9, 3) := by decide +kernel
theorem d_X_placeOf_14 : decode b_X_placeOf 14 = .ok (.iload_n 2, 1) := by decide +kernel
theorem d_X_placeOf_15 : decode b_X_placeOf 15 = .ok (.iaload, 1) := by decide +kernel
theorem d_X_placeOf_16 : decode b_X_placeOf 16 = .ok (.iload_n 1, 1) := by decide +kernel
theorem d_X_placeOf_17 : decode b_X_placeOf 17 = .ok (.if_icmp .ne 5, 3) := by decide +kernel
theorem d_X_placeOf_20 : decode b_X_placeOf 20 = .ok (.iload_n 2, 1) := by decide +kernel
theorem d_X_placeOf_21 : decode b_X_placeOf 21 = .ok (.ireturn, 1) := by decide +kernel
theorem d_X_placeOf_22 : decode b_X_placeOf 22 = .ok (.iinc 2 1, 3) := by decide +kernel
theorem d_X_placeOf_25 : decode b_X_placeOf 25 = .ok (.goto (-23), 3) := by decide +kernel
theorem d_X_placeOf_28 : decode b_X_placeOf 28 = .ok (.iconst (-1), 1) := by decide +kernel
theorem d_X_placeOf_29 : decode b_X_placeOf 29 = .ok (.ireturn, 1) := by decide +kernel
theorem d_X_howManyBelow_0 : decode b_X_howManyBelow 0 = .ok (.iconst 0, 1) := by decide +kernel
theorem d_X_howManyBelow_1 : decode b_X_howManyBelow 1 = .ok (.istore_n 2, 1) := by decide +kernel
theorem d_X_howManyBelow_2 : decode b_X_howManyBelow 2 = .ok (.iload_n 2, 1) := by decide +kernel
theorem d_X_howManyBelow_3 : decode b_X_howManyBelow 3 = .ok (.aload_n 0, 1) := by decide +kernel
theorem d_X_howManyBelow_4 : decode b_X_howManyBelow 4 = .ok (.getfield 60, 3) := by decide +kernel
theorem d_X_howManyBelow_7 : decode b_X_howManyBelow 7 = .ok (.if_icmp .ge 19, 3) := by decide +kernel
theorem d_X_howManyBelow_10 : decode b_X_howManyBelow 10 = .ok (.aload_n 0, 1) := by decide +kernel
theorem d_X_howManyBelow_11 : decode b_X_howManyBelow 11 = .ok (.getfield 9, 3) := by decide +kernel
theorem d_X_howManyBelow_14 : decode b_X_howManyBelow 14 = .ok (.iload_n 2, 1) := by decide +kernel
theorem d_X_howManyBelow_15 : decode b_X_howManyBelow 15 = .ok (.iaload, 1) := by decide +kernel
theorem d_X_howManyBelow_16 : decode b_X_howManyBelow 16 = .ok (.iload_n 1, 1) := by decide +kernel
theorem d_X_howManyBelow_17 : decode b_X_howManyBelow 17 = .ok (.if_icmp .ge 9, 3) := by decide +kernel
theorem d_X_howManyBelow_20 : decode b_X_howManyBelow 20 = .ok (.iinc 2 1, 3) := by decide +kernel
theorem d_X_howManyBelow_23 : decode b_X_howManyBelow 23 = .ok (.goto (-21), 3) := by decide +kernel
theorem d_X_howManyBelow_26 : decode b_X_howManyBelow 26 = .ok (.iload_n 2, 1) := by decide +kernel
theorem d_X_howManyBelow_27 : decode b_X_howManyBelow 27 = .ok (.ireturn, 1) := by decide +kernel
theorem d_X_makeRoomAt_0 : decode b_X_makeRoomAt 0 = .ok (.aload_n 0, 1) := by decide +kernel
theorem d_X_makeRoomAt_1 : decode b_X_makeRoomAt 1 = .ok (.getfield 60, 3) := by decide +kernel
theorem d_X_makeRoomAt_4 : decode b_X_makeRoomAt 4 = .ok (.istore_n 2, 1) := by decide +kernel
theorem d_X_makeRoomAt_5 : decode b_X_makeRoomAt 5 = .ok (.iload_n 2, 1) := by decide +kernel
theorem d_X_makeRoomAt_6 : decode b_X_makeRoomAt 6 = .ok (.iload_n 1, 1) := by decide +kernel
theorem d_X_makeRoomAt_7 : decode b_X_makeRoomAt 7 = .ok (.if_icmp .le 65, 3) := by decide +kernel
theorem d_X_makeRoomAt_10 : decode b_X_makeRoomAt 10 = .ok (.aload_n 0, 1) := by decide +kernel
theorem d_X_makeRoomAt_11 : decode b_X_makeRoomAt 11 = .ok (.getfield 9, 3) := by decide +kernel
theorem d_X_makeRoomAt_14 : decode b_X_makeRoomAt 14 = .ok (.iload_n 2, 1) := by decide +kernel
theorem d_X_makeRoomAt_15 : decode b_X_makeRoomAt 15 = .ok (.aload_n 0, 1) := by decide +kernel
theorem d_X_makeRoomAt_16 : decode b_X_makeRoomAt 16 = .ok (.getfield 9, 3) := by decide +kernel
theorem d_X_makeRoomAt_19 : decode b_X_makeRoomAt 19 = .ok (.iload_n 2, 1) := by decide +kernel
theorem d_X_makeRoomAt_20 : decode b_X_makeRoomAt 20 = .ok (.iconst 1, 1) := by decide +kernel
theorem d_X_makeRoomAt_21 : decode b_X_makeRoomAt 21 = .ok (.isub, 1) := by decide +kernel
theorem d_X_makeRoomAt_22 : decode b_X_makeRoomAt 22 = .ok (.iaload, 1) := by decide +kernel
theorem d_X_makeRoomAt_23 : decode b_X_makeRoomAt 23 = .ok (.iastore, 1) := by decide +kernel
theorem d_X_makeRoomAt_24 : decode b_X_makeRoomAt 24 = .ok (.aload_n 0, 1) := by decide +kernel
theorem d_X_makeRoomAt_25 : decode b_X_makeRoomAt 25 = .ok (.getfield 13, 3) := by decide +kernel
theorem d_X_makeRoomAt_28 : decode b_X_makeRoomAt 28 = .ok (.iload_n 2, 1) := by decide +kernel
theorem d_X_makeRoomAt_29 : decode b_X_makeRoomAt 29 = .ok (.aload_n 0, 1) := by decide +kernel
theorem d_X_makeRoomAt_30 : decode b_X_makeRoomAt 30 = .ok (.getfield 13, 3) := by decide +kernel
theorem d_X_makeRoomAt_33 : decode b_X_makeRoomAt 33 = .ok (.iload_n 2, 1) := by decide +kernel
theorem d_X_makeRoomAt_34 : decode b_X_makeRoomAt 34 = .ok (.iconst 1, 1) := by decide +kernel
theorem d_X_makeRoomAt_35 : decode b_X_makeRoomAt 35 = .ok (.isub, 1) := by decide +kernel
theorem d_X_makeRoomAt_36 : decode b_X_makeRoomAt 36 = .ok (.iaload, 1) := by decide +kernel
theorem d_X_makeRoomAt_37 : decode b_X_makeRoomAt 37 = .ok (.iastore, 1) := by decide +kernel
theorem d_X_makeRoomAt_38 : decode b_X_makeRoomAt 38 = .ok (.aload_n 0, 1) := by decide +kernel
theorem d_X_makeRoomAt_39 : decode b_X_makeRoomAt 39 = .ok (.getfield 16, 3) := by decide +kernel
theorem d_X_makeRoomAt_42 : decode b_X_makeRoomAt 42 = .ok (.iload_n 2, 1) := by decide +kernel
theorem d_X_makeRoomAt_43 : decode b_X_makeRoomAt 43 = .ok (.aload_n 0, 1) := by decide +kernel
theorem d_X_makeRoomAt_44 : decode b_X_makeRoomAt 44 = .ok (.getfield 16, 3) := by decide +kernel
theorem d_X_makeRoomAt_47 : decode b_X_makeRoomAt 47 = .ok (.iload_n 2, 1) := by decide +kernel
theorem d_X_makeRoomAt_48 : decode b_X_makeRoomAt 48 = .ok (.iconst 1, 1) := by decide +kernel
theorem d_X_makeRoomAt_49 : decode b_X_makeRoomAt 49 = .ok (.isub, 1) := by decide +kernel
theorem d_X_makeRoomAt_50 : decode b_X_makeRoomAt 50 = .ok (.iaload, 1) := by decide +kernel
theorem d_X_makeRoomAt_51 : decode b_X_makeRoomAt 51 = .ok (.iastore, 1) := by decide +kernel
theorem d_X_makeRoomAt_52 : decode b_X_makeRoomAt 52 = .ok (.aload_n 0, 1) := by decide +kernel
theorem d_X_makeRoomAt_53 : decode b_X_makeRoomAt 53 = .ok (.getfield 19, 3) := by decide +kernel
theorem d_X_makeRoomAt_56 : decode b_X_makeRoomAt 56 = .ok (.iload_n 2, 1) := by decide +kernel
theorem d_X_makeRoomAt_57 : decode b_X_makeRoomAt 57 = .ok (.aload_n 0, 1) := by decide +kernel
theorem d_X_makeRoomAt_58 : decode b_X_makeRoomAt 58 = .ok (.getfield 19, 3) := by decide +kernel
theorem d_X_makeRoomAt_61 : decode b_X_makeRoomAt 61 = .ok (.iload_n 2, 1) := by decide +kernel
theorem d_X_makeRoomAt_62 : decode b_X_makeRoomAt 62 = .ok (.iconst 1, 1) := by decide +kernel
theorem d_X_makeRoomAt_63 : decode b_X_makeRoomAt 63 = .ok (.isub, 1) := by decide +kernel
theorem d_X_makeRoomAt_64 : decode b_X_makeRoomAt 64 = .ok (.iaload, 1) := by decide +kernel
theorem d_X_makeRoomAt_65 : decode b_X_makeRoomAt 65 = .ok (.iastore, 1) := by decide +kernel
theorem d_X_makeRoomAt_66 : decode b_X_makeRoomAt 66 = .ok (.iinc 2 (-1), 3) := by decide +kernel
theorem d_X_makeRoomAt_69 : decode b_X_makeRoomAt 69 = .ok (.goto (-64), 3) := by decide +kernel
theorem d_X_makeRoomAt_72 : decode b_X_makeRoomAt 72 = .ok (.iconst 0, 1) := by decide +kernel
theorem d_X_makeRoomAt_73 : decode b_X_makeRoomAt 73 = .ok (.istore_n 2, 1) := by decide +kernel
theorem d_X_makeRoomAt_74 : decode b_X_makeRoomAt 74 = .ok (.iload_n 2, 1) := by decide +kernel
theorem d_X_makeRoomAt_75 : decode b_X_makeRoomAt 75 = .ok (.bipush 20, 2) := by decide +kernel
theorem d_X_makeRoomAt_77 : decode b_X_makeRoomAt 77 = .ok (.if_icmp .ge 41, 3) := by decide +kernel
theorem d_X_makeRoomAt_80 : decode b_X_makeRoomAt 80 = .ok (.aload_n 0, 1) := by decide +kernel
theorem d_X_makeRoomAt_81 : decode b_X_makeRoomAt 81 = .ok (.getfield 22, 3) := by decide +kernel
theorem d_X_makeRoomAt_84 : decode b_X_makeRoomAt 84 = .ok (.iload_n 2, 1) := by decide +kernel
theorem d_X_makeRoomAt_85 : decode b_X_makeRoomAt 85 = .ok (.aload_n 0, 1) := by decide +kernel
theorem d_X_makeRoomAt_86 : decode b_X_makeRoomAt 86 = .ok (.getfield 22, 3) := by decide +kernel
theorem d_X_makeRoomAt_89 : decode b_X_makeRoomAt 89 = .ok (.iload_n 2, 1) := by decide +kernel
theorem d_X_makeRoomAt_90 : decode b_X_makeRoomAt 90 = .ok (.iaload, 1) := by decide +kernel
theorem d_X_makeRoomAt_91 : decode b_X_makeRoomAt 91 = .ok (.iload_n 1, 1) := by decide +kernel
theorem d_X_makeRoomAt_92 : decode b_X_makeRoomAt 92 = .ok (.invokestatic 176, 3) := by decide +kernel
theorem d_X_makeRoomAt_95 : decode b_X_makeRoomAt 95 = .ok (.iastore, 1) := by decide +kernel
theorem d_X_makeRoomAt_96 : decode b_X_makeRoomAt 96 = .ok (.aload_n 0, 1) := by decide +kernel
theorem d_X_makeRoomAt_97 : decode b_X_makeRoomAt 97 = .ok (.getfield 25, 3) := by decide +kernel
theorem d_X_makeRoomAt_100 : decode b_X_makeRoomAt 100 = .ok (.iload_n 2, 1) := by decide +kernel
theorem d_X_makeRoomAt_101 : decode b_X_makeRoomAt 101 = .ok (.aload_n 0, 1) := by decide +kernel
theorem d_X_makeRoomAt_102 : decode b_X_makeRoomAt 102 = .ok (.getfield 25, 3) := by decide +kernel
theorem d_X_makeRoomAt_105 : decode b_X_makeRoomAt 105 = .ok (.iload_n 2, 1) := by decide +kernel
theorem d_X_makeRoomAt_106 : decode b_X_makeRoomAt 106 = .ok (.iaload, 1) := by decide +kernel
theorem d_X_makeRoomAt_107 : decode b_X_makeRoomAt 107 = .ok (.iload_n 1, 1) := by decide +kernel
theorem d_X_makeRoomAt_108 : decode b_X_makeRoomAt 108 = .ok (.invokestatic 176, 3) := by decide +kernel
theorem d_X_makeRoomAt_111 : decode b_X_makeRoomAt 111 = .ok (.iastore, 1) := by decide +kernel
theorem d_X_makeRoomAt_112 : decode b_X_makeRoomAt 112 = .ok (.iinc 2 1, 3) := by decide +kernel
theorem d_X_makeRoomAt_115 : decode b_X_makeRoomAt 115 = .ok (.goto (-41), 3) := by decide +kernel
theorem d_X_makeRoomAt_118 : decode b_X_makeRoomAt 118 = .ok (.return_, 1) := by decide +kernel
theorem d_X_withRoomAt_0 : decode b_X_withRoomAt 0 = .ok (.iconst 1, 1) := by decide +kernel
theorem d_X_withRoomAt_1 : decode b_X_withRoomAt 1 = .ok (.iload_n 1, 1) := by decide +kernel
theorem d_X_withRoomAt_2 : decode b_X_withRoomAt 2 = .ok (.ishl, 1) := by decide +kernel
theorem d_X_withRoomAt_3 : decode b_X_withRoomAt 3 = .ok (.iconst 1, 1) := by decide +kernel
theorem d_X_withRoomAt_4 : decode b_X_withRoomAt 4 = .ok (.isub, 1) := by decide +kernel
theorem d_X_withRoomAt_5 : decode b_X_withRoomAt 5 = .ok (.istore_n 2, 1) := by decide +kernel
theorem d_X_withRoomAt_6 : decode b_X_withRoomAt 6 = .ok (.iload_n 0, 1) := by decide +kernel
theorem d_X_withRoomAt_7 : decode b_X_withRoomAt 7 = .ok (.iload_n 2, 1) := by decide +kernel
theorem d_X_withRoomAt_8 : decode b_X_withRoomAt 8 = .ok (.iand, 1) := by decide +kernel
theorem d_X_withRoomAt_9 : decode b_X_withRoomAt 9 = .ok (.iload_n 0, 1) := by decide +kernel
theorem d_X_withRoomAt_10 : decode b_X_withRoomAt 10 = .ok (.iload_n 2, 1) := by decide +kernel
theorem d_X_withRoomAt_11 : decode b_X_withRoomAt 11 = .ok (.iconst (-1), 1) := by decide +kernel
theorem d_X_withRoomAt_12 : decode b_X_withRoomAt 12 = .ok (.ixor, 1) := by decide +kernel
theorem d_X_withRoomAt_13 : decode b_X_withRoomAt 13 = .ok (.iand, 1) := by decide +kernel
theorem d_X_withRoomAt_14 : decode b_X_withRoomAt 14 = .ok (.iconst 1, 1) := by decide +kernel
theorem d_X_withRoomAt_15 : decode b_X_withRoomAt 15 = .ok (.ishl, 1) := by decide +kernel
theorem d_X_withRoomAt_16 : decode b_X_withRoomAt 16 = .ok (.ior, 1) := by decide +kernel
theorem d_X_withRoomAt_17 : decode b_X_withRoomAt 17 = .ok (.ireturn, 1) := by decide +kernel
theorem d_X_answerTo_0 : decode b_X_answerTo 0 = .ok (.iload_n 1, 1) := by decide +kernel
theorem d_X_answerTo_1 : decode b_X_answerTo 1 = .ok (.invokestatic 83, 3) := by decide +kernel
theorem d_X_answerTo_4 : decode b_X_answerTo 4 = .ok (.ifCond .eq 12, 3) := by decide +kernel
theorem d_X_answerTo_7 : decode b_X_answerTo 7 = .ok (.aload_n 0, 1) := by decide +kernel
theorem d_X_answerTo_8 : decode b_X_answerTo 8 = .ok (.getfield 31, 3) := by decide +kernel
theorem d_X_answerTo_11 : decode b_X_answerTo 11 = .ok (.iload_n 1, 1) := by decide +kernel
theorem d_X_answerTo_12 : decode b_X_answerTo 12 = .ok (.iaload, 1) := by decide +kernel
theorem d_X_answerTo_13 : decode b_X_answerTo 13 = .ok (.goto 4, 3) := by decide +kernel
theorem d_X_answerTo_16 : decode b_X_answerTo 16 = .ok (.iconst (-1), 1) := by decide +kernel
theorem d_X_answerTo_17 : decode b_X_answerTo 17 = .ok (.ireturn, 1) := by decide +kernel
theorem d_X_give_0 : decode b_X_give 0 = .ok (.aload_n 0, 1) := by decide +kernel
theorem d_X_give_1 : decode b_X_give 1 = .ok (.getfield 150, 3) := by decide +kernel
theorem d_X_give_4 : decode b_X_give 4 = .ok (.iconst 5, 1) := by decide +kernel
theorem d_X_give_5 : decode b_X_give 5 = .ok (.if_icmp .ge 30, 3) := by decide +kernel
theorem d_X_give_8 : decode b_X_give 8 = .ok (.aload_n 0, 1) := by decide +kernel
theorem d_X_give_9 : decode b_X_give 9 = .ok (.getfield 31, 3) := by decide +kernel
theorem d_X_give_12 : decode b_X_give 12 = .ok (.iload_n 1, 1) := by decide +kernel
theorem d_X_give_13 : decode b_X_give 13 = .ok (.iload_n 2, 1) := by decide +kernel
theorem d_X_give_14 : decode b_X_give 14 = .ok (.iastore, 1) := by decide +kernel
theorem d_X_give_15 : decode b_X_give 15 = .ok (.aload_n 0, 1) := by decide +kernel
theorem d_X_give_16 : decode b_X_give 16 = .ok (.getfield 34, 3) := by decide +kernel
theorem d_X_give_19 : decode b_X_give 19 = .ok (.aload_n 0, 1) := by decide +kernel
theorem d_X_give_20 : decode b_X_give 20 = .ok (.getfield 150, 3) := by decide +kernel
theorem d_X_give_23 : decode b_X_give 23 = .ok (.iload_n 1, 1) := by decide +kernel
theorem d_X_give_24 : decode b_X_give 24 = .ok (.iastore, 1) := by decide +kernel
theorem d_X_give_25 : decode b_X_give 25 = .ok (.aload_n 0, 1) := by decide +kernel
theorem d_X_give_26 : decode b_X_give 26 = .ok (.dup, 1) := by decide +kernel
theorem d_X_give_27 : decode b_X_give 27 = .ok (.getfield 150, 3) := by decide +kernel
theorem d_X_give_30 : decode b_X_give 30 = .ok (.iconst 1, 1) := by decide +kernel
theorem d_X_give_31 : decode b_X_give 31 = .ok (.iadd, 1) := by decide +kernel
theorem d_X_give_32 : decode b_X_give 32 = .ok (.putfield 150, 3) := by decide +kernel
theorem d_X_give_35 : decode b_X_give 35 = .ok (.return_, 1) := by decide +kernel
theorem d_X_takeBack_0 : decode b_X_takeBack 0 = .ok (.iconst 0, 1) := by decide +kernel
theorem d_X_takeBack_1 : decode b_X_takeBack 1 = .ok (.istore_n 2, 1) := by decide +kernel
theorem d_X_takeBack_2 : decode b_X_takeBack 2 = .ok (.iconst 0, 1) := by decide +kernel
theorem d_X_takeBack_3 : decode b_X_takeBack 3 = .ok (.istore_n 3, 1) := by decide +kernel
theorem d_X_takeBack_4 : decode b_X_takeBack 4 = .ok (.iload_n 3, 1) := by decide +kernel
theorem d_X_takeBack_5 : decode b_X_takeBack 5 = .ok (.aload_n 0, 1) := by decide +kernel
theorem d_X_takeBack_6 : decode b_X_takeBack 6 = .ok (.getfield 150, 3) := by decide +kernel
theorem d_X_takeBack_9 : decode b_X_takeBack 9 = .ok (.if_icmp .ge 34, 3) := by decide +kernel
theorem d_X_takeBack_12 : decode b_X_takeBack 12 = .ok (.aload_n 0, 1) := by decide +kernel
theorem d_X_takeBack_13 : decode b_X_takeBack 13 = .ok (.getfield 34, 3) := by decide +kernel
theorem d_X_takeBack_16 : decode b_X_takeBack 16 = .ok (.iload_n 3, 1) := by decide +kernel
theorem d_X_takeBack_17 : decode b_X_takeBack 17 = .ok (.iaload, 1) := by decide +kernel
theorem d_X_takeBack_18 : decode b_X_takeBack 18 = .ok (.iload_n 1, 1) := by decide +kernel
theorem d_X_takeBack_19 : decode b_X_takeBack 19 = .ok (.if_icmp .eq 18, 3) := by decide +kernel
theorem d_X_takeBack_22 : decode b_X_takeBack 22 = .ok (.aload_n 0, 1) := by decide +kernel
theorem d_X_takeBack_23 : decode b_X_takeBack 23 = .ok (.getfield 34, 3) := by decide +kernel
theorem d_X_takeBack_26 : decode b_X_takeBack 26 = .ok (.iload_n 2, 1) := by decide +kernel
theorem d_X_takeBack_27 : decode b_X_takeBack 27 = .ok (.aload_n 0, 1) := by decide +kernel
theorem d_X_takeBack_28 : decode b_X_takeBack 28 = .ok (.getfield 34, 3) := by decide +kernel
theorem d_X_takeBack_31 : decode b_X_takeBack 31 = .ok (.iload_n 3, 1) := by decide +kernel
theorem d_X_takeBack_32 : decode b_X_takeBack 32 = .ok (.iaload, 1) := by decide +kernel
theorem d_X_takeBack_33 : decode b_X_takeBack 33 = .ok (.iastore, 1) := by decide +kernel
theorem d_X_takeBack_34 : decode b_X_takeBack 34 = .ok (.iinc 2 1, 3) := by decide +kernel
theorem d_X_takeBack_37 : decode b_X_takeBack 37 = .ok (.iinc 3 1, 3) := by decide +kernel
theorem d_X_takeBack_40 : decode b_X_takeBack 40 = .ok (.goto (-36), 3) := by decide +kernel
theorem d_X_takeBack_43 : decode b_X_takeBack 43 = .ok (.aload_n 0, 1) := by decide +kernel
theorem d_X_takeBack_44 : decode b_X_takeBack 44 = .ok (.iload_n 2, 1) := by decide +kernel
theorem d_X_takeBack_45 : decode b_X_takeBack 45 = .ok (.putfield 150, 3) := by decide +kernel
theorem d_X_takeBack_48 : decode b_X_takeBack 48 = .ok (.aload_n 0, 1) := by decide +kernel
theorem d_X_takeBack_49 : decode b_X_takeBack 49 = .ok (.getfield 31, 3) := by decide +kernel
theorem d_X_takeBack_52 : decode b_X_takeBack 52 = .ok (.iload_n 1, 1) := by decide +kernel
theorem d_X_takeBack_53 : decode b_X_takeBack 53 = .ok (.iconst (-1), 1) := by decide +kernel
theorem d_X_takeBack_54 : decode b_X_takeBack 54 = .ok (.iastore, 1) := by decide +kernel
theorem d_X_takeBack_55 : decode b_X_takeBack 55 = .ok (.return_, 1) := by decide +kernel
theorem d_X_leftByRules_0 : decode b_X_leftByRules 0 = .ok (.aload_n 0, 1) := by decide +kernel
theorem d_X_leftByRules_1 : decode b_X_leftByRules 1 = .ok (.getfield 22, 3) := by decide +kernel
theorem d_X_leftByRules_4 : decode b_X_leftByRules 4 = .ok (.iload_n 1, 1) := by decide +kernel
theorem d_X_leftByRules_5 : decode b_X_leftByRules 5 = .ok (.iaload, 1) := by decide +kernel
theorem d_X_leftByRules_6 : decode b_X_leftByRules 6 = .ok (.ifCond .ne 10, 3) := by decide +kernel
theorem d_X_leftByRules_9 : decode b_X_leftByRules 9 = .ok (.aload_n 0, 1) := by decide +kernel
theorem d_X_leftByRules_10 : decode b_X_leftByRules 10 = .ok (.invokevirtual 147, 3) := by decide +kernel
theorem d_X_leftByRules_13 : decode b_X_leftByRules 13 = .ok (.goto 9, 3) := by decide +kernel
theorem d_X_leftByRules_16 : decode b_X_leftByRules 16 = .ok (.aload_n 0, 1) := by decide +kernel
theorem d_X_leftByRules_17 : decode b_X_leftByRules 17 = .ok (.getfield 22, 3) := by decide +kernel
theorem d_X_leftByRules_20 : decode b_X_leftByRules 20 = .ok (.iload_n 1, 1) := by decide +kernel
theorem d_X_leftByRules_21 : decode b_X_leftByRules 21 = .ok (.iaload, 1) := by decide +kernel
theorem d_X_leftByRules_22 : decode b_X_leftByRules 22 = .ok (.istore_n 2, 1) := by decide +kernel
theorem d_X_leftByRules_23 : decode b_X_leftByRules 23 = .ok (.iload_n 2, 1) := by decide +kernel
theorem d_X_leftByRules_24 : decode b_X_leftByRules 24 = .ok (.aload_n 0, 1) := by decide +kernel
theorem d_X_leftByRules_25 : decode b_X_leftByRules 25 = .ok (.getfield 25, 3) := by decide +kernel
theorem d_X_leftByRules_28 : decode b_X_leftByRules 28 = .ok (.iload_n 1, 1) := by decide +kernel
theorem d_X_leftByRules_29 : decode b_X_leftByRules 29 = .ok (.iaload, 1) := by decide +kernel
theorem d_X_leftByRules_30 : decode b_X_leftByRules 30 = .ok (.iconst (-1), 1) := by decide +kernel
theorem d_X_leftByRules_31 : decode b_X_leftByRules 31 = .ok (.ixor, 1) := by decide +kernel
theorem d_X_leftByRules_32 : decode b_X_leftByRules 32 = .ok (.iand, 1) := by decide +kernel
theorem d_X_leftByRules_33 : decode b_X_leftByRules 33 = .ok (.ireturn, 1) := by decide +kernel
theorem d_X_leaves_0 : decode b_X_leaves 0 = .ok (.iload_n 1, 1) := by decide +kernel
theorem d_X_leaves_1 : decode b_X_leaves 1 = .ok (.invokestatic 83, 3) := by decide +kernel
theorem d_X_leaves_4 : decode b_X_leaves 4 = .ok (.ifCond .eq 23, 3) := by decide +kernel
theorem d_X_leaves_7 : decode b_X_leaves 7 = .ok (.iload_n 2, 1) := by decide +kernel
theorem d_X_leaves_8 : decode b_X_leaves 8 = .ok (.invokestatic 86, 3) := by decide +kernel
theorem d_X_leaves_11 : decode b_X_leaves 11 = .ok (.ifCond .eq 16, 3) := by decide +kernel
theorem d_X_leaves_14 : decode b_X_leaves 14 = .ok (.aload_n 0, 1) := by decide +kernel
theorem d_X_leaves_15 : decode b_X_leaves 15 = .ok (.getfield 28, 3) := by decide +kernel
theorem d_X_leaves_18 : decode b_X_leaves 18 = .ok (.iload_n 1, 1) := by decide +kernel
theorem d_X_leaves_19 : decode b_X_leaves 19 = .ok (.iload_n 2, 1) := by decide +kernel
theorem d_X_leaves_20 : decode b_X_leaves 20 = .ok (.invokestatic 96, 3) := by decide +kernel
theorem d_X_leaves_23 : decode b_X_leaves 23 = .ok (.iaload, 1) := by decide +kernel
theorem d_X_leaves_24 : decode b_X_leaves 24 = .ok (.goto 7, 3) := by decide +kernel
theorem d_X_leaves_27 : decode b_X_leaves 27 = .ok (.aload_n 0, 1) := by decide +kernel
theorem d_X_leaves_28 : decode b_X_leaves 28 = .ok (.invokevirtual 147, 3) := by decide +kernel
theorem d_X_leaves_31 : decode b_X_leaves 31 = .ok (.ireturn, 1) := by decide +kernel
theorem d_X_leftSet_0 : decode b_X_leftSet 0 = .ok (.aload_n 0, 1) := by decide +kernel
theorem d_X_leftSet_1 : decode b_X_leftSet 1 = .ok (.invokevirtual 147, 3) := by decide +kernel
theorem d_X_leftSet_4 : decode b_X_leftSet 4 = .ok (.istore_n 1, 1) := by decide +kernel
theorem d_X_leftSet_5 : decode b_X_leftSet 5 = .ok (.iconst 0, 1) := by decide +kernel
theorem d_X_leftSet_6 : decode b_X_leftSet 6 = .ok (.istore_n 2, 1) := by decide +kernel
theorem d_X_leftSet_7 : decode b_X_leftSet 7 = .ok (.iload_n 2, 1) := by decide +kernel
theorem d_X_leftSet_8 : decode b_X_leftSet 8 = .ok (.iconst 5, 1) := by decide +kernel
theorem d_X_leftSet_9 : decode b_X_leftSet 9 = .ok (.if_icmp .ge 23, 3) := by decide +kernel
theorem d_X_leftSet_12 : decode b_X_leftSet 12 = .ok (.iload_n 1, 1) := by decide +kernel
theorem d_X_leftSet_13 : decode b_X_leftSet 13 = .ok (.aload_n 0, 1) := by decide +kernel
theorem d_X_leftSet_14 : decode b_X_leftSet 14 = .ok (.iload_n 2, 1) := by decide +kernel
theorem d_X_leftSet_15 : decode b_X_leftSet 15 = .ok (.aload_n 0, 1) := by decide +kernel
theorem d_X_leftSet_16 : decode b_X_leftSet 16 = .ok (.getfield 31, 3) := by decide +kernel
theorem d_X_leftSet_19 : decode b_X_leftSet 19 = .ok (.iload_n 2, 1) := by decide +kernel
theorem d_X_leftSet_20 : decode b_X_leftSet 20 = .ok (.iaload, 1) := by decide +kernel
theorem d_X_leftSet_21 : decode b_X_leftSet 21 = .ok (.invokevirtual 156, 3) := by decide +kernel
theorem d_X_leftSet_24 : decode b_X_leftSet 24 = .ok (.iand, 1) := by decide +kernel
theorem d_X_leftSet_25 : decode b_X_leftSet 25 = .ok (.istore_n 1, 1) := by decide +kernel
theorem d_X_leftSet_26 : decode b_X_leftSet 26 = .ok (.iinc 2 1, 3) := by decide +kernel
theorem d_X_leftSet_29 : decode b_X_leftSet 29 = .ok (.goto (-22), 3) := by decide +kernel
theorem d_X_leftSet_32 : decode b_X_leftSet 32 = .ok (.iload_n 1, 1) := by decide +kernel
theorem d_X_leftSet_33 : decode b_X_leftSet 33 = .ok (.ireturn, 1) := by decide +kernel
theorem d_X_openQuestions_0 : decode b_X_openQuestions 0 = .ok (.iconst 0, 1) := by decide +kernel
theorem d_X_openQuestions_1 : decode b_X_openQuestions 1 = .ok (.istore_n 1, 1) := by decide +kernel
theorem d_X_openQuestions_2 : decode b_X_openQuestions 2 = .ok (.iconst 0, 1) := by decide +kernel
theorem d_X_openQuestions_3 : decode b_X_openQuestions 3 = .ok (.istore_n 2, 1) := by decide +kernel
theorem d_X_openQuestions_4 : decode b_X_openQuestions 4 = .ok (.iload_n 2, 1) := by decide +kernel
theorem d_X_openQuestions_5 : decode b_X_openQuestions 5 = .ok (.iconst 5, 1) := by decide +kernel
theorem d_X_openQuestions_6 : decode b_X_openQuestions 6 = .ok (.if_icmp .ge 25, 3) := by decide +kernel
theorem d_X_openQuestions_9 : decode b_X_openQuestions 9 = .ok (.aload_n 0, 1) := by decide +kernel
theorem d_X_openQuestions_10 : decode b_X_openQuestions 10 = .ok (.getfield 31, 3) := by decide +kernel
theorem d_X_openQuestions_13 : decode b_X_openQuestions 13 = .ok (.iload_n 2, 1) := by decide +kernel
theorem d_X_openQuestions_14 : decode b_X_openQuestions 14 = .ok (.iaload, 1) := by decide +kernel
theorem d_X_openQuestions_15 : decode b_X_openQuestions 15 = .ok (.iconst (-1), 1) := by decide +kernel
theorem d_X_openQuestions_16 : decode b_X_openQuestions 16 = .ok (.if_icmp .ne 9, 3) := by decide +kernel
theorem d_X_openQuestions_19 : decode b_X_openQuestions 19 = .ok (.iload_n 1, 1) := by decide +kernel
theorem d_X_openQuestions_20 : decode b_X_openQuestions 20 = .ok (.iconst 1, 1) := by decide +kernel
theorem d_X_openQuestions_21 : decode b_X_openQuestions 21 = .ok (.iload_n 2, 1) := by decide +kernel
theorem d_X_openQuestions_22 : decode b_X_openQuestions 22 = .ok (.ishl, 1) := by decide +kernel
theorem d_X_openQuestions_23 : decode b_X_openQuestions 23 = .ok (.ior, 1) := by decide +kernel
theorem d_X_openQuestions_24 : decode b_X_openQuestions 24 = .ok (.istore_n 1, 1) := by decide +kernel
theorem d_X_openQuestions_25 : decode b_X_openQuestions 25 = .ok (.iinc 2 1, 3) := by decide +kernel
theorem d_X_openQuestions_28 : decode b_X_openQuestions 28 = .ok (.goto (-24), 3) := by decide +kernel
theorem d_X_openQuestions_31 : decode b_X_openQuestions 31 = .ok (.iload_n 1, 1) := by decide +kernel
theorem d_X_openQuestions_32 : decode b_X_openQuestions 32 = .ok (.ireturn, 1) := by decide +kernel
theorem d_X_parts_0 : decode b_X_parts 0 = .ok (.iload_n 1, 1) := by decide +kernel
theorem d_X_parts_1 : decode b_X_parts 1 = .ok (.iconst 0, 1) := by decide +kernel
theorem d_X_parts_2 : decode b_X_parts 2 = .ok (.invokestatic 96, 3) := by decide +kernel
theorem d_X_parts_5 : decode b_X_parts 5 = .ok (.istore_n 3, 1) := by decide +kernel
theorem d_X_parts_6 : decode b_X_parts 6 = .ok (.iload_n 2, 1) := by decide +kernel
theorem d_X_parts_7 : decode b_X_parts 7 = .ok (.aload_n 0, 1) := by decide +kernel
theorem d_X_parts_8 : decode b_X_parts 8 = .ok (.getfield 28, 3) := by decide +kernel
theorem d_X_parts_11 : decode b_X_parts 11 = .ok (.iload_n 3, 1) := by decide +kernel
theorem d_X_parts_12 : decode b_X_parts 12 = .ok (.iaload, 1) := by decide +kernel
theorem d_X_parts_13 : decode b_X_parts 13 = .ok (.iand, 1) := by decide +kernel
theorem d_X_parts_14 : decode b_X_parts 14 = .ok (.istore 4, 2) := by decide +kernel
theorem d_X_parts_16 : decode b_X_parts 16 = .ok (.iconst 1, 1) := by decide +kernel
theorem d_X_parts_17 : decode b_X_parts 17 = .ok (.istore 5, 2) := by decide +kernel
theorem d_X_parts_19 : decode b_X_parts 19 = .ok (.iload 5, 2) := by decide +kernel
theorem d_X_parts_21 : decode b_X_parts 21 = .ok (.iconst 4, 1) := by decide +kernel
theorem d_X_parts_22 : decode b_X_parts 22 = .ok (.if_icmp .ge 27, 3) := by decide +kernel
theorem d_X_parts_25 : decode b_X_parts 25 = .ok (.iload_n 2, 1) := by decide +kernel
theorem d_X_parts_26 : decode b_X_parts 26 = .ok (.aload_n 0, 1) := by decide +kernel
theorem d_X_parts_27 : decode b_X_parts 27 = .ok (.getfield 28, 3) := by decide +kernel
theorem d_X_parts_30 : decode b_X_parts 30 = .ok (.iload_n 3, 1) := by decide +kernel
theorem d_X_parts_31 : decode b_X_parts 31 = .ok (.iload 5, 2) := by decide +kernel
theorem d_X_parts_33 : decode b_X_parts 33 = .ok (.iadd, 1) := by decide +kernel
theorem d_X_parts_34 : decode b_X_parts 34 = .ok (.iaload, 1) := by decide +kernel
theorem d_X_parts_35 : decode b_X_parts 35 = .ok (.iand, 1) := by decide +kernel
theorem d_X_parts_36 : decode b_X_parts 36 = .ok (.iload 4, 2) := by decide +kernel
theorem d_X_parts_38 : decode b_X_parts 38 = .ok (.if_icmp .eq 5, 3) := by decide +kernel
theorem d_X_parts_41 : decode b_X_parts 41 = .ok (.iconst 1, 1) := by decide +kernel
theorem d_X_parts_42 : decode b_X_parts 42 = .ok (.ireturn, 1) := by decide +kernel
theorem d_X_parts_43 : decode b_X_parts 43 = .ok (.iinc 5 1, 3) := by decide +kernel
theorem d_X_parts_46 : decode b_X_parts 46 = .ok (.goto (-27), 3) := by decide +kernel
theorem d_X_parts_49 : decode b_X_parts 49 = .ok (.iconst 0, 1) := by decide +kernel
theorem d_X_parts_50 : decode b_X_parts 50 = .ok (.ireturn, 1) := by decide +kernel
theorem d_X_partingOf_0 : decode b_X_partingOf 0 = .ok (.iconst 0, 1) := by decide +kernel
theorem d_X_partingOf_1 : decode b_X_partingOf 1 = .ok (.istore_n 3, 1) := by decide +kernel
theorem d_X_partingOf_2 : decode b_X_partingOf 2 = .ok (.iload_n 1, 1) := by decide +kernel
theorem d_X_partingOf_3 : decode b_X_partingOf 3 = .ok (.invokestatic 117, 3) := by decide +kernel
theorem d_X_partingOf_6 : decode b_X_partingOf 6 = .ok (.iconst 2, 1) := by decide +kernel
theorem d_X_partingOf_7 : decode b_X_partingOf 7 = .ok (.if_icmp .lt 44, 3) := by decide +kernel
theorem d_X_partingOf_10 : decode b_X_partingOf 10 = .ok (.iconst 0, 1) := by decide +kernel
theorem d_X_partingOf_11 : decode b_X_partingOf 11 = .ok (.istore 4, 2) := by decide +kernel
theorem d_X_partingOf_13 : decode b_X_partingOf 13 = .ok (.iload 4, 2) := by decide +kernel
theorem d_X_partingOf_15 : decode b_X_partingOf 15 = .ok (.iconst 5, 1) := by decide +kernel
theorem d_X_partingOf_16 : decode b_X_partingOf 16 = .ok (.if_icmp .ge 35, 3) := by decide +kernel
theorem d_X_partingOf_19 : decode b_X_partingOf 19 = .ok (.iload_n 2, 1) := by decide +kernel
theorem d_X_partingOf_20 : decode b_X_partingOf 20 = .ok (.iload 4, 2) := by decide +kernel
theorem d_X_partingOf_22 : decode b_X_partingOf 22 = .ok (.invokestatic 100, 3) := by decide +kernel
theorem d_X_partingOf_25 : decode b_X_partingOf 25 = .ok (.ifCond .eq 20, 3) := by decide +kernel
theorem d_X_partingOf_28 : decode b_X_partingOf 28 = .ok (.aload_n 0, 1) := by decide +kernel
theorem d_X_partingOf_29 : decode b_X_partingOf 29 = .ok (.iload 4, 2) := by decide +kernel
theorem d_X_partingOf_31 : decode b_X_partingOf 31 = .ok (.iload_n 1, 1) := by decide +kernel
theorem d_X_partingOf_32 : decode b_X_partingOf 32 = .ok (.invokevirtual 179, 3) := by decide +kernel
theorem d_X_partingOf_35 : decode b_X_partingOf 35 = .ok (.ifCond .eq 10, 3) := by decide +kernel
theorem d_X_partingOf_38 : decode b_X_partingOf 38 = .ok (.iload_n 3, 1) := by decide +kernel
theorem d_X_partingOf_39 : decode b_X_partingOf 39 = .ok (.iconst 1, 1) := by decide +kernel
theorem d_X_partingOf_40 : decode b_X_partingOf 40 = .ok (.iload 4, 2) := by decide +kernel
theorem d_X_partingOf_42 : decode b_X_partingOf 42 = .ok (.ishl, 1) := by decide +kernel
theorem d_X_partingOf_43 : decode b_X_partingOf 43 = .ok (.ior, 1) := by decide +kernel
theorem d_X_partingOf_44 : decode b_X_partingOf 44 = .ok (.istore_n 3, 1) := by decide +kernel
theorem d_X_partingOf_45 : decode b_X_partingOf 45 = .ok (.iinc 4 1, 3) := by decide +kernel
theorem d_X_partingOf_48 : decode b_X_partingOf 48 = .ok (.goto (-35), 3) := by decide +kernel
theorem d_X_partingOf_51 : decode b_X_partingOf 51 = .ok (.iload_n 3, 1) := by decide +kernel
theorem d_X_partingOf_52 : decode b_X_partingOf 52 = .ok (.ireturn, 1) := by decide +kernel
theorem d_X_neededFor_0 : decode b_X_neededFor 0 = .ok (.aload_n 0, 1) := by decide +kernel
theorem d_X_neededFor_1 : decode b_X_neededFor 1 = .ok (.iload_n 1, 1) := by decide +kernel
theorem d_X_neededFor_2 : decode b_X_neededFor 2 = .ok (.iload_n 2, 1) := by decide +kernel
theorem d_X_neededFor_3 : decode b_X_neededFor 3 = .ok (.invokevirtual 125, 3) := by decide +kernel
theorem d_X_neededFor_6 : decode b_X_neededFor 6 = .ok (.istore 5, 2) := by decide +kernel
theorem d_X_neededFor_8 : decode b_X_neededFor 8 = .ok (.iload 4, 2) := by decide +kernel
theorem d_X_neededFor_10 : decode b_X_neededFor 10 = .ok (.iload 5, 2) := by decide +kernel
theorem d_X_neededFor_12 : decode b_X_neededFor 12 = .ok (.invokestatic 117, 3) := by decide +kernel
theorem d_X_neededFor_15 : decode b_X_neededFor 15 = .ok (.invokestatic 182, 3) := by decide +kernel
theorem d_X_neededFor_18 : decode b_X_neededFor 18 = .ok (.istore 6, 2) := by decide +kernel
theorem d_X_neededFor_20 : decode b_X_neededFor 20 = .ok (.iconst 0, 1) := by decide +kernel
theorem d_X_neededFor_21 : decode b_X_neededFor 21 = .ok (.istore 7, 2) := by decide +kernel
theorem d_X_neededFor_23 : decode b_X_neededFor 23 = .ok (.iload 7, 2) := by decide +kernel
theorem d_X_neededFor_25 : decode b_X_neededFor 25 = .ok (.iconst 5, 1) := by decide +kernel
theorem d_X_neededFor_26 : decode b_X_neededFor 26 = .ok (.if_icmp .ge 43, 3) := by decide +kernel
theorem d_X_neededFor_29 : decode b_X_neededFor 29 = .ok (.iload 6, 2) := by decide +kernel
theorem d_X_neededFor_31 : decode b_X_neededFor 31 = .ok (.iload_n 3, 1) := by decide +kernel
theorem d_X_neededFor_32 : decode b_X_neededFor 32 = .ok (.if_icmp .le 37, 3) := by decide +kernel
theorem d_X_neededFor_35 : decode b_X_neededFor 35 = .ok (.iload 5, 2) := by decide +kernel
theorem d_X_neededFor_37 : decode b_X_neededFor 37 = .ok (.iload 7, 2) := by decide +kernel
theorem d_X_neededFor_39 : decode b_X_neededFor 39 = .ok (.invokestatic 100, 3) := by decide +kernel
theorem d_X_neededFor_42 : decode b_X_neededFor 42 = .ok (.ifCond .eq 21, 3) := by decide +kernel
theorem d_X_neededFor_45 : decode b_X_neededFor 45 = .ok (.iload 6, 2) := by decide +kernel
theorem d_X_neededFor_47 : decode b_X_neededFor 47 = .ok (.aload_n 0, 1) := by decide +kernel
theorem d_X_neededFor_48 : decode b_X_neededFor 48 = .ok (.iload 7, 2) := by decide +kernel
theorem d_X_neededFor_50 : decode b_X_neededFor 50 = .ok (.iload_n 1, 1) := by decide +kernel
theorem d_X_neededFor_51 : decode b_X_neededFor 51 = .ok (.iload 5, 2) := by decide +kernel
theorem d_X_neededFor_53 : decode b_X_neededFor 53 = .ok (.iload 6, 2) := by decide +kernel
theorem d_X_neededFor_55 : decode b_X_neededFor 55 = .ok (.invokevirtual 128, 3) := by decide +kernel
theorem d_X_neededFor_58 : decode b_X_neededFor 58 = .ok (.invokestatic 182, 3) := by decide +kernel
theorem d_X_neededFor_61 : decode b_X_neededFor 61 = .ok (.istore 6, 2) := by decide +kernel
theorem d_X_neededFor_63 : decode b_X_neededFor 63 = .ok (.iinc 7 1, 3) := by decide +kernel
theorem d_X_neededFor_66 : decode b_X_neededFor 66 = .ok (.goto (-43), 3) := by decide +kernel
theorem d_X_neededFor_69 : decode b_X_neededFor 69 = .ok (.iload 6, 2) := by decide +kernel
theorem d_X_neededFor_71 : decode b_X_neededFor 71 = .ok (.ireturn, 1) := by decide +kernel
theorem d_X_neededWith_0 : decode b_X_neededWith 0 = .ok (.iload_n 3, 1) := by decide +kernel
theorem d_X_neededWith_1 : decode b_X_neededWith 1 = .ok (.iconst 1, 1) := by decide +kernel
theorem d_X_neededWith_2 : decode b_X_neededWith 2 = .ok (.iload_n 1, 1) := by decide +kernel
theorem d_X_neededWith_3 : decode b_X_neededWith 3 = .ok (.ishl, 1) := by decide +kernel
theorem d_X_neededWith_4 : decode b_X_neededWith 4 = .ok (.iconst (-1), 1) := by decide +kernel
theorem d_X_neededWith_5 : decode b_X_neededWith 5 = .ok (.ixor, 1) := by decide +kernel
theorem d_X_neededWith_6 : decode b_X_neededWith 6 = .ok (.iand, 1) := by decide +kernel
theorem d_X_neededWith_7 : decode b_X_neededWith 7 = .ok (.istore 5, 2) := by decide +kernel
theorem d_X_neededWith_9 : decode b_X_neededWith 9 = .ok (.iconst 0, 1) := by decide +kernel
theorem d_X_neededWith_10 : decode b_X_neededWith 10 = .ok (.istore 6, 2) := by decide +kernel
theorem d_X_neededWith_12 : decode b_X_neededWith 12 = .ok (.iconst 0, 1) := by decide +kernel
theorem d_X_neededWith_13 : decode b_X_neededWith 13 = .ok (.istore 7, 2) := by decide +kernel
theorem d_X_neededWith_15 : decode b_X_neededWith 15 = .ok (.iload 7, 2) := by decide +kernel
theorem d_X_neededWith_17 : decode b_X_neededWith 17 = .ok (.iconst 4, 1) := by decide +kernel
theorem d_X_neededWith_18 : decode b_X_neededWith 18 = .ok (.if_icmp .ge 54, 3) := by decide +kernel
theorem d_X_neededWith_21 : decode b_X_neededWith 21 = .ok (.iload 6, 2) := by decide +kernel
theorem d_X_neededWith_23 : decode b_X_neededWith 23 = .ok (.iconst 1, 1) := by decide +kernel
theorem d_X_neededWith_24 : decode b_X_neededWith 24 = .ok (.iadd, 1) := by decide +kernel
theorem d_X_neededWith_25 : decode b_X_neededWith 25 = .ok (.iload 4, 2) := by decide +kernel
theorem d_X_neededWith_27 : decode b_X_neededWith 27 = .ok (.if_icmp .ge 45, 3) := by decide +kernel
theorem d_X_neededWith_30 : decode b_X_neededWith 30 = .ok (.aload_n 0, 1) := by decide +kernel
theorem d_X_neededWith_31 : decode b_X_neededWith 31 = .ok (.iload_n 2, 1) := by decide +kernel
theorem d_X_neededWith_32 : decode b_X_neededWith 32 = .ok (.aload_n 0, 1) := by decide +kernel
theorem d_X_neededWith_33 : decode b_X_neededWith 33 = .ok (.iload_n 1, 1) := by decide +kernel
theorem d_X_neededWith_34 : decode b_X_neededWith 34 = .ok (.iload 7, 2) := by decide +kernel
theorem d_X_neededWith_36 : decode b_X_neededWith 36 = .ok (.invokevirtual 156, 3) := by decide +kernel
theorem d_X_neededWith_39 : decode b_X_neededWith 39 = .ok (.iand, 1) := by decide +kernel
theorem d_X_neededWith_40 : decode b_X_neededWith 40 = .ok (.iload 5, 2) := by decide +kernel
theorem d_X_neededWith_42 : decode b_X_neededWith 42 = .ok (.iload 6, 2) := by decide +kernel
theorem d_X_neededWith_44 : decode b_X_neededWith 44 = .ok (.iconst 1, 1) := by decide +kernel
theorem d_X_neededWith_45 : decode b_X_neededWith 45 = .ok (.invokestatic 187, 3) := by decide +kernel
theorem d_X_neededWith_48 : decode b_X_neededWith 48 = .ok (.iload 4, 2) := by decide +kernel
theorem d_X_neededWith_50 : decode b_X_neededWith 50 = .ok (.iconst 1, 1) := by decide +kernel
theorem d_X_neededWith_51 : decode b_X_neededWith 51 = .ok (.isub, 1) := by decide +kernel
theorem d_X_neededWith_52 : decode b_X_neededWith 52 = .ok (.invokevirtual 132, 3) := by decide +kernel
theorem d_X_neededWith_55 : decode b_X_neededWith 55 = .ok (.istore 8, 2) := by decide +kernel
theorem d_X_neededWith_57 : decode b_X_neededWith 57 = .ok (.iload 6, 2) := by decide +kernel
theorem d_X_neededWith_59 : decode b_X_neededWith 59 = .ok (.iload 8, 2) := by decide +kernel
theorem d_X_neededWith_61 : decode b_X_neededWith 61 = .ok (.invokestatic 187, 3) := by decide +kernel
theorem d_X_neededWith_64 : decode b_X_neededWith 64 = .ok (.istore 6, 2) := by decide +kernel
theorem d_X_neededWith_66 : decode b_X_neededWith 66 = .ok (.iinc 7 1, 3) := by decide +kernel
theorem d_X_neededWith_69 : decode b_X_neededWith 69 = .ok (.goto (-54), 3) := by decide +kernel
theorem d_X_neededWith_72 : decode b_X_neededWith 72 = .ok (.iload 6, 2) := by decide +kernel
theorem d_X_neededWith_74 : decode b_X_neededWith 74 = .ok (.iconst 1, 1) := by decide +kernel
theorem d_X_neededWith_75 : decode b_X_neededWith 75 = .ok (.iadd, 1) := by decide +kernel
theorem d_X_neededWith_76 : decode b_X_neededWith 76 = .ok (.ireturn, 1) := by decide +kernel
theorem d_X_mostSpecificOf_0 : decode b_X_mostSpecificOf 0 = .ok (.iconst 0, 1) := by decide +kernel
theorem d_X_mostSpecificOf_1 : decode b_X_mostSpecificOf 1 = .ok (.istore_n 2, 1) := by decide +kernel
theorem d_X_mostSpecificOf_2 : decode b_X_mostSpecificOf 2 = .ok (.iconst (-1), 1) := by decide +kernel
theorem d_X_mostSpecificOf_3 : decode b_X_mostSpecificOf 3 = .ok (.istore_n 3, 1) := by decide +kernel
theorem d_X_mostSpecificOf_4 : decode b_X_mostSpecificOf 4 = .ok (.iconst 0, 1) := by decide +kernel
theorem d_X_mostSpecificOf_5 : decode b_X_mostSpecificOf 5 = .ok (.istore 4, 2) := by decide +kernel
theorem d_X_mostSpecificOf_7 : decode b_X_mostSpecificOf 7 = .ok (.iload 4, 2) := by decide +kernel
theorem d_X_mostSpecificOf_9 : decode b_X_mostSpecificOf 9 = .ok (.aload_n 0, 1) := by decide +kernel
theorem d_X_mostSpecificOf_10 : decode b_X_mostSpecificOf 10 = .ok (.getfield 60, 3) := by decide +kernel
theorem d_X_mostSpecificOf_13 : decode b_X_mostSpecificOf 13 = .ok (.if_icmp .ge 57, 3) := by decide +kernel
theorem d_X_mostSpecificOf_16 : decode b_X_mostSpecificOf 16 = .ok (.iload_n 1, 1) := by decide +kernel
theorem d_X_mostSpecificOf_17 : decode b_X_mostSpecificOf 17 = .ok (.iload 4, 2) := by decide +kernel
theorem d_X_mostSpecificOf_19 : decode b_X_mostSpecificOf 19 = .ok (.invokestatic 100, 3) := by decide +kernel
theorem d_X_mostSpecificOf_22 : decode b_X_mostSpecificOf 22 = .ok (.ifCond .eq 42, 3) := by decide +kernel
theorem d_X_mostSpecificOf_25 : decode b_X_mostSpecificOf 25 = .ok (.aload_n 0, 1) := by decide +kernel
theorem d_X_mostSpecificOf_26 : decode b_X_mostSpecificOf 26 = .ok (.getfield 13, 3) := by decide +kernel
theorem d_X_mostSpecificOf_29 : decode b_X_mostSpecificOf 29 = .ok (.iload 4, 2) := by decide +kernel
theorem d_X_mostSpecificOf_31 : decode b_X_mostSpecificOf 31 = .ok (.iaload, 1) := by decide +kernel
theorem d_X_mostSpecificOf_32 : decode b_X_mostSpecificOf 32 = .ok (.iload_n 3, 1) := by decide +kernel
theorem d_X_mostSpecificOf_33 : decode b_X_mostSpecificOf 33 = .ok (.if_icmp .le 13, 3) := by decide +kernel
theorem d_X_mostSpecificOf_36 : decode b_X_mostSpecificOf 36 = .ok (.aload_n 0, 1) := by decide +kernel
theorem d_X_mostSpecificOf_37 : decode b_X_mostSpecificOf 37 = .ok (.getfield 13, 3) := by decide +kernel
theorem d_X_mostSpecificOf_40 : decode b_X_mostSpecificOf 40 = .ok (.iload 4, 2) := by decide +kernel
theorem d_X_mostSpecificOf_42 : decode b_X_mostSpecificOf 42 = .ok (.iaload, 1) := by decide +kernel
theorem d_X_mostSpecificOf_43 : decode b_X_mostSpecificOf 43 = .ok (.istore_n 3, 1) := by decide +kernel
theorem d_X_mostSpecificOf_44 : decode b_X_mostSpecificOf 44 = .ok (.iconst 0, 1) := by decide +kernel
theorem d_X_mostSpecificOf_45 : decode b_X_mostSpecificOf 45 = .ok (.istore_n 2, 1) := by decide +kernel
theorem d_X_mostSpecificOf_46 : decode b_X_mostSpecificOf 46 = .ok (.aload_n 0, 1) := by decide +kernel
theorem d_X_mostSpecificOf_47 : decode b_X_mostSpecificOf 47 = .ok (.getfield 13, 3) := by decide +kernel
theorem d_X_mostSpecificOf_50 : decode b_X_mostSpecificOf 50 = .ok (.iload 4, 2) := by decide +kernel
theorem d_X_mostSpecificOf_52 : decode b_X_mostSpecificOf 52 = .ok (.iaload, 1) := by decide +kernel
theorem d_X_mostSpecificOf_53 : decode b_X_mostSpecificOf 53 = .ok (.iload_n 3, 1) := by decide +kernel
theorem d_X_mostSpecificOf_54 : decode b_X_mostSpecificOf 54 = .ok (.if_icmp .ne 10, 3) := by decide +kernel
theorem d_X_mostSpecificOf_57 : decode b_X_mostSpecificOf 57 = .ok (.iload_n 2, 1) := by decide +kernel
theorem d_X_mostSpecificOf_58 : decode b_X_mostSpecificOf 58 = .ok (.iconst 1, 1) := by decide +kernel
theorem d_X_mostSpecificOf_59 : decode b_X_mostSpecificOf 59 = .ok (.iload 4, 2) := by decide +kernel
theorem d_X_mostSpecificOf_61 : decode b_X_mostSpecificOf 61 = .ok (.ishl, 1) := by decide +kernel
theorem d_X_mostSpecificOf_62 : decode b_X_mostSpecificOf 62 = .ok (.ior, 1) := by decide +kernel
theorem d_X_mostSpecificOf_63 : decode b_X_mostSpecificOf 63 = .ok (.istore_n 2, 1) := by decide +kernel
theorem d_X_mostSpecificOf_64 : decode b_X_mostSpecificOf 64 = .ok (.iinc 4 1, 3) := by decide +kernel
theorem d_X_mostSpecificOf_67 : decode b_X_mostSpecificOf 67 = .ok (.goto (-60), 3) := by decide +kernel
theorem d_X_mostSpecificOf_70 : decode b_X_mostSpecificOf 70 = .ok (.iload_n 2, 1) := by decide +kernel
theorem d_X_mostSpecificOf_71 : decode b_X_mostSpecificOf 71 = .ok (.ireturn, 1) := by decide +kernel
theorem d_X_greatestShareOf_0 : decode b_X_greatestShareOf 0 = .ok (.iconst 0, 1) := by decide +kernel
theorem d_X_greatestShareOf_1 : decode b_X_greatestShareOf 1 = .ok (.istore_n 2, 1) := by decide +kernel
theorem d_X_greatestShareOf_2 : decode b_X_greatestShareOf 2 = .ok (.iconst (-1), 1) := by decide +kernel
theorem d_X_greatestShareOf_3 : decode b_X_greatestShareOf 3 = .ok (.istore_n 3, 1) := by decide +kernel
theorem d_X_greatestShareOf_4 : decode b_X_greatestShareOf 4 = .ok (.iconst 1, 1) := by decide +kernel
theorem d_X_greatestShareOf_5 : decode b_X_greatestShareOf 5 = .ok (.istore 4, 2) := by decide +kernel
theorem d_X_greatestShareOf_7 : decode b_X_greatestShareOf 7 = .ok (.iconst 0, 1) := by decide +kernel
theorem d_X_greatestShareOf_8 : decode b_X_greatestShareOf 8 = .ok (.istore 5, 2) := by decide +kernel
theorem d_X_greatestShareOf_10 : decode b_X_greatestShareOf 10 = .ok (.iload 5, 2) := by decide +kernel
theorem d_X_greatestShareOf_12 : decode b_X_greatestShareOf 12 = .ok (.aload_n 0, 1) := by decide +kernel
theorem d_X_greatestShareOf_13 : decode b_X_greatestShareOf 13 = .ok (.getfield 60, 3) := by decide +kernel
theorem d_X_greatestShareOf_16 : decode b_X_greatestShareOf 16 = .ok (.if_icmp .ge 78, 3) := by decide +kernel
theorem d_X_greatestShareOf_19 : decode b_X_greatestShareOf 19 = .ok (.iload_n 1, 1) := by decide +kernel
theorem d_X_greatestShareOf_20 : decode b_X_greatestShareOf 20 = .ok (.iload 5, 2) := by decide +kernel
theorem d_X_greatestShareOf_22 : decode b_X_greatestShareOf 22 = .ok (.invokestatic 100, 3) := by decide +kernel
theorem d_X_greatestShareOf_25 : decode b_X_greatestShareOf 25 = .ok (.ifCond .eq 63, 3) := by decide +kernel
theorem d_X_greatestShareOf_28 : decode b_X_greatestShareOf 28 = .ok (.aload_n 0, 1) := by decide +kernel
theorem d_X_greatestShareOf_29 : decode b_X_greatestShareOf 29 = .ok (.getfield 16, 3) := by decide +kernel
theorem d_X_greatestShareOf_32 : decode b_X_greatestShareOf 32 = .ok (.iload 5, 2) := by decide +kernel
theorem d_X_greatestShareOf_34 : decode b_X_greatestShareOf 34 = .ok (.iaload, 1) := by decide +kernel
theorem d_X_greatestShareOf_35 : decode b_X_greatestShareOf 35 = .ok (.iload 4, 2) := by decide +kernel
theorem d_X_greatestShareOf_37 : decode b_X_greatestShareOf 37 = .ok (.imul, 1) := by decide +kernel
theorem d_X_greatestShareOf_38 : decode b_X_greatestShareOf 38 = .ok (.iload_n 3, 1) := by decide +kernel
theorem d_X_greatestShareOf_39 : decode b_X_greatestShareOf 39 = .ok (.aload_n 0, 1) := by decide +kernel
theorem d_X_greatestShareOf_40 : decode b_X_greatestShareOf 40 = .ok (.getfield 19, 3) := by decide +kernel
theorem d_X_greatestShareOf_43 : decode b_X_greatestShareOf 43 = .ok (.iload 5, 2) := by decide +kernel
theorem d_X_greatestShareOf_45 : decode b_X_greatestShareOf 45 = .ok (.iaload, 1) := by decide +kernel
theorem d_X_greatestShareOf_46 : decode b_X_greatestShareOf 46 = .ok (.imul, 1) := by decide +kernel
theorem d_X_greatestShareOf_47 : decode b_X_greatestShareOf 47 = .ok (.invokestatic 190, 3) := by decide +kernel
theorem d_X_greatestShareOf_50 : decode b_X_greatestShareOf 50 = .ok (.istore 6, 2) := by decide +kernel
theorem d_X_greatestShareOf_52 : decode b_X_greatestShareOf 52 = .ok (.iload 6, 2) := by decide +kernel
theorem d_X_greatestShareOf_54 : decode b_X_greatestShareOf 54 = .ok (.ifCond .le 22, 3) := by decide +kernel
theorem d_X_greatestShareOf_57 : decode b_X_greatestShareOf 57 = .ok (.aload_n 0, 1) := by decide +kernel
theorem d_X_greatestShareOf_58 : decode b_X_greatestShareOf 58 = .ok (.getfield 16, 3) := by decide +kernel
theorem d_X_greatestShareOf_61 : decode b_X_greatestShareOf 61 = .ok (.iload 5, 2) := by decide +kernel
theorem d_X_greatestShareOf_63 : decode b_X_greatestShareOf 63 = .ok (.iaload, 1) := by decide +kernel
theorem d_X_greatestShareOf_64 : decode b_X_greatestShareOf 64 = .ok (.istore_n 3, 1) := by decide +kernel
theorem d_X_greatestShareOf_65 : decode b_X_greatestShareOf 65 = .ok (.aload_n 0, 1) := by decide +kernel
theorem d_X_greatestShareOf_66 : decode b_X_greatestShareOf 66 = .ok (.getfield 19, 3) := by decide +kernel
theorem d_X_greatestShareOf_69 : decode b_X_greatestShareOf 69 = .ok (.iload 5, 2) := by decide +kernel
theorem d_X_greatestShareOf_71 : decode b_X_greatestShareOf 71 = .ok (.iaload, 1) := by decide +kernel
theorem d_X_greatestShareOf_72 : decode b_X_greatestShareOf 72 = .ok (.istore 4, 2) := by decide +kernel
theorem d_X_greatestShareOf_74 : decode b_X_greatestShareOf 74 = .ok (.iconst 0, 1) := by decide +kernel
theorem d_X_greatestShareOf_75 : decode b_X_greatestShareOf 75 = .ok (.istore_n 2, 1) := by decide +kernel
theorem d_X_greatestShareOf_76 : decode b_X_greatestShareOf 76 = .ok (.iload 6, 2) := by decide +kernel
theorem d_X_greatestShareOf_78 : decode b_X_greatestShareOf 78 = .ok (.ifCond .lt 10, 3) := by decide +kernel
theorem d_X_greatestShareOf_81 : decode b_X_greatestShareOf 81 = .ok (.iload_n 2, 1) := by decide +kernel
theorem d_X_greatestShareOf_82 : decode b_X_greatestShareOf 82 = .ok (.iconst 1, 1) := by decide +kernel
theorem d_X_greatestShareOf_83 : decode b_X_greatestShareOf 83 = .ok (.iload 5, 2) := by decide +kernel
theorem d_X_greatestShareOf_85 : decode b_X_greatestShareOf 85 = .ok (.ishl, 1) := by decide +kernel
theorem d_X_greatestShareOf_86 : decode b_X_greatestShareOf 86 = .ok (.ior, 1) := by decide +kernel
theorem d_X_greatestShareOf_87 : decode b_X_greatestShareOf 87 = .ok (.istore_n 2, 1) := by decide +kernel
theorem d_X_greatestShareOf_88 : decode b_X_greatestShareOf 88 = .ok (.iinc 5 1, 3) := by decide +kernel
theorem d_X_greatestShareOf_91 : decode b_X_greatestShareOf 91 = .ok (.goto (-81), 3) := by decide +kernel
theorem d_X_greatestShareOf_94 : decode b_X_greatestShareOf 94 = .ok (.iload_n 2, 1) := by decide +kernel
theorem d_X_greatestShareOf_95 : decode b_X_greatestShareOf 95 = .ok (.ireturn, 1) := by decide +kernel
theorem d_X_lastNumberOf_0 : decode b_X_lastNumberOf 0 = .ok (.iconst 0, 1) := by decide +kernel
theorem d_X_lastNumberOf_1 : decode b_X_lastNumberOf 1 = .ok (.istore_n 2, 1) := by decide +kernel
theorem d_X_lastNumberOf_2 : decode b_X_lastNumberOf 2 = .ok (.iconst 0, 1) := by decide +kernel
theorem d_X_lastNumberOf_3 : decode b_X_lastNumberOf 3 = .ok (.istore_n 3, 1) := by decide +kernel
theorem d_X_lastNumberOf_4 : decode b_X_lastNumberOf 4 = .ok (.iload_n 3, 1) := by decide +kernel
theorem d_X_lastNumberOf_5 : decode b_X_lastNumberOf 5 = .ok (.aload_n 0, 1) := by decide +kernel
theorem d_X_lastNumberOf_6 : decode b_X_lastNumberOf 6 = .ok (.getfield 60, 3) := by decide +kernel
theorem d_X_lastNumberOf_9 : decode b_X_lastNumberOf 9 = .ok (.if_icmp .ge 24, 3) := by decide +kernel
theorem d_X_lastNumberOf_12 : decode b_X_lastNumberOf 12 = .ok (.iload_n 1, 1) := by decide +kernel
theorem d_X_lastNumberOf_13 : decode b_X_lastNumberOf 13 = .ok (.iload_n 3, 1) := by decide +kernel
theorem d_X_lastNumberOf_14 : decode b_X_lastNumberOf 14 = .ok (.invokestatic 100, 3) := by decide +kernel
theorem d_X_lastNumberOf_17 : decode b_X_lastNumberOf 17 = .ok (.ifCond .eq 10, 3) := by decide +kernel
theorem d_X_lastNumberOf_20 : decode b_X_lastNumberOf 20 = .ok (.aload_n 0, 1) := by decide +kernel
theorem d_X_lastNumberOf_21 : decode b_X_lastNumberOf 21 = .ok (.getfield 9, 3) := by decide +kernel
theorem d_X_lastNumberOf_24 : decode b_X_lastNumberOf 24 = .ok (.iload_n 3, 1) := by decide +kernel
theorem d_X_lastNumberOf_25 : decode b_X_lastNumberOf 25 = .ok (.iaload, 1) := by decide +kernel
theorem d_X_lastNumberOf_26 : decode b_X_lastNumberOf 26 = .ok (.istore_n 2, 1) := by decide +kernel
theorem d_X_lastNumberOf_27 : decode b_X_lastNumberOf 27 = .ok (.iinc 3 1, 3) := by decide +kernel
theorem d_X_lastNumberOf_30 : decode b_X_lastNumberOf 30 = .ok (.goto (-26), 3) := by decide +kernel
theorem d_X_lastNumberOf_33 : decode b_X_lastNumberOf 33 = .ok (.iload_n 2, 1) := by decide +kernel
theorem d_X_lastNumberOf_34 : decode b_X_lastNumberOf 34 = .ok (.ireturn, 1) := by decide +kernel
theorem d_X_isGiven_0 : decode b_X_isGiven 0 = .ok (.aload_n 0, 1) := by decide +kernel
theorem d_X_isGiven_1 : decode b_X_isGiven 1 = .ok (.iload_n 1, 1) := by decide +kernel
theorem d_X_isGiven_2 : decode b_X_isGiven 2 = .ok (.iconst 4, 1) := by decide +kernel
theorem d_X_isGiven_3 : decode b_X_isGiven 3 = .ok (.idiv, 1) := by decide +kernel
theorem d_X_isGiven_4 : decode b_X_isGiven 4 = .ok (.invokevirtual 153, 3) := by decide +kernel
theorem d_X_isGiven_7 : decode b_X_isGiven 7 = .ok (.iload_n 1, 1) := by decide +kernel
theorem d_X_isGiven_8 : decode b_X_isGiven 8 = .ok (.iconst 4, 1) := by decide +kernel
theorem d_X_isGiven_9 : decode b_X_isGiven 9 = .ok (.irem, 1) := by decide +kernel
theorem d_X_isGiven_10 : decode b_X_isGiven 10 = .ok (.if_icmp .ne 7, 3) := by decide +kernel
theorem d_X_isGiven_13 : decode b_X_isGiven 13 = .ok (.iconst 1, 1) := by decide +kernel
theorem d_X_isGiven_14 : decode b_X_isGiven 14 = .ok (.goto 4, 3) := by decide +kernel
theorem d_X_isGiven_17 : decode b_X_isGiven 17 = .ok (.iconst 0, 1) := by decide +kernel
theorem d_X_isGiven_18 : decode b_X_isGiven 18 = .ok (.ireturn, 1) := by decide +kernel
theorem d_X_holds_0 : decode b_X_holds 0 = .ok (.aload_n 0, 1) := by decide +kernel
theorem d_X_holds_1 : decode b_X_holds 1 = .ok (.getfield 169, 3) := by decide +kernel
theorem d_X_holds_4 : decode b_X_holds 4 = .ok (.aload_n 0, 1) := by decide +kernel
theorem d_X_holds_5 : decode b_X_holds 5 = .ok (.getfield 46, 3) := by decide +kernel
theorem d_X_holds_8 : decode b_X_holds 8 = .ok (.iload_n 1, 1) := by decide +kernel
theorem d_X_holds_9 : decode b_X_holds 9 = .ok (.iaload, 1) := by decide +kernel
theorem d_X_holds_10 : decode b_X_holds 10 = .ok (.if_icmp .gt 43, 3) := by decide +kernel
theorem d_X_holds_13 : decode b_X_holds 13 = .ok (.aload_n 0, 1) := by decide +kernel
theorem d_X_holds_14 : decode b_X_holds 14 = .ok (.aload_n 0, 1) := by decide +kernel
theorem d_X_holds_15 : decode b_X_holds 15 = .ok (.getfield 40, 3) := by decide +kernel
theorem d_X_holds_18 : decode b_X_holds 18 = .ok (.iload_n 1, 1) := by decide +kernel
theorem d_X_holds_19 : decode b_X_holds 19 = .ok (.iaload, 1) := by decide +kernel
theorem d_X_holds_20 : decode b_X_holds 20 = .ok (.invokevirtual 193, 3) := by decide +kernel
theorem d_X_holds_23 : decode b_X_holds 23 = .ok (.ifCond .eq 30, 3) := by decide +kernel
theorem d_X_holds_26 : decode b_X_holds 26 = .ok (.aload_n 0, 1) := by decide +kernel
theorem d_X_holds_27 : decode b_X_holds 27 = .ok (.getfield 43, 3) := by decide +kernel
theorem d_X_holds_30 : decode b_X_holds 30 = .ok (.iload_n 1, 1) := by decide +kernel
theorem d_X_holds_31 : decode b_X_holds 31 = .ok (.iaload, 1) := by decide +kernel
theorem d_X_holds_32 : decode b_X_holds 32 = .ok (.iconst (-1), 1) := by decide +kernel
theorem d_X_holds_33 : decode b_X_holds 33 = .ok (.if_icmp .eq 16, 3) := by decide +kernel
theorem d_X_holds_36 : decode b_X_holds 36 = .ok (.aload_n 0, 1) := by decide +kernel
theorem d_X_holds_37 : decode b_X_holds 37 = .ok (.aload_n 0, 1) := by decide +kernel
theorem d_X_holds_38 : decode b_X_holds 38 = .ok (.getfield 43, 3) := by decide +kernel
theorem d_X_holds_41 : decode b_X_holds 41 = .ok (.iload_n 1, 1) := by decide +kernel
theorem d_X_holds_42 : decode b_X_holds 42 = .ok (.iaload, 1) := by decide +kernel
theorem d_X_holds_43 : decode b_X_holds 43 = .ok (.invokevirtual 193, 3) := by decide +kernel
theorem d_X_holds_46 : decode b_X_holds 46 = .ok (.ifCond .eq 7, 3) := by decide +kernel
theorem d_X_holds_49 : decode b_X_holds 49 = .ok (.iconst 1, 1) := by decide +kernel
theorem d_X_holds_50 : decode b_X_holds 50 = .ok (.goto 4, 3) := by decide +kernel
theorem d_X_holds_53 : decode b_X_holds 53 = .ok (.iconst 0, 1) := by decide +kernel
theorem d_X_holds_54 : decode b_X_holds 54 = .ok (.ireturn, 1) := by decide +kernel
theorem d_X_howManyHold_0 : decode b_X_howManyHold 0 = .ok (.iconst 0, 1) := by decide +kernel
theorem d_X_howManyHold_1 : decode b_X_howManyHold 1 = .ok (.istore_n 1, 1) := by decide +kernel
theorem d_X_howManyHold_2 : decode b_X_howManyHold 2 = .ok (.iconst 0, 1) := by decide +kernel
theorem d_X_howManyHold_3 : decode b_X_howManyHold 3 = .ok (.istore_n 2, 1) := by decide +kernel
theorem d_X_howManyHold_4 : decode b_X_howManyHold 4 = .ok (.iload_n 2, 1) := by decide +kernel
theorem d_X_howManyHold_5 : decode b_X_howManyHold 5 = .ok (.aload_n 0, 1) := by decide +kernel
theorem d_X_howManyHold_6 : decode b_X_howManyHold 6 = .ok (.getfield 164, 3) := by decide +kernel
theorem d_X_howManyHold_9 : decode b_X_howManyHold 9 = .ok (.if_icmp .ge 20, 3) := by decide +kernel
theorem d_X_howManyHold_12 : decode b_X_howManyHold 12 = .ok (.aload_n 0, 1) := by decide +kernel
theorem d_X_howManyHold_13 : decode b_X_howManyHold 13 = .ok (.iload_n 2, 1) := by decide +kernel
theorem d_X_howManyHold_14 : decode b_X_howManyHold 14 = .ok (.invokevirtual 196, 3) := by decide +kernel
theorem d_X_howManyHold_17 : decode b_X_howManyHold 17 = .ok (.ifCond .eq 6, 3) := by decide +kernel
theorem d_X_howManyHold_20 : decode b_X_howManyHold 20 = .ok (.iinc 1 1, 3) := by decide +kernel
theorem d_X_howManyHold_23 : decode b_X_howManyHold 23 = .ok (.iinc 2 1, 3) := by decide +kernel
theorem d_X_howManyHold_26 : decode b_X_howManyHold 26 = .ok (.goto (-22), 3) := by decide +kernel
theorem d_X_howManyHold_29 : decode b_X_howManyHold 29 = .ok (.iload_n 1, 1) := by decide +kernel
theorem d_X_howManyHold_30 : decode b_X_howManyHold 30 = .ok (.ireturn, 1) := by decide +kernel
theorem d_X_ruledCode_0 : decode b_X_ruledCode 0 = .ok (.iconst 0, 1) := by decide +kernel
theorem d_X_ruledCode_1 : decode b_X_ruledCode 1 = .ok (.istore_n 1, 1) := by decide +kernel
theorem d_X_ruledCode_2 : decode b_X_ruledCode 2 = .ok (.iconst 0, 1) := by decide +kernel
theorem d_X_ruledCode_3 : decode b_X_ruledCode 3 = .ok (.istore_n 2, 1) := by decide +kernel
theorem d_X_ruledCode_4 : decode b_X_ruledCode 4 = .ok (.iload_n 2, 1) := by decide +kernel
theorem d_X_ruledCode_5 : decode b_X_ruledCode 5 = .ok (.aload_n 0, 1) := by decide +kernel
theorem d_X_ruledCode_6 : decode b_X_ruledCode 6 = .ok (.getfield 164, 3) := by decide +kernel
theorem d_X_ruledCode_9 : decode b_X_ruledCode 9 = .ok (.if_icmp .ge 40, 3) := by decide +kernel
theorem d_X_ruledCode_12 : decode b_X_ruledCode 12 = .ok (.aload_n 0, 1) := by decide +kernel
theorem d_X_ruledCode_13 : decode b_X_ruledCode 13 = .ok (.iload_n 2, 1) := by decide +kernel
theorem d_X_ruledCode_14 : decode b_X_ruledCode 14 = .ok (.invokevirtual 196, 3) := by decide +kernel
theorem d_X_ruledCode_17 : decode b_X_ruledCode 17 = .ok (.ifCond .eq 26, 3) := by decide +kernel
theorem d_X_ruledCode_20 : decode b_X_ruledCode 20 = .ok (.iload_n 1, 1) := by decide +kernel
theorem d_X_ruledCode_21 : decode b_X_ruledCode 21 = .ok (.ifCond .eq 15, 3) := by decide +kernel
theorem d_X_ruledCode_24 : decode b_X_ruledCode 24 = .ok (.iload_n 1, 1) := by decide +kernel
theorem d_X_ruledCode_25 : decode b_X_ruledCode 25 = .ok (.aload_n 0, 1) := by decide +kernel
theorem d_X_ruledCode_26 : decode b_X_ruledCode 26 = .ok (.getfield 37, 3) := by decide +kernel
theorem d_X_ruledCode_29 : decode b_X_ruledCode 29 = .ok (.iload_n 2, 1) := by decide +kernel
theorem d_X_ruledCode_30 : decode b_X_ruledCode 30 = .ok (.iaload, 1) := by decide +kernel
theorem d_X_ruledCode_31 : decode b_X_ruledCode 31 = .ok (.if_icmp .eq 5, 3) := by decide +kernel
theorem d_X_ruledCode_34 : decode b_X_ruledCode 34 = .ok (.iconst (-1), 1) := by decide +kernel
theorem d_X_ruledCode_35 : decode b_X_ruledCode 35 = .ok (.ireturn, 1) := by decide +kernel
theorem d_X_ruledCode_36 : decode b_X_ruledCode 36 = .ok (.aload_n 0, 1) := by decide +kernel
theorem d_X_ruledCode_37 : decode b_X_ruledCode 37 = .ok (.getfield 37, 3) := by decide +kernel
theorem d_X_ruledCode_40 : decode b_X_ruledCode 40 = .ok (.iload_n 2, 1) := by decide +kernel
theorem d_X_ruledCode_41 : decode b_X_ruledCode 41 = .ok (.iaload, 1) := by decide +kernel
theorem d_X_ruledCode_42 : decode b_X_ruledCode 42 = .ok (.istore_n 1, 1) := by decide +kernel
theorem d_X_ruledCode_43 : decode b_X_ruledCode 43 = .ok (.iinc 2 1, 3) := by decide +kernel
theorem d_X_ruledCode_46 : decode b_X_ruledCode 46 = .ok (.goto (-42), 3) := by decide +kernel
theorem d_X_ruledCode_49 : decode b_X_ruledCode 49 = .ok (.iload_n 1, 1) := by decide +kernel
theorem d_X_ruledCode_50 : decode b_X_ruledCode 50 = .ok (.ireturn, 1) := by decide +kernel
theorem d_Int_bitCount_0 : decode b_Int_bitCount 0 = .ok (.iload_n 0, 1) := by decide +kernel
theorem d_Int_bitCount_1 : decode b_Int_bitCount 1 = .ok (.iload_n 0, 1) := by decide +kernel
theorem d_Int_bitCount_2 : decode b_Int_bitCount 2 = .ok (.iconst 1, 1) := by decide +kernel
theorem d_Int_bitCount_3 : decode b_Int_bitCount 3 = .ok (.iushr, 1) := by decide +kernel
theorem d_Int_bitCount_4 : decode b_Int_bitCount 4 = .ok (.ldc_w 265, 3) := by decide +kernel
theorem d_Int_bitCount_7 : decode b_Int_bitCount 7 = .ok (.iand, 1) := by decide +kernel
theorem d_Int_bitCount_8 : decode b_Int_bitCount 8 = .ok (.isub, 1) := by decide +kernel
theorem d_Int_bitCount_9 : decode b_Int_bitCount 9 = .ok (.istore_n 0, 1) := by decide +kernel
theorem d_Int_bitCount_10 : decode b_Int_bitCount 10 = .ok (.iload_n 0, 1) := by decide +kernel
theorem d_Int_bitCount_11 : decode b_Int_bitCount 11 = .ok (.ldc_w 266, 3) := by decide +kernel
theorem d_Int_bitCount_14 : decode b_Int_bitCount 14 = .ok (.iand, 1) := by decide +kernel
theorem d_Int_bitCount_15 : decode b_Int_bitCount 15 = .ok (.iload_n 0, 1) := by decide +kernel
theorem d_Int_bitCount_16 : decode b_Int_bitCount 16 = .ok (.iconst 2, 1) := by decide +kernel
theorem d_Int_bitCount_17 : decode b_Int_bitCount 17 = .ok (.iushr, 1) := by decide +kernel
theorem d_Int_bitCount_18 : decode b_Int_bitCount 18 = .ok (.ldc_w 266, 3) := by decide +kernel
theorem d_Int_bitCount_21 : decode b_Int_bitCount 21 = .ok (.iand, 1) := by decide +kernel
theorem d_Int_bitCount_22 : decode b_Int_bitCount 22 = .ok (.iadd, 1) := by decide +kernel
theorem d_Int_bitCount_23 : decode b_Int_bitCount 23 = .ok (.istore_n 0, 1) := by decide +kernel
theorem d_Int_bitCount_24 : decode b_Int_bitCount 24 = .ok (.iload_n 0, 1) := by decide +kernel
theorem d_Int_bitCount_25 : decode b_Int_bitCount 25 = .ok (.iload_n 0, 1) := by decide +kernel
theorem d_Int_bitCount_26 : decode b_Int_bitCount 26 = .ok (.iconst 4, 1) := by decide +kernel
theorem d_Int_bitCount_27 : decode b_Int_bitCount 27 = .ok (.iushr, 1) := by decide +kernel
theorem d_Int_bitCount_28 : decode b_Int_bitCount 28 = .ok (.iadd, 1) := by decide +kernel
theorem d_Int_bitCount_29 : decode b_Int_bitCount 29 = .ok (.ldc_w 267, 3) := by decide +kernel
theorem d_Int_bitCount_32 : decode b_Int_bitCount 32 = .ok (.iand, 1) := by decide +kernel
theorem d_Int_bitCount_33 : decode b_Int_bitCount 33 = .ok (.istore_n 0, 1) := by decide +kernel
theorem d_Int_bitCount_34 : decode b_Int_bitCount 34 = .ok (.iload_n 0, 1) := by decide +kernel
theorem d_Int_bitCount_35 : decode b_Int_bitCount 35 = .ok (.iload_n 0, 1) := by decide +kernel
theorem d_Int_bitCount_36 : decode b_Int_bitCount 36 = .ok (.bipush 8, 2) := by decide +kernel
theorem d_Int_bitCount_38 : decode b_Int_bitCount 38 = .ok (.iushr, 1) := by decide +kernel
theorem d_Int_bitCount_39 : decode b_Int_bitCount 39 = .ok (.iadd, 1) := by decide +kernel
theorem d_Int_bitCount_40 : decode b_Int_bitCount 40 = .ok (.istore_n 0, 1) := by decide +kernel
theorem d_Int_bitCount_41 : decode b_Int_bitCount 41 = .ok (.iload_n 0, 1) := by decide +kernel
theorem d_Int_bitCount_42 : decode b_Int_bitCount 42 = .ok (.iload_n 0, 1) := by decide +kernel
theorem d_Int_bitCount_43 : decode b_Int_bitCount 43 = .ok (.bipush 16, 2) := by decide +kernel
theorem d_Int_bitCount_45 : decode b_Int_bitCount 45 = .ok (.iushr, 1) := by decide +kernel
theorem d_Int_bitCount_46 : decode b_Int_bitCount 46 = .ok (.iadd, 1) := by decide +kernel
theorem d_Int_bitCount_47 : decode b_Int_bitCount 47 = .ok (.istore_n 0, 1) := by decide +kernel
theorem d_Int_bitCount_48 : decode b_Int_bitCount 48 = .ok (.iload_n 0, 1) := by decide +kernel
theorem d_Int_bitCount_49 : decode b_Int_bitCount 49 = .ok (.bipush 63, 2) := by decide +kernel
theorem d_Int_bitCount_51 : decode b_Int_bitCount 51 = .ok (.iand, 1) := by decide +kernel
theorem d_Int_bitCount_52 : decode b_Int_bitCount 52 = .ok (.ireturn, 1) := by decide +kernel
theorem d_Int_compare_0 : decode b_Int_compare 0 = .ok (.iload_n 0, 1) := by decide +kernel
theorem d_Int_compare_1 : decode b_Int_compare 1 = .ok (.iload_n 1, 1) := by decide +kernel
theorem d_Int_compare_2 : decode b_Int_compare 2 = .ok (.if_icmp .ge 7, 3) := by decide +kernel
theorem d_Int_compare_5 : decode b_Int_compare 5 = .ok (.iconst (-1), 1) := by decide +kernel
theorem d_Int_compare_6 : decode b_Int_compare 6 = .ok (.goto 13, 3) := by decide +kernel
theorem d_Int_compare_9 : decode b_Int_compare 9 = .ok (.iload_n 0, 1) := by decide +kernel
theorem d_Int_compare_10 : decode b_Int_compare 10 = .ok (.iload_n 1, 1) := by decide +kernel
theorem d_Int_compare_11 : decode b_Int_compare 11 = .ok (.if_icmp .ne 7, 3) := by decide +kernel
theorem d_Int_compare_14 : decode b_Int_compare 14 = .ok (.iconst 0, 1) := by decide +kernel
theorem d_Int_compare_15 : decode b_Int_compare 15 = .ok (.goto 4, 3) := by decide +kernel
theorem d_Int_compare_18 : decode b_Int_compare 18 = .ok (.iconst 1, 1) := by decide +kernel
theorem d_Int_compare_19 : decode b_Int_compare 19 = .ok (.ireturn, 1) := by decide +kernel
