theorem d_M_init_0 : decode b_M_init 0 = .ok (.aload_n 0, 1) := by decide +kernel
theorem d_M_init_1 : decode b_M_init 1 = .ok (.invokespecial 1, 3) := by decide +kernel
theorem d_M_init_4 : decode b_M_init 4 = .ok (.aload_n 0, 1) := by decide +kernel
theorem d_M_init_5 : decode b_M_init 5 = .ok (.bipush 12, 2) := by decide +kernel
theorem d_M_init_7 : decode b_M_init 7 = .ok (.newarray .int, 2) := by decide +kernel
theorem d_M_init_9 : decode b_M_init 9 = .ok (.putfield 7, 3) := by decide +kernel
theorem d_M_init_12 : decode b_M_init 12 = .ok (.aload_n 0, 1) := by decide +kernel
theorem d_M_init_13 : decode b_M_init 13 = .ok (.bipush 12, 2) := by decide +kernel
theorem d_M_init_15 : decode b_M_init 15 = .ok (.newarray .int, 2) := by decide +kernel
theorem d_M_init_17 : decode b_M_init 17 = .ok (.putfield 13, 3) := by decide +kernel
theorem d_M_init_20 : decode b_M_init 20 = .ok (.aload_n 0, 1) := by decide +kernel
theorem d_M_init_21 : decode b_M_init 21 = .ok (.bipush 12, 2) := by decide +kernel
theorem d_M_init_23 : decode b_M_init 23 = .ok (.newarray .int, 2) := by decide +kernel
theorem d_M_init_25 : decode b_M_init 25 = .ok (.putfield 16, 3) := by decide +kernel
theorem d_M_init_28 : decode b_M_init 28 = .ok (.aload_n 0, 1) := by decide +kernel
theorem d_M_init_29 : decode b_M_init 29 = .ok (.bipush 12, 2) := by decide +kernel
theorem d_M_init_31 : decode b_M_init 31 = .ok (.newarray .int, 2) := by decide +kernel
theorem d_M_init_33 : decode b_M_init 33 = .ok (.putfield 19, 3) := by decide +kernel
theorem d_M_init_36 : decode b_M_init 36 = .ok (.aload_n 0, 1) := by decide +kernel
theorem d_M_init_37 : decode b_M_init 37 = .ok (.bipush 60, 2) := by decide +kernel
theorem d_M_init_39 : decode b_M_init 39 = .ok (.newarray .int, 2) := by decide +kernel
theorem d_M_init_41 : decode b_M_init 41 = .ok (.putfield 22, 3) := by decide +kernel
theorem d_M_init_44 : decode b_M_init 44 = .ok (.aload_n 0, 1) := by decide +kernel
theorem d_M_init_45 : decode b_M_init 45 = .ok (.bipush 60, 2) := by decide +kernel
theorem d_M_init_47 : decode b_M_init 47 = .ok (.newarray .int, 2) := by decide +kernel
theorem d_M_init_49 : decode b_M_init 49 = .ok (.putfield 25, 3) := by decide +kernel
theorem d_M_init_52 : decode b_M_init 52 = .ok (.aload_n 0, 1) := by decide +kernel
theorem d_M_init_53 : decode b_M_init 53 = .ok (.bipush 60, 2) := by decide +kernel
theorem d_M_init_55 : decode b_M_init 55 = .ok (.newarray .boolean, 2) := by decide +kernel
theorem d_M_init_57 : decode b_M_init 57 = .ok (.putfield 28, 3) := by decide +kernel
theorem d_M_init_60 : decode b_M_init 60 = .ok (.aload_n 0, 1) := by decide +kernel
theorem d_M_init_61 : decode b_M_init 61 = .ok (.iconst 5, 1) := by decide +kernel
theorem d_M_init_62 : decode b_M_init 62 = .ok (.newarray .int, 2) := by decide +kernel
theorem d_M_init_64 : decode b_M_init 64 = .ok (.dup, 1) := by decide +kernel
theorem d_M_init_65 : decode b_M_init 65 = .ok (.iconst 0, 1) := by decide +kernel
theorem d_M_init_66 : decode b_M_init 66 = .ok (.iconst (-1), 1) := by decide +kernel
theorem d_M_init_67 : decode b_M_init 67 = .ok (.iastore, 1) := by decide +kernel
theorem d_M_init_68 : decode b_M_init 68 = .ok (.dup, 1) := by decide +kernel
theorem d_M_init_69 : decode b_M_init 69 = .ok (.iconst 1, 1) := by decide +kernel
theorem d_M_init_70 : decode b_M_init 70 = .ok (.iconst (-1), 1) := by decide +kernel
theorem d_M_init_71 : decode b_M_init 71 = .ok (.iastore, 1) := by decide +kernel
theorem d_M_init_72 : decode b_M_init 72 = .ok (.dup, 1) := by decide +kernel
theorem d_M_init_73 : decode b_M_init 73 = .ok (.iconst 2, 1) := by decide +kernel
theorem d_M_init_74 : decode b_M_init 74 = .ok (.iconst (-1), 1) := by decide +kernel
theorem d_M_init_75 : decode b_M_init 75 = .ok (.iastore, 1) := by decide +kernel
theorem d_M_init_76 : decode b_M_init 76 = .ok (.dup, 1) := by decide +kernel
theorem d_M_init_77 : decode b_M_init 77 = .ok (.iconst 3, 1) := by decide +kernel
theorem d_M_init_78 : decode b_M_init 78 = .ok (.iconst (-1), 1) := by decide +kernel
theorem d_M_init_79 : decode b_M_init 79 = .ok (.iastore, 1) := by decide +kernel
theorem d_M_init_80 : decode b_M_init 80 = .ok (.dup, 1) := by decide +kernel
theorem d_M_init_81 : decode b_M_init 81 = .ok (.iconst 4, 1) := by decide +kernel
theorem d_M_init_82 : decode b_M_init 82 = .ok (.iconst (-1), 1) := by decide +kernel
theorem d_M_init_83 : decode b_M_init 83 = .ok (.iastore, 1) := by decide +kernel
theorem d_M_init_84 : decode b_M_init 84 = .ok (.putfield 32, 3) := by decide +kernel
theorem d_M_init_87 : decode b_M_init 87 = .ok (.aload_n 0, 1) := by decide +kernel
theorem d_M_init_88 : decode b_M_init 88 = .ok (.iconst 5, 1) := by decide +kernel
theorem d_M_init_89 : decode b_M_init 89 = .ok (.newarray .int, 2) := by decide +kernel
theorem d_M_init_91 : decode b_M_init 91 = .ok (.putfield 35, 3) := by decide +kernel
theorem d_M_init_94 : decode b_M_init 94 = .ok (.aload_n 0, 1) := by decide +kernel
theorem d_M_init_95 : decode b_M_init 95 = .ok (.bipush 20, 2) := by decide +kernel
theorem d_M_init_97 : decode b_M_init 97 = .ok (.newarray .int, 2) := by decide +kernel
theorem d_M_init_99 : decode b_M_init 99 = .ok (.putfield 38, 3) := by decide +kernel
theorem d_M_init_102 : decode b_M_init 102 = .ok (.aload_n 0, 1) := by decide +kernel
theorem d_M_init_103 : decode b_M_init 103 = .ok (.bipush 20, 2) := by decide +kernel
theorem d_M_init_105 : decode b_M_init 105 = .ok (.newarray .int, 2) := by decide +kernel
theorem d_M_init_107 : decode b_M_init 107 = .ok (.putfield 41, 3) := by decide +kernel
theorem d_M_init_110 : decode b_M_init 110 = .ok (.aload_n 0, 1) := by decide +kernel
theorem d_M_init_111 : decode b_M_init 111 = .ok (.bipush 20, 2) := by decide +kernel
theorem d_M_init_113 : decode b_M_init 113 = .ok (.newarray .int, 2) := by decide +kernel
theorem d_M_init_115 : decode b_M_init 115 = .ok (.putfield 44, 3) := by decide +kernel
theorem d_M_init_118 : decode b_M_init 118 = .ok (.aload_n 0, 1) := by decide +kernel
theorem d_M_init_119 : decode b_M_init 119 = .ok (.bipush 20, 2) := by decide +kernel
theorem d_M_init_121 : decode b_M_init 121 = .ok (.newarray .int, 2) := by decide +kernel
theorem d_M_init_123 : decode b_M_init 123 = .ok (.putfield 47, 3) := by decide +kernel
theorem d_M_init_126 : decode b_M_init 126 = .ok (.aload_n 0, 1) := by decide +kernel
theorem d_M_init_127 : decode b_M_init 127 = .ok (.bipush 20, 2) := by decide +kernel
theorem d_M_init_129 : decode b_M_init 129 = .ok (.newarray .int, 2) := by decide +kernel
theorem d_M_init_131 : decode b_M_init 131 = .ok (.putfield 50, 3) := by decide +kernel
theorem d_M_init_134 : decode b_M_init 134 = .ok (.aload_n 0, 1) := by decide +kernel
theorem d_M_init_135 : decode b_M_init 135 = .ok (.bipush 7, 2) := by decide +kernel
theorem d_M_init_137 : decode b_M_init 137 = .ok (.newarray .int, 2) := by decide +kernel
theorem d_M_init_139 : decode b_M_init 139 = .ok (.putfield 53, 3) := by decide +kernel
theorem d_M_init_142 : decode b_M_init 142 = .ok (.aload_n 0, 1) := by decide +kernel
theorem d_M_init_143 : decode b_M_init 143 = .ok (.bipush 7, 2) := by decide +kernel
theorem d_M_init_145 : decode b_M_init 145 = .ok (.newarray .int, 2) := by decide +kernel
theorem d_M_init_147 : decode b_M_init 147 = .ok (.putfield 56, 3) := by decide +kernel
theorem d_M_init_150 : decode b_M_init 150 = .ok (.aload_n 0, 1) := by decide +kernel
theorem d_M_init_151 : decode b_M_init 151 = .ok (.bipush 7, 2) := by decide +kernel
theorem d_M_init_153 : decode b_M_init 153 = .ok (.newarray .int, 2) := by decide +kernel
theorem d_M_init_155 : decode b_M_init 155 = .ok (.putfield 59, 3) := by decide +kernel
theorem d_M_init_158 : decode b_M_init 158 = .ok (.aload_n 0, 1) := by decide +kernel
theorem d_M_init_159 : decode b_M_init 159 = .ok (.bipush 7, 2) := by decide +kernel
theorem d_M_init_161 : decode b_M_init 161 = .ok (.newarray .int, 2) := by decide +kernel
theorem d_M_init_163 : decode b_M_init 163 = .ok (.putfield 62, 3) := by decide +kernel
theorem d_M_init_166 : decode b_M_init 166 = .ok (.aload_n 0, 1) := by decide +kernel
theorem d_M_init_167 : decode b_M_init 167 = .ok (.bipush 7, 2) := by decide +kernel
theorem d_M_init_169 : decode b_M_init 169 = .ok (.newarray .int, 2) := by decide +kernel
theorem d_M_init_171 : decode b_M_init 171 = .ok (.putfield 65, 3) := by decide +kernel
theorem d_M_init_174 : decode b_M_init 174 = .ok (.aload_n 0, 1) := by decide +kernel
theorem d_M_init_175 : decode b_M_init 175 = .ok (.bipush 7, 2) := by decide +kernel
theorem d_M_init_177 : decode b_M_init 177 = .ok (.newarray .int, 2) := by decide +kernel
theorem d_M_init_179 : decode b_M_init 179 = .ok (.putfield 68, 3) := by decide +kernel
theorem d_M_init_182 : decode b_M_init 182 = .ok (.return_, 1) := by decide +kernel
theorem d_M_thrown_0 : decode b_M_thrown 0 = .ok (.aload_n 0, 1) := by decide +kernel
theorem d_M_thrown_1 : decode b_M_thrown 1 = .ok (.getfield 71, 3) := by decide +kernel
theorem d_M_thrown_4 : decode b_M_thrown 4 = .ok (.ireturn, 1) := by decide +kernel
theorem d_M_in_0 : decode b_M_in 0 = .ok (.iload_n 0, 1) := by decide +kernel
theorem d_M_in_1 : decode b_M_in 1 = .ok (.iload_n 1, 1) := by decide +kernel
theorem d_M_in_2 : decode b_M_in 2 = .ok (.if_icmp .lt 12, 3) := by decide +kernel
theorem d_M_in_5 : decode b_M_in 5 = .ok (.iload_n 0, 1) := by decide +kernel
theorem d_M_in_6 : decode b_M_in 6 = .ok (.iload_n 2, 1) := by decide +kernel
theorem d_M_in_7 : decode b_M_in 7 = .ok (.if_icmp .gt 7, 3) := by decide +kernel
theorem d_M_in_10 : decode b_M_in 10 = .ok (.iconst 1, 1) := by decide +kernel
theorem d_M_in_11 : decode b_M_in 11 = .ok (.goto 4, 3) := by decide +kernel
theorem d_M_in_14 : decode b_M_in 14 = .ok (.iconst 0, 1) := by decide +kernel
theorem d_M_in_15 : decode b_M_in 15 = .ok (.ireturn, 1) := by decide +kernel
theorem d_M_find_0 : decode b_M_find 0 = .ok (.iconst (-1), 1) := by decide +kernel
theorem d_M_find_1 : decode b_M_find 1 = .ok (.istore_n 2, 1) := by decide +kernel
theorem d_M_find_2 : decode b_M_find 2 = .ok (.iconst 0, 1) := by decide +kernel
theorem d_M_find_3 : decode b_M_find 3 = .ok (.istore_n 3, 1) := by decide +kernel
theorem d_M_find_4 : decode b_M_find 4 = .ok (.iload_n 3, 1) := by decide +kernel
theorem d_M_find_5 : decode b_M_find 5 = .ok (.aload_n 0, 1) := by decide +kernel
theorem d_M_find_6 : decode b_M_find 6 = .ok (.getfield 75, 3) := by decide +kernel
theorem d_M_find_9 : decode b_M_find 9 = .ok (.if_icmp .ge 25, 3) := by decide +kernel
theorem d_M_find_12 : decode b_M_find 12 = .ok (.aload_n 0, 1) := by decide +kernel
theorem d_M_find_13 : decode b_M_find 13 = .ok (.getfield 7, 3) := by decide +kernel
theorem d_M_find_16 : decode b_M_find 16 = .ok (.iload_n 3, 1) := by decide +kernel
theorem d_M_find_17 : decode b_M_find 17 = .ok (.iaload, 1) := by decide +kernel
theorem d_M_find_18 : decode b_M_find 18 = .ok (.iload_n 1, 1) := by decide +kernel
theorem d_M_find_19 : decode b_M_find 19 = .ok (.if_icmp .ne 7, 3) := by decide +kernel
theorem d_M_find_22 : decode b_M_find 22 = .ok (.iload_n 3, 1) := by decide +kernel
theorem d_M_find_23 : decode b_M_find 23 = .ok (.goto 4, 3) := by decide +kernel
theorem d_M_find_26 : decode b_M_find 26 = .ok (.iload_n 2, 1) := by decide +kernel
theorem d_M_find_27 : decode b_M_find 27 = .ok (.istore_n 2, 1) := by decide +kernel
theorem d_M_find_28 : decode b_M_find 28 = .ok (.iinc 3 1, 3) := by decide +kernel
theorem d_M_find_31 : decode b_M_find 31 = .ok (.goto (-27), 3) := by decide +kernel
theorem d_M_find_34 : decode b_M_find 34 = .ok (.iload_n 2, 1) := by decide +kernel
theorem d_M_find_35 : decode b_M_find 35 = .ok (.ireturn, 1) := by decide +kernel
theorem d_M_code_0 : decode b_M_code 0 = .ok (.aload_n 0, 1) := by decide +kernel
theorem d_M_code_1 : decode b_M_code 1 = .ok (.iload_n 1, 1) := by decide +kernel
theorem d_M_code_2 : decode b_M_code 2 = .ok (.iconst 1, 1) := by decide +kernel
theorem d_M_code_3 : decode b_M_code 3 = .ok (.ldc 78, 2) := by decide +kernel
theorem d_M_code_5 : decode b_M_code 5 = .ok (.invokestatic 79, 3) := by decide +kernel
theorem d_M_code_8 : decode b_M_code 8 = .ok (.ifCond .eq 13, 3) := by decide +kernel
theorem d_M_code_11 : decode b_M_code 11 = .ok (.iload_n 2, 1) := by decide +kernel
theorem d_M_code_12 : decode b_M_code 12 = .ok (.iconst 0, 1) := by decide +kernel
theorem d_M_code_13 : decode b_M_code 13 = .ok (.bipush 100, 2) := by decide +kernel
theorem d_M_code_15 : decode b_M_code 15 = .ok (.invokestatic 79, 3) := by decide +kernel
theorem d_M_code_18 : decode b_M_code 18 = .ok (.ifCond .ne 7, 3) := by decide +kernel
theorem d_M_code_21 : decode b_M_code 21 = .ok (.iconst 1, 1) := by decide +kernel
theorem d_M_code_22 : decode b_M_code 22 = .ok (.goto 17, 3) := by decide +kernel
theorem d_M_code_25 : decode b_M_code 25 = .ok (.aload_n 0, 1) := by decide +kernel
theorem d_M_code_26 : decode b_M_code 26 = .ok (.getfield 75, 3) := by decide +kernel
theorem d_M_code_29 : decode b_M_code 29 = .ok (.bipush 12, 2) := by decide +kernel
theorem d_M_code_31 : decode b_M_code 31 = .ok (.if_icmp .ne 7, 3) := by decide +kernel
theorem d_M_code_34 : decode b_M_code 34 = .ok (.iconst 2, 1) := by decide +kernel
theorem d_M_code_35 : decode b_M_code 35 = .ok (.goto 4, 3) := by decide +kernel
theorem d_M_code_38 : decode b_M_code 38 = .ok (.iconst 0, 1) := by decide +kernel
theorem d_M_code_39 : decode b_M_code 39 = .ok (.putfield 71, 3) := by decide +kernel
theorem d_M_code_42 : decode b_M_code 42 = .ok (.aload_n 0, 1) := by decide +kernel
theorem d_M_code_43 : decode b_M_code 43 = .ok (.getfield 71, 3) := by decide +kernel
theorem d_M_code_46 : decode b_M_code 46 = .ok (.ifCond .gt 11, 3) := by decide +kernel
theorem d_M_code_49 : decode b_M_code 49 = .ok (.aload_n 0, 1) := by decide +kernel
theorem d_M_code_50 : decode b_M_code 50 = .ok (.iload_n 1, 1) := by decide +kernel
theorem d_M_code_51 : decode b_M_code 51 = .ok (.invokevirtual 83, 3) := by decide +kernel
theorem d_M_code_54 : decode b_M_code 54 = .ok (.ifCond .lt 5, 3) := by decide +kernel
theorem d_M_code_57 : decode b_M_code 57 = .ok (.iconst 0, 1) := by decide +kernel
theorem d_M_code_58 : decode b_M_code 58 = .ok (.ireturn, 1) := by decide +kernel
theorem d_M_code_59 : decode b_M_code 59 = .ok (.aload_n 0, 1) := by decide +kernel
theorem d_M_code_60 : decode b_M_code 60 = .ok (.getfield 75, 3) := by decide +kernel
theorem d_M_code_63 : decode b_M_code 63 = .ok (.istore_n 3, 1) := by decide +kernel
theorem d_M_code_64 : decode b_M_code 64 = .ok (.iload_n 3, 1) := by decide +kernel
theorem d_M_code_65 : decode b_M_code 65 = .ok (.ifCond .le 77, 3) := by decide +kernel
theorem d_M_code_68 : decode b_M_code 68 = .ok (.aload_n 0, 1) := by decide +kernel
theorem d_M_code_69 : decode b_M_code 69 = .ok (.getfield 7, 3) := by decide +kernel
theorem d_M_code_72 : decode b_M_code 72 = .ok (.iload_n 3, 1) := by decide +kernel
theorem d_M_code_73 : decode b_M_code 73 = .ok (.iconst 1, 1) := by decide +kernel
theorem d_M_code_74 : decode b_M_code 74 = .ok (.isub, 1) := by decide +kernel
theorem d_M_code_75 : decode b_M_code 75 = .ok (.iaload, 1) := by decide +kernel
theorem d_M_code_76 : decode b_M_code 76 = .ok (.iload_n 1, 1) := by decide +kernel
theorem d_M_code_77 : decode b_M_code 77 = .ok (.if_icmp .le 65, 3) := by decide +kernel
theorem d_M_code_80 : decode b_M_code 80 = .ok (.aload_n 0, 1) := by decide +kernel
theorem d_M_code_81 : decode b_M_code 81 = .ok (.getfield 7, 3) := by decide +kernel
theorem d_M_code_84 : decode b_M_code 84 = .ok (.iload_n 3, 1) := by decide +kernel
theorem d_M_code_85 : decode b_M_code 85 = .ok (.aload_n 0, 1) := by decide +kernel
theorem d_M_code_86 : decode b_M_code 86 = .ok (.getfield 7, 3) := by decide +kernel
theorem d_M_code_89 : decode b_M_code 89 = .ok (.iload_n 3, 1) := by decide +kernel
theorem d_M_code_90 : decode b_M_code 90 = .ok (.iconst 1, 1) := by decide +kernel
theorem d_M_code_91 : decode b_M_code 91 = .ok (.isub, 1) := by decide +kernel
theorem d_M_code_92 : decode b_M_code 92 = .ok (.iaload, 1) := by decide +kernel
theorem d_M_code_93 : decode b_M_code 93 = .ok (.iastore, 1) := by decide +kernel
theorem d_M_code_94 : decode b_M_code 94 = .ok (.aload_n 0, 1) := by decide +kernel
theorem d_M_code_95 : decode b_M_code 95 = .ok (.getfield 13, 3) := by decide +kernel
theorem d_M_code_98 : decode b_M_code 98 = .ok (.iload_n 3, 1) := by decide +kernel
theorem d_M_code_99 : decode b_M_code 99 = .ok (.aload_n 0, 1) := by decide +kernel
theorem d_M_code_100 : decode b_M_code 100 = .ok (.getfield 13, 3) := by decide +kernel
theorem d_M_code_103 : decode b_M_code 103 = .ok (.iload_n 3, 1) := by decide +kernel
theorem d_M_code_104 : decode b_M_code 104 = .ok (.iconst 1, 1) := by decide +kernel
theorem d_M_code_105 : decode b_M_code 105 = .ok (.isub, 1) := by decide +kernel
theorem d_M_code_106 : decode b_M_code 106 = .ok (.iaload, 1) := by decide +kernel
theorem d_M_code_107 : decode b_M_code 107 = .ok (.iastore, 1) := by decide +kernel
theorem d_M_code_108 : decode b_M_code 108 = .ok (.aload_n 0, 1) := by decide +kernel
theorem d_M_code_109 : decode b_M_code 109 = .ok (.getfield 16, 3) := by decide +kernel
theorem d_M_code_112 : decode b_M_code 112 = .ok (.iload_n 3, 1) := by decide +kernel
theorem d_M_code_113 : decode b_M_code 113 = .ok (.aload_n 0, 1) := by decide +kernel
theorem d_M_code_114 : decode b_M_code 114 = .ok (.getfield 16, 3) := by decide +kernel
theorem d_M_code_117 : decode b_M_code 117 = .ok (.iload_n 3, 1) := by decide +kernel
theorem d_M_code_118 : decode b_M_code 118 = .ok (.iconst 1, 1) := by decide +kernel
theorem d_M_code_119 : decode b_M_code 119 = .ok (.isub, 1) := by decide +kernel
theorem d_M_code_120 : decode b_M_code 120 = .ok (.iaload, 1) := by decide +kernel
theorem d_M_code_121 : decode b_M_code 121 = .ok (.iastore, 1) := by decide +kernel
theorem d_M_code_122 : decode b_M_code 122 = .ok (.aload_n 0, 1) := by decide +kernel
theorem d_M_code_123 : decode b_M_code 123 = .ok (.getfield 19, 3) := by decide +kernel
theorem d_M_code_126 : decode b_M_code 126 = .ok (.iload_n 3, 1) := by decide +kernel
theorem d_M_code_127 : decode b_M_code 127 = .ok (.aload_n 0, 1) := by decide +kernel
theorem d_M_code_128 : decode b_M_code 128 = .ok (.getfield 19, 3) := by decide +kernel
theorem d_M_code_131 : decode b_M_code 131 = .ok (.iload_n 3, 1) := by decide +kernel
theorem d_M_code_132 : decode b_M_code 132 = .ok (.iconst 1, 1) := by decide +kernel
theorem d_M_code_133 : decode b_M_code 133 = .ok (.isub, 1) := by decide +kernel
theorem d_M_code_134 : decode b_M_code 134 = .ok (.iaload, 1) := by decide +kernel
theorem d_M_code_135 : decode b_M_code 135 = .ok (.iastore, 1) := by decide +kernel
theorem d_M_code_136 : decode b_M_code 136 = .ok (.iinc 3 (-1), 3) := by decide +kernel
theorem d_M_code_139 : decode b_M_code 139 = .ok (.goto (-75), 3) := by decide +kernel
theorem d_M_code_142 : decode b_M_code 142 = .ok (.aload_n 0, 1) := by decide +kernel
theorem d_M_code_143 : decode b_M_code 143 = .ok (.getfield 7, 3) := by decide +kernel
theorem d_M_code_146 : decode b_M_code 146 = .ok (.iload_n 3, 1) := by decide +kernel
theorem d_M_code_147 : decode b_M_code 147 = .ok (.iload_n 1, 1) := by decide +kernel
theorem d_M_code_148 : decode b_M_code 148 = .ok (.iastore, 1) := by decide +kernel
theorem d_M_code_149 : decode b_M_code 149 = .ok (.aload_n 0, 1) := by decide +kernel
theorem d_M_code_150 : decode b_M_code 150 = .ok (.getfield 13, 3) := by decide +kernel
theorem d_M_code_153 : decode b_M_code 153 = .ok (.iload_n 3, 1) := by decide +kernel
theorem d_M_code_154 : decode b_M_code 154 = .ok (.iload_n 2, 1) := by decide +kernel
theorem d_M_code_155 : decode b_M_code 155 = .ok (.iastore, 1) := by decide +kernel
theorem d_M_code_156 : decode b_M_code 156 = .ok (.aload_n 0, 1) := by decide +kernel
theorem d_M_code_157 : decode b_M_code 157 = .ok (.getfield 16, 3) := by decide +kernel
theorem d_M_code_160 : decode b_M_code 160 = .ok (.iload_n 3, 1) := by decide +kernel
theorem d_M_code_161 : decode b_M_code 161 = .ok (.iconst 0, 1) := by decide +kernel
theorem d_M_code_162 : decode b_M_code 162 = .ok (.iastore, 1) := by decide +kernel
theorem d_M_code_163 : decode b_M_code 163 = .ok (.aload_n 0, 1) := by decide +kernel
theorem d_M_code_164 : decode b_M_code 164 = .ok (.getfield 19, 3) := by decide +kernel
theorem d_M_code_167 : decode b_M_code 167 = .ok (.iload_n 3, 1) := by decide +kernel
theorem d_M_code_168 : decode b_M_code 168 = .ok (.iconst 1, 1) := by decide +kernel
theorem d_M_code_169 : decode b_M_code 169 = .ok (.iastore, 1) := by decide +kernel
theorem d_M_code_170 : decode b_M_code 170 = .ok (.aload_n 0, 1) := by decide +kernel
theorem d_M_code_171 : decode b_M_code 171 = .ok (.dup, 1) := by decide +kernel
theorem d_M_code_172 : decode b_M_code 172 = .ok (.getfield 75, 3) := by decide +kernel
theorem d_M_code_175 : decode b_M_code 175 = .ok (.iconst 1, 1) := by decide +kernel
theorem d_M_code_176 : decode b_M_code 176 = .ok (.iadd, 1) := by decide +kernel
theorem d_M_code_177 : decode b_M_code 177 = .ok (.putfield 75, 3) := by decide +kernel
theorem d_M_code_180 : decode b_M_code 180 = .ok (.aload_n 0, 1) := by decide +kernel
theorem d_M_code_181 : decode b_M_code 181 = .ok (.getfield 75, 3) := by decide +kernel
theorem d_M_code_184 : decode b_M_code 184 = .ok (.ireturn, 1) := by decide +kernel
theorem d_M_share_0 : decode b_M_share 0 = .ok (.aload_n 0, 1) := by decide +kernel
theorem d_M_share_1 : decode b_M_share 1 = .ok (.iconst 0, 1) := by decide +kernel
theorem d_M_share_2 : decode b_M_share 2 = .ok (.putfield 71, 3) := by decide +kernel
theorem d_M_share_5 : decode b_M_share 5 = .ok (.aload_n 0, 1) := by decide +kernel
theorem d_M_share_6 : decode b_M_share 6 = .ok (.iload_n 1, 1) := by decide +kernel
theorem d_M_share_7 : decode b_M_share 7 = .ok (.invokevirtual 83, 3) := by decide +kernel
theorem d_M_share_10 : decode b_M_share 10 = .ok (.istore 4, 2) := by decide +kernel
theorem d_M_share_12 : decode b_M_share 12 = .ok (.iload 4, 2) := by decide +kernel
theorem d_M_share_14 : decode b_M_share 14 = .ok (.ifCond .lt 25, 3) := by decide +kernel
theorem d_M_share_17 : decode b_M_share 17 = .ok (.iload_n 2, 1) := by decide +kernel
theorem d_M_share_18 : decode b_M_share 18 = .ok (.iconst 0, 1) := by decide +kernel
theorem d_M_share_19 : decode b_M_share 19 = .ok (.sipush 1000, 3) := by decide +kernel
theorem d_M_share_22 : decode b_M_share 22 = .ok (.invokestatic 79, 3) := by decide +kernel
theorem d_M_share_25 : decode b_M_share 25 = .ok (.ifCond .eq 14, 3) := by decide +kernel
theorem d_M_share_28 : decode b_M_share 28 = .ok (.iload_n 3, 1) := by decide +kernel
theorem d_M_share_29 : decode b_M_share 29 = .ok (.iconst 1, 1) := by decide +kernel
theorem d_M_share_30 : decode b_M_share 30 = .ok (.sipush 1000, 3) := by decide +kernel
theorem d_M_share_33 : decode b_M_share 33 = .ok (.invokestatic 79, 3) := by decide +kernel
theorem d_M_share_36 : decode b_M_share 36 = .ok (.ifCond .ne 5, 3) := by decide +kernel
theorem d_M_share_39 : decode b_M_share 39 = .ok (.iconst 0, 1) := by decide +kernel
theorem d_M_share_40 : decode b_M_share 40 = .ok (.ireturn, 1) := by decide +kernel
theorem d_M_share_41 : decode b_M_share 41 = .ok (.aload_n 0, 1) := by decide +kernel
theorem d_M_share_42 : decode b_M_share 42 = .ok (.getfield 16, 3) := by decide +kernel
theorem d_M_share_45 : decode b_M_share 45 = .ok (.iload 4, 2) := by decide +kernel
theorem d_M_share_47 : decode b_M_share 47 = .ok (.iload_n 2, 1) := by decide +kernel
theorem d_M_share_48 : decode b_M_share 48 = .ok (.iastore, 1) := by decide +kernel
theorem d_M_share_49 : decode b_M_share 49 = .ok (.aload_n 0, 1) := by decide +kernel
theorem d_M_share_50 : decode b_M_share 50 = .ok (.getfield 19, 3) := by decide +kernel
theorem d_M_share_53 : decode b_M_share 53 = .ok (.iload 4, 2) := by decide +kernel
theorem d_M_share_55 : decode b_M_share 55 = .ok (.iload_n 3, 1) := by decide +kernel
theorem d_M_share_56 : decode b_M_share 56 = .ok (.iastore, 1) := by decide +kernel
theorem d_M_share_57 : decode b_M_share 57 = .ok (.iconst 1, 1) := by decide +kernel
theorem d_M_share_58 : decode b_M_share 58 = .ok (.ireturn, 1) := by decide +kernel
theorem d_M_isPair_0 : decode b_M_isPair 0 = .ok (.iload_n 0, 1) := by decide +kernel
theorem d_M_isPair_1 : decode b_M_isPair 1 = .ok (.iconst 0, 1) := by decide +kernel
theorem d_M_isPair_2 : decode b_M_isPair 2 = .ok (.iconst 4, 1) := by decide +kernel
theorem d_M_isPair_3 : decode b_M_isPair 3 = .ok (.invokestatic 79, 3) := by decide +kernel
theorem d_M_isPair_6 : decode b_M_isPair 6 = .ok (.ifCond .eq 16, 3) := by decide +kernel
theorem d_M_isPair_9 : decode b_M_isPair 9 = .ok (.iload_n 1, 1) := by decide +kernel
theorem d_M_isPair_10 : decode b_M_isPair 10 = .ok (.iconst 0, 1) := by decide +kernel
theorem d_M_isPair_11 : decode b_M_isPair 11 = .ok (.iconst 3, 1) := by decide +kernel
theorem d_M_isPair_12 : decode b_M_isPair 12 = .ok (.invokestatic 79, 3) := by decide +kernel
theorem d_M_isPair_15 : decode b_M_isPair 15 = .ok (.ifCond .eq 7, 3) := by decide +kernel
theorem d_M_isPair_18 : decode b_M_isPair 18 = .ok (.iconst 1, 1) := by decide +kernel
theorem d_M_isPair_19 : decode b_M_isPair 19 = .ok (.goto 4, 3) := by decide +kernel
theorem d_M_isPair_22 : decode b_M_isPair 22 = .ok (.iconst 0, 1) := by decide +kernel
theorem d_M_isPair_23 : decode b_M_isPair 23 = .ok (.ireturn, 1) := by decide +kernel
theorem d_M_rule_0 : decode b_M_rule 0 = .ok (.aload_n 0, 1) := by decide +kernel
theorem d_M_rule_1 : decode b_M_rule 1 = .ok (.iload_n 1, 1) := by decide +kernel
theorem d_M_rule_2 : decode b_M_rule 2 = .ok (.iload_n 2, 1) := by decide +kernel
theorem d_M_rule_3 : decode b_M_rule 3 = .ok (.invokestatic 87, 3) := by decide +kernel
theorem d_M_rule_6 : decode b_M_rule 6 = .ok (.ifCond .eq 11, 3) := by decide +kernel
theorem d_M_rule_9 : decode b_M_rule 9 = .ok (.aload_n 0, 1) := by decide +kernel
theorem d_M_rule_10 : decode b_M_rule 10 = .ok (.iload_n 3, 1) := by decide +kernel
theorem d_M_rule_11 : decode b_M_rule 11 = .ok (.invokevirtual 83, 3) := by decide +kernel
theorem d_M_rule_14 : decode b_M_rule 14 = .ok (.ifCond .ge 7, 3) := by decide +kernel
theorem d_M_rule_17 : decode b_M_rule 17 = .ok (.iconst 1, 1) := by decide +kernel
theorem d_M_rule_18 : decode b_M_rule 18 = .ok (.goto 17, 3) := by decide +kernel
theorem d_M_rule_21 : decode b_M_rule 21 = .ok (.aload_n 0, 1) := by decide +kernel
theorem d_M_rule_22 : decode b_M_rule 22 = .ok (.getfield 91, 3) := by decide +kernel
theorem d_M_rule_25 : decode b_M_rule 25 = .ok (.bipush 60, 2) := by decide +kernel
theorem d_M_rule_27 : decode b_M_rule 27 = .ok (.if_icmp .ne 7, 3) := by decide +kernel
theorem d_M_rule_30 : decode b_M_rule 30 = .ok (.iconst 2, 1) := by decide +kernel
theorem d_M_rule_31 : decode b_M_rule 31 = .ok (.goto 4, 3) := by decide +kernel
theorem d_M_rule_34 : decode b_M_rule 34 = .ok (.iconst 0, 1) := by decide +kernel
theorem d_M_rule_35 : decode b_M_rule 35 = .ok (.putfield 71, 3) := by decide +kernel
theorem d_M_rule_38 : decode b_M_rule 38 = .ok (.aload_n 0, 1) := by decide +kernel
theorem d_M_rule_39 : decode b_M_rule 39 = .ok (.getfield 71, 3) := by decide +kernel
theorem d_M_rule_42 : decode b_M_rule 42 = .ok (.ifCond .le 5, 3) := by decide +kernel
theorem d_M_rule_45 : decode b_M_rule 45 = .ok (.iconst 0, 1) := by decide +kernel
theorem d_M_rule_46 : decode b_M_rule 46 = .ok (.ireturn, 1) := by decide +kernel
theorem d_M_rule_47 : decode b_M_rule 47 = .ok (.iconst 0, 1) := by decide +kernel
theorem d_M_rule_48 : decode b_M_rule 48 = .ok (.istore 5, 2) := by decide +kernel
theorem d_M_rule_50 : decode b_M_rule 50 = .ok (.iload 5, 2) := by decide +kernel
theorem d_M_rule_52 : decode b_M_rule 52 = .ok (.aload_n 0, 1) := by decide +kernel
theorem d_M_rule_53 : decode b_M_rule 53 = .ok (.getfield 91, 3) := by decide +kernel
theorem d_M_rule_56 : decode b_M_rule 56 = .ok (.if_icmp .ge 37, 3) := by decide +kernel
theorem d_M_rule_59 : decode b_M_rule 59 = .ok (.aload_n 0, 1) := by decide +kernel
theorem d_M_rule_60 : decode b_M_rule 60 = .ok (.getfield 22, 3) := by decide +kernel
theorem d_M_rule_63 : decode b_M_rule 63 = .ok (.iload 5, 2) := by decide +kernel
theorem d_M_rule_65 : decode b_M_rule 65 = .ok (.iaload, 1) := by decide +kernel
theorem d_M_rule_66 : decode b_M_rule 66 = .ok (.iconst 4, 1) := by decide +kernel
theorem d_M_rule_67 : decode b_M_rule 67 = .ok (.iload_n 1, 1) := by decide +kernel
theorem d_M_rule_68 : decode b_M_rule 68 = .ok (.imul, 1) := by decide +kernel
theorem d_M_rule_69 : decode b_M_rule 69 = .ok (.iload_n 2, 1) := by decide +kernel
theorem d_M_rule_70 : decode b_M_rule 70 = .ok (.iadd, 1) := by decide +kernel
theorem d_M_rule_71 : decode b_M_rule 71 = .ok (.if_icmp .ne 16, 3) := by decide +kernel
theorem d_M_rule_74 : decode b_M_rule 74 = .ok (.aload_n 0, 1) := by decide +kernel
theorem d_M_rule_75 : decode b_M_rule 75 = .ok (.getfield 25, 3) := by decide +kernel
theorem d_M_rule_78 : decode b_M_rule 78 = .ok (.iload 5, 2) := by decide +kernel
theorem d_M_rule_80 : decode b_M_rule 80 = .ok (.iaload, 1) := by decide +kernel
theorem d_M_rule_81 : decode b_M_rule 81 = .ok (.iload_n 3, 1) := by decide +kernel
theorem d_M_rule_82 : decode b_M_rule 82 = .ok (.if_icmp .ne 5, 3) := by decide +kernel
theorem d_M_rule_85 : decode b_M_rule 85 = .ok (.iconst 0, 1) := by decide +kernel
theorem d_M_rule_86 : decode b_M_rule 86 = .ok (.ireturn, 1) := by decide +kernel
theorem d_M_rule_87 : decode b_M_rule 87 = .ok (.iinc 5 1, 3) := by decide +kernel
theorem d_M_rule_90 : decode b_M_rule 90 = .ok (.goto (-40), 3) := by decide +kernel
theorem d_M_rule_93 : decode b_M_rule 93 = .ok (.aload_n 0, 1) := by decide +kernel
theorem d_M_rule_94 : decode b_M_rule 94 = .ok (.getfield 22, 3) := by decide +kernel
theorem d_M_rule_97 : decode b_M_rule 97 = .ok (.aload_n 0, 1) := by decide +kernel
theorem d_M_rule_98 : decode b_M_rule 98 = .ok (.getfield 91, 3) := by decide +kernel
theorem d_M_rule_101 : decode b_M_rule 101 = .ok (.iconst 4, 1) := by decide +kernel
theorem d_M_rule_102 : decode b_M_rule 102 = .ok (.iload_n 1, 1) := by decide +kernel
theorem d_M_rule_103 : decode b_M_rule 103 = .ok (.imul, 1) := by decide +kernel
theorem d_M_rule_104 : decode b_M_rule 104 = .ok (.iload_n 2, 1) := by decide +kernel
theorem d_M_rule_105 : decode b_M_rule 105 = .ok (.iadd, 1) := by decide +kernel
theorem d_M_rule_106 : decode b_M_rule 106 = .ok (.iastore, 1) := by decide +kernel
theorem d_M_rule_107 : decode b_M_rule 107 = .ok (.aload_n 0, 1) := by decide +kernel
theorem d_M_rule_108 : decode b_M_rule 108 = .ok (.getfield 25, 3) := by decide +kernel
theorem d_M_rule_111 : decode b_M_rule 111 = .ok (.aload_n 0, 1) := by decide +kernel
theorem d_M_rule_112 : decode b_M_rule 112 = .ok (.getfield 91, 3) := by decide +kernel
theorem d_M_rule_115 : decode b_M_rule 115 = .ok (.iload_n 3, 1) := by decide +kernel
theorem d_M_rule_116 : decode b_M_rule 116 = .ok (.iastore, 1) := by decide +kernel
theorem d_M_rule_117 : decode b_M_rule 117 = .ok (.aload_n 0, 1) := by decide +kernel
theorem d_M_rule_118 : decode b_M_rule 118 = .ok (.getfield 28, 3) := by decide +kernel
theorem d_M_rule_121 : decode b_M_rule 121 = .ok (.aload_n 0, 1) := by decide +kernel
theorem d_M_rule_122 : decode b_M_rule 122 = .ok (.getfield 91, 3) := by decide +kernel
theorem d_M_rule_125 : decode b_M_rule 125 = .ok (.iload 4, 2) := by decide +kernel
theorem d_M_rule_127 : decode b_M_rule 127 = .ok (.bastore, 1) := by decide +kernel
theorem d_M_rule_128 : decode b_M_rule 128 = .ok (.aload_n 0, 1) := by decide +kernel
theorem d_M_rule_129 : decode b_M_rule 129 = .ok (.dup, 1) := by decide +kernel
theorem d_M_rule_130 : decode b_M_rule 130 = .ok (.getfield 91, 3) := by decide +kernel
theorem d_M_rule_133 : decode b_M_rule 133 = .ok (.iconst 1, 1) := by decide +kernel
theorem d_M_rule_134 : decode b_M_rule 134 = .ok (.iadd, 1) := by decide +kernel
theorem d_M_rule_135 : decode b_M_rule 135 = .ok (.putfield 91, 3) := by decide +kernel
theorem d_M_rule_138 : decode b_M_rule 138 = .ok (.aload_n 0, 1) := by decide +kernel
theorem d_M_rule_139 : decode b_M_rule 139 = .ok (.getfield 91, 3) := by decide +kernel
theorem d_M_rule_142 : decode b_M_rule 142 = .ok (.ireturn, 1) := by decide +kernel
theorem d_M_doesLeave_0 : decode b_M_doesLeave 0 = .ok (.iconst 0, 1) := by decide +kernel
theorem d_M_doesLeave_1 : decode b_M_doesLeave 1 = .ok (.istore_n 3, 1) := by decide +kernel
theorem d_M_doesLeave_2 : decode b_M_doesLeave 2 = .ok (.iconst 0, 1) := by decide +kernel
theorem d_M_doesLeave_3 : decode b_M_doesLeave 3 = .ok (.istore 4, 2) := by decide +kernel
theorem d_M_doesLeave_5 : decode b_M_doesLeave 5 = .ok (.iconst 0, 1) := by decide +kernel
theorem d_M_doesLeave_6 : decode b_M_doesLeave 6 = .ok (.istore 5, 2) := by decide +kernel
theorem d_M_doesLeave_8 : decode b_M_doesLeave 8 = .ok (.iconst 0, 1) := by decide +kernel
theorem d_M_doesLeave_9 : decode b_M_doesLeave 9 = .ok (.istore 6, 2) := by decide +kernel
theorem d_M_doesLeave_11 : decode b_M_doesLeave 11 = .ok (.iload 6, 2) := by decide +kernel
theorem d_M_doesLeave_13 : decode b_M_doesLeave 13 = .ok (.aload_n 0, 1) := by decide +kernel
theorem d_M_doesLeave_14 : decode b_M_doesLeave 14 = .ok (.getfield 91, 3) := by decide +kernel
theorem d_M_doesLeave_17 : decode b_M_doesLeave 17 = .ok (.if_icmp .ge 119, 3) := by decide +kernel
theorem d_M_doesLeave_20 : decode b_M_doesLeave 20 = .ok (.aload_n 0, 1) := by decide +kernel
theorem d_M_doesLeave_21 : decode b_M_doesLeave 21 = .ok (.getfield 22, 3) := by decide +kernel
theorem d_M_doesLeave_24 : decode b_M_doesLeave 24 = .ok (.iload 6, 2) := by decide +kernel
theorem d_M_doesLeave_26 : decode b_M_doesLeave 26 = .ok (.iaload, 1) := by decide +kernel
theorem d_M_doesLeave_27 : decode b_M_doesLeave 27 = .ok (.iload_n 1, 1) := by decide +kernel
theorem d_M_doesLeave_28 : decode b_M_doesLeave 28 = .ok (.if_icmp .eq 6, 3) := by decide +kernel
theorem d_M_doesLeave_31 : decode b_M_doesLeave 31 = .ok (.goto 99, 3) := by decide +kernel
theorem d_M_doesLeave_34 : decode b_M_doesLeave 34 = .ok (.iload_n 3, 1) := by decide +kernel
theorem d_M_doesLeave_35 : decode b_M_doesLeave 35 = .ok (.ifCond .ne 13, 3) := by decide +kernel
theorem d_M_doesLeave_38 : decode b_M_doesLeave 38 = .ok (.aload_n 0, 1) := by decide +kernel
theorem d_M_doesLeave_39 : decode b_M_doesLeave 39 = .ok (.getfield 28, 3) := by decide +kernel
theorem d_M_doesLeave_42 : decode b_M_doesLeave 42 = .ok (.iload 6, 2) := by decide +kernel
theorem d_M_doesLeave_44 : decode b_M_doesLeave 44 = .ok (.baload, 1) := by decide +kernel
theorem d_M_doesLeave_45 : decode b_M_doesLeave 45 = .ok (.ifCond .eq 7, 3) := by decide +kernel
theorem d_M_doesLeave_48 : decode b_M_doesLeave 48 = .ok (.iconst 1, 1) := by decide +kernel
theorem d_M_doesLeave_49 : decode b_M_doesLeave 49 = .ok (.goto 4, 3) := by decide +kernel
theorem d_M_doesLeave_52 : decode b_M_doesLeave 52 = .ok (.iconst 0, 1) := by decide +kernel
theorem d_M_doesLeave_53 : decode b_M_doesLeave 53 = .ok (.istore_n 3, 1) := by decide +kernel
theorem d_M_doesLeave_54 : decode b_M_doesLeave 54 = .ok (.iload 4, 2) := by decide +kernel
theorem d_M_doesLeave_56 : decode b_M_doesLeave 56 = .ok (.ifCond .ne 29, 3) := by decide +kernel
theorem d_M_doesLeave_59 : decode b_M_doesLeave 59 = .ok (.aload_n 0, 1) := by decide +kernel
theorem d_M_doesLeave_60 : decode b_M_doesLeave 60 = .ok (.getfield 28, 3) := by decide +kernel
theorem d_M_doesLeave_63 : decode b_M_doesLeave 63 = .ok (.iload 6, 2) := by decide +kernel
theorem d_M_doesLeave_65 : decode b_M_doesLeave 65 = .ok (.baload, 1) := by decide +kernel
theorem d_M_doesLeave_66 : decode b_M_doesLeave 66 = .ok (.ifCond .eq 23, 3) := by decide +kernel
theorem d_M_doesLeave_69 : decode b_M_doesLeave 69 = .ok (.aload_n 0, 1) := by decide +kernel
theorem d_M_doesLeave_70 : decode b_M_doesLeave 70 = .ok (.getfield 25, 3) := by decide +kernel
theorem d_M_doesLeave_73 : decode b_M_doesLeave 73 = .ok (.iload 6, 2) := by decide +kernel
theorem d_M_doesLeave_75 : decode b_M_doesLeave 75 = .ok (.iaload, 1) := by decide +kernel
theorem d_M_doesLeave_76 : decode b_M_doesLeave 76 = .ok (.aload_n 0, 1) := by decide +kernel
theorem d_M_doesLeave_77 : decode b_M_doesLeave 77 = .ok (.getfield 7, 3) := by decide +kernel
theorem d_M_doesLeave_80 : decode b_M_doesLeave 80 = .ok (.iload_n 2, 1) := by decide +kernel
theorem d_M_doesLeave_81 : decode b_M_doesLeave 81 = .ok (.iaload, 1) := by decide +kernel
theorem d_M_doesLeave_82 : decode b_M_doesLeave 82 = .ok (.if_icmp .ne 7, 3) := by decide +kernel
theorem d_M_doesLeave_85 : decode b_M_doesLeave 85 = .ok (.iconst 1, 1) := by decide +kernel
theorem d_M_doesLeave_86 : decode b_M_doesLeave 86 = .ok (.goto 4, 3) := by decide +kernel
theorem d_M_doesLeave_89 : decode b_M_doesLeave 89 = .ok (.iconst 0, 1) := by decide +kernel
theorem d_M_doesLeave_90 : decode b_M_doesLeave 90 = .ok (.istore 4, 2) := by decide +kernel
theorem d_M_doesLeave_92 : decode b_M_doesLeave 92 = .ok (.iload 5, 2) := by decide +kernel
theorem d_M_doesLeave_94 : decode b_M_doesLeave 94 = .ok (.ifCond .ne 29, 3) := by decide +kernel
theorem d_M_doesLeave_97 : decode b_M_doesLeave 97 = .ok (.aload_n 0, 1) := by decide +kernel
theorem d_M_doesLeave_98 : decode b_M_doesLeave 98 = .ok (.getfield 28, 3) := by decide +kernel
theorem d_M_doesLeave_101 : decode b_M_doesLeave 101 = .ok (.iload 6, 2) := by decide +kernel
theorem d_M_doesLeave_103 : decode b_M_doesLeave 103 = .ok (.baload, 1) := by decide +kernel
theorem d_M_doesLeave_104 : decode b_M_doesLeave 104 = .ok (.ifCond .ne 23, 3) := by decide +kernel
theorem d_M_doesLeave_107 : decode b_M_doesLeave 107 = .ok (.aload_n 0, 1) := by decide +kernel
theorem d_M_doesLeave_108 : decode b_M_doesLeave 108 = .ok (.getfield 25, 3) := by decide +kernel
theorem d_M_doesLeave_111 : decode b_M_doesLeave 111 = .ok (.iload 6, 2) := by decide +kernel
theorem d_M_doesLeave_113 : decode b_M_doesLeave 113 = .ok (.iaload, 1) := by decide +kernel
theorem d_M_doesLeave_114 : decode b_M_doesLeave 114 = .ok (.aload_n 0, 1) := by decide +kernel
theorem d_M_doesLeave_115 : decode b_M_doesLeave 115 = .ok (.getfield 7, 3) := by decide +kernel
theorem d_M_doesLeave_118 : decode b_M_doesLeave 118 = .ok (.iload_n 2, 1) := by decide +kernel
theorem d_M_doesLeave_119 : decode b_M_doesLeave 119 = .ok (.iaload, 1) := by decide +kernel
theorem d_M_doesLeave_120 : decode b_M_doesLeave 120 = .ok (.if_icmp .ne 7, 3) := by decide +kernel
theorem d_M_doesLeave_123 : decode b_M_doesLeave 123 = .ok (.iconst 1, 1) := by decide +kernel
theorem d_M_doesLeave_124 : decode b_M_doesLeave 124 = .ok (.goto 4, 3) := by decide +kernel
theorem d_M_doesLeave_127 : decode b_M_doesLeave 127 = .ok (.iconst 0, 1) := by decide +kernel
theorem d_M_doesLeave_128 : decode b_M_doesLeave 128 = .ok (.istore 5, 2) := by decide +kernel
theorem d_M_doesLeave_130 : decode b_M_doesLeave 130 = .ok (.iinc 6 1, 3) := by decide +kernel
theorem d_M_doesLeave_133 : decode b_M_doesLeave 133 = .ok (.goto (-122), 3) := by decide +kernel
theorem d_M_doesLeave_136 : decode b_M_doesLeave 136 = .ok (.iload 4, 2) := by decide +kernel
theorem d_M_doesLeave_138 : decode b_M_doesLeave 138 = .ok (.ifCond .ne 7, 3) := by decide +kernel
theorem d_M_doesLeave_141 : decode b_M_doesLeave 141 = .ok (.iload_n 3, 1) := by decide +kernel
theorem d_M_doesLeave_142 : decode b_M_doesLeave 142 = .ok (.ifCond .ne 12, 3) := by decide +kernel
theorem d_M_doesLeave_145 : decode b_M_doesLeave 145 = .ok (.iload 5, 2) := by decide +kernel
theorem d_M_doesLeave_147 : decode b_M_doesLeave 147 = .ok (.ifCond .ne 7, 3) := by decide +kernel
theorem d_M_doesLeave_150 : decode b_M_doesLeave 150 = .ok (.iconst 1, 1) := by decide +kernel
theorem d_M_doesLeave_151 : decode b_M_doesLeave 151 = .ok (.goto 4, 3) := by decide +kernel
theorem d_M_doesLeave_154 : decode b_M_doesLeave 154 = .ok (.iconst 0, 1) := by decide +kernel
theorem d_M_doesLeave_155 : decode b_M_doesLeave 155 = .ok (.ireturn, 1) := by decide +kernel
theorem d_M_isLeft_0 : decode b_M_isLeft 0 = .ok (.iconst 1, 1) := by decide +kernel
theorem d_M_isLeft_1 : decode b_M_isLeft 1 = .ok (.istore_n 2, 1) := by decide +kernel
theorem d_M_isLeft_2 : decode b_M_isLeft 2 = .ok (.iconst 0, 1) := by decide +kernel
theorem d_M_isLeft_3 : decode b_M_isLeft 3 = .ok (.istore_n 3, 1) := by decide +kernel
theorem d_M_isLeft_4 : decode b_M_isLeft 4 = .ok (.iload_n 3, 1) := by decide +kernel
theorem d_M_isLeft_5 : decode b_M_isLeft 5 = .ok (.iconst 5, 1) := by decide +kernel
theorem d_M_isLeft_6 : decode b_M_isLeft 6 = .ok (.if_icmp .ge 46, 3) := by decide +kernel
theorem d_M_isLeft_9 : decode b_M_isLeft 9 = .ok (.iload_n 2, 1) := by decide +kernel
theorem d_M_isLeft_10 : decode b_M_isLeft 10 = .ok (.ifCond .eq 34, 3) := by decide +kernel
theorem d_M_isLeft_13 : decode b_M_isLeft 13 = .ok (.aload_n 0, 1) := by decide +kernel
theorem d_M_isLeft_14 : decode b_M_isLeft 14 = .ok (.getfield 32, 3) := by decide +kernel
theorem d_M_isLeft_17 : decode b_M_isLeft 17 = .ok (.iload_n 3, 1) := by decide +kernel
theorem d_M_isLeft_18 : decode b_M_isLeft 18 = .ok (.iaload, 1) := by decide +kernel
theorem d_M_isLeft_19 : decode b_M_isLeft 19 = .ok (.ifCond .lt 21, 3) := by decide +kernel
theorem d_M_isLeft_22 : decode b_M_isLeft 22 = .ok (.aload_n 0, 1) := by decide +kernel
theorem d_M_isLeft_23 : decode b_M_isLeft 23 = .ok (.iconst 4, 1) := by decide +kernel
theorem d_M_isLeft_24 : decode b_M_isLeft 24 = .ok (.iload_n 3, 1) := by decide +kernel
theorem d_M_isLeft_25 : decode b_M_isLeft 25 = .ok (.imul, 1) := by decide +kernel
theorem d_M_isLeft_26 : decode b_M_isLeft 26 = .ok (.aload_n 0, 1) := by decide +kernel
theorem d_M_isLeft_27 : decode b_M_isLeft 27 = .ok (.getfield 32, 3) := by decide +kernel
theorem d_M_isLeft_30 : decode b_M_isLeft 30 = .ok (.iload_n 3, 1) := by decide +kernel
theorem d_M_isLeft_31 : decode b_M_isLeft 31 = .ok (.iaload, 1) := by decide +kernel
theorem d_M_isLeft_32 : decode b_M_isLeft 32 = .ok (.iadd, 1) := by decide +kernel
theorem d_M_isLeft_33 : decode b_M_isLeft 33 = .ok (.iload_n 1, 1) := by decide +kernel
theorem d_M_isLeft_34 : decode b_M_isLeft 34 = .ok (.invokevirtual 94, 3) := by decide +kernel
theorem d_M_isLeft_37 : decode b_M_isLeft 37 = .ok (.ifCond .eq 7, 3) := by decide +kernel
theorem d_M_isLeft_40 : decode b_M_isLeft 40 = .ok (.iconst 1, 1) := by decide +kernel
theorem d_M_isLeft_41 : decode b_M_isLeft 41 = .ok (.goto 4, 3) := by decide +kernel
theorem d_M_isLeft_44 : decode b_M_isLeft 44 = .ok (.iconst 0, 1) := by decide +kernel
theorem d_M_isLeft_45 : decode b_M_isLeft 45 = .ok (.istore_n 2, 1) := by decide +kernel
theorem d_M_isLeft_46 : decode b_M_isLeft 46 = .ok (.iinc 3 1, 3) := by decide +kernel
theorem d_M_isLeft_49 : decode b_M_isLeft 49 = .ok (.goto (-45), 3) := by decide +kernel
theorem d_M_isLeft_52 : decode b_M_isLeft 52 = .ok (.iload_n 2, 1) := by decide +kernel
theorem d_M_isLeft_53 : decode b_M_isLeft 53 = .ok (.ireturn, 1) := by decide +kernel
theorem d_M_leftMany_0 : decode b_M_leftMany 0 = .ok (.iconst 0, 1) := by decide +kernel
theorem d_M_leftMany_1 : decode b_M_leftMany 1 = .ok (.istore_n 1, 1) := by decide +kernel
theorem d_M_leftMany_2 : decode b_M_leftMany 2 = .ok (.iconst 0, 1) := by decide +kernel
theorem d_M_leftMany_3 : decode b_M_leftMany 3 = .ok (.istore_n 2, 1) := by decide +kernel
theorem d_M_leftMany_4 : decode b_M_leftMany 4 = .ok (.iload_n 2, 1) := by decide +kernel
theorem d_M_leftMany_5 : decode b_M_leftMany 5 = .ok (.aload_n 0, 1) := by decide +kernel
theorem d_M_leftMany_6 : decode b_M_leftMany 6 = .ok (.getfield 75, 3) := by decide +kernel
theorem d_M_leftMany_9 : decode b_M_leftMany 9 = .ok (.if_icmp .ge 25, 3) := by decide +kernel
theorem d_M_leftMany_12 : decode b_M_leftMany 12 = .ok (.iload_n 1, 1) := by decide +kernel
theorem d_M_leftMany_13 : decode b_M_leftMany 13 = .ok (.aload_n 0, 1) := by decide +kernel
theorem d_M_leftMany_14 : decode b_M_leftMany 14 = .ok (.iload_n 2, 1) := by decide +kernel
theorem d_M_leftMany_15 : decode b_M_leftMany 15 = .ok (.invokevirtual 97, 3) := by decide +kernel
theorem d_M_leftMany_18 : decode b_M_leftMany 18 = .ok (.ifCond .eq 7, 3) := by decide +kernel
theorem d_M_leftMany_21 : decode b_M_leftMany 21 = .ok (.iconst 1, 1) := by decide +kernel
theorem d_M_leftMany_22 : decode b_M_leftMany 22 = .ok (.goto 4, 3) := by decide +kernel
theorem d_M_leftMany_25 : decode b_M_leftMany 25 = .ok (.iconst 0, 1) := by decide +kernel
theorem d_M_leftMany_26 : decode b_M_leftMany 26 = .ok (.iadd, 1) := by decide +kernel
theorem d_M_leftMany_27 : decode b_M_leftMany 27 = .ok (.istore_n 1, 1) := by decide +kernel
theorem d_M_leftMany_28 : decode b_M_leftMany 28 = .ok (.iinc 2 1, 3) := by decide +kernel
theorem d_M_leftMany_31 : decode b_M_leftMany 31 = .ok (.goto (-27), 3) := by decide +kernel
theorem d_M_leftMany_34 : decode b_M_leftMany 34 = .ok (.iload_n 1, 1) := by decide +kernel
theorem d_M_leftMany_35 : decode b_M_leftMany 35 = .ok (.ireturn, 1) := by decide +kernel
theorem d_M_leftSet_0 : decode b_M_leftSet 0 = .ok (.iconst 0, 1) := by decide +kernel
theorem d_M_leftSet_1 : decode b_M_leftSet 1 = .ok (.istore_n 1, 1) := by decide +kernel
theorem d_M_leftSet_2 : decode b_M_leftSet 2 = .ok (.iconst 0, 1) := by decide +kernel
theorem d_M_leftSet_3 : decode b_M_leftSet 3 = .ok (.istore_n 2, 1) := by decide +kernel
theorem d_M_leftSet_4 : decode b_M_leftSet 4 = .ok (.iload_n 2, 1) := by decide +kernel
theorem d_M_leftSet_5 : decode b_M_leftSet 5 = .ok (.aload_n 0, 1) := by decide +kernel
theorem d_M_leftSet_6 : decode b_M_leftSet 6 = .ok (.getfield 75, 3) := by decide +kernel
theorem d_M_leftSet_9 : decode b_M_leftSet 9 = .ok (.if_icmp .ge 27, 3) := by decide +kernel
theorem d_M_leftSet_12 : decode b_M_leftSet 12 = .ok (.iload_n 1, 1) := by decide +kernel
theorem d_M_leftSet_13 : decode b_M_leftSet 13 = .ok (.aload_n 0, 1) := by decide +kernel
theorem d_M_leftSet_14 : decode b_M_leftSet 14 = .ok (.iload_n 2, 1) := by decide +kernel
theorem d_M_leftSet_15 : decode b_M_leftSet 15 = .ok (.invokevirtual 97, 3) := by decide +kernel
theorem d_M_leftSet_18 : decode b_M_leftSet 18 = .ok (.ifCond .eq 9, 3) := by decide +kernel
theorem d_M_leftSet_21 : decode b_M_leftSet 21 = .ok (.iconst 1, 1) := by decide +kernel
theorem d_M_leftSet_22 : decode b_M_leftSet 22 = .ok (.iload_n 2, 1) := by decide +kernel
theorem d_M_leftSet_23 : decode b_M_leftSet 23 = .ok (.ishl, 1) := by decide +kernel
theorem d_M_leftSet_24 : decode b_M_leftSet 24 = .ok (.goto 4, 3) := by decide +kernel
theorem d_M_leftSet_27 : decode b_M_leftSet 27 = .ok (.iconst 0, 1) := by decide +kernel
theorem d_M_leftSet_28 : decode b_M_leftSet 28 = .ok (.ior, 1) := by decide +kernel
theorem d_M_leftSet_29 : decode b_M_leftSet 29 = .ok (.istore_n 1, 1) := by decide +kernel
theorem d_M_leftSet_30 : decode b_M_leftSet 30 = .ok (.iinc 2 1, 3) := by decide +kernel
theorem d_M_leftSet_33 : decode b_M_leftSet 33 = .ok (.goto (-29), 3) := by decide +kernel
theorem d_M_leftSet_36 : decode b_M_leftSet 36 = .ok (.iload_n 1, 1) := by decide +kernel
theorem d_M_leftSet_37 : decode b_M_leftSet 37 = .ok (.ireturn, 1) := by decide +kernel
theorem d_M_answer_0 : decode b_M_answer 0 = .ok (.aload_n 0, 1) := by decide +kernel
theorem d_M_answer_1 : decode b_M_answer 1 = .ok (.iload_n 1, 1) := by decide +kernel
theorem d_M_answer_2 : decode b_M_answer 2 = .ok (.iconst 0, 1) := by decide +kernel
theorem d_M_answer_3 : decode b_M_answer 3 = .ok (.iconst 4, 1) := by decide +kernel
theorem d_M_answer_4 : decode b_M_answer 4 = .ok (.invokestatic 79, 3) := by decide +kernel
theorem d_M_answer_7 : decode b_M_answer 7 = .ok (.ifCond .eq 16, 3) := by decide +kernel
theorem d_M_answer_10 : decode b_M_answer 10 = .ok (.iload_n 2, 1) := by decide +kernel
theorem d_M_answer_11 : decode b_M_answer 11 = .ok (.iconst (-1), 1) := by decide +kernel
theorem d_M_answer_12 : decode b_M_answer 12 = .ok (.iconst 3, 1) := by decide +kernel
theorem d_M_answer_13 : decode b_M_answer 13 = .ok (.invokestatic 79, 3) := by decide +kernel
theorem d_M_answer_16 : decode b_M_answer 16 = .ok (.ifCond .eq 7, 3) := by decide +kernel
theorem d_M_answer_19 : decode b_M_answer 19 = .ok (.iconst 0, 1) := by decide +kernel
theorem d_M_answer_20 : decode b_M_answer 20 = .ok (.goto 4, 3) := by decide +kernel
theorem d_M_answer_23 : decode b_M_answer 23 = .ok (.iconst 1, 1) := by decide +kernel
theorem d_M_answer_24 : decode b_M_answer 24 = .ok (.putfield 71, 3) := by decide +kernel
theorem d_M_answer_27 : decode b_M_answer 27 = .ok (.aload_n 0, 1) := by decide +kernel
theorem d_M_answer_28 : decode b_M_answer 28 = .ok (.getfield 71, 3) := by decide +kernel
theorem d_M_answer_31 : decode b_M_answer 31 = .ok (.ifCond .le 5, 3) := by decide +kernel
theorem d_M_answer_34 : decode b_M_answer 34 = .ok (.iconst 0, 1) := by decide +kernel
theorem d_M_answer_35 : decode b_M_answer 35 = .ok (.ireturn, 1) := by decide +kernel
theorem d_M_answer_36 : decode b_M_answer 36 = .ok (.aload_n 0, 1) := by decide +kernel
theorem d_M_answer_37 : decode b_M_answer 37 = .ok (.getfield 32, 3) := by decide +kernel
theorem d_M_answer_40 : decode b_M_answer 40 = .ok (.iload_n 1, 1) := by decide +kernel
theorem d_M_answer_41 : decode b_M_answer 41 = .ok (.iaload, 1) := by decide +kernel
theorem d_M_answer_42 : decode b_M_answer 42 = .ok (.iload_n 2, 1) := by decide +kernel
theorem d_M_answer_43 : decode b_M_answer 43 = .ok (.if_icmp .eq 23, 3) := by decide +kernel
theorem d_M_answer_46 : decode b_M_answer 46 = .ok (.aload_n 0, 1) := by decide +kernel
theorem d_M_answer_47 : decode b_M_answer 47 = .ok (.dup, 1) := by decide +kernel
theorem d_M_answer_48 : decode b_M_answer 48 = .ok (.getfield 101, 3) := by decide +kernel
theorem d_M_answer_51 : decode b_M_answer 51 = .ok (.iconst 1, 1) := by decide +kernel
theorem d_M_answer_52 : decode b_M_answer 52 = .ok (.iadd, 1) := by decide +kernel
theorem d_M_answer_53 : decode b_M_answer 53 = .ok (.putfield 101, 3) := by decide +kernel
theorem d_M_answer_56 : decode b_M_answer 56 = .ok (.aload_n 0, 1) := by decide +kernel
theorem d_M_answer_57 : decode b_M_answer 57 = .ok (.getfield 35, 3) := by decide +kernel
theorem d_M_answer_60 : decode b_M_answer 60 = .ok (.iload_n 1, 1) := by decide +kernel
theorem d_M_answer_61 : decode b_M_answer 61 = .ok (.aload_n 0, 1) := by decide +kernel
theorem d_M_answer_62 : decode b_M_answer 62 = .ok (.getfield 101, 3) := by decide +kernel
theorem d_M_answer_65 : decode b_M_answer 65 = .ok (.iastore, 1) := by decide +kernel
theorem d_M_answer_66 : decode b_M_answer 66 = .ok (.aload_n 0, 1) := by decide +kernel
theorem d_M_answer_67 : decode b_M_answer 67 = .ok (.getfield 32, 3) := by decide +kernel
theorem d_M_answer_70 : decode b_M_answer 70 = .ok (.iload_n 1, 1) := by decide +kernel
theorem d_M_answer_71 : decode b_M_answer 71 = .ok (.iload_n 2, 1) := by decide +kernel
theorem d_M_answer_72 : decode b_M_answer 72 = .ok (.iastore, 1) := by decide +kernel
theorem d_M_answer_73 : decode b_M_answer 73 = .ok (.aload_n 0, 1) := by decide +kernel
theorem d_M_answer_74 : decode b_M_answer 74 = .ok (.invokevirtual 104, 3) := by decide +kernel
theorem d_M_answer_77 : decode b_M_answer 77 = .ok (.ireturn, 1) := by decide +kernel
theorem d_M_isTwo_0 : decode b_M_isTwo 0 = .ok (.iload_n 0, 1) := by decide +kernel
theorem d_M_isTwo_1 : decode b_M_isTwo 1 = .ok (.iload_n 0, 1) := by decide +kernel
theorem d_M_isTwo_2 : decode b_M_isTwo 2 = .ok (.iconst 1, 1) := by decide +kernel
theorem d_M_isTwo_3 : decode b_M_isTwo 3 = .ok (.isub, 1) := by decide +kernel
theorem d_M_isTwo_4 : decode b_M_isTwo 4 = .ok (.iand, 1) := by decide +kernel
theorem d_M_isTwo_5 : decode b_M_isTwo 5 = .ok (.ifCond .eq 7, 3) := by decide +kernel
theorem d_M_isTwo_8 : decode b_M_isTwo 8 = .ok (.iconst 1, 1) := by decide +kernel
theorem d_M_isTwo_9 : decode b_M_isTwo 9 = .ok (.goto 4, 3) := by decide +kernel
theorem d_M_isTwo_12 : decode b_M_isTwo 12 = .ok (.iconst 0, 1) := by decide +kernel
theorem d_M_isTwo_13 : decode b_M_isTwo 13 = .ok (.ireturn, 1) := by decide +kernel
theorem d_M_openSet_0 : decode b_M_openSet 0 = .ok (.iconst 0, 1) := by decide +kernel
theorem d_M_openSet_1 : decode b_M_openSet 1 = .ok (.istore_n 1, 1) := by decide +kernel
theorem d_M_openSet_2 : decode b_M_openSet 2 = .ok (.iconst 0, 1) := by decide +kernel
theorem d_M_openSet_3 : decode b_M_openSet 3 = .ok (.istore_n 2, 1) := by decide +kernel
theorem d_M_openSet_4 : decode b_M_openSet 4 = .ok (.iload_n 2, 1) := by decide +kernel
theorem d_M_openSet_5 : decode b_M_openSet 5 = .ok (.iconst 5, 1) := by decide +kernel
theorem d_M_openSet_6 : decode b_M_openSet 6 = .ok (.if_icmp .ge 28, 3) := by decide +kernel
theorem d_M_openSet_9 : decode b_M_openSet 9 = .ok (.iload_n 1, 1) := by decide +kernel
theorem d_M_openSet_10 : decode b_M_openSet 10 = .ok (.aload_n 0, 1) := by decide +kernel
theorem d_M_openSet_11 : decode b_M_openSet 11 = .ok (.getfield 32, 3) := by decide +kernel
theorem d_M_openSet_14 : decode b_M_openSet 14 = .ok (.iload_n 2, 1) := by decide +kernel
theorem d_M_openSet_15 : decode b_M_openSet 15 = .ok (.iaload, 1) := by decide +kernel
theorem d_M_openSet_16 : decode b_M_openSet 16 = .ok (.ifCond .ge 9, 3) := by decide +kernel
theorem d_M_openSet_19 : decode b_M_openSet 19 = .ok (.iconst 1, 1) := by decide +kernel
theorem d_M_openSet_20 : decode b_M_openSet 20 = .ok (.iload_n 2, 1) := by decide +kernel
theorem d_M_openSet_21 : decode b_M_openSet 21 = .ok (.ishl, 1) := by decide +kernel
theorem d_M_openSet_22 : decode b_M_openSet 22 = .ok (.goto 4, 3) := by decide +kernel
theorem d_M_openSet_25 : decode b_M_openSet 25 = .ok (.iconst 0, 1) := by decide +kernel
theorem d_M_openSet_26 : decode b_M_openSet 26 = .ok (.ior, 1) := by decide +kernel
theorem d_M_openSet_27 : decode b_M_openSet 27 = .ok (.istore_n 1, 1) := by decide +kernel
theorem d_M_openSet_28 : decode b_M_openSet 28 = .ok (.iinc 2 1, 3) := by decide +kernel
theorem d_M_openSet_31 : decode b_M_openSet 31 = .ok (.goto (-27), 3) := by decide +kernel
theorem d_M_openSet_34 : decode b_M_openSet 34 = .ok (.iload_n 1, 1) := by decide +kernel
theorem d_M_openSet_35 : decode b_M_openSet 35 = .ok (.ireturn, 1) := by decide +kernel
theorem d_M_parts_0 : decode b_M_parts 0 = .ok (.iconst 0, 1) := by decide +kernel
theorem d_M_parts_1 : decode b_M_parts 1 = .ok (.istore_n 3, 1) := by decide +kernel
theorem d_M_parts_2 : decode b_M_parts 2 = .ok (.iconst 1, 1) := by decide +kernel
theorem d_M_parts_3 : decode b_M_parts 3 = .ok (.istore 4, 2) := by decide +kernel
theorem d_M_parts_5 : decode b_M_parts 5 = .ok (.iload 4, 2) := by decide +kernel
theorem d_M_parts_7 : decode b_M_parts 7 = .ok (.iconst 4, 1) := by decide +kernel
theorem d_M_parts_8 : decode b_M_parts 8 = .ok (.if_icmp .ge 45, 3) := by decide +kernel
theorem d_M_parts_11 : decode b_M_parts 11 = .ok (.iload_n 3, 1) := by decide +kernel
theorem d_M_parts_12 : decode b_M_parts 12 = .ok (.ifCond .ne 29, 3) := by decide +kernel
theorem d_M_parts_15 : decode b_M_parts 15 = .ok (.iload_n 1, 1) := by decide +kernel
theorem d_M_parts_16 : decode b_M_parts 16 = .ok (.aload_n 0, 1) := by decide +kernel
theorem d_M_parts_17 : decode b_M_parts 17 = .ok (.getfield 50, 3) := by decide +kernel
theorem d_M_parts_20 : decode b_M_parts 20 = .ok (.iconst 4, 1) := by decide +kernel
theorem d_M_parts_21 : decode b_M_parts 21 = .ok (.iload_n 2, 1) := by decide +kernel
theorem d_M_parts_22 : decode b_M_parts 22 = .ok (.imul, 1) := by decide +kernel
theorem d_M_parts_23 : decode b_M_parts 23 = .ok (.iload 4, 2) := by decide +kernel
theorem d_M_parts_25 : decode b_M_parts 25 = .ok (.iadd, 1) := by decide +kernel
theorem d_M_parts_26 : decode b_M_parts 26 = .ok (.iaload, 1) := by decide +kernel
theorem d_M_parts_27 : decode b_M_parts 27 = .ok (.iand, 1) := by decide +kernel
theorem d_M_parts_28 : decode b_M_parts 28 = .ok (.iload_n 1, 1) := by decide +kernel
theorem d_M_parts_29 : decode b_M_parts 29 = .ok (.aload_n 0, 1) := by decide +kernel
theorem d_M_parts_30 : decode b_M_parts 30 = .ok (.getfield 50, 3) := by decide +kernel
theorem d_M_parts_33 : decode b_M_parts 33 = .ok (.iconst 4, 1) := by decide +kernel
theorem d_M_parts_34 : decode b_M_parts 34 = .ok (.iload_n 2, 1) := by decide +kernel
theorem d_M_parts_35 : decode b_M_parts 35 = .ok (.imul, 1) := by decide +kernel
theorem d_M_parts_36 : decode b_M_parts 36 = .ok (.iaload, 1) := by decide +kernel
theorem d_M_parts_37 : decode b_M_parts 37 = .ok (.iand, 1) := by decide +kernel
theorem d_M_parts_38 : decode b_M_parts 38 = .ok (.if_icmp .eq 7, 3) := by decide +kernel
theorem d_M_parts_41 : decode b_M_parts 41 = .ok (.iconst 1, 1) := by decide +kernel
theorem d_M_parts_42 : decode b_M_parts 42 = .ok (.goto 4, 3) := by decide +kernel
theorem d_M_parts_45 : decode b_M_parts 45 = .ok (.iconst 0, 1) := by decide +kernel
theorem d_M_parts_46 : decode b_M_parts 46 = .ok (.istore_n 3, 1) := by decide +kernel
theorem d_M_parts_47 : decode b_M_parts 47 = .ok (.iinc 4 1, 3) := by decide +kernel
theorem d_M_parts_50 : decode b_M_parts 50 = .ok (.goto (-45), 3) := by decide +kernel
theorem d_M_parts_53 : decode b_M_parts 53 = .ok (.iload_n 3, 1) := by decide +kernel
theorem d_M_parts_54 : decode b_M_parts 54 = .ok (.ireturn, 1) := by decide +kernel
theorem d_M_begin_0 : decode b_M_begin 0 = .ok (.aload_n 0, 1) := by decide +kernel
theorem d_M_begin_1 : decode b_M_begin 1 = .ok (.getfield 53, 3) := by decide +kernel
theorem d_M_begin_4 : decode b_M_begin 4 = .ok (.iload_n 1, 1) := by decide +kernel
theorem d_M_begin_5 : decode b_M_begin 5 = .ok (.iload_n 2, 1) := by decide +kernel
theorem d_M_begin_6 : decode b_M_begin 6 = .ok (.iastore, 1) := by decide +kernel
theorem d_M_begin_7 : decode b_M_begin 7 = .ok (.aload_n 0, 1) := by decide +kernel
theorem d_M_begin_8 : decode b_M_begin 8 = .ok (.getfield 56, 3) := by decide +kernel
theorem d_M_begin_11 : decode b_M_begin 11 = .ok (.iload_n 1, 1) := by decide +kernel
theorem d_M_begin_12 : decode b_M_begin 12 = .ok (.iload_n 3, 1) := by decide +kernel
theorem d_M_begin_13 : decode b_M_begin 13 = .ok (.iastore, 1) := by decide +kernel
theorem d_M_begin_14 : decode b_M_begin 14 = .ok (.aload_n 0, 1) := by decide +kernel
theorem d_M_begin_15 : decode b_M_begin 15 = .ok (.getfield 59, 3) := by decide +kernel
theorem d_M_begin_18 : decode b_M_begin 18 = .ok (.iload_n 1, 1) := by decide +kernel
theorem d_M_begin_19 : decode b_M_begin 19 = .ok (.iload_n 2, 1) := by decide +kernel
theorem d_M_begin_20 : decode b_M_begin 20 = .ok (.invokestatic 108, 3) := by decide +kernel
theorem d_M_begin_23 : decode b_M_begin 23 = .ok (.ifCond .eq 7, 3) := by decide +kernel
theorem d_M_begin_26 : decode b_M_begin 26 = .ok (.iconst 0, 1) := by decide +kernel
theorem d_M_begin_27 : decode b_M_begin 27 = .ok (.goto 4, 3) := by decide +kernel
theorem d_M_begin_30 : decode b_M_begin 30 = .ok (.iconst 5, 1) := by decide +kernel
theorem d_M_begin_31 : decode b_M_begin 31 = .ok (.iastore, 1) := by decide +kernel
theorem d_M_begin_32 : decode b_M_begin 32 = .ok (.aload_n 0, 1) := by decide +kernel
theorem d_M_begin_33 : decode b_M_begin 33 = .ok (.getfield 62, 3) := by decide +kernel
theorem d_M_begin_36 : decode b_M_begin 36 = .ok (.iload_n 1, 1) := by decide +kernel
theorem d_M_begin_37 : decode b_M_begin 37 = .ok (.iconst 0, 1) := by decide +kernel
theorem d_M_begin_38 : decode b_M_begin 38 = .ok (.iastore, 1) := by decide +kernel
theorem d_M_begin_39 : decode b_M_begin 39 = .ok (.aload_n 0, 1) := by decide +kernel
theorem d_M_begin_40 : decode b_M_begin 40 = .ok (.getfield 65, 3) := by decide +kernel
theorem d_M_begin_43 : decode b_M_begin 43 = .ok (.iload_n 1, 1) := by decide +kernel
theorem d_M_begin_44 : decode b_M_begin 44 = .ok (.iconst 0, 1) := by decide +kernel
theorem d_M_begin_45 : decode b_M_begin 45 = .ok (.iastore, 1) := by decide +kernel
theorem d_M_begin_46 : decode b_M_begin 46 = .ok (.aload_n 0, 1) := by decide +kernel
theorem d_M_begin_47 : decode b_M_begin 47 = .ok (.getfield 68, 3) := by decide +kernel
theorem d_M_begin_50 : decode b_M_begin 50 = .ok (.iload_n 1, 1) := by decide +kernel
theorem d_M_begin_51 : decode b_M_begin 51 = .ok (.iconst (-1), 1) := by decide +kernel
theorem d_M_begin_52 : decode b_M_begin 52 = .ok (.iastore, 1) := by decide +kernel
theorem d_M_begin_53 : decode b_M_begin 53 = .ok (.return_, 1) := by decide +kernel
theorem d_M_turnTo_0 : decode b_M_turnTo 0 = .ok (.aload_n 0, 1) := by decide +kernel
theorem d_M_turnTo_1 : decode b_M_turnTo 1 = .ok (.getfield 65, 3) := by decide +kernel
theorem d_M_turnTo_4 : decode b_M_turnTo 4 = .ok (.iload_n 1, 1) := by decide +kernel
theorem d_M_turnTo_5 : decode b_M_turnTo 5 = .ok (.iaload, 1) := by decide +kernel
theorem d_M_turnTo_6 : decode b_M_turnTo 6 = .ok (.iconst 1, 1) := by decide +kernel
theorem d_M_turnTo_7 : decode b_M_turnTo 7 = .ok (.iadd, 1) := by decide +kernel
theorem d_M_turnTo_8 : decode b_M_turnTo 8 = .ok (.istore_n 3, 1) := by decide +kernel
theorem d_M_turnTo_9 : decode b_M_turnTo 9 = .ok (.iload_n 2, 1) := by decide +kernel
theorem d_M_turnTo_10 : decode b_M_turnTo 10 = .ok (.ifCond .eq 50, 3) := by decide +kernel
theorem d_M_turnTo_13 : decode b_M_turnTo 13 = .ok (.aload_n 0, 1) := by decide +kernel
theorem d_M_turnTo_14 : decode b_M_turnTo 14 = .ok (.getfield 68, 3) := by decide +kernel
theorem d_M_turnTo_17 : decode b_M_turnTo 17 = .ok (.iload_n 1, 1) := by decide +kernel
theorem d_M_turnTo_18 : decode b_M_turnTo 18 = .ok (.iaload, 1) := by decide +kernel
theorem d_M_turnTo_19 : decode b_M_turnTo 19 = .ok (.ifCond .lt 13, 3) := by decide +kernel
theorem d_M_turnTo_22 : decode b_M_turnTo 22 = .ok (.iload_n 3, 1) := by decide +kernel
theorem d_M_turnTo_23 : decode b_M_turnTo 23 = .ok (.aload_n 0, 1) := by decide +kernel
theorem d_M_turnTo_24 : decode b_M_turnTo 24 = .ok (.getfield 68, 3) := by decide +kernel
theorem d_M_turnTo_27 : decode b_M_turnTo 27 = .ok (.iload_n 1, 1) := by decide +kernel
theorem d_M_turnTo_28 : decode b_M_turnTo 28 = .ok (.iaload, 1) := by decide +kernel
theorem d_M_turnTo_29 : decode b_M_turnTo 29 = .ok (.if_icmp .ge 31, 3) := by decide +kernel
theorem d_M_turnTo_32 : decode b_M_turnTo 32 = .ok (.aload_n 0, 1) := by decide +kernel
theorem d_M_turnTo_33 : decode b_M_turnTo 33 = .ok (.getfield 68, 3) := by decide +kernel
theorem d_M_turnTo_36 : decode b_M_turnTo 36 = .ok (.iload_n 1, 1) := by decide +kernel
theorem d_M_turnTo_37 : decode b_M_turnTo 37 = .ok (.iload_n 3, 1) := by decide +kernel
theorem d_M_turnTo_38 : decode b_M_turnTo 38 = .ok (.iastore, 1) := by decide +kernel
theorem d_M_turnTo_39 : decode b_M_turnTo 39 = .ok (.aload_n 0, 1) := by decide +kernel
theorem d_M_turnTo_40 : decode b_M_turnTo 40 = .ok (.iload_n 1, 1) := by decide +kernel
theorem d_M_turnTo_41 : decode b_M_turnTo 41 = .ok (.ifCond .ne 12, 3) := by decide +kernel
theorem d_M_turnTo_44 : decode b_M_turnTo 44 = .ok (.aload_n 0, 1) := by decide +kernel
theorem d_M_turnTo_45 : decode b_M_turnTo 45 = .ok (.getfield 59, 3) := by decide +kernel
theorem d_M_turnTo_48 : decode b_M_turnTo 48 = .ok (.iload_n 1, 1) := by decide +kernel
theorem d_M_turnTo_49 : decode b_M_turnTo 49 = .ok (.iaload, 1) := by decide +kernel
theorem d_M_turnTo_50 : decode b_M_turnTo 50 = .ok (.goto 7, 3) := by decide +kernel
theorem d_M_turnTo_53 : decode b_M_turnTo 53 = .ok (.aload_n 0, 1) := by decide +kernel
theorem d_M_turnTo_54 : decode b_M_turnTo 54 = .ok (.getfield 111, 3) := by decide +kernel
theorem d_M_turnTo_57 : decode b_M_turnTo 57 = .ok (.putfield 111, 3) := by decide +kernel
theorem d_M_turnTo_60 : decode b_M_turnTo 60 = .ok (.aload_n 0, 1) := by decide +kernel
theorem d_M_turnTo_61 : decode b_M_turnTo 61 = .ok (.getfield 59, 3) := by decide +kernel
theorem d_M_turnTo_64 : decode b_M_turnTo 64 = .ok (.iload_n 1, 1) := by decide +kernel
theorem d_M_turnTo_65 : decode b_M_turnTo 65 = .ok (.dup2, 1) := by decide +kernel
theorem d_M_turnTo_66 : decode b_M_turnTo 66 = .ok (.iaload, 1) := by decide +kernel
theorem d_M_turnTo_67 : decode b_M_turnTo 67 = .ok (.iconst 1, 1) := by decide +kernel
theorem d_M_turnTo_68 : decode b_M_turnTo 68 = .ok (.iadd, 1) := by decide +kernel
theorem d_M_turnTo_69 : decode b_M_turnTo 69 = .ok (.iastore, 1) := by decide +kernel
theorem d_M_turnTo_70 : decode b_M_turnTo 70 = .ok (.aload_n 0, 1) := by decide +kernel
theorem d_M_turnTo_71 : decode b_M_turnTo 71 = .ok (.getfield 62, 3) := by decide +kernel
theorem d_M_turnTo_74 : decode b_M_turnTo 74 = .ok (.iload_n 1, 1) := by decide +kernel
theorem d_M_turnTo_75 : decode b_M_turnTo 75 = .ok (.iconst 0, 1) := by decide +kernel
theorem d_M_turnTo_76 : decode b_M_turnTo 76 = .ok (.iastore, 1) := by decide +kernel
theorem d_M_turnTo_77 : decode b_M_turnTo 77 = .ok (.aload_n 0, 1) := by decide +kernel
theorem d_M_turnTo_78 : decode b_M_turnTo 78 = .ok (.getfield 65, 3) := by decide +kernel
theorem d_M_turnTo_81 : decode b_M_turnTo 81 = .ok (.iload_n 1, 1) := by decide +kernel
theorem d_M_turnTo_82 : decode b_M_turnTo 82 = .ok (.iconst 0, 1) := by decide +kernel
theorem d_M_turnTo_83 : decode b_M_turnTo 83 = .ok (.iastore, 1) := by decide +kernel
theorem d_M_turnTo_84 : decode b_M_turnTo 84 = .ok (.return_, 1) := by decide +kernel
theorem d_M_reckon_0 : decode b_M_reckon 0 = .ok (.iconst 0, 1) := by decide +kernel
theorem d_M_reckon_1 : decode b_M_reckon 1 = .ok (.istore_n 1, 1) := by decide +kernel
theorem d_M_reckon_2 : decode b_M_reckon 2 = .ok (.iload_n 1, 1) := by decide +kernel
theorem d_M_reckon_3 : decode b_M_reckon 3 = .ok (.bipush 20, 2) := by decide +kernel
theorem d_M_reckon_5 : decode b_M_reckon 5 = .ok (.if_icmp .ge 57, 3) := by decide +kernel
theorem d_M_reckon_8 : decode b_M_reckon 8 = .ok (.aload_n 0, 1) := by decide +kernel
theorem d_M_reckon_9 : decode b_M_reckon 9 = .ok (.getfield 50, 3) := by decide +kernel
theorem d_M_reckon_12 : decode b_M_reckon 12 = .ok (.iload_n 1, 1) := by decide +kernel
theorem d_M_reckon_13 : decode b_M_reckon 13 = .ok (.iconst 0, 1) := by decide +kernel
theorem d_M_reckon_14 : decode b_M_reckon 14 = .ok (.iastore, 1) := by decide +kernel
theorem d_M_reckon_15 : decode b_M_reckon 15 = .ok (.iconst 0, 1) := by decide +kernel
theorem d_M_reckon_16 : decode b_M_reckon 16 = .ok (.istore_n 2, 1) := by decide +kernel
theorem d_M_reckon_17 : decode b_M_reckon 17 = .ok (.iload_n 2, 1) := by decide +kernel
theorem d_M_reckon_18 : decode b_M_reckon 18 = .ok (.aload_n 0, 1) := by decide +kernel
theorem d_M_reckon_19 : decode b_M_reckon 19 = .ok (.getfield 75, 3) := by decide +kernel
theorem d_M_reckon_22 : decode b_M_reckon 22 = .ok (.if_icmp .ge 34, 3) := by decide +kernel
theorem d_M_reckon_25 : decode b_M_reckon 25 = .ok (.aload_n 0, 1) := by decide +kernel
theorem d_M_reckon_26 : decode b_M_reckon 26 = .ok (.getfield 50, 3) := by decide +kernel
theorem d_M_reckon_29 : decode b_M_reckon 29 = .ok (.iload_n 1, 1) := by decide +kernel
theorem d_M_reckon_30 : decode b_M_reckon 30 = .ok (.dup2, 1) := by decide +kernel
theorem d_M_reckon_31 : decode b_M_reckon 31 = .ok (.iaload, 1) := by decide +kernel
theorem d_M_reckon_32 : decode b_M_reckon 32 = .ok (.aload_n 0, 1) := by decide +kernel
theorem d_M_reckon_33 : decode b_M_reckon 33 = .ok (.iload_n 1, 1) := by decide +kernel
theorem d_M_reckon_34 : decode b_M_reckon 34 = .ok (.iload_n 2, 1) := by decide +kernel
theorem d_M_reckon_35 : decode b_M_reckon 35 = .ok (.invokevirtual 94, 3) := by decide +kernel
theorem d_M_reckon_38 : decode b_M_reckon 38 = .ok (.ifCond .eq 9, 3) := by decide +kernel
theorem d_M_reckon_41 : decode b_M_reckon 41 = .ok (.iconst 1, 1) := by decide +kernel
theorem d_M_reckon_42 : decode b_M_reckon 42 = .ok (.iload_n 2, 1) := by decide +kernel
theorem d_M_reckon_43 : decode b_M_reckon 43 = .ok (.ishl, 1) := by decide +kernel
theorem d_M_reckon_44 : decode b_M_reckon 44 = .ok (.goto 4, 3) := by decide +kernel
theorem d_M_reckon_47 : decode b_M_reckon 47 = .ok (.iconst 0, 1) := by decide +kernel
theorem d_M_reckon_48 : decode b_M_reckon 48 = .ok (.ior, 1) := by decide +kernel
theorem d_M_reckon_49 : decode b_M_reckon 49 = .ok (.iastore, 1) := by decide +kernel
theorem d_M_reckon_50 : decode b_M_reckon 50 = .ok (.iinc 2 1, 3) := by decide +kernel
theorem d_M_reckon_53 : decode b_M_reckon 53 = .ok (.goto (-36), 3) := by decide +kernel
theorem d_M_reckon_56 : decode b_M_reckon 56 = .ok (.iinc 1 1, 3) := by decide +kernel
theorem d_M_reckon_59 : decode b_M_reckon 59 = .ok (.goto (-57), 3) := by decide +kernel
theorem d_M_reckon_62 : decode b_M_reckon 62 = .ok (.aload_n 0, 1) := by decide +kernel
theorem d_M_reckon_63 : decode b_M_reckon 63 = .ok (.iconst (-1), 1) := by decide +kernel
theorem d_M_reckon_64 : decode b_M_reckon 64 = .ok (.putfield 111, 3) := by decide +kernel
theorem d_M_reckon_67 : decode b_M_reckon 67 = .ok (.aload_n 0, 1) := by decide +kernel
theorem d_M_reckon_68 : decode b_M_reckon 68 = .ok (.iconst 0, 1) := by decide +kernel
theorem d_M_reckon_69 : decode b_M_reckon 69 = .ok (.aload_n 0, 1) := by decide +kernel
theorem d_M_reckon_70 : decode b_M_reckon 70 = .ok (.invokevirtual 114, 3) := by decide +kernel
theorem d_M_reckon_73 : decode b_M_reckon 73 = .ok (.aload_n 0, 1) := by decide +kernel
theorem d_M_reckon_74 : decode b_M_reckon 74 = .ok (.invokevirtual 117, 3) := by decide +kernel
theorem d_M_reckon_77 : decode b_M_reckon 77 = .ok (.invokevirtual 120, 3) := by decide +kernel
theorem d_M_reckon_80 : decode b_M_reckon 80 = .ok (.iconst 0, 1) := by decide +kernel
theorem d_M_reckon_81 : decode b_M_reckon 81 = .ok (.istore_n 1, 1) := by decide +kernel
theorem d_M_reckon_82 : decode b_M_reckon 82 = .ok (.iconst 0, 1) := by decide +kernel
theorem d_M_reckon_83 : decode b_M_reckon 83 = .ok (.istore_n 2, 1) := by decide +kernel
theorem d_M_reckon_84 : decode b_M_reckon 84 = .ok (.iload_n 1, 1) := by decide +kernel
theorem d_M_reckon_85 : decode b_M_reckon 85 = .ok (.ifCond .lt 190, 3) := by decide +kernel
theorem d_M_reckon_88 : decode b_M_reckon 88 = .ok (.aload_n 0, 1) := by decide +kernel
theorem d_M_reckon_89 : decode b_M_reckon 89 = .ok (.getfield 59, 3) := by decide +kernel
theorem d_M_reckon_92 : decode b_M_reckon 92 = .ok (.iload_n 1, 1) := by decide +kernel
theorem d_M_reckon_93 : decode b_M_reckon 93 = .ok (.iaload, 1) := by decide +kernel
theorem d_M_reckon_94 : decode b_M_reckon 94 = .ok (.istore_n 3, 1) := by decide +kernel
theorem d_M_reckon_95 : decode b_M_reckon 95 = .ok (.iload_n 3, 1) := by decide +kernel
theorem d_M_reckon_96 : decode b_M_reckon 96 = .ok (.iconst 5, 1) := by decide +kernel
theorem d_M_reckon_97 : decode b_M_reckon 97 = .ok (.if_icmp .ne 69, 3) := by decide +kernel
theorem d_M_reckon_100 : decode b_M_reckon 100 = .ok (.aload_n 0, 1) := by decide +kernel
theorem d_M_reckon_101 : decode b_M_reckon 101 = .ok (.getfield 68, 3) := by decide +kernel
theorem d_M_reckon_104 : decode b_M_reckon 104 = .ok (.iload_n 1, 1) := by decide +kernel
theorem d_M_reckon_105 : decode b_M_reckon 105 = .ok (.iaload, 1) := by decide +kernel
theorem d_M_reckon_106 : decode b_M_reckon 106 = .ok (.ifCond .ge 7, 3) := by decide +kernel
theorem d_M_reckon_109 : decode b_M_reckon 109 = .ok (.iconst 0, 1) := by decide +kernel
theorem d_M_reckon_110 : decode b_M_reckon 110 = .ok (.goto 9, 3) := by decide +kernel
theorem d_M_reckon_113 : decode b_M_reckon 113 = .ok (.aload_n 0, 1) := by decide +kernel
theorem d_M_reckon_114 : decode b_M_reckon 114 = .ok (.getfield 68, 3) := by decide +kernel
theorem d_M_reckon_117 : decode b_M_reckon 117 = .ok (.iload_n 1, 1) := by decide +kernel
theorem d_M_reckon_118 : decode b_M_reckon 118 = .ok (.iaload, 1) := by decide +kernel
theorem d_M_reckon_119 : decode b_M_reckon 119 = .ok (.istore_n 2, 1) := by decide +kernel
theorem d_M_reckon_120 : decode b_M_reckon 120 = .ok (.iinc 1 (-1), 3) := by decide +kernel
theorem d_M_reckon_123 : decode b_M_reckon 123 = .ok (.iload_n 1, 1) := by decide +kernel
theorem d_M_reckon_124 : decode b_M_reckon 124 = .ok (.ifCond .lt 148, 3) := by decide +kernel
theorem d_M_reckon_127 : decode b_M_reckon 127 = .ok (.aload_n 0, 1) := by decide +kernel
theorem d_M_reckon_128 : decode b_M_reckon 128 = .ok (.getfield 65, 3) := by decide +kernel
theorem d_M_reckon_131 : decode b_M_reckon 131 = .ok (.iload_n 1, 1) := by decide +kernel
theorem d_M_reckon_132 : decode b_M_reckon 132 = .ok (.iload_n 2, 1) := by decide +kernel
theorem d_M_reckon_133 : decode b_M_reckon 133 = .ok (.aload_n 0, 1) := by decide +kernel
theorem d_M_reckon_134 : decode b_M_reckon 134 = .ok (.getfield 65, 3) := by decide +kernel
theorem d_M_reckon_137 : decode b_M_reckon 137 = .ok (.iload_n 1, 1) := by decide +kernel
theorem d_M_reckon_138 : decode b_M_reckon 138 = .ok (.iaload, 1) := by decide +kernel
theorem d_M_reckon_139 : decode b_M_reckon 139 = .ok (.if_icmp .le 7, 3) := by decide +kernel
theorem d_M_reckon_142 : decode b_M_reckon 142 = .ok (.iload_n 2, 1) := by decide +kernel
theorem d_M_reckon_143 : decode b_M_reckon 143 = .ok (.goto 9, 3) := by decide +kernel
theorem d_M_reckon_146 : decode b_M_reckon 146 = .ok (.aload_n 0, 1) := by decide +kernel
theorem d_M_reckon_147 : decode b_M_reckon 147 = .ok (.getfield 65, 3) := by decide +kernel
theorem d_M_reckon_150 : decode b_M_reckon 150 = .ok (.iload_n 1, 1) := by decide +kernel
theorem d_M_reckon_151 : decode b_M_reckon 151 = .ok (.iaload, 1) := by decide +kernel
theorem d_M_reckon_152 : decode b_M_reckon 152 = .ok (.iastore, 1) := by decide +kernel
theorem d_M_reckon_153 : decode b_M_reckon 153 = .ok (.aload_n 0, 1) := by decide +kernel
theorem d_M_reckon_154 : decode b_M_reckon 154 = .ok (.getfield 62, 3) := by decide +kernel
theorem d_M_reckon_157 : decode b_M_reckon 157 = .ok (.iload_n 1, 1) := by decide +kernel
theorem d_M_reckon_158 : decode b_M_reckon 158 = .ok (.dup2, 1) := by decide +kernel
theorem d_M_reckon_159 : decode b_M_reckon 159 = .ok (.iaload, 1) := by decide +kernel
theorem d_M_reckon_160 : decode b_M_reckon 160 = .ok (.iconst 1, 1) := by decide +kernel
theorem d_M_reckon_161 : decode b_M_reckon 161 = .ok (.iadd, 1) := by decide +kernel
theorem d_M_reckon_162 : decode b_M_reckon 162 = .ok (.iastore, 1) := by decide +kernel
theorem d_M_reckon_163 : decode b_M_reckon 163 = .ok (.goto 109, 3) := by decide +kernel
theorem d_M_reckon_166 : decode b_M_reckon 166 = .ok (.aload_n 0, 1) := by decide +kernel
theorem d_M_reckon_167 : decode b_M_reckon 167 = .ok (.getfield 56, 3) := by decide +kernel
theorem d_M_reckon_170 : decode b_M_reckon 170 = .ok (.iload_n 1, 1) := by decide +kernel
theorem d_M_reckon_171 : decode b_M_reckon 171 = .ok (.iaload, 1) := by decide +kernel
theorem d_M_reckon_172 : decode b_M_reckon 172 = .ok (.iload_n 3, 1) := by decide +kernel
theorem d_M_reckon_173 : decode b_M_reckon 173 = .ok (.ishr, 1) := by decide +kernel
theorem d_M_reckon_174 : decode b_M_reckon 174 = .ok (.iconst 1, 1) := by decide +kernel
theorem d_M_reckon_175 : decode b_M_reckon 175 = .ok (.iand, 1) := by decide +kernel
theorem d_M_reckon_176 : decode b_M_reckon 176 = .ok (.ifCond .eq 26, 3) := by decide +kernel
theorem d_M_reckon_179 : decode b_M_reckon 179 = .ok (.aload_n 0, 1) := by decide +kernel
theorem d_M_reckon_180 : decode b_M_reckon 180 = .ok (.getfield 62, 3) := by decide +kernel
theorem d_M_reckon_183 : decode b_M_reckon 183 = .ok (.iload_n 1, 1) := by decide +kernel
theorem d_M_reckon_184 : decode b_M_reckon 184 = .ok (.iaload, 1) := by decide +kernel
theorem d_M_reckon_185 : decode b_M_reckon 185 = .ok (.ifCond .ne 26, 3) := by decide +kernel
theorem d_M_reckon_188 : decode b_M_reckon 188 = .ok (.aload_n 0, 1) := by decide +kernel
theorem d_M_reckon_189 : decode b_M_reckon 189 = .ok (.aload_n 0, 1) := by decide +kernel
theorem d_M_reckon_190 : decode b_M_reckon 190 = .ok (.getfield 53, 3) := by decide +kernel
theorem d_M_reckon_193 : decode b_M_reckon 193 = .ok (.iload_n 1, 1) := by decide +kernel
theorem d_M_reckon_194 : decode b_M_reckon 194 = .ok (.iaload, 1) := by decide +kernel
theorem d_M_reckon_195 : decode b_M_reckon 195 = .ok (.iload_n 3, 1) := by decide +kernel
theorem d_M_reckon_196 : decode b_M_reckon 196 = .ok (.invokevirtual 124, 3) := by decide +kernel
theorem d_M_reckon_199 : decode b_M_reckon 199 = .ok (.ifCond .ne 12, 3) := by decide +kernel
theorem d_M_reckon_202 : decode b_M_reckon 202 = .ok (.aload_n 0, 1) := by decide +kernel
theorem d_M_reckon_203 : decode b_M_reckon 203 = .ok (.iload_n 1, 1) := by decide +kernel
theorem d_M_reckon_204 : decode b_M_reckon 204 = .ok (.iconst 0, 1) := by decide +kernel
theorem d_M_reckon_205 : decode b_M_reckon 205 = .ok (.invokevirtual 127, 3) := by decide +kernel
theorem d_M_reckon_208 : decode b_M_reckon 208 = .ok (.goto 64, 3) := by decide +kernel
theorem d_M_reckon_211 : decode b_M_reckon 211 = .ok (.aload_n 0, 1) := by decide +kernel
theorem d_M_reckon_212 : decode b_M_reckon 212 = .ok (.getfield 62, 3) := by decide +kernel
theorem d_M_reckon_215 : decode b_M_reckon 215 = .ok (.iload_n 1, 1) := by decide +kernel
theorem d_M_reckon_216 : decode b_M_reckon 216 = .ok (.iaload, 1) := by decide +kernel
theorem d_M_reckon_217 : decode b_M_reckon 217 = .ok (.iconst 4, 1) := by decide +kernel
theorem d_M_reckon_218 : decode b_M_reckon 218 = .ok (.if_icmp .ne 12, 3) := by decide +kernel
theorem d_M_reckon_221 : decode b_M_reckon 221 = .ok (.aload_n 0, 1) := by decide +kernel
theorem d_M_reckon_222 : decode b_M_reckon 222 = .ok (.iload_n 1, 1) := by decide +kernel
theorem d_M_reckon_223 : decode b_M_reckon 223 = .ok (.iconst 1, 1) := by decide +kernel
theorem d_M_reckon_224 : decode b_M_reckon 224 = .ok (.invokevirtual 127, 3) := by decide +kernel
theorem d_M_reckon_227 : decode b_M_reckon 227 = .ok (.goto 45, 3) := by decide +kernel
theorem d_M_reckon_230 : decode b_M_reckon 230 = .ok (.aload_n 0, 1) := by decide +kernel
theorem d_M_reckon_231 : decode b_M_reckon 231 = .ok (.iload_n 1, 1) := by decide +kernel
theorem d_M_reckon_232 : decode b_M_reckon 232 = .ok (.iconst 1, 1) := by decide +kernel
theorem d_M_reckon_233 : decode b_M_reckon 233 = .ok (.iadd, 1) := by decide +kernel
theorem d_M_reckon_234 : decode b_M_reckon 234 = .ok (.aload_n 0, 1) := by decide +kernel
theorem d_M_reckon_235 : decode b_M_reckon 235 = .ok (.getfield 53, 3) := by decide +kernel
theorem d_M_reckon_238 : decode b_M_reckon 238 = .ok (.iload_n 1, 1) := by decide +kernel
theorem d_M_reckon_239 : decode b_M_reckon 239 = .ok (.iaload, 1) := by decide +kernel
theorem d_M_reckon_240 : decode b_M_reckon 240 = .ok (.aload_n 0, 1) := by decide +kernel
theorem d_M_reckon_241 : decode b_M_reckon 241 = .ok (.getfield 50, 3) := by decide +kernel
theorem d_M_reckon_244 : decode b_M_reckon 244 = .ok (.iconst 4, 1) := by decide +kernel
theorem d_M_reckon_245 : decode b_M_reckon 245 = .ok (.iload_n 3, 1) := by decide +kernel
theorem d_M_reckon_246 : decode b_M_reckon 246 = .ok (.imul, 1) := by decide +kernel
theorem d_M_reckon_247 : decode b_M_reckon 247 = .ok (.aload_n 0, 1) := by decide +kernel
theorem d_M_reckon_248 : decode b_M_reckon 248 = .ok (.getfield 62, 3) := by decide +kernel
theorem d_M_reckon_251 : decode b_M_reckon 251 = .ok (.iload_n 1, 1) := by decide +kernel
theorem d_M_reckon_252 : decode b_M_reckon 252 = .ok (.iaload, 1) := by decide +kernel
theorem d_M_reckon_253 : decode b_M_reckon 253 = .ok (.iadd, 1) := by decide +kernel
theorem d_M_reckon_254 : decode b_M_reckon 254 = .ok (.iaload, 1) := by decide +kernel
theorem d_M_reckon_255 : decode b_M_reckon 255 = .ok (.iand, 1) := by decide +kernel
theorem d_M_reckon_256 : decode b_M_reckon 256 = .ok (.aload_n 0, 1) := by decide +kernel
theorem d_M_reckon_257 : decode b_M_reckon 257 = .ok (.getfield 56, 3) := by decide +kernel
theorem d_M_reckon_260 : decode b_M_reckon 260 = .ok (.iload_n 1, 1) := by decide +kernel
theorem d_M_reckon_261 : decode b_M_reckon 261 = .ok (.iaload, 1) := by decide +kernel
theorem d_M_reckon_262 : decode b_M_reckon 262 = .ok (.iconst 1, 1) := by decide +kernel
theorem d_M_reckon_263 : decode b_M_reckon 263 = .ok (.iload_n 3, 1) := by decide +kernel
theorem d_M_reckon_264 : decode b_M_reckon 264 = .ok (.ishl, 1) := by decide +kernel
theorem d_M_reckon_265 : decode b_M_reckon 265 = .ok (.isub, 1) := by decide +kernel
theorem d_M_reckon_266 : decode b_M_reckon 266 = .ok (.invokevirtual 120, 3) := by decide +kernel
theorem d_M_reckon_269 : decode b_M_reckon 269 = .ok (.iinc 1 1, 3) := by decide +kernel
theorem d_M_reckon_272 : decode b_M_reckon 272 = .ok (.goto (-188), 3) := by decide +kernel
theorem d_M_reckon_275 : decode b_M_reckon 275 = .ok (.iload_n 2, 1) := by decide +kernel
theorem d_M_reckon_276 : decode b_M_reckon 276 = .ok (.ireturn, 1) := by decide +kernel
theorem d_M_question_0 : decode b_M_question 0 = .ok (.aload_n 0, 1) := by decide +kernel
theorem d_M_question_1 : decode b_M_question 1 = .ok (.iconst 0, 1) := by decide +kernel
theorem d_M_question_2 : decode b_M_question 2 = .ok (.putfield 71, 3) := by decide +kernel
theorem d_M_question_5 : decode b_M_question 5 = .ok (.aload_n 0, 1) := by decide +kernel
theorem d_M_question_6 : decode b_M_question 6 = .ok (.invokevirtual 131, 3) := by decide +kernel
theorem d_M_question_9 : decode b_M_question 9 = .ok (.istore_n 1, 1) := by decide +kernel
theorem d_M_question_10 : decode b_M_question 10 = .ok (.iload_n 1, 1) := by decide +kernel
theorem d_M_question_11 : decode b_M_question 11 = .ok (.ifCond .ne 7, 3) := by decide +kernel
theorem d_M_question_14 : decode b_M_question 14 = .ok (.iconst (-1), 1) := by decide +kernel
theorem d_M_question_15 : decode b_M_question 15 = .ok (.goto 7, 3) := by decide +kernel
theorem d_M_question_18 : decode b_M_question 18 = .ok (.aload_n 0, 1) := by decide +kernel
theorem d_M_question_19 : decode b_M_question 19 = .ok (.getfield 111, 3) := by decide +kernel
theorem d_M_question_22 : decode b_M_question 22 = .ok (.ireturn, 1) := by decide +kernel
theorem d_M_needed_0 : decode b_M_needed 0 = .ok (.aload_n 0, 1) := by decide +kernel
theorem d_M_needed_1 : decode b_M_needed 1 = .ok (.iconst 0, 1) := by decide +kernel
theorem d_M_needed_2 : decode b_M_needed 2 = .ok (.putfield 71, 3) := by decide +kernel
theorem d_M_needed_5 : decode b_M_needed 5 = .ok (.aload_n 0, 1) := by decide +kernel
theorem d_M_needed_6 : decode b_M_needed 6 = .ok (.invokevirtual 131, 3) := by decide +kernel
theorem d_M_needed_9 : decode b_M_needed 9 = .ok (.ireturn, 1) := by decide +kernel
theorem d_M_isGiven_0 : decode b_M_isGiven 0 = .ok (.aload_n 0, 1) := by decide +kernel
theorem d_M_isGiven_1 : decode b_M_isGiven 1 = .ok (.getfield 32, 3) := by decide +kernel
theorem d_M_isGiven_4 : decode b_M_isGiven 4 = .ok (.iload_n 1, 1) := by decide +kernel
theorem d_M_isGiven_5 : decode b_M_isGiven 5 = .ok (.iconst 4, 1) := by decide +kernel
theorem d_M_isGiven_6 : decode b_M_isGiven 6 = .ok (.idiv, 1) := by decide +kernel
theorem d_M_isGiven_7 : decode b_M_isGiven 7 = .ok (.iaload, 1) := by decide +kernel
theorem d_M_isGiven_8 : decode b_M_isGiven 8 = .ok (.iload_n 1, 1) := by decide +kernel
theorem d_M_isGiven_9 : decode b_M_isGiven 9 = .ok (.iconst 4, 1) := by decide +kernel
theorem d_M_isGiven_10 : decode b_M_isGiven 10 = .ok (.irem, 1) := by decide +kernel
theorem d_M_isGiven_11 : decode b_M_isGiven 11 = .ok (.if_icmp .ne 7, 3) := by decide +kernel
theorem d_M_isGiven_14 : decode b_M_isGiven 14 = .ok (.iconst 1, 1) := by decide +kernel
theorem d_M_isGiven_15 : decode b_M_isGiven 15 = .ok (.goto 4, 3) := by decide +kernel
theorem d_M_isGiven_18 : decode b_M_isGiven 18 = .ok (.iconst 0, 1) := by decide +kernel
theorem d_M_isGiven_19 : decode b_M_isGiven 19 = .ok (.ireturn, 1) := by decide +kernel
theorem d_M_holds_0 : decode b_M_holds 0 = .ok (.aload_n 0, 1) := by decide +kernel
theorem d_M_holds_1 : decode b_M_holds 1 = .ok (.getfield 134, 3) := by decide +kernel
theorem d_M_holds_4 : decode b_M_holds 4 = .ok (.aload_n 0, 1) := by decide +kernel
theorem d_M_holds_5 : decode b_M_holds 5 = .ok (.getfield 47, 3) := by decide +kernel
theorem d_M_holds_8 : decode b_M_holds 8 = .ok (.iload_n 1, 1) := by decide +kernel
theorem d_M_holds_9 : decode b_M_holds 9 = .ok (.iaload, 1) := by decide +kernel
theorem d_M_holds_10 : decode b_M_holds 10 = .ok (.if_icmp .gt 55, 3) := by decide +kernel
theorem d_M_holds_13 : decode b_M_holds 13 = .ok (.aload_n 0, 1) := by decide +kernel
theorem d_M_holds_14 : decode b_M_holds 14 = .ok (.aload_n 0, 1) := by decide +kernel
theorem d_M_holds_15 : decode b_M_holds 15 = .ok (.getfield 41, 3) := by decide +kernel
theorem d_M_holds_18 : decode b_M_holds 18 = .ok (.iload_n 1, 1) := by decide +kernel
theorem d_M_holds_19 : decode b_M_holds 19 = .ok (.iaload, 1) := by decide +kernel
theorem d_M_holds_20 : decode b_M_holds 20 = .ok (.invokevirtual 137, 3) := by decide +kernel
theorem d_M_holds_23 : decode b_M_holds 23 = .ok (.ifCond .eq 42, 3) := by decide +kernel
theorem d_M_holds_26 : decode b_M_holds 26 = .ok (.aload_n 0, 1) := by decide +kernel
theorem d_M_holds_27 : decode b_M_holds 27 = .ok (.getfield 44, 3) := by decide +kernel
theorem d_M_holds_30 : decode b_M_holds 30 = .ok (.iload_n 1, 1) := by decide +kernel
theorem d_M_holds_31 : decode b_M_holds 31 = .ok (.iaload, 1) := by decide +kernel
theorem d_M_holds_32 : decode b_M_holds 32 = .ok (.ifCond .lt 29, 3) := by decide +kernel
theorem d_M_holds_35 : decode b_M_holds 35 = .ok (.aload_n 0, 1) := by decide +kernel
theorem d_M_holds_36 : decode b_M_holds 36 = .ok (.aload_n 0, 1) := by decide +kernel
theorem d_M_holds_37 : decode b_M_holds 37 = .ok (.getfield 44, 3) := by decide +kernel
theorem d_M_holds_40 : decode b_M_holds 40 = .ok (.iload_n 1, 1) := by decide +kernel
theorem d_M_holds_41 : decode b_M_holds 41 = .ok (.iaload, 1) := by decide +kernel
theorem d_M_holds_42 : decode b_M_holds 42 = .ok (.ifCond .ge 7, 3) := by decide +kernel
theorem d_M_holds_45 : decode b_M_holds 45 = .ok (.iconst 0, 1) := by decide +kernel
theorem d_M_holds_46 : decode b_M_holds 46 = .ok (.goto 9, 3) := by decide +kernel
theorem d_M_holds_49 : decode b_M_holds 49 = .ok (.aload_n 0, 1) := by decide +kernel
theorem d_M_holds_50 : decode b_M_holds 50 = .ok (.getfield 44, 3) := by decide +kernel
theorem d_M_holds_53 : decode b_M_holds 53 = .ok (.iload_n 1, 1) := by decide +kernel
theorem d_M_holds_54 : decode b_M_holds 54 = .ok (.iaload, 1) := by decide +kernel
theorem d_M_holds_55 : decode b_M_holds 55 = .ok (.invokevirtual 137, 3) := by decide +kernel
theorem d_M_holds_58 : decode b_M_holds 58 = .ok (.ifCond .eq 7, 3) := by decide +kernel
theorem d_M_holds_61 : decode b_M_holds 61 = .ok (.iconst 1, 1) := by decide +kernel
theorem d_M_holds_62 : decode b_M_holds 62 = .ok (.goto 4, 3) := by decide +kernel
theorem d_M_holds_65 : decode b_M_holds 65 = .ok (.iconst 0, 1) := by decide +kernel
theorem d_M_holds_66 : decode b_M_holds 66 = .ok (.ireturn, 1) := by decide +kernel
theorem d_M_ruled_0 : decode b_M_ruled 0 = .ok (.iconst 0, 1) := by decide +kernel
theorem d_M_ruled_1 : decode b_M_ruled 1 = .ok (.istore_n 1, 1) := by decide +kernel
theorem d_M_ruled_2 : decode b_M_ruled 2 = .ok (.iconst 0, 1) := by decide +kernel
theorem d_M_ruled_3 : decode b_M_ruled 3 = .ok (.istore_n 2, 1) := by decide +kernel
theorem d_M_ruled_4 : decode b_M_ruled 4 = .ok (.iload_n 2, 1) := by decide +kernel
theorem d_M_ruled_5 : decode b_M_ruled 5 = .ok (.aload_n 0, 1) := by decide +kernel
theorem d_M_ruled_6 : decode b_M_ruled 6 = .ok (.getfield 140, 3) := by decide +kernel
theorem d_M_ruled_9 : decode b_M_ruled 9 = .ok (.if_icmp .ge 46, 3) := by decide +kernel
theorem d_M_ruled_12 : decode b_M_ruled 12 = .ok (.aload_n 0, 1) := by decide +kernel
theorem d_M_ruled_13 : decode b_M_ruled 13 = .ok (.iload_n 2, 1) := by decide +kernel
theorem d_M_ruled_14 : decode b_M_ruled 14 = .ok (.invokevirtual 143, 3) := by decide +kernel
theorem d_M_ruled_17 : decode b_M_ruled 17 = .ok (.ifCond .ne 7, 3) := by decide +kernel
theorem d_M_ruled_20 : decode b_M_ruled 20 = .ok (.iload_n 1, 1) := by decide +kernel
theorem d_M_ruled_21 : decode b_M_ruled 21 = .ok (.goto 27, 3) := by decide +kernel
theorem d_M_ruled_24 : decode b_M_ruled 24 = .ok (.iload_n 1, 1) := by decide +kernel
theorem d_M_ruled_25 : decode b_M_ruled 25 = .ok (.ifCond .eq 13, 3) := by decide +kernel
theorem d_M_ruled_28 : decode b_M_ruled 28 = .ok (.iload_n 1, 1) := by decide +kernel
theorem d_M_ruled_29 : decode b_M_ruled 29 = .ok (.aload_n 0, 1) := by decide +kernel
theorem d_M_ruled_30 : decode b_M_ruled 30 = .ok (.getfield 38, 3) := by decide +kernel
theorem d_M_ruled_33 : decode b_M_ruled 33 = .ok (.iload_n 2, 1) := by decide +kernel
theorem d_M_ruled_34 : decode b_M_ruled 34 = .ok (.iaload, 1) := by decide +kernel
theorem d_M_ruled_35 : decode b_M_ruled 35 = .ok (.if_icmp .ne 12, 3) := by decide +kernel
theorem d_M_ruled_38 : decode b_M_ruled 38 = .ok (.aload_n 0, 1) := by decide +kernel
theorem d_M_ruled_39 : decode b_M_ruled 39 = .ok (.getfield 38, 3) := by decide +kernel
theorem d_M_ruled_42 : decode b_M_ruled 42 = .ok (.iload_n 2, 1) := by decide +kernel
theorem d_M_ruled_43 : decode b_M_ruled 43 = .ok (.iaload, 1) := by decide +kernel
theorem d_M_ruled_44 : decode b_M_ruled 44 = .ok (.goto 4, 3) := by decide +kernel
theorem d_M_ruled_47 : decode b_M_ruled 47 = .ok (.iconst (-1), 1) := by decide +kernel
theorem d_M_ruled_48 : decode b_M_ruled 48 = .ok (.istore_n 1, 1) := by decide +kernel
theorem d_M_ruled_49 : decode b_M_ruled 49 = .ok (.iinc 2 1, 3) := by decide +kernel
theorem d_M_ruled_52 : decode b_M_ruled 52 = .ok (.goto (-48), 3) := by decide +kernel
theorem d_M_ruled_55 : decode b_M_ruled 55 = .ok (.iload_n 1, 1) := by decide +kernel
theorem d_M_ruled_56 : decode b_M_ruled 56 = .ok (.ireturn, 1) := by decide +kernel
theorem d_M_ahead_0 : decode b_M_ahead 0 = .ok (.aload_n 0, 1) := by decide +kernel
theorem d_M_ahead_1 : decode b_M_ahead 1 = .ok (.getfield 13, 3) := by decide +kernel
theorem d_M_ahead_4 : decode b_M_ahead 4 = .ok (.iload_n 1, 1) := by decide +kernel
theorem d_M_ahead_5 : decode b_M_ahead 5 = .ok (.iaload, 1) := by decide +kernel
theorem d_M_ahead_6 : decode b_M_ahead 6 = .ok (.aload_n 0, 1) := by decide +kernel
theorem d_M_ahead_7 : decode b_M_ahead 7 = .ok (.getfield 13, 3) := by decide +kernel
theorem d_M_ahead_10 : decode b_M_ahead 10 = .ok (.iload_n 2, 1) := by decide +kernel
theorem d_M_ahead_11 : decode b_M_ahead 11 = .ok (.iaload, 1) := by decide +kernel
theorem d_M_ahead_12 : decode b_M_ahead 12 = .ok (.if_icmp .eq 24, 3) := by decide +kernel
theorem d_M_ahead_15 : decode b_M_ahead 15 = .ok (.aload_n 0, 1) := by decide +kernel
theorem d_M_ahead_16 : decode b_M_ahead 16 = .ok (.getfield 13, 3) := by decide +kernel
theorem d_M_ahead_19 : decode b_M_ahead 19 = .ok (.iload_n 1, 1) := by decide +kernel
theorem d_M_ahead_20 : decode b_M_ahead 20 = .ok (.iaload, 1) := by decide +kernel
theorem d_M_ahead_21 : decode b_M_ahead 21 = .ok (.aload_n 0, 1) := by decide +kernel
theorem d_M_ahead_22 : decode b_M_ahead 22 = .ok (.getfield 13, 3) := by decide +kernel
theorem d_M_ahead_25 : decode b_M_ahead 25 = .ok (.iload_n 2, 1) := by decide +kernel
theorem d_M_ahead_26 : decode b_M_ahead 26 = .ok (.iaload, 1) := by decide +kernel
theorem d_M_ahead_27 : decode b_M_ahead 27 = .ok (.if_icmp .le 7, 3) := by decide +kernel
theorem d_M_ahead_30 : decode b_M_ahead 30 = .ok (.iconst 0, 1) := by decide +kernel
theorem d_M_ahead_31 : decode b_M_ahead 31 = .ok (.goto 4, 3) := by decide +kernel
theorem d_M_ahead_34 : decode b_M_ahead 34 = .ok (.iconst (-1), 1) := by decide +kernel
theorem d_M_ahead_35 : decode b_M_ahead 35 = .ok (.ireturn, 1) := by decide +kernel
theorem d_M_ahead_36 : decode b_M_ahead 36 = .ok (.aload_n 0, 1) := by decide +kernel
theorem d_M_ahead_37 : decode b_M_ahead 37 = .ok (.getfield 16, 3) := by decide +kernel
theorem d_M_ahead_40 : decode b_M_ahead 40 = .ok (.iload_n 1, 1) := by decide +kernel
theorem d_M_ahead_41 : decode b_M_ahead 41 = .ok (.iaload, 1) := by decide +kernel
theorem d_M_ahead_42 : decode b_M_ahead 42 = .ok (.aload_n 0, 1) := by decide +kernel
theorem d_M_ahead_43 : decode b_M_ahead 43 = .ok (.getfield 19, 3) := by decide +kernel
theorem d_M_ahead_46 : decode b_M_ahead 46 = .ok (.iload_n 2, 1) := by decide +kernel
theorem d_M_ahead_47 : decode b_M_ahead 47 = .ok (.iaload, 1) := by decide +kernel
theorem d_M_ahead_48 : decode b_M_ahead 48 = .ok (.imul, 1) := by decide +kernel
theorem d_M_ahead_49 : decode b_M_ahead 49 = .ok (.aload_n 0, 1) := by decide +kernel
theorem d_M_ahead_50 : decode b_M_ahead 50 = .ok (.getfield 16, 3) := by decide +kernel
theorem d_M_ahead_53 : decode b_M_ahead 53 = .ok (.iload_n 2, 1) := by decide +kernel
theorem d_M_ahead_54 : decode b_M_ahead 54 = .ok (.iaload, 1) := by decide +kernel
theorem d_M_ahead_55 : decode b_M_ahead 55 = .ok (.aload_n 0, 1) := by decide +kernel
theorem d_M_ahead_56 : decode b_M_ahead 56 = .ok (.getfield 19, 3) := by decide +kernel
theorem d_M_ahead_59 : decode b_M_ahead 59 = .ok (.iload_n 1, 1) := by decide +kernel
theorem d_M_ahead_60 : decode b_M_ahead 60 = .ok (.iaload, 1) := by decide +kernel
theorem d_M_ahead_61 : decode b_M_ahead 61 = .ok (.imul, 1) := by decide +kernel
theorem d_M_ahead_62 : decode b_M_ahead 62 = .ok (.isub, 1) := by decide +kernel
theorem d_M_ahead_63 : decode b_M_ahead 63 = .ok (.istore_n 3, 1) := by decide +kernel
theorem d_M_ahead_64 : decode b_M_ahead 64 = .ok (.iload_n 3, 1) := by decide +kernel
theorem d_M_ahead_65 : decode b_M_ahead 65 = .ok (.ifCond .eq 13, 3) := by decide +kernel
theorem d_M_ahead_68 : decode b_M_ahead 68 = .ok (.iload_n 3, 1) := by decide +kernel
theorem d_M_ahead_69 : decode b_M_ahead 69 = .ok (.ifCond .le 7, 3) := by decide +kernel
theorem d_M_ahead_72 : decode b_M_ahead 72 = .ok (.iconst 1, 1) := by decide +kernel
theorem d_M_ahead_73 : decode b_M_ahead 73 = .ok (.goto 4, 3) := by decide +kernel
theorem d_M_ahead_76 : decode b_M_ahead 76 = .ok (.iconst (-1), 1) := by decide +kernel
theorem d_M_ahead_77 : decode b_M_ahead 77 = .ok (.ireturn, 1) := by decide +kernel
theorem d_M_ahead_78 : decode b_M_ahead 78 = .ok (.iload_n 1, 1) := by decide +kernel
theorem d_M_ahead_79 : decode b_M_ahead 79 = .ok (.iload_n 2, 1) := by decide +kernel
theorem d_M_ahead_80 : decode b_M_ahead 80 = .ok (.if_icmp .le 7, 3) := by decide +kernel
theorem d_M_ahead_83 : decode b_M_ahead 83 = .ok (.iconst 2, 1) := by decide +kernel
theorem d_M_ahead_84 : decode b_M_ahead 84 = .ok (.goto 4, 3) := by decide +kernel
theorem d_M_ahead_87 : decode b_M_ahead 87 = .ok (.iconst (-1), 1) := by decide +kernel
theorem d_M_ahead_88 : decode b_M_ahead 88 = .ok (.ireturn, 1) := by decide +kernel
theorem d_M_bestLeft_0 : decode b_M_bestLeft 0 = .ok (.iconst (-1), 1) := by decide +kernel
theorem d_M_bestLeft_1 : decode b_M_bestLeft 1 = .ok (.istore_n 1, 1) := by decide +kernel
theorem d_M_bestLeft_2 : decode b_M_bestLeft 2 = .ok (.iconst 0, 1) := by decide +kernel
theorem d_M_bestLeft_3 : decode b_M_bestLeft 3 = .ok (.istore_n 2, 1) := by decide +kernel
theorem d_M_bestLeft_4 : decode b_M_bestLeft 4 = .ok (.iload_n 2, 1) := by decide +kernel
theorem d_M_bestLeft_5 : decode b_M_bestLeft 5 = .ok (.aload_n 0, 1) := by decide +kernel
theorem d_M_bestLeft_6 : decode b_M_bestLeft 6 = .ok (.getfield 75, 3) := by decide +kernel
theorem d_M_bestLeft_9 : decode b_M_bestLeft 9 = .ok (.if_icmp .ge 32, 3) := by decide +kernel
theorem d_M_bestLeft_12 : decode b_M_bestLeft 12 = .ok (.aload_n 0, 1) := by decide +kernel
theorem d_M_bestLeft_13 : decode b_M_bestLeft 13 = .ok (.iload_n 2, 1) := by decide +kernel
theorem d_M_bestLeft_14 : decode b_M_bestLeft 14 = .ok (.invokevirtual 97, 3) := by decide +kernel
theorem d_M_bestLeft_17 : decode b_M_bestLeft 17 = .ok (.ifCond .eq 18, 3) := by decide +kernel
theorem d_M_bestLeft_20 : decode b_M_bestLeft 20 = .ok (.iload_n 1, 1) := by decide +kernel
theorem d_M_bestLeft_21 : decode b_M_bestLeft 21 = .ok (.ifCond .lt 12, 3) := by decide +kernel
theorem d_M_bestLeft_24 : decode b_M_bestLeft 24 = .ok (.aload_n 0, 1) := by decide +kernel
theorem d_M_bestLeft_25 : decode b_M_bestLeft 25 = .ok (.iload_n 2, 1) := by decide +kernel
theorem d_M_bestLeft_26 : decode b_M_bestLeft 26 = .ok (.iload_n 1, 1) := by decide +kernel
theorem d_M_bestLeft_27 : decode b_M_bestLeft 27 = .ok (.invokevirtual 146, 3) := by decide +kernel
theorem d_M_bestLeft_30 : decode b_M_bestLeft 30 = .ok (.ifCond .lt 5, 3) := by decide +kernel
theorem d_M_bestLeft_33 : decode b_M_bestLeft 33 = .ok (.iload_n 2, 1) := by decide +kernel
theorem d_M_bestLeft_34 : decode b_M_bestLeft 34 = .ok (.istore_n 1, 1) := by decide +kernel
theorem d_M_bestLeft_35 : decode b_M_bestLeft 35 = .ok (.iinc 2 1, 3) := by decide +kernel
theorem d_M_bestLeft_38 : decode b_M_bestLeft 38 = .ok (.goto (-34), 3) := by decide +kernel
theorem d_M_bestLeft_41 : decode b_M_bestLeft 41 = .ok (.iload_n 1, 1) := by decide +kernel
theorem d_M_bestLeft_42 : decode b_M_bestLeft 42 = .ok (.ireturn, 1) := by decide +kernel
theorem d_M_found_0 : decode b_M_found 0 = .ok (.aload_n 0, 1) := by decide +kernel
theorem d_M_found_1 : decode b_M_found 1 = .ok (.iconst 0, 1) := by decide +kernel
theorem d_M_found_2 : decode b_M_found 2 = .ok (.putfield 71, 3) := by decide +kernel
theorem d_M_found_5 : decode b_M_found 5 = .ok (.aload_n 0, 1) := by decide +kernel
theorem d_M_found_6 : decode b_M_found 6 = .ok (.invokevirtual 150, 3) := by decide +kernel
theorem d_M_found_9 : decode b_M_found 9 = .ok (.ifCond .le 8, 3) := by decide +kernel
theorem d_M_found_12 : decode b_M_found 12 = .ok (.aload_n 0, 1) := by decide +kernel
theorem d_M_found_13 : decode b_M_found 13 = .ok (.invokevirtual 150, 3) := by decide +kernel
theorem d_M_found_16 : decode b_M_found 16 = .ok (.ireturn, 1) := by decide +kernel
theorem d_M_found_17 : decode b_M_found 17 = .ok (.aload_n 0, 1) := by decide +kernel
theorem d_M_found_18 : decode b_M_found 18 = .ok (.invokevirtual 153, 3) := by decide +kernel
theorem d_M_found_21 : decode b_M_found 21 = .ok (.istore_n 1, 1) := by decide +kernel
theorem d_M_found_22 : decode b_M_found 22 = .ok (.iload_n 1, 1) := by decide +kernel
theorem d_M_found_23 : decode b_M_found 23 = .ok (.ifCond .ge 7, 3) := by decide +kernel
theorem d_M_found_26 : decode b_M_found 26 = .ok (.iconst 0, 1) := by decide +kernel
theorem d_M_found_27 : decode b_M_found 27 = .ok (.goto 9, 3) := by decide +kernel
theorem d_M_found_30 : decode b_M_found 30 = .ok (.aload_n 0, 1) := by decide +kernel
theorem d_M_found_31 : decode b_M_found 31 = .ok (.getfield 7, 3) := by decide +kernel
theorem d_M_found_34 : decode b_M_found 34 = .ok (.iload_n 1, 1) := by decide +kernel
theorem d_M_found_35 : decode b_M_found 35 = .ok (.iaload, 1) := by decide +kernel
theorem d_M_found_36 : decode b_M_found 36 = .ok (.ireturn, 1) := by decide +kernel
theorem d_M_why_0 : decode b_M_why 0 = .ok (.aload_n 0, 1) := by decide +kernel
theorem d_M_why_1 : decode b_M_why 1 = .ok (.iconst 0, 1) := by decide +kernel
theorem d_M_why_2 : decode b_M_why 2 = .ok (.putfield 71, 3) := by decide +kernel
theorem d_M_why_5 : decode b_M_why 5 = .ok (.aload_n 0, 1) := by decide +kernel
theorem d_M_why_6 : decode b_M_why 6 = .ok (.invokevirtual 150, 3) := by decide +kernel
theorem d_M_why_9 : decode b_M_why 9 = .ok (.ifCond .le 5, 3) := by decide +kernel
theorem d_M_why_12 : decode b_M_why 12 = .ok (.iconst 1, 1) := by decide +kernel
theorem d_M_why_13 : decode b_M_why 13 = .ok (.ireturn, 1) := by decide +kernel
theorem d_M_why_14 : decode b_M_why 14 = .ok (.aload_n 0, 1) := by decide +kernel
theorem d_M_why_15 : decode b_M_why 15 = .ok (.invokevirtual 153, 3) := by decide +kernel
theorem d_M_why_18 : decode b_M_why 18 = .ok (.istore_n 1, 1) := by decide +kernel
theorem d_M_why_19 : decode b_M_why 19 = .ok (.iload_n 1, 1) := by decide +kernel
theorem d_M_why_20 : decode b_M_why 20 = .ok (.ifCond .ge 5, 3) := by decide +kernel
theorem d_M_why_23 : decode b_M_why 23 = .ok (.iconst 0, 1) := by decide +kernel
theorem d_M_why_24 : decode b_M_why 24 = .ok (.ireturn, 1) := by decide +kernel
theorem d_M_why_25 : decode b_M_why 25 = .ok (.iconst (-1), 1) := by decide +kernel
theorem d_M_why_26 : decode b_M_why 26 = .ok (.istore_n 2, 1) := by decide +kernel
theorem d_M_why_27 : decode b_M_why 27 = .ok (.iconst 0, 1) := by decide +kernel
theorem d_M_why_28 : decode b_M_why 28 = .ok (.istore_n 3, 1) := by decide +kernel
theorem d_M_why_29 : decode b_M_why 29 = .ok (.iload_n 3, 1) := by decide +kernel
theorem d_M_why_30 : decode b_M_why 30 = .ok (.aload_n 0, 1) := by decide +kernel
theorem d_M_why_31 : decode b_M_why 31 = .ok (.getfield 75, 3) := by decide +kernel
theorem d_M_why_34 : decode b_M_why 34 = .ok (.if_icmp .ge 43, 3) := by decide +kernel
theorem d_M_why_37 : decode b_M_why 37 = .ok (.iload_n 3, 1) := by decide +kernel
theorem d_M_why_38 : decode b_M_why 38 = .ok (.iload_n 1, 1) := by decide +kernel
theorem d_M_why_39 : decode b_M_why 39 = .ok (.if_icmp .eq 30, 3) := by decide +kernel
theorem d_M_why_42 : decode b_M_why 42 = .ok (.aload_n 0, 1) := by decide +kernel
theorem d_M_why_43 : decode b_M_why 43 = .ok (.iload_n 3, 1) := by decide +kernel
theorem d_M_why_44 : decode b_M_why 44 = .ok (.invokevirtual 97, 3) := by decide +kernel
theorem d_M_why_47 : decode b_M_why 47 = .ok (.ifCond .eq 22, 3) := by decide +kernel
theorem d_M_why_50 : decode b_M_why 50 = .ok (.aload_n 0, 1) := by decide +kernel
theorem d_M_why_51 : decode b_M_why 51 = .ok (.iload_n 1, 1) := by decide +kernel
theorem d_M_why_52 : decode b_M_why 52 = .ok (.iload_n 3, 1) := by decide +kernel
theorem d_M_why_53 : decode b_M_why 53 = .ok (.invokevirtual 146, 3) := by decide +kernel
theorem d_M_why_56 : decode b_M_why 56 = .ok (.iload_n 2, 1) := by decide +kernel
theorem d_M_why_57 : decode b_M_why 57 = .ok (.if_icmp .le 12, 3) := by decide +kernel
theorem d_M_why_60 : decode b_M_why 60 = .ok (.aload_n 0, 1) := by decide +kernel
theorem d_M_why_61 : decode b_M_why 61 = .ok (.iload_n 1, 1) := by decide +kernel
theorem d_M_why_62 : decode b_M_why 62 = .ok (.iload_n 3, 1) := by decide +kernel
theorem d_M_why_63 : decode b_M_why 63 = .ok (.invokevirtual 146, 3) := by decide +kernel
theorem d_M_why_66 : decode b_M_why 66 = .ok (.goto 4, 3) := by decide +kernel
theorem d_M_why_69 : decode b_M_why 69 = .ok (.iload_n 2, 1) := by decide +kernel
theorem d_M_why_70 : decode b_M_why 70 = .ok (.istore_n 2, 1) := by decide +kernel
theorem d_M_why_71 : decode b_M_why 71 = .ok (.iinc 3 1, 3) := by decide +kernel
theorem d_M_why_74 : decode b_M_why 74 = .ok (.goto (-45), 3) := by decide +kernel
theorem d_M_why_77 : decode b_M_why 77 = .ok (.iload_n 2, 1) := by decide +kernel
theorem d_M_why_78 : decode b_M_why 78 = .ok (.iconst 3, 1) := by decide +kernel
theorem d_M_why_79 : decode b_M_why 79 = .ok (.iadd, 1) := by decide +kernel
theorem d_M_why_80 : decode b_M_why 80 = .ok (.ireturn, 1) := by decide +kernel
theorem d_M_left_0 : decode b_M_left 0 = .ok (.aload_n 0, 1) := by decide +kernel
theorem d_M_left_1 : decode b_M_left 1 = .ok (.iconst 0, 1) := by decide +kernel
theorem d_M_left_2 : decode b_M_left 2 = .ok (.putfield 71, 3) := by decide +kernel
theorem d_M_left_5 : decode b_M_left 5 = .ok (.iload_n 1, 1) := by decide +kernel
theorem d_M_left_6 : decode b_M_left 6 = .ok (.istore_n 2, 1) := by decide +kernel
theorem d_M_left_7 : decode b_M_left 7 = .ok (.iconst 0, 1) := by decide +kernel
theorem d_M_left_8 : decode b_M_left 8 = .ok (.istore_n 3, 1) := by decide +kernel
theorem d_M_left_9 : decode b_M_left 9 = .ok (.iload_n 3, 1) := by decide +kernel
theorem d_M_left_10 : decode b_M_left 10 = .ok (.aload_n 0, 1) := by decide +kernel
theorem d_M_left_11 : decode b_M_left 11 = .ok (.getfield 75, 3) := by decide +kernel
theorem d_M_left_14 : decode b_M_left 14 = .ok (.if_icmp .ge 44, 3) := by decide +kernel
theorem d_M_left_17 : decode b_M_left 17 = .ok (.aload_n 0, 1) := by decide +kernel
theorem d_M_left_18 : decode b_M_left 18 = .ok (.iload_n 3, 1) := by decide +kernel
theorem d_M_left_19 : decode b_M_left 19 = .ok (.invokevirtual 97, 3) := by decide +kernel
theorem d_M_left_22 : decode b_M_left 22 = .ok (.ifCond .eq 14, 3) := by decide +kernel
theorem d_M_left_25 : decode b_M_left 25 = .ok (.iload_n 2, 1) := by decide +kernel
theorem d_M_left_26 : decode b_M_left 26 = .ok (.ifCond .ne 10, 3) := by decide +kernel
theorem d_M_left_29 : decode b_M_left 29 = .ok (.aload_n 0, 1) := by decide +kernel
theorem d_M_left_30 : decode b_M_left 30 = .ok (.getfield 7, 3) := by decide +kernel
theorem d_M_left_33 : decode b_M_left 33 = .ok (.iload_n 3, 1) := by decide +kernel
theorem d_M_left_34 : decode b_M_left 34 = .ok (.iaload, 1) := by decide +kernel
theorem d_M_left_35 : decode b_M_left 35 = .ok (.ireturn, 1) := by decide +kernel
theorem d_M_left_36 : decode b_M_left 36 = .ok (.iload_n 2, 1) := by decide +kernel
theorem d_M_left_37 : decode b_M_left 37 = .ok (.aload_n 0, 1) := by decide +kernel
theorem d_M_left_38 : decode b_M_left 38 = .ok (.iload_n 3, 1) := by decide +kernel
theorem d_M_left_39 : decode b_M_left 39 = .ok (.invokevirtual 97, 3) := by decide +kernel
theorem d_M_left_42 : decode b_M_left 42 = .ok (.ifCond .eq 7, 3) := by decide +kernel
theorem d_M_left_45 : decode b_M_left 45 = .ok (.iconst 1, 1) := by decide +kernel
theorem d_M_left_46 : decode b_M_left 46 = .ok (.goto 4, 3) := by decide +kernel
theorem d_M_left_49 : decode b_M_left 49 = .ok (.iconst 0, 1) := by decide +kernel
theorem d_M_left_50 : decode b_M_left 50 = .ok (.isub, 1) := by decide +kernel
theorem d_M_left_51 : decode b_M_left 51 = .ok (.istore_n 2, 1) := by decide +kernel
theorem d_M_left_52 : decode b_M_left 52 = .ok (.iinc 3 1, 3) := by decide +kernel
theorem d_M_left_55 : decode b_M_left 55 = .ok (.goto (-46), 3) := by decide +kernel
theorem d_M_left_58 : decode b_M_left 58 = .ok (.iconst (-1), 1) := by decide +kernel
theorem d_M_left_59 : decode b_M_left 59 = .ok (.ireturn, 1) := by decide +kernel
theorem d_M_isLeftBy_0 : decode b_M_isLeftBy 0 = .ok (.iconst 1, 1) := by decide +kernel
theorem d_M_isLeftBy_1 : decode b_M_isLeftBy 1 = .ok (.istore_n 3, 1) := by decide +kernel
theorem d_M_isLeftBy_2 : decode b_M_isLeftBy 2 = .ok (.iconst 0, 1) := by decide +kernel
theorem d_M_isLeftBy_3 : decode b_M_isLeftBy 3 = .ok (.istore 4, 2) := by decide +kernel
theorem d_M_isLeftBy_5 : decode b_M_isLeftBy 5 = .ok (.iload 4, 2) := by decide +kernel
theorem d_M_isLeftBy_7 : decode b_M_isLeftBy 7 = .ok (.iconst 5, 1) := by decide +kernel
theorem d_M_isLeftBy_8 : decode b_M_isLeftBy 8 = .ok (.if_icmp .ge 65, 3) := by decide +kernel
theorem d_M_isLeftBy_11 : decode b_M_isLeftBy 11 = .ok (.iload_n 3, 1) := by decide +kernel
theorem d_M_isLeftBy_12 : decode b_M_isLeftBy 12 = .ok (.ifCond .eq 53, 3) := by decide +kernel
theorem d_M_isLeftBy_15 : decode b_M_isLeftBy 15 = .ok (.aload_n 0, 1) := by decide +kernel
theorem d_M_isLeftBy_16 : decode b_M_isLeftBy 16 = .ok (.getfield 32, 3) := by decide +kernel
theorem d_M_isLeftBy_19 : decode b_M_isLeftBy 19 = .ok (.iload 4, 2) := by decide +kernel
theorem d_M_isLeftBy_21 : decode b_M_isLeftBy 21 = .ok (.iaload, 1) := by decide +kernel
theorem d_M_isLeftBy_22 : decode b_M_isLeftBy 22 = .ok (.ifCond .lt 39, 3) := by decide +kernel
theorem d_M_isLeftBy_25 : decode b_M_isLeftBy 25 = .ok (.aload_n 0, 1) := by decide +kernel
theorem d_M_isLeftBy_26 : decode b_M_isLeftBy 26 = .ok (.getfield 35, 3) := by decide +kernel
theorem d_M_isLeftBy_29 : decode b_M_isLeftBy 29 = .ok (.iload 4, 2) := by decide +kernel
theorem d_M_isLeftBy_31 : decode b_M_isLeftBy 31 = .ok (.iaload, 1) := by decide +kernel
theorem d_M_isLeftBy_32 : decode b_M_isLeftBy 32 = .ok (.aload_n 0, 1) := by decide +kernel
theorem d_M_isLeftBy_33 : decode b_M_isLeftBy 33 = .ok (.getfield 35, 3) := by decide +kernel
theorem d_M_isLeftBy_36 : decode b_M_isLeftBy 36 = .ok (.iload_n 2, 1) := by decide +kernel
theorem d_M_isLeftBy_37 : decode b_M_isLeftBy 37 = .ok (.iaload, 1) := by decide +kernel
theorem d_M_isLeftBy_38 : decode b_M_isLeftBy 38 = .ok (.if_icmp .gt 23, 3) := by decide +kernel
theorem d_M_isLeftBy_41 : decode b_M_isLeftBy 41 = .ok (.aload_n 0, 1) := by decide +kernel
theorem d_M_isLeftBy_42 : decode b_M_isLeftBy 42 = .ok (.iconst 4, 1) := by decide +kernel
theorem d_M_isLeftBy_43 : decode b_M_isLeftBy 43 = .ok (.iload 4, 2) := by decide +kernel
theorem d_M_isLeftBy_45 : decode b_M_isLeftBy 45 = .ok (.imul, 1) := by decide +kernel
theorem d_M_isLeftBy_46 : decode b_M_isLeftBy 46 = .ok (.aload_n 0, 1) := by decide +kernel
theorem d_M_isLeftBy_47 : decode b_M_isLeftBy 47 = .ok (.getfield 32, 3) := by decide +kernel
theorem d_M_isLeftBy_50 : decode b_M_isLeftBy 50 = .ok (.iload 4, 2) := by decide +kernel
theorem d_M_isLeftBy_52 : decode b_M_isLeftBy 52 = .ok (.iaload, 1) := by decide +kernel
theorem d_M_isLeftBy_53 : decode b_M_isLeftBy 53 = .ok (.iadd, 1) := by decide +kernel
theorem d_M_isLeftBy_54 : decode b_M_isLeftBy 54 = .ok (.iload_n 1, 1) := by decide +kernel
theorem d_M_isLeftBy_55 : decode b_M_isLeftBy 55 = .ok (.invokevirtual 94, 3) := by decide +kernel
theorem d_M_isLeftBy_58 : decode b_M_isLeftBy 58 = .ok (.ifCond .eq 7, 3) := by decide +kernel
theorem d_M_isLeftBy_61 : decode b_M_isLeftBy 61 = .ok (.iconst 1, 1) := by decide +kernel
theorem d_M_isLeftBy_62 : decode b_M_isLeftBy 62 = .ok (.goto 4, 3) := by decide +kernel
theorem d_M_isLeftBy_65 : decode b_M_isLeftBy 65 = .ok (.iconst 0, 1) := by decide +kernel
theorem d_M_isLeftBy_66 : decode b_M_isLeftBy 66 = .ok (.istore_n 3, 1) := by decide +kernel
theorem d_M_isLeftBy_67 : decode b_M_isLeftBy 67 = .ok (.iinc 4 1, 3) := by decide +kernel
theorem d_M_isLeftBy_70 : decode b_M_isLeftBy 70 = .ok (.goto (-65), 3) := by decide +kernel
theorem d_M_isLeftBy_73 : decode b_M_isLeftBy 73 = .ok (.iload_n 3, 1) := by decide +kernel
theorem d_M_isLeftBy_74 : decode b_M_isLeftBy 74 = .ok (.ireturn, 1) := by decide +kernel
theorem d_M_emptied_0 : decode b_M_emptied 0 = .ok (.aload_n 0, 1) := by decide +kernel
theorem d_M_emptied_1 : decode b_M_emptied 1 = .ok (.iconst 0, 1) := by decide +kernel
theorem d_M_emptied_2 : decode b_M_emptied 2 = .ok (.putfield 71, 3) := by decide +kernel
theorem d_M_emptied_5 : decode b_M_emptied 5 = .ok (.aload_n 0, 1) := by decide +kernel
theorem d_M_emptied_6 : decode b_M_emptied 6 = .ok (.getfield 75, 3) := by decide +kernel
theorem d_M_emptied_9 : decode b_M_emptied 9 = .ok (.ifCond .eq 10, 3) := by decide +kernel
theorem d_M_emptied_12 : decode b_M_emptied 12 = .ok (.aload_n 0, 1) := by decide +kernel
theorem d_M_emptied_13 : decode b_M_emptied 13 = .ok (.invokevirtual 104, 3) := by decide +kernel
theorem d_M_emptied_16 : decode b_M_emptied 16 = .ok (.ifCond .le 5, 3) := by decide +kernel
theorem d_M_emptied_19 : decode b_M_emptied 19 = .ok (.iconst (-1), 1) := by decide +kernel
theorem d_M_emptied_20 : decode b_M_emptied 20 = .ok (.ireturn, 1) := by decide +kernel
theorem d_M_emptied_21 : decode b_M_emptied 21 = .ok (.iconst (-1), 1) := by decide +kernel
theorem d_M_emptied_22 : decode b_M_emptied 22 = .ok (.istore_n 1, 1) := by decide +kernel
theorem d_M_emptied_23 : decode b_M_emptied 23 = .ok (.iconst 0, 1) := by decide +kernel
theorem d_M_emptied_24 : decode b_M_emptied 24 = .ok (.istore_n 2, 1) := by decide +kernel
theorem d_M_emptied_25 : decode b_M_emptied 25 = .ok (.iload_n 2, 1) := by decide +kernel
theorem d_M_emptied_26 : decode b_M_emptied 26 = .ok (.iconst 5, 1) := by decide +kernel
theorem d_M_emptied_27 : decode b_M_emptied 27 = .ok (.if_icmp .ge 95, 3) := by decide +kernel
theorem d_M_emptied_30 : decode b_M_emptied 30 = .ok (.aload_n 0, 1) := by decide +kernel
theorem d_M_emptied_31 : decode b_M_emptied 31 = .ok (.getfield 32, 3) := by decide +kernel
theorem d_M_emptied_34 : decode b_M_emptied 34 = .ok (.iload_n 2, 1) := by decide +kernel
theorem d_M_emptied_35 : decode b_M_emptied 35 = .ok (.iaload, 1) := by decide +kernel
theorem d_M_emptied_36 : decode b_M_emptied 36 = .ok (.ifCond .lt 7, 3) := by decide +kernel
theorem d_M_emptied_39 : decode b_M_emptied 39 = .ok (.iconst 1, 1) := by decide +kernel
theorem d_M_emptied_40 : decode b_M_emptied 40 = .ok (.goto 4, 3) := by decide +kernel
theorem d_M_emptied_43 : decode b_M_emptied 43 = .ok (.iconst 0, 1) := by decide +kernel
theorem d_M_emptied_44 : decode b_M_emptied 44 = .ok (.istore_n 3, 1) := by decide +kernel
theorem d_M_emptied_45 : decode b_M_emptied 45 = .ok (.iconst 0, 1) := by decide +kernel
theorem d_M_emptied_46 : decode b_M_emptied 46 = .ok (.istore 4, 2) := by decide +kernel
theorem d_M_emptied_48 : decode b_M_emptied 48 = .ok (.iload 4, 2) := by decide +kernel
theorem d_M_emptied_50 : decode b_M_emptied 50 = .ok (.aload_n 0, 1) := by decide +kernel
theorem d_M_emptied_51 : decode b_M_emptied 51 = .ok (.getfield 75, 3) := by decide +kernel
theorem d_M_emptied_54 : decode b_M_emptied 54 = .ok (.if_icmp .ge 29, 3) := by decide +kernel
theorem d_M_emptied_57 : decode b_M_emptied 57 = .ok (.iload_n 3, 1) := by decide +kernel
theorem d_M_emptied_58 : decode b_M_emptied 58 = .ok (.ifCond .eq 17, 3) := by decide +kernel
theorem d_M_emptied_61 : decode b_M_emptied 61 = .ok (.aload_n 0, 1) := by decide +kernel
theorem d_M_emptied_62 : decode b_M_emptied 62 = .ok (.iload 4, 2) := by decide +kernel
theorem d_M_emptied_64 : decode b_M_emptied 64 = .ok (.iload_n 2, 1) := by decide +kernel
theorem d_M_emptied_65 : decode b_M_emptied 65 = .ok (.invokevirtual 156, 3) := by decide +kernel
theorem d_M_emptied_68 : decode b_M_emptied 68 = .ok (.ifCond .ne 7, 3) := by decide +kernel
theorem d_M_emptied_71 : decode b_M_emptied 71 = .ok (.iconst 1, 1) := by decide +kernel
theorem d_M_emptied_72 : decode b_M_emptied 72 = .ok (.goto 4, 3) := by decide +kernel
theorem d_M_emptied_75 : decode b_M_emptied 75 = .ok (.iconst 0, 1) := by decide +kernel
theorem d_M_emptied_76 : decode b_M_emptied 76 = .ok (.istore_n 3, 1) := by decide +kernel
theorem d_M_emptied_77 : decode b_M_emptied 77 = .ok (.iinc 4 1, 3) := by decide +kernel
theorem d_M_emptied_80 : decode b_M_emptied 80 = .ok (.goto (-32), 3) := by decide +kernel
theorem d_M_emptied_83 : decode b_M_emptied 83 = .ok (.iload_n 3, 1) := by decide +kernel
theorem d_M_emptied_84 : decode b_M_emptied 84 = .ok (.ifCond .eq 32, 3) := by decide +kernel
theorem d_M_emptied_87 : decode b_M_emptied 87 = .ok (.iload_n 1, 1) := by decide +kernel
theorem d_M_emptied_88 : decode b_M_emptied 88 = .ok (.ifCond .lt 26, 3) := by decide +kernel
theorem d_M_emptied_91 : decode b_M_emptied 91 = .ok (.aload_n 0, 1) := by decide +kernel
theorem d_M_emptied_92 : decode b_M_emptied 92 = .ok (.getfield 35, 3) := by decide +kernel
theorem d_M_emptied_95 : decode b_M_emptied 95 = .ok (.iload_n 2, 1) := by decide +kernel
theorem d_M_emptied_96 : decode b_M_emptied 96 = .ok (.iaload, 1) := by decide +kernel
theorem d_M_emptied_97 : decode b_M_emptied 97 = .ok (.aload_n 0, 1) := by decide +kernel
theorem d_M_emptied_98 : decode b_M_emptied 98 = .ok (.getfield 35, 3) := by decide +kernel
theorem d_M_emptied_101 : decode b_M_emptied 101 = .ok (.iload_n 1, 1) := by decide +kernel
theorem d_M_emptied_102 : decode b_M_emptied 102 = .ok (.ifCond .ge 7, 3) := by decide +kernel
theorem d_M_emptied_105 : decode b_M_emptied 105 = .ok (.iconst 0, 1) := by decide +kernel
theorem d_M_emptied_106 : decode b_M_emptied 106 = .ok (.goto 4, 3) := by decide +kernel
theorem d_M_emptied_109 : decode b_M_emptied 109 = .ok (.iload_n 1, 1) := by decide +kernel
theorem d_M_emptied_110 : decode b_M_emptied 110 = .ok (.iaload, 1) := by decide +kernel
theorem d_M_emptied_111 : decode b_M_emptied 111 = .ok (.if_icmp .ge 5, 3) := by decide +kernel
theorem d_M_emptied_114 : decode b_M_emptied 114 = .ok (.iload_n 2, 1) := by decide +kernel
theorem d_M_emptied_115 : decode b_M_emptied 115 = .ok (.istore_n 1, 1) := by decide +kernel
theorem d_M_emptied_116 : decode b_M_emptied 116 = .ok (.iinc 2 1, 3) := by decide +kernel
theorem d_M_emptied_119 : decode b_M_emptied 119 = .ok (.goto (-94), 3) := by decide +kernel
theorem d_M_emptied_122 : decode b_M_emptied 122 = .ok (.iconst 4, 1) := by decide +kernel
theorem d_M_emptied_123 : decode b_M_emptied 123 = .ok (.iload_n 1, 1) := by decide +kernel
theorem d_M_emptied_124 : decode b_M_emptied 124 = .ok (.imul, 1) := by decide +kernel
theorem d_M_emptied_125 : decode b_M_emptied 125 = .ok (.aload_n 0, 1) := by decide +kernel
theorem d_M_emptied_126 : decode b_M_emptied 126 = .ok (.getfield 32, 3) := by decide +kernel
theorem d_M_emptied_129 : decode b_M_emptied 129 = .ok (.iload_n 1, 1) := by decide +kernel
theorem d_M_emptied_130 : decode b_M_emptied 130 = .ok (.iaload, 1) := by decide +kernel
theorem d_M_emptied_131 : decode b_M_emptied 131 = .ok (.iadd, 1) := by decide +kernel
theorem d_M_emptied_132 : decode b_M_emptied 132 = .ok (.ireturn, 1) := by decide +kernel
theorem d_M_explain_0 : decode b_M_explain 0 = .ok (.aload_n 0, 1) := by decide +kernel
theorem d_M_explain_1 : decode b_M_explain 1 = .ok (.iload_n 1, 1) := by decide +kernel
theorem d_M_explain_2 : decode b_M_explain 2 = .ok (.invokevirtual 83, 3) := by decide +kernel
theorem d_M_explain_5 : decode b_M_explain 5 = .ok (.istore_n 2, 1) := by decide +kernel
theorem d_M_explain_6 : decode b_M_explain 6 = .ok (.aload_n 0, 1) := by decide +kernel
theorem d_M_explain_7 : decode b_M_explain 7 = .ok (.iload_n 2, 1) := by decide +kernel
theorem d_M_explain_8 : decode b_M_explain 8 = .ok (.ifCond .ge 7, 3) := by decide +kernel
theorem d_M_explain_11 : decode b_M_explain 11 = .ok (.iconst 1, 1) := by decide +kernel
theorem d_M_explain_12 : decode b_M_explain 12 = .ok (.goto 4, 3) := by decide +kernel
theorem d_M_explain_15 : decode b_M_explain 15 = .ok (.iconst 0, 1) := by decide +kernel
theorem d_M_explain_16 : decode b_M_explain 16 = .ok (.putfield 71, 3) := by decide +kernel
theorem d_M_explain_19 : decode b_M_explain 19 = .ok (.aload_n 0, 1) := by decide +kernel
theorem d_M_explain_20 : decode b_M_explain 20 = .ok (.getfield 71, 3) := by decide +kernel
theorem d_M_explain_23 : decode b_M_explain 23 = .ok (.ifCond .le 5, 3) := by decide +kernel
theorem d_M_explain_26 : decode b_M_explain 26 = .ok (.iconst 0, 1) := by decide +kernel
theorem d_M_explain_27 : decode b_M_explain 27 = .ok (.ireturn, 1) := by decide +kernel
theorem d_M_explain_28 : decode b_M_explain 28 = .ok (.iconst (-1), 1) := by decide +kernel
theorem d_M_explain_29 : decode b_M_explain 29 = .ok (.istore_n 3, 1) := by decide +kernel
theorem d_M_explain_30 : decode b_M_explain 30 = .ok (.iconst 0, 1) := by decide +kernel
theorem d_M_explain_31 : decode b_M_explain 31 = .ok (.istore 4, 2) := by decide +kernel
theorem d_M_explain_33 : decode b_M_explain 33 = .ok (.iload 4, 2) := by decide +kernel
theorem d_M_explain_35 : decode b_M_explain 35 = .ok (.iconst 5, 1) := by decide +kernel
theorem d_M_explain_36 : decode b_M_explain 36 = .ok (.if_icmp .ge 96, 3) := by decide +kernel
theorem d_M_explain_39 : decode b_M_explain 39 = .ok (.aload_n 0, 1) := by decide +kernel
theorem d_M_explain_40 : decode b_M_explain 40 = .ok (.getfield 32, 3) := by decide +kernel
theorem d_M_explain_43 : decode b_M_explain 43 = .ok (.iload 4, 2) := by decide +kernel
theorem d_M_explain_45 : decode b_M_explain 45 = .ok (.iaload, 1) := by decide +kernel
theorem d_M_explain_46 : decode b_M_explain 46 = .ok (.ifCond .lt 41, 3) := by decide +kernel
theorem d_M_explain_49 : decode b_M_explain 49 = .ok (.aload_n 0, 1) := by decide +kernel
theorem d_M_explain_50 : decode b_M_explain 50 = .ok (.aload_n 0, 1) := by decide +kernel
theorem d_M_explain_51 : decode b_M_explain 51 = .ok (.getfield 32, 3) := by decide +kernel
theorem d_M_explain_54 : decode b_M_explain 54 = .ok (.iload 4, 2) := by decide +kernel
theorem d_M_explain_56 : decode b_M_explain 56 = .ok (.iaload, 1) := by decide +kernel
theorem d_M_explain_57 : decode b_M_explain 57 = .ok (.ifCond .ge 7, 3) := by decide +kernel
theorem d_M_explain_60 : decode b_M_explain 60 = .ok (.iconst 0, 1) := by decide +kernel
theorem d_M_explain_61 : decode b_M_explain 61 = .ok (.goto 15, 3) := by decide +kernel
theorem d_M_explain_64 : decode b_M_explain 64 = .ok (.iconst 4, 1) := by decide +kernel
theorem d_M_explain_65 : decode b_M_explain 65 = .ok (.iload 4, 2) := by decide +kernel
theorem d_M_explain_67 : decode b_M_explain 67 = .ok (.imul, 1) := by decide +kernel
theorem d_M_explain_68 : decode b_M_explain 68 = .ok (.aload_n 0, 1) := by decide +kernel
theorem d_M_explain_69 : decode b_M_explain 69 = .ok (.getfield 32, 3) := by decide +kernel
theorem d_M_explain_72 : decode b_M_explain 72 = .ok (.iload 4, 2) := by decide +kernel
theorem d_M_explain_74 : decode b_M_explain 74 = .ok (.iaload, 1) := by decide +kernel
theorem d_M_explain_75 : decode b_M_explain 75 = .ok (.iadd, 1) := by decide +kernel
theorem d_M_explain_76 : decode b_M_explain 76 = .ok (.iload_n 2, 1) := by decide +kernel
theorem d_M_explain_77 : decode b_M_explain 77 = .ok (.invokevirtual 94, 3) := by decide +kernel
theorem d_M_explain_80 : decode b_M_explain 80 = .ok (.ifCond .ne 7, 3) := by decide +kernel
theorem d_M_explain_83 : decode b_M_explain 83 = .ok (.iconst 1, 1) := by decide +kernel
theorem d_M_explain_84 : decode b_M_explain 84 = .ok (.goto 4, 3) := by decide +kernel
theorem d_M_explain_87 : decode b_M_explain 87 = .ok (.iconst 0, 1) := by decide +kernel
theorem d_M_explain_88 : decode b_M_explain 88 = .ok (.istore 5, 2) := by decide +kernel
theorem d_M_explain_90 : decode b_M_explain 90 = .ok (.iload 5, 2) := by decide +kernel
theorem d_M_explain_92 : decode b_M_explain 92 = .ok (.ifCond .eq 34, 3) := by decide +kernel
theorem d_M_explain_95 : decode b_M_explain 95 = .ok (.iload_n 3, 1) := by decide +kernel
theorem d_M_explain_96 : decode b_M_explain 96 = .ok (.ifCond .lt 27, 3) := by decide +kernel
theorem d_M_explain_99 : decode b_M_explain 99 = .ok (.aload_n 0, 1) := by decide +kernel
theorem d_M_explain_100 : decode b_M_explain 100 = .ok (.getfield 35, 3) := by decide +kernel
theorem d_M_explain_103 : decode b_M_explain 103 = .ok (.iload 4, 2) := by decide +kernel
theorem d_M_explain_105 : decode b_M_explain 105 = .ok (.iaload, 1) := by decide +kernel
theorem d_M_explain_106 : decode b_M_explain 106 = .ok (.aload_n 0, 1) := by decide +kernel
theorem d_M_explain_107 : decode b_M_explain 107 = .ok (.getfield 35, 3) := by decide +kernel
theorem d_M_explain_110 : decode b_M_explain 110 = .ok (.iload_n 3, 1) := by decide +kernel
theorem d_M_explain_111 : decode b_M_explain 111 = .ok (.ifCond .ge 7, 3) := by decide +kernel
theorem d_M_explain_114 : decode b_M_explain 114 = .ok (.iconst 0, 1) := by decide +kernel
theorem d_M_explain_115 : decode b_M_explain 115 = .ok (.goto 4, 3) := by decide +kernel
theorem d_M_explain_118 : decode b_M_explain 118 = .ok (.iload_n 3, 1) := by decide +kernel
theorem d_M_explain_119 : decode b_M_explain 119 = .ok (.iaload, 1) := by decide +kernel
theorem d_M_explain_120 : decode b_M_explain 120 = .ok (.if_icmp .ge 6, 3) := by decide +kernel
theorem d_M_explain_123 : decode b_M_explain 123 = .ok (.iload 4, 2) := by decide +kernel
theorem d_M_explain_125 : decode b_M_explain 125 = .ok (.istore_n 3, 1) := by decide +kernel
theorem d_M_explain_126 : decode b_M_explain 126 = .ok (.iinc 4 1, 3) := by decide +kernel
theorem d_M_explain_129 : decode b_M_explain 129 = .ok (.goto (-96), 3) := by decide +kernel
theorem d_M_explain_132 : decode b_M_explain 132 = .ok (.iload_n 3, 1) := by decide +kernel
theorem d_M_explain_133 : decode b_M_explain 133 = .ok (.ifCond .ge 7, 3) := by decide +kernel
theorem d_M_explain_136 : decode b_M_explain 136 = .ok (.iconst (-1), 1) := by decide +kernel
theorem d_M_explain_137 : decode b_M_explain 137 = .ok (.goto 13, 3) := by decide +kernel
theorem d_M_explain_140 : decode b_M_explain 140 = .ok (.iconst 4, 1) := by decide +kernel
theorem d_M_explain_141 : decode b_M_explain 141 = .ok (.iload_n 3, 1) := by decide +kernel
theorem d_M_explain_142 : decode b_M_explain 142 = .ok (.imul, 1) := by decide +kernel
theorem d_M_explain_143 : decode b_M_explain 143 = .ok (.aload_n 0, 1) := by decide +kernel
theorem d_M_explain_144 : decode b_M_explain 144 = .ok (.getfield 32, 3) := by decide +kernel
theorem d_M_explain_147 : decode b_M_explain 147 = .ok (.iload_n 3, 1) := by decide +kernel
theorem d_M_explain_148 : decode b_M_explain 148 = .ok (.iaload, 1) := by decide +kernel
theorem d_M_explain_149 : decode b_M_explain 149 = .ok (.iadd, 1) := by decide +kernel
theorem d_M_explain_150 : decode b_M_explain 150 = .ok (.ireturn, 1) := by decide +kernel
theorem d_M_precedent_0 : decode b_M_precedent 0 = .ok (.iload_n 1, 1) := by decide +kernel
theorem d_M_precedent_1 : decode b_M_precedent 1 = .ok (.iconst 1, 1) := by decide +kernel
theorem d_M_precedent_2 : decode b_M_precedent 2 = .ok (.ldc 78, 2) := by decide +kernel
theorem d_M_precedent_4 : decode b_M_precedent 4 = .ok (.invokestatic 79, 3) := by decide +kernel
theorem d_M_precedent_7 : decode b_M_precedent 7 = .ok (.ifCond .eq 48, 3) := by decide +kernel
theorem d_M_precedent_10 : decode b_M_precedent 10 = .ok (.iload_n 2, 1) := by decide +kernel
theorem d_M_precedent_11 : decode b_M_precedent 11 = .ok (.iload_n 3, 1) := by decide +kernel
theorem d_M_precedent_12 : decode b_M_precedent 12 = .ok (.invokestatic 87, 3) := by decide +kernel
theorem d_M_precedent_15 : decode b_M_precedent 15 = .ok (.ifCond .eq 40, 3) := by decide +kernel
theorem d_M_precedent_18 : decode b_M_precedent 18 = .ok (.iload 4, 2) := by decide +kernel
theorem d_M_precedent_20 : decode b_M_precedent 20 = .ok (.iconst (-1), 1) := by decide +kernel
theorem d_M_precedent_21 : decode b_M_precedent 21 = .ok (.if_icmp .eq 19, 3) := by decide +kernel
theorem d_M_precedent_24 : decode b_M_precedent 24 = .ok (.iload 4, 2) := by decide +kernel
theorem d_M_precedent_26 : decode b_M_precedent 26 = .ok (.iload 5, 2) := by decide +kernel
theorem d_M_precedent_28 : decode b_M_precedent 28 = .ok (.invokestatic 87, 3) := by decide +kernel
theorem d_M_precedent_31 : decode b_M_precedent 31 = .ok (.ifCond .eq 24, 3) := by decide +kernel
theorem d_M_precedent_34 : decode b_M_precedent 34 = .ok (.iload 4, 2) := by decide +kernel
theorem d_M_precedent_36 : decode b_M_precedent 36 = .ok (.iload_n 2, 1) := by decide +kernel
theorem d_M_precedent_37 : decode b_M_precedent 37 = .ok (.if_icmp .eq 18, 3) := by decide +kernel
theorem d_M_precedent_40 : decode b_M_precedent 40 = .ok (.iload 6, 2) := by decide +kernel
theorem d_M_precedent_42 : decode b_M_precedent 42 = .ok (.iconst 0, 1) := by decide +kernel
theorem d_M_precedent_43 : decode b_M_precedent 43 = .ok (.ldc 159, 2) := by decide +kernel
theorem d_M_precedent_45 : decode b_M_precedent 45 = .ok (.invokestatic 79, 3) := by decide +kernel
theorem d_M_precedent_48 : decode b_M_precedent 48 = .ok (.ifCond .eq 7, 3) := by decide +kernel
theorem d_M_precedent_51 : decode b_M_precedent 51 = .ok (.iconst 1, 1) := by decide +kernel
theorem d_M_precedent_52 : decode b_M_precedent 52 = .ok (.goto 4, 3) := by decide +kernel
theorem d_M_precedent_55 : decode b_M_precedent 55 = .ok (.iconst 0, 1) := by decide +kernel
theorem d_M_precedent_56 : decode b_M_precedent 56 = .ok (.istore 7, 2) := by decide +kernel
theorem d_M_precedent_58 : decode b_M_precedent 58 = .ok (.aload_n 0, 1) := by decide +kernel
theorem d_M_precedent_59 : decode b_M_precedent 59 = .ok (.iload 7, 2) := by decide +kernel
theorem d_M_precedent_61 : decode b_M_precedent 61 = .ok (.ifCond .ne 7, 3) := by decide +kernel
theorem d_M_precedent_64 : decode b_M_precedent 64 = .ok (.iconst 1, 1) := by decide +kernel
theorem d_M_precedent_65 : decode b_M_precedent 65 = .ok (.goto 17, 3) := by decide +kernel
theorem d_M_precedent_68 : decode b_M_precedent 68 = .ok (.aload_n 0, 1) := by decide +kernel
theorem d_M_precedent_69 : decode b_M_precedent 69 = .ok (.getfield 140, 3) := by decide +kernel
theorem d_M_precedent_72 : decode b_M_precedent 72 = .ok (.bipush 20, 2) := by decide +kernel
theorem d_M_precedent_74 : decode b_M_precedent 74 = .ok (.if_icmp .ne 7, 3) := by decide +kernel
theorem d_M_precedent_77 : decode b_M_precedent 77 = .ok (.iconst 2, 1) := by decide +kernel
theorem d_M_precedent_78 : decode b_M_precedent 78 = .ok (.goto 4, 3) := by decide +kernel
theorem d_M_precedent_81 : decode b_M_precedent 81 = .ok (.iconst 0, 1) := by decide +kernel
theorem d_M_precedent_82 : decode b_M_precedent 82 = .ok (.putfield 71, 3) := by decide +kernel
theorem d_M_precedent_85 : decode b_M_precedent 85 = .ok (.aload_n 0, 1) := by decide +kernel
theorem d_M_precedent_86 : decode b_M_precedent 86 = .ok (.getfield 71, 3) := by decide +kernel
theorem d_M_precedent_89 : decode b_M_precedent 89 = .ok (.ifCond .le 5, 3) := by decide +kernel
theorem d_M_precedent_92 : decode b_M_precedent 92 = .ok (.iconst 0, 1) := by decide +kernel
theorem d_M_precedent_93 : decode b_M_precedent 93 = .ok (.ireturn, 1) := by decide +kernel
theorem d_M_precedent_94 : decode b_M_precedent 94 = .ok (.aload_n 0, 1) := by decide +kernel
theorem d_M_precedent_95 : decode b_M_precedent 95 = .ok (.getfield 38, 3) := by decide +kernel
theorem d_M_precedent_98 : decode b_M_precedent 98 = .ok (.aload_n 0, 1) := by decide +kernel
theorem d_M_precedent_99 : decode b_M_precedent 99 = .ok (.getfield 140, 3) := by decide +kernel
theorem d_M_precedent_102 : decode b_M_precedent 102 = .ok (.iload_n 1, 1) := by decide +kernel
theorem d_M_precedent_103 : decode b_M_precedent 103 = .ok (.iastore, 1) := by decide +kernel
theorem d_M_precedent_104 : decode b_M_precedent 104 = .ok (.aload_n 0, 1) := by decide +kernel
theorem d_M_precedent_105 : decode b_M_precedent 105 = .ok (.getfield 41, 3) := by decide +kernel
theorem d_M_precedent_108 : decode b_M_precedent 108 = .ok (.aload_n 0, 1) := by decide +kernel
theorem d_M_precedent_109 : decode b_M_precedent 109 = .ok (.getfield 140, 3) := by decide +kernel
theorem d_M_precedent_112 : decode b_M_precedent 112 = .ok (.iconst 4, 1) := by decide +kernel
theorem d_M_precedent_113 : decode b_M_precedent 113 = .ok (.iload_n 2, 1) := by decide +kernel
theorem d_M_precedent_114 : decode b_M_precedent 114 = .ok (.imul, 1) := by decide +kernel
theorem d_M_precedent_115 : decode b_M_precedent 115 = .ok (.iload_n 3, 1) := by decide +kernel
theorem d_M_precedent_116 : decode b_M_precedent 116 = .ok (.iadd, 1) := by decide +kernel
theorem d_M_precedent_117 : decode b_M_precedent 117 = .ok (.iastore, 1) := by decide +kernel
theorem d_M_precedent_118 : decode b_M_precedent 118 = .ok (.aload_n 0, 1) := by decide +kernel
theorem d_M_precedent_119 : decode b_M_precedent 119 = .ok (.getfield 44, 3) := by decide +kernel
theorem d_M_precedent_122 : decode b_M_precedent 122 = .ok (.aload_n 0, 1) := by decide +kernel
theorem d_M_precedent_123 : decode b_M_precedent 123 = .ok (.getfield 140, 3) := by decide +kernel
theorem d_M_precedent_126 : decode b_M_precedent 126 = .ok (.iload 4, 2) := by decide +kernel
theorem d_M_precedent_128 : decode b_M_precedent 128 = .ok (.iconst (-1), 1) := by decide +kernel
theorem d_M_precedent_129 : decode b_M_precedent 129 = .ok (.if_icmp .ne 7, 3) := by decide +kernel
theorem d_M_precedent_132 : decode b_M_precedent 132 = .ok (.iconst (-1), 1) := by decide +kernel
theorem d_M_precedent_133 : decode b_M_precedent 133 = .ok (.goto 10, 3) := by decide +kernel
theorem d_M_precedent_136 : decode b_M_precedent 136 = .ok (.iconst 4, 1) := by decide +kernel
theorem d_M_precedent_137 : decode b_M_precedent 137 = .ok (.iload 4, 2) := by decide +kernel
theorem d_M_precedent_139 : decode b_M_precedent 139 = .ok (.imul, 1) := by decide +kernel
theorem d_M_precedent_140 : decode b_M_precedent 140 = .ok (.iload 5, 2) := by decide +kernel
theorem d_M_precedent_142 : decode b_M_precedent 142 = .ok (.iadd, 1) := by decide +kernel
theorem d_M_precedent_143 : decode b_M_precedent 143 = .ok (.iastore, 1) := by decide +kernel
theorem d_M_precedent_144 : decode b_M_precedent 144 = .ok (.aload_n 0, 1) := by decide +kernel
theorem d_M_precedent_145 : decode b_M_precedent 145 = .ok (.getfield 47, 3) := by decide +kernel
theorem d_M_precedent_148 : decode b_M_precedent 148 = .ok (.aload_n 0, 1) := by decide +kernel
theorem d_M_precedent_149 : decode b_M_precedent 149 = .ok (.getfield 140, 3) := by decide +kernel
theorem d_M_precedent_152 : decode b_M_precedent 152 = .ok (.iload 6, 2) := by decide +kernel
theorem d_M_precedent_154 : decode b_M_precedent 154 = .ok (.iastore, 1) := by decide +kernel
theorem d_M_precedent_155 : decode b_M_precedent 155 = .ok (.aload_n 0, 1) := by decide +kernel
theorem d_M_precedent_156 : decode b_M_precedent 156 = .ok (.dup, 1) := by decide +kernel
theorem d_M_precedent_157 : decode b_M_precedent 157 = .ok (.getfield 140, 3) := by decide +kernel
theorem d_M_precedent_160 : decode b_M_precedent 160 = .ok (.iconst 1, 1) := by decide +kernel
theorem d_M_precedent_161 : decode b_M_precedent 161 = .ok (.iadd, 1) := by decide +kernel
theorem d_M_precedent_162 : decode b_M_precedent 162 = .ok (.putfield 140, 3) := by decide +kernel
theorem d_M_precedent_165 : decode b_M_precedent 165 = .ok (.aload_n 0, 1) := by decide +kernel
theorem d_M_precedent_166 : decode b_M_precedent 166 = .ok (.getfield 140, 3) := by decide +kernel
theorem d_M_precedent_169 : decode b_M_precedent 169 = .ok (.ireturn, 1) := by decide +kernel
theorem d_M_contradicts_0 : decode b_M_contradicts 0 = .ok (.aload_n 0, 1) := by decide +kernel
theorem d_M_contradicts_1 : decode b_M_contradicts 1 = .ok (.iconst 0, 1) := by decide +kernel
theorem d_M_contradicts_2 : decode b_M_contradicts 2 = .ok (.putfield 71, 3) := by decide +kernel
theorem d_M_contradicts_5 : decode b_M_contradicts 5 = .ok (.aload_n 0, 1) := by decide +kernel
theorem d_M_contradicts_6 : decode b_M_contradicts 6 = .ok (.invokevirtual 150, 3) := by decide +kernel
theorem d_M_contradicts_9 : decode b_M_contradicts 9 = .ok (.iconst (-1), 1) := by decide +kernel
theorem d_M_contradicts_10 : decode b_M_contradicts 10 = .ok (.if_icmp .ne 7, 3) := by decide +kernel
theorem d_M_contradicts_13 : decode b_M_contradicts 13 = .ok (.iconst 1, 1) := by decide +kernel
theorem d_M_contradicts_14 : decode b_M_contradicts 14 = .ok (.goto 4, 3) := by decide +kernel
theorem d_M_contradicts_17 : decode b_M_contradicts 17 = .ok (.iconst 0, 1) := by decide +kernel
theorem d_M_contradicts_18 : decode b_M_contradicts 18 = .ok (.ireturn, 1) := by decide +kernel
theorem d_M_day_0 : decode b_M_day 0 = .ok (.aload_n 0, 1) := by decide +kernel
theorem d_M_day_1 : decode b_M_day 1 = .ok (.iconst 0, 1) := by decide +kernel
theorem d_M_day_2 : decode b_M_day 2 = .ok (.putfield 71, 3) := by decide +kernel
theorem d_M_day_5 : decode b_M_day 5 = .ok (.iload_n 1, 1) := by decide +kernel
theorem d_M_day_6 : decode b_M_day 6 = .ok (.aload_n 0, 1) := by decide +kernel
theorem d_M_day_7 : decode b_M_day 7 = .ok (.getfield 134, 3) := by decide +kernel
theorem d_M_day_10 : decode b_M_day 10 = .ok (.ldc 159, 2) := by decide +kernel
theorem d_M_day_12 : decode b_M_day 12 = .ok (.invokestatic 79, 3) := by decide +kernel
theorem d_M_day_15 : decode b_M_day 15 = .ok (.ifCond .ne 5, 3) := by decide +kernel
theorem d_M_day_18 : decode b_M_day 18 = .ok (.iconst 0, 1) := by decide +kernel
theorem d_M_day_19 : decode b_M_day 19 = .ok (.ireturn, 1) := by decide +kernel
theorem d_M_day_20 : decode b_M_day 20 = .ok (.aload_n 0, 1) := by decide +kernel
theorem d_M_day_21 : decode b_M_day 21 = .ok (.iload_n 1, 1) := by decide +kernel
theorem d_M_day_22 : decode b_M_day 22 = .ok (.putfield 134, 3) := by decide +kernel
theorem d_M_day_25 : decode b_M_day 25 = .ok (.iconst 1, 1) := by decide +kernel
theorem d_M_day_26 : decode b_M_day 26 = .ok (.ireturn, 1) := by decide +kernel
theorem d_M_count_0 : decode b_M_count 0 = .ok (.aload_n 0, 1) := by decide +kernel
theorem d_M_count_1 : decode b_M_count 1 = .ok (.iconst 0, 1) := by decide +kernel
theorem d_M_count_2 : decode b_M_count 2 = .ok (.putfield 71, 3) := by decide +kernel
theorem d_M_count_5 : decode b_M_count 5 = .ok (.iconst 0, 1) := by decide +kernel
theorem d_M_count_6 : decode b_M_count 6 = .ok (.istore_n 2, 1) := by decide +kernel
theorem d_M_count_7 : decode b_M_count 7 = .ok (.iconst 0, 1) := by decide +kernel
theorem d_M_count_8 : decode b_M_count 8 = .ok (.istore_n 3, 1) := by decide +kernel
theorem d_M_count_9 : decode b_M_count 9 = .ok (.iload_n 3, 1) := by decide +kernel
theorem d_M_count_10 : decode b_M_count 10 = .ok (.iconst 5, 1) := by decide +kernel
theorem d_M_count_11 : decode b_M_count 11 = .ok (.if_icmp .ge 26, 3) := by decide +kernel
theorem d_M_count_14 : decode b_M_count 14 = .ok (.iload_n 2, 1) := by decide +kernel
theorem d_M_count_15 : decode b_M_count 15 = .ok (.aload_n 0, 1) := by decide +kernel
theorem d_M_count_16 : decode b_M_count 16 = .ok (.getfield 32, 3) := by decide +kernel
theorem d_M_count_19 : decode b_M_count 19 = .ok (.iload_n 3, 1) := by decide +kernel
theorem d_M_count_20 : decode b_M_count 20 = .ok (.iaload, 1) := by decide +kernel
theorem d_M_count_21 : decode b_M_count 21 = .ok (.ifCond .lt 7, 3) := by decide +kernel
theorem d_M_count_24 : decode b_M_count 24 = .ok (.iconst 1, 1) := by decide +kernel
theorem d_M_count_25 : decode b_M_count 25 = .ok (.goto 4, 3) := by decide +kernel
theorem d_M_count_28 : decode b_M_count 28 = .ok (.iconst 0, 1) := by decide +kernel
theorem d_M_count_29 : decode b_M_count 29 = .ok (.iadd, 1) := by decide +kernel
theorem d_M_count_30 : decode b_M_count 30 = .ok (.istore_n 2, 1) := by decide +kernel
theorem d_M_count_31 : decode b_M_count 31 = .ok (.iinc 3 1, 3) := by decide +kernel
theorem d_M_count_34 : decode b_M_count 34 = .ok (.goto (-25), 3) := by decide +kernel
theorem d_M_count_37 : decode b_M_count 37 = .ok (.iconst 0, 1) := by decide +kernel
theorem d_M_count_38 : decode b_M_count 38 = .ok (.istore_n 3, 1) := by decide +kernel
theorem d_M_count_39 : decode b_M_count 39 = .ok (.iconst 0, 1) := by decide +kernel
theorem d_M_count_40 : decode b_M_count 40 = .ok (.istore 4, 2) := by decide +kernel
theorem d_M_count_42 : decode b_M_count 42 = .ok (.iload 4, 2) := by decide +kernel
theorem d_M_count_44 : decode b_M_count 44 = .ok (.aload_n 0, 1) := by decide +kernel
theorem d_M_count_45 : decode b_M_count 45 = .ok (.getfield 140, 3) := by decide +kernel
theorem d_M_count_48 : decode b_M_count 48 = .ok (.if_icmp .ge 26, 3) := by decide +kernel
theorem d_M_count_51 : decode b_M_count 51 = .ok (.iload_n 3, 1) := by decide +kernel
theorem d_M_count_52 : decode b_M_count 52 = .ok (.aload_n 0, 1) := by decide +kernel
theorem d_M_count_53 : decode b_M_count 53 = .ok (.iload 4, 2) := by decide +kernel
theorem d_M_count_55 : decode b_M_count 55 = .ok (.invokevirtual 143, 3) := by decide +kernel
theorem d_M_count_58 : decode b_M_count 58 = .ok (.ifCond .eq 7, 3) := by decide +kernel
theorem d_M_count_61 : decode b_M_count 61 = .ok (.iconst 1, 1) := by decide +kernel
theorem d_M_count_62 : decode b_M_count 62 = .ok (.goto 4, 3) := by decide +kernel
theorem d_M_count_65 : decode b_M_count 65 = .ok (.iconst 0, 1) := by decide +kernel
theorem d_M_count_66 : decode b_M_count 66 = .ok (.iadd, 1) := by decide +kernel
theorem d_M_count_67 : decode b_M_count 67 = .ok (.istore_n 3, 1) := by decide +kernel
theorem d_M_count_68 : decode b_M_count 68 = .ok (.iinc 4 1, 3) := by decide +kernel
theorem d_M_count_71 : decode b_M_count 71 = .ok (.goto (-29), 3) := by decide +kernel
theorem d_M_count_74 : decode b_M_count 74 = .ok (.iload_n 1, 1) := by decide +kernel
theorem d_M_count_75 : decode b_M_count 75 = .ok (.tableswitch 70 0 6 #[41, 46, 51, 53, 58, 63, 65], 41) := by decide +kernel
theorem d_M_count_116 : decode b_M_count 116 = .ok (.aload_n 0, 1) := by decide +kernel
theorem d_M_count_117 : decode b_M_count 117 = .ok (.getfield 75, 3) := by decide +kernel
theorem d_M_count_120 : decode b_M_count 120 = .ok (.ireturn, 1) := by decide +kernel
theorem d_M_count_121 : decode b_M_count 121 = .ok (.aload_n 0, 1) := by decide +kernel
theorem d_M_count_122 : decode b_M_count 122 = .ok (.getfield 91, 3) := by decide +kernel
theorem d_M_count_125 : decode b_M_count 125 = .ok (.ireturn, 1) := by decide +kernel
theorem d_M_count_126 : decode b_M_count 126 = .ok (.iload_n 2, 1) := by decide +kernel
theorem d_M_count_127 : decode b_M_count 127 = .ok (.ireturn, 1) := by decide +kernel
theorem d_M_count_128 : decode b_M_count 128 = .ok (.aload_n 0, 1) := by decide +kernel
theorem d_M_count_129 : decode b_M_count 129 = .ok (.invokevirtual 104, 3) := by decide +kernel
theorem d_M_count_132 : decode b_M_count 132 = .ok (.ireturn, 1) := by decide +kernel
theorem d_M_count_133 : decode b_M_count 133 = .ok (.aload_n 0, 1) := by decide +kernel
theorem d_M_count_134 : decode b_M_count 134 = .ok (.getfield 140, 3) := by decide +kernel
theorem d_M_count_137 : decode b_M_count 137 = .ok (.ireturn, 1) := by decide +kernel
theorem d_M_count_138 : decode b_M_count 138 = .ok (.iload_n 3, 1) := by decide +kernel
theorem d_M_count_139 : decode b_M_count 139 = .ok (.ireturn, 1) := by decide +kernel
theorem d_M_count_140 : decode b_M_count 140 = .ok (.aload_n 0, 1) := by decide +kernel
theorem d_M_count_141 : decode b_M_count 141 = .ok (.getfield 134, 3) := by decide +kernel
theorem d_M_count_144 : decode b_M_count 144 = .ok (.ireturn, 1) := by decide +kernel
theorem d_M_count_145 : decode b_M_count 145 = .ok (.iload_n 1, 1) := by decide +kernel
theorem d_M_count_146 : decode b_M_count 146 = .ok (.bipush 10, 2) := by decide +kernel
theorem d_M_count_148 : decode b_M_count 148 = .ok (.if_icmp .lt 21, 3) := by decide +kernel
theorem d_M_count_151 : decode b_M_count 151 = .ok (.iload_n 1, 1) := by decide +kernel
theorem d_M_count_152 : decode b_M_count 152 = .ok (.bipush 15, 2) := by decide +kernel
theorem d_M_count_154 : decode b_M_count 154 = .ok (.if_icmp .ge 15, 3) := by decide +kernel
theorem d_M_count_157 : decode b_M_count 157 = .ok (.aload_n 0, 1) := by decide +kernel
theorem d_M_count_158 : decode b_M_count 158 = .ok (.getfield 32, 3) := by decide +kernel
theorem d_M_count_161 : decode b_M_count 161 = .ok (.iload_n 1, 1) := by decide +kernel
theorem d_M_count_162 : decode b_M_count 162 = .ok (.bipush 10, 2) := by decide +kernel
theorem d_M_count_164 : decode b_M_count 164 = .ok (.isub, 1) := by decide +kernel
theorem d_M_count_165 : decode b_M_count 165 = .ok (.iaload, 1) := by decide +kernel
theorem d_M_count_166 : decode b_M_count 166 = .ok (.goto 4, 3) := by decide +kernel
theorem d_M_count_169 : decode b_M_count 169 = .ok (.iconst (-1), 1) := by decide +kernel
theorem d_M_count_170 : decode b_M_count 170 = .ok (.ireturn, 1) := by decide +kernel
