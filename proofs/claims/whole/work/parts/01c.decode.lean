theorem dX10_obeyAll_46 : decode cX10_obeyAll 46 = .ok (.aload_n 3, 1) := by decide +kernel
theorem dX10_obeyAll_47 : decode cX10_obeyAll 47 = .ok (.invokevirtual 127, 3) := by decide +kernel
theorem dX10_obeyAll_50 : decode cX10_obeyAll 50 = .ok (.ifCond .eq 6, 3) := by decide +kernel
theorem dX10_obeyAll_53 : decode cX10_obeyAll 53 = .ok (.iinc 1 1, 3) := by decide +kernel
theorem dX10_obeyAll_56 : decode cX10_obeyAll 56 = .ok (.iinc 2 1, 3) := by decide +kernel
theorem dX10_obeyAll_59 : decode cX10_obeyAll 59 = .ok (.goto (-55), 3) := by decide +kernel
theorem dX10_obeyAll_62 : decode cX10_obeyAll 62 = .ok (.iload_n 1, 1) := by decide +kernel
theorem dX10_obeyAll_63 : decode cX10_obeyAll 63 = .ok (.ireturn, 1) := by decide +kernel
theorem dX10_obey_0 : decode cX10_obey 0 = .ok (.aload_n 0, 1) := by decide +kernel
theorem dX10_obey_1 : decode cX10_obey 1 = .ok (.aload_n 1, 1) := by decide +kernel
theorem dX10_obey_2 : decode cX10_obey 2 = .ok (.aload_n 2, 1) := by decide +kernel
theorem dX10_obey_3 : decode cX10_obey 3 = .ok (.invokevirtual 131, 3) := by decide +kernel
theorem dX10_obey_6 : decode cX10_obey 6 = .ok (.istore_n 3, 1) := by decide +kernel
theorem dX10_obey_7 : decode cX10_obey 7 = .ok (.iload_n 3, 1) := by decide +kernel
theorem dX10_obey_8 : decode cX10_obey 8 = .ok (.ifCond .lt 12, 3) := by decide +kernel
theorem dX10_obey_11 : decode cX10_obey 11 = .ok (.aload_n 2, 1) := by decide +kernel
theorem dX10_obey_12 : decode cX10_obey 12 = .ok (.getfield 135, 3) := by decide +kernel
theorem dX10_obey_15 : decode cX10_obey 15 = .ok (.iload_n 3, 1) := by decide +kernel
theorem dX10_obey_16 : decode cX10_obey 16 = .ok (.iaload, 1) := by decide +kernel
theorem dX10_obey_17 : decode cX10_obey 17 = .ok (.ifCond .ne 5, 3) := by decide +kernel
theorem dX10_obey_20 : decode cX10_obey 20 = .ok (.iconst 0, 1) := by decide +kernel
theorem dX10_obey_21 : decode cX10_obey 21 = .ok (.ireturn, 1) := by decide +kernel
theorem dX10_obey_22 : decode cX10_obey 22 = .ok (.aload_n 2, 1) := by decide +kernel
theorem dX10_obey_23 : decode cX10_obey 23 = .ok (.getfield 138, 3) := by decide +kernel
theorem dX10_obey_26 : decode cX10_obey 26 = .ok (.iload_n 3, 1) := by decide +kernel
theorem dX10_obey_27 : decode cX10_obey 27 = .ok (.iaload, 1) := by decide +kernel
theorem dX10_obey_28 : decode cX10_obey 28 = .ok (.aload_n 1, 1) := by decide +kernel
theorem dX10_obey_29 : decode cX10_obey 29 = .ok (.invokevirtual 141, 3) := by decide +kernel
theorem dX10_obey_32 : decode cX10_obey 32 = .ok (.invokestatic 145, 3) := by decide +kernel
theorem dX10_obey_35 : decode cX10_obey 35 = .ok (.istore 4, 2) := by decide +kernel
theorem dX10_obey_37 : decode cX10_obey 37 = .ok (.aload_n 1, 1) := by decide +kernel
theorem dX10_obey_38 : decode cX10_obey 38 = .ok (.getfield 110, 3) := by decide +kernel
theorem dX10_obey_41 : decode cX10_obey 41 = .ok (.aload_n 1, 1) := by decide +kernel
theorem dX10_obey_42 : decode cX10_obey 42 = .ok (.iload 4, 2) := by decide +kernel
theorem dX10_obey_44 : decode cX10_obey 44 = .ok (.invokevirtual 151, 3) := by decide +kernel
theorem dX10_obey_47 : decode cX10_obey 47 = .ok (.if_icmp .ge 5, 3) := by decide +kernel
theorem dX10_obey_50 : decode cX10_obey 50 = .ok (.iconst 0, 1) := by decide +kernel
theorem dX10_obey_51 : decode cX10_obey 51 = .ok (.ireturn, 1) := by decide +kernel
theorem dX10_obey_52 : decode cX10_obey 52 = .ok (.iconst 0, 1) := by decide +kernel
theorem dX10_obey_53 : decode cX10_obey 53 = .ok (.istore 5, 2) := by decide +kernel
theorem dX10_obey_55 : decode cX10_obey 55 = .ok (.iconst 0, 1) := by decide +kernel
theorem dX10_obey_56 : decode cX10_obey 56 = .ok (.istore 6, 2) := by decide +kernel
theorem dX10_obey_58 : decode cX10_obey 58 = .ok (.aload_n 2, 1) := by decide +kernel
theorem dX10_obey_59 : decode cX10_obey 59 = .ok (.getfield 135, 3) := by decide +kernel
theorem dX10_obey_62 : decode cX10_obey 62 = .ok (.iload_n 3, 1) := by decide +kernel
theorem dX10_obey_63 : decode cX10_obey 63 = .ok (.iaload, 1) := by decide +kernel
theorem dX10_obey_64 : decode cX10_obey 64 = .ok (.iconst 2, 1) := by decide +kernel
theorem dX10_obey_65 : decode cX10_obey 65 = .ok (.if_icmp .ne 61, 3) := by decide +kernel
theorem dX10_obey_68 : decode cX10_obey 68 = .ok (.aload_n 2, 1) := by decide +kernel
theorem dX10_obey_69 : decode cX10_obey 69 = .ok (.getfield 154, 3) := by decide +kernel
theorem dX10_obey_72 : decode cX10_obey 72 = .ok (.iload_n 3, 1) := by decide +kernel
theorem dX10_obey_73 : decode cX10_obey 73 = .ok (.iaload, 1) := by decide +kernel
theorem dX10_obey_74 : decode cX10_obey 74 = .ok (.invokestatic 100, 3) := by decide +kernel
theorem dX10_obey_77 : decode cX10_obey 77 = .ok (.aload_n 1, 1) := by decide +kernel
theorem dX10_obey_78 : decode cX10_obey 78 = .ok (.getfield 97, 3) := by decide +kernel
theorem dX10_obey_81 : decode cX10_obey 81 = .ok (.invokestatic 100, 3) := by decide +kernel
theorem dX10_obey_84 : decode cX10_obey 84 = .ok (.isub, 1) := by decide +kernel
theorem dX10_obey_85 : decode cX10_obey 85 = .ok (.aload_n 1, 1) := by decide +kernel
theorem dX10_obey_86 : decode cX10_obey 86 = .ok (.invokevirtual 157, 3) := by decide +kernel
theorem dX10_obey_89 : decode cX10_obey 89 = .ok (.invokestatic 160, 3) := by decide +kernel
theorem dX10_obey_92 : decode cX10_obey 92 = .ok (.istore 5, 2) := by decide +kernel
theorem dX10_obey_94 : decode cX10_obey 94 = .ok (.aload_n 2, 1) := by decide +kernel
theorem dX10_obey_95 : decode cX10_obey 95 = .ok (.getfield 154, 3) := by decide +kernel
theorem dX10_obey_98 : decode cX10_obey 98 = .ok (.iload_n 3, 1) := by decide +kernel
theorem dX10_obey_99 : decode cX10_obey 99 = .ok (.iaload, 1) := by decide +kernel
theorem dX10_obey_100 : decode cX10_obey 100 = .ok (.invokestatic 104, 3) := by decide +kernel
theorem dX10_obey_103 : decode cX10_obey 103 = .ok (.aload_n 1, 1) := by decide +kernel
theorem dX10_obey_104 : decode cX10_obey 104 = .ok (.getfield 97, 3) := by decide +kernel
theorem dX10_obey_107 : decode cX10_obey 107 = .ok (.invokestatic 104, 3) := by decide +kernel
theorem dX10_obey_110 : decode cX10_obey 110 = .ok (.isub, 1) := by decide +kernel
theorem dX10_obey_111 : decode cX10_obey 111 = .ok (.aload_n 1, 1) := by decide +kernel
theorem dX10_obey_112 : decode cX10_obey 112 = .ok (.invokevirtual 157, 3) := by decide +kernel
theorem dX10_obey_115 : decode cX10_obey 115 = .ok (.iload 5, 2) := by decide +kernel
theorem dX10_obey_117 : decode cX10_obey 117 = .ok (.invokestatic 163, 3) := by decide +kernel
theorem dX10_obey_120 : decode cX10_obey 120 = .ok (.isub, 1) := by decide +kernel
theorem dX10_obey_121 : decode cX10_obey 121 = .ok (.invokestatic 160, 3) := by decide +kernel
theorem dX10_obey_124 : decode cX10_obey 124 = .ok (.istore 6, 2) := by decide +kernel
theorem dX10_obey_126 : decode cX10_obey 126 = .ok (.aload_n 0, 1) := by decide +kernel
theorem dX10_obey_127 : decode cX10_obey 127 = .ok (.aload_n 1, 1) := by decide +kernel
theorem dX10_obey_128 : decode cX10_obey 128 = .ok (.iload 4, 2) := by decide +kernel
theorem dX10_obey_130 : decode cX10_obey 130 = .ok (.iload 5, 2) := by decide +kernel
theorem dX10_obey_132 : decode cX10_obey 132 = .ok (.iload 6, 2) := by decide +kernel
theorem dX10_obey_134 : decode cX10_obey 134 = .ok (.invokevirtual 166, 3) := by decide +kernel
theorem dX10_obey_137 : decode cX10_obey 137 = .ok (.pop, 1) := by decide +kernel
theorem dX10_obey_138 : decode cX10_obey 138 = .ok (.iconst 1, 1) := by decide +kernel
theorem dX10_obey_139 : decode cX10_obey 139 = .ok (.ireturn, 1) := by decide +kernel
theorem dX10_cut_0 : decode cX10_cut 0 = .ok (.iload_n 1, 1) := by decide +kernel
theorem dX10_cut_1 : decode cX10_cut 1 = .ok (.ineg, 1) := by decide +kernel
theorem dX10_cut_2 : decode cX10_cut 2 = .ok (.iload_n 1, 1) := by decide +kernel
theorem dX10_cut_3 : decode cX10_cut 3 = .ok (.iload_n 0, 1) := by decide +kernel
theorem dX10_cut_4 : decode cX10_cut 4 = .ok (.invokestatic 145, 3) := by decide +kernel
theorem dX10_cut_7 : decode cX10_cut 7 = .ok (.invokestatic 170, 3) := by decide +kernel
theorem dX10_cut_10 : decode cX10_cut 10 = .ok (.ireturn, 1) := by decide +kernel
theorem dX10_ruleFor_0 : decode cX10_ruleFor 0 = .ok (.iconst 0, 1) := by decide +kernel
theorem dX10_ruleFor_1 : decode cX10_ruleFor 1 = .ok (.istore_n 3, 1) := by decide +kernel
theorem dX10_ruleFor_2 : decode cX10_ruleFor 2 = .ok (.iconst 0, 1) := by decide +kernel
theorem dX10_ruleFor_3 : decode cX10_ruleFor 3 = .ok (.istore 4, 2) := by decide +kernel
theorem dX10_ruleFor_5 : decode cX10_ruleFor 5 = .ok (.iload 4, 2) := by decide +kernel
theorem dX10_ruleFor_7 : decode cX10_ruleFor 7 = .ok (.aload_n 2, 1) := by decide +kernel
theorem dX10_ruleFor_8 : decode cX10_ruleFor 8 = .ok (.getfield 173, 3) := by decide +kernel
theorem dX10_ruleFor_11 : decode cX10_ruleFor 11 = .ok (.if_icmp .ge 68, 3) := by decide +kernel
theorem dX10_ruleFor_14 : decode cX10_ruleFor 14 = .ok (.iconst 1, 1) := by decide +kernel
theorem dX10_ruleFor_15 : decode cX10_ruleFor 15 = .ok (.istore 5, 2) := by decide +kernel
theorem dX10_ruleFor_17 : decode cX10_ruleFor 17 = .ok (.iload_n 3, 1) := by decide +kernel
theorem dX10_ruleFor_18 : decode cX10_ruleFor 18 = .ok (.aload_n 2, 1) := by decide +kernel
theorem dX10_ruleFor_19 : decode cX10_ruleFor 19 = .ok (.getfield 176, 3) := by decide +kernel
theorem dX10_ruleFor_22 : decode cX10_ruleFor 22 = .ok (.iload 4, 2) := by decide +kernel
theorem dX10_ruleFor_24 : decode cX10_ruleFor 24 = .ok (.iaload, 1) := by decide +kernel
theorem dX10_ruleFor_25 : decode cX10_ruleFor 25 = .ok (.if_icmp .ge 40, 3) := by decide +kernel
theorem dX10_ruleFor_28 : decode cX10_ruleFor 28 = .ok (.iload 5, 2) := by decide +kernel
theorem dX10_ruleFor_30 : decode cX10_ruleFor 30 = .ok (.ifCond .eq 26, 3) := by decide +kernel
theorem dX10_ruleFor_33 : decode cX10_ruleFor 33 = .ok (.aload_n 2, 1) := by decide +kernel
theorem dX10_ruleFor_34 : decode cX10_ruleFor 34 = .ok (.iload_n 3, 1) := by decide +kernel
theorem dX10_ruleFor_35 : decode cX10_ruleFor 35 = .ok (.aload_n 0, 1) := by decide +kernel
theorem dX10_ruleFor_36 : decode cX10_ruleFor 36 = .ok (.aload_n 1, 1) := by decide +kernel
theorem dX10_ruleFor_37 : decode cX10_ruleFor 37 = .ok (.aload_n 2, 1) := by decide +kernel
theorem dX10_ruleFor_38 : decode cX10_ruleFor 38 = .ok (.getfield 179, 3) := by decide +kernel
theorem dX10_ruleFor_41 : decode cX10_ruleFor 41 = .ok (.iload_n 3, 1) := by decide +kernel
theorem dX10_ruleFor_42 : decode cX10_ruleFor 42 = .ok (.iaload, 1) := by decide +kernel
theorem dX10_ruleFor_43 : decode cX10_ruleFor 43 = .ok (.invokevirtual 182, 3) := by decide +kernel
theorem dX10_ruleFor_46 : decode cX10_ruleFor 46 = .ok (.invokevirtual 186, 3) := by decide +kernel
theorem dX10_ruleFor_49 : decode cX10_ruleFor 49 = .ok (.ifCond .eq 7, 3) := by decide +kernel
theorem dX10_ruleFor_52 : decode cX10_ruleFor 52 = .ok (.iconst 1, 1) := by decide +kernel
theorem dX10_ruleFor_53 : decode cX10_ruleFor 53 = .ok (.goto 4, 3) := by decide +kernel
theorem dX10_ruleFor_56 : decode cX10_ruleFor 56 = .ok (.iconst 0, 1) := by decide +kernel
theorem dX10_ruleFor_57 : decode cX10_ruleFor 57 = .ok (.istore 5, 2) := by decide +kernel
theorem dX10_ruleFor_59 : decode cX10_ruleFor 59 = .ok (.iinc 3 1, 3) := by decide +kernel
theorem dX10_ruleFor_62 : decode cX10_ruleFor 62 = .ok (.goto (-45), 3) := by decide +kernel
theorem dX10_ruleFor_65 : decode cX10_ruleFor 65 = .ok (.iload 5, 2) := by decide +kernel
theorem dX10_ruleFor_67 : decode cX10_ruleFor 67 = .ok (.ifCond .eq 6, 3) := by decide +kernel
theorem dX10_ruleFor_70 : decode cX10_ruleFor 70 = .ok (.iload 4, 2) := by decide +kernel
theorem dX10_ruleFor_72 : decode cX10_ruleFor 72 = .ok (.ireturn, 1) := by decide +kernel
theorem dX10_ruleFor_73 : decode cX10_ruleFor 73 = .ok (.iinc 4 1, 3) := by decide +kernel
theorem dX10_ruleFor_76 : decode cX10_ruleFor 76 = .ok (.goto (-71), 3) := by decide +kernel
theorem dX10_ruleFor_79 : decode cX10_ruleFor 79 = .ok (.bipush (-4), 2) := by decide +kernel
theorem dX10_ruleFor_81 : decode cX10_ruleFor 81 = .ok (.ireturn, 1) := by decide +kernel
theorem dX10_sensed_0 : decode cX10_sensed 0 = .ok (.iload_n 2, 1) := by decide +kernel
theorem dX10_sensed_1 : decode cX10_sensed 1 = .ok (.tableswitch 173 102 121 #[129, 173, 134, 173, 173, 173, 116, 173, 173, 173, 95, 173, 173, 168, 160, 173, 173, 173, 100, 108], 95) := by decide +kernel
theorem dX10_sensed_96 : decode cX10_sensed 96 = .ok (.aload_n 1, 1) := by decide +kernel
theorem dX10_sensed_97 : decode cX10_sensed 97 = .ok (.getfield 110, 3) := by decide +kernel
theorem dX10_sensed_100 : decode cX10_sensed 100 = .ok (.ireturn, 1) := by decide +kernel
theorem dX10_sensed_101 : decode cX10_sensed 101 = .ok (.aload_n 1, 1) := by decide +kernel
theorem dX10_sensed_102 : decode cX10_sensed 102 = .ok (.getfield 97, 3) := by decide +kernel
theorem dX10_sensed_105 : decode cX10_sensed 105 = .ok (.invokestatic 100, 3) := by decide +kernel
theorem dX10_sensed_108 : decode cX10_sensed 108 = .ok (.ireturn, 1) := by decide +kernel
theorem dX10_sensed_109 : decode cX10_sensed 109 = .ok (.aload_n 1, 1) := by decide +kernel
theorem dX10_sensed_110 : decode cX10_sensed 110 = .ok (.getfield 97, 3) := by decide +kernel
theorem dX10_sensed_113 : decode cX10_sensed 113 = .ok (.invokestatic 104, 3) := by decide +kernel
theorem dX10_sensed_116 : decode cX10_sensed 116 = .ok (.ireturn, 1) := by decide +kernel
theorem dX10_sensed_117 : decode cX10_sensed 117 = .ok (.aload_n 1, 1) := by decide +kernel
theorem dX10_sensed_118 : decode cX10_sensed 118 = .ok (.getfield 190, 3) := by decide +kernel
theorem dX10_sensed_121 : decode cX10_sensed 121 = .ok (.ifCond .eq 7, 3) := by decide +kernel
theorem dX10_sensed_124 : decode cX10_sensed 124 = .ok (.iconst 1, 1) := by decide +kernel
theorem dX10_sensed_125 : decode cX10_sensed 125 = .ok (.goto 4, 3) := by decide +kernel
theorem dX10_sensed_128 : decode cX10_sensed 128 = .ok (.iconst 0, 1) := by decide +kernel
theorem dX10_sensed_129 : decode cX10_sensed 129 = .ok (.ireturn, 1) := by decide +kernel
theorem dX10_sensed_130 : decode cX10_sensed 130 = .ok (.aload_n 1, 1) := by decide +kernel
theorem dX10_sensed_131 : decode cX10_sensed 131 = .ok (.getfield 194, 3) := by decide +kernel
theorem dX10_sensed_134 : decode cX10_sensed 134 = .ok (.ireturn, 1) := by decide +kernel
theorem dX10_sensed_135 : decode cX10_sensed 135 = .ok (.aload_n 1, 1) := by decide +kernel
theorem dX10_sensed_136 : decode cX10_sensed 136 = .ok (.getfield 117, 3) := by decide +kernel
theorem dX10_sensed_139 : decode cX10_sensed 139 = .ok (.bipush (-4), 2) := by decide +kernel
theorem dX10_sensed_141 : decode cX10_sensed 141 = .ok (.if_icmp .ne 10, 3) := by decide +kernel
theorem dX10_sensed_144 : decode cX10_sensed 144 = .ok (.aload_n 0, 1) := by decide +kernel
theorem dX10_sensed_145 : decode cX10_sensed 145 = .ok (.getfield 28, 3) := by decide +kernel
theorem dX10_sensed_148 : decode cX10_sensed 148 = .ok (.goto 12, 3) := by decide +kernel
theorem dX10_sensed_151 : decode cX10_sensed 151 = .ok (.aload_n 0, 1) := by decide +kernel
theorem dX10_sensed_152 : decode cX10_sensed 152 = .ok (.getfield 28, 3) := by decide +kernel
theorem dX10_sensed_155 : decode cX10_sensed 155 = .ok (.aload_n 1, 1) := by decide +kernel
theorem dX10_sensed_156 : decode cX10_sensed 156 = .ok (.getfield 117, 3) := by decide +kernel
theorem dX10_sensed_159 : decode cX10_sensed 159 = .ok (.isub, 1) := by decide +kernel
theorem dX10_sensed_160 : decode cX10_sensed 160 = .ok (.ireturn, 1) := by decide +kernel
theorem dX10_sensed_161 : decode cX10_sensed 161 = .ok (.aload_n 0, 1) := by decide +kernel
theorem dX10_sensed_162 : decode cX10_sensed 162 = .ok (.getfield 28, 3) := by decide +kernel
theorem dX10_sensed_165 : decode cX10_sensed 165 = .ok (.bipush 10, 2) := by decide +kernel
theorem dX10_sensed_167 : decode cX10_sensed 167 = .ok (.irem, 1) := by decide +kernel
theorem dX10_sensed_168 : decode cX10_sensed 168 = .ok (.ireturn, 1) := by decide +kernel
theorem dX10_sensed_169 : decode cX10_sensed 169 = .ok (.aload_n 1, 1) := by decide +kernel
theorem dX10_sensed_170 : decode cX10_sensed 170 = .ok (.getfield 197, 3) := by decide +kernel
theorem dX10_sensed_173 : decode cX10_sensed 173 = .ok (.ireturn, 1) := by decide +kernel
theorem dX10_sensed_174 : decode cX10_sensed 174 = .ok (.aload_n 0, 1) := by decide +kernel
theorem dX10_sensed_175 : decode cX10_sensed 175 = .ok (.getfield 12, 3) := by decide +kernel
theorem dX10_sensed_178 : decode cX10_sensed 178 = .ok (.getfield 200, 3) := by decide +kernel
theorem dX10_sensed_181 : decode cX10_sensed 181 = .ok (.aload_n 1, 1) := by decide +kernel
theorem dX10_sensed_182 : decode cX10_sensed 182 = .ok (.getfield 97, 3) := by decide +kernel
theorem dX10_sensed_185 : decode cX10_sensed 185 = .ok (.iaload, 1) := by decide +kernel
theorem dX10_sensed_186 : decode cX10_sensed 186 = .ok (.ireturn, 1) := by decide +kernel
theorem dX10_descend_0 : decode cX10_descend 0 = .ok (.aload_n 1, 1) := by decide +kernel
theorem dX10_descend_1 : decode cX10_descend 1 = .ok (.getfield 97, 3) := by decide +kernel
theorem dX10_descend_4 : decode cX10_descend 4 = .ok (.istore 5, 2) := by decide +kernel
theorem dX10_descend_6 : decode cX10_descend 6 = .ok (.aload_n 1, 1) := by decide +kernel
theorem dX10_descend_7 : decode cX10_descend 7 = .ok (.dup, 1) := by decide +kernel
theorem dX10_descend_8 : decode cX10_descend 8 = .ok (.getfield 110, 3) := by decide +kernel
theorem dX10_descend_11 : decode cX10_descend 11 = .ok (.aload_n 1, 1) := by decide +kernel
theorem dX10_descend_12 : decode cX10_descend 12 = .ok (.iload_n 2, 1) := by decide +kernel
theorem dX10_descend_13 : decode cX10_descend 13 = .ok (.invokevirtual 151, 3) := by decide +kernel
theorem dX10_descend_16 : decode cX10_descend 16 = .ok (.isub, 1) := by decide +kernel
theorem dX10_descend_17 : decode cX10_descend 17 = .ok (.putfield 110, 3) := by decide +kernel
theorem dX10_descend_20 : decode cX10_descend 20 = .ok (.aload_n 1, 1) := by decide +kernel
theorem dX10_descend_21 : decode cX10_descend 21 = .ok (.dup, 1) := by decide +kernel
theorem dX10_descend_22 : decode cX10_descend 22 = .ok (.getfield 203, 3) := by decide +kernel
theorem dX10_descend_25 : decode cX10_descend 25 = .ok (.iconst 1, 1) := by decide +kernel
theorem dX10_descend_26 : decode cX10_descend 26 = .ok (.iadd, 1) := by decide +kernel
theorem dX10_descend_27 : decode cX10_descend 27 = .ok (.putfield 203, 3) := by decide +kernel
theorem dX10_descend_30 : decode cX10_descend 30 = .ok (.aload_n 0, 1) := by decide +kernel
theorem dX10_descend_31 : decode cX10_descend 31 = .ok (.getfield 64, 3) := by decide +kernel
theorem dX10_descend_34 : decode cX10_descend 34 = .ok (.aload_n 0, 1) := by decide +kernel
theorem dX10_descend_35 : decode cX10_descend 35 = .ok (.getfield 12, 3) := by decide +kernel
theorem dX10_descend_38 : decode cX10_descend 38 = .ok (.aload_n 0, 1) := by decide +kernel
theorem dX10_descend_39 : decode cX10_descend 39 = .ok (.getfield 12, 3) := by decide +kernel
theorem dX10_descend_42 : decode cX10_descend 42 = .ok (.getfield 206, 3) := by decide +kernel
theorem dX10_descend_45 : decode cX10_descend 45 = .ok (.iload 5, 2) := by decide +kernel
theorem dX10_descend_47 : decode cX10_descend 47 = .ok (.iload_n 2, 1) := by decide +kernel
theorem dX10_descend_48 : decode cX10_descend 48 = .ok (.iconst 1, 1) := by decide +kernel
theorem dX10_descend_49 : decode cX10_descend 49 = .ok (.invokevirtual 210, 3) := by decide +kernel
theorem dX10_descend_52 : decode cX10_descend 52 = .ok (.aload_n 1, 1) := by decide +kernel
theorem dX10_descend_53 : decode cX10_descend 53 = .ok (.aload_n 0, 1) := by decide +kernel
theorem dX10_descend_54 : decode cX10_descend 54 = .ok (.getfield 64, 3) := by decide +kernel
theorem dX10_descend_57 : decode cX10_descend 57 = .ok (.getfield 214, 3) := by decide +kernel
theorem dX10_descend_60 : decode cX10_descend 60 = .ok (.putfield 97, 3) := by decide +kernel
theorem dX10_descend_63 : decode cX10_descend 63 = .ok (.aload_n 0, 1) := by decide +kernel
theorem dX10_descend_64 : decode cX10_descend 64 = .ok (.getfield 64, 3) := by decide +kernel
theorem dX10_descend_67 : decode cX10_descend 67 = .ok (.getfield 215, 3) := by decide +kernel
theorem dX10_descend_70 : decode cX10_descend 70 = .ok (.ifCond .eq 11, 3) := by decide +kernel
theorem dX10_descend_73 : decode cX10_descend 73 = .ok (.aload_n 1, 1) := by decide +kernel
theorem dX10_descend_74 : decode cX10_descend 74 = .ok (.iconst 2, 1) := by decide +kernel
theorem dX10_descend_75 : decode cX10_descend 75 = .ok (.putfield 107, 3) := by decide +kernel
theorem dX10_descend_78 : decode cX10_descend 78 = .ok (.bipush (-5), 2) := by decide +kernel
theorem dX10_descend_80 : decode cX10_descend 80 = .ok (.ireturn, 1) := by decide +kernel
theorem dX10_descend_81 : decode cX10_descend 81 = .ok (.aload_n 1, 1) := by decide +kernel
theorem dX10_descend_82 : decode cX10_descend 82 = .ok (.aload_n 0, 1) := by decide +kernel
theorem dX10_descend_83 : decode cX10_descend 83 = .ok (.getfield 12, 3) := by decide +kernel
theorem dX10_descend_86 : decode cX10_descend 86 = .ok (.aload_n 0, 1) := by decide +kernel
theorem dX10_descend_87 : decode cX10_descend 87 = .ok (.getfield 64, 3) := by decide +kernel
theorem dX10_descend_90 : decode cX10_descend 90 = .ok (.getfield 214, 3) := by decide +kernel
theorem dX10_descend_93 : decode cX10_descend 93 = .ok (.iload_n 3, 1) := by decide +kernel
theorem dX10_descend_94 : decode cX10_descend 94 = .ok (.iload 4, 2) := by decide +kernel
theorem dX10_descend_96 : decode cX10_descend 96 = .ok (.invokevirtual 218, 3) := by decide +kernel
theorem dX10_descend_99 : decode cX10_descend 99 = .ok (.putfield 97, 3) := by decide +kernel
theorem dX10_descend_102 : decode cX10_descend 102 = .ok (.aload_n 0, 1) := by decide +kernel
theorem dX10_descend_103 : decode cX10_descend 103 = .ok (.aload_n 1, 1) := by decide +kernel
theorem dX10_descend_104 : decode cX10_descend 104 = .ok (.aload_n 0, 1) := by decide +kernel
theorem dX10_descend_105 : decode cX10_descend 105 = .ok (.getfield 64, 3) := by decide +kernel
theorem dX10_descend_108 : decode cX10_descend 108 = .ok (.getfield 221, 3) := by decide +kernel
theorem dX10_descend_111 : decode cX10_descend 111 = .ok (.invokevirtual 224, 3) := by decide +kernel
theorem dX10_descend_114 : decode cX10_descend 114 = .ok (.aload_n 0, 1) := by decide +kernel
theorem dX10_descend_115 : decode cX10_descend 115 = .ok (.getfield 12, 3) := by decide +kernel
theorem dX10_descend_118 : decode cX10_descend 118 = .ok (.getfield 228, 3) := by decide +kernel
theorem dX10_descend_121 : decode cX10_descend 121 = .ok (.aload_n 1, 1) := by decide +kernel
theorem dX10_descend_122 : decode cX10_descend 122 = .ok (.getfield 97, 3) := by decide +kernel
theorem dX10_descend_125 : decode cX10_descend 125 = .ok (.iaload, 1) := by decide +kernel
theorem dX10_descend_126 : decode cX10_descend 126 = .ok (.iconst 1, 1) := by decide +kernel
theorem dX10_descend_127 : decode cX10_descend 127 = .ok (.if_icmp .ne 17, 3) := by decide +kernel
theorem dX10_descend_130 : decode cX10_descend 130 = .ok (.aload_n 1, 1) := by decide +kernel
theorem dX10_descend_131 : decode cX10_descend 131 = .ok (.iconst 0, 1) := by decide +kernel
theorem dX10_descend_132 : decode cX10_descend 132 = .ok (.aload_n 1, 1) := by decide +kernel
theorem dX10_descend_133 : decode cX10_descend 133 = .ok (.getfield 110, 3) := by decide +kernel
theorem dX10_descend_136 : decode cX10_descend 136 = .ok (.iconst 5, 1) := by decide +kernel
theorem dX10_descend_137 : decode cX10_descend 137 = .ok (.isub, 1) := by decide +kernel
theorem dX10_descend_138 : decode cX10_descend 138 = .ok (.invokestatic 170, 3) := by decide +kernel
theorem dX10_descend_141 : decode cX10_descend 141 = .ok (.putfield 110, 3) := by decide +kernel
theorem dX10_descend_144 : decode cX10_descend 144 = .ok (.aload_n 0, 1) := by decide +kernel
theorem dX10_descend_145 : decode cX10_descend 145 = .ok (.getfield 12, 3) := by decide +kernel
theorem dX10_descend_148 : decode cX10_descend 148 = .ok (.iload 5, 2) := by decide +kernel
theorem dX10_descend_150 : decode cX10_descend 150 = .ok (.iload_n 3, 1) := by decide +kernel
theorem dX10_descend_151 : decode cX10_descend 151 = .ok (.iload 4, 2) := by decide +kernel
theorem dX10_descend_153 : decode cX10_descend 153 = .ok (.invokevirtual 218, 3) := by decide +kernel
theorem dX10_descend_156 : decode cX10_descend 156 = .ok (.istore 6, 2) := by decide +kernel
theorem dX10_descend_158 : decode cX10_descend 158 = .ok (.aload_n 0, 1) := by decide +kernel
theorem dX10_descend_159 : decode cX10_descend 159 = .ok (.getfield 12, 3) := by decide +kernel
theorem dX10_descend_162 : decode cX10_descend 162 = .ok (.iload 5, 2) := by decide +kernel
theorem dX10_descend_164 : decode cX10_descend 164 = .ok (.aload_n 0, 1) := by decide +kernel
theorem dX10_descend_165 : decode cX10_descend 165 = .ok (.getfield 64, 3) := by decide +kernel
theorem dX10_descend_168 : decode cX10_descend 168 = .ok (.getfield 221, 3) := by decide +kernel
theorem dX10_descend_171 : decode cX10_descend 171 = .ok (.aload_n 1, 1) := by decide +kernel
theorem dX10_descend_172 : decode cX10_descend 172 = .ok (.getfield 97, 3) := by decide +kernel
theorem dX10_descend_175 : decode cX10_descend 175 = .ok (.invokestatic 100, 3) := by decide +kernel
theorem dX10_descend_178 : decode cX10_descend 178 = .ok (.iload 6, 2) := by decide +kernel
theorem dX10_descend_180 : decode cX10_descend 180 = .ok (.invokestatic 100, 3) := by decide +kernel
theorem dX10_descend_183 : decode cX10_descend 183 = .ok (.isub, 1) := by decide +kernel
theorem dX10_descend_184 : decode cX10_descend 184 = .ok (.aload_n 1, 1) := by decide +kernel
theorem dX10_descend_185 : decode cX10_descend 185 = .ok (.getfield 97, 3) := by decide +kernel
theorem dX10_descend_188 : decode cX10_descend 188 = .ok (.invokestatic 104, 3) := by decide +kernel
theorem dX10_descend_191 : decode cX10_descend 191 = .ok (.iload 6, 2) := by decide +kernel
theorem dX10_descend_193 : decode cX10_descend 193 = .ok (.invokestatic 104, 3) := by decide +kernel
theorem dX10_descend_196 : decode cX10_descend 196 = .ok (.isub, 1) := by decide +kernel
theorem dX10_descend_197 : decode cX10_descend 197 = .ok (.invokevirtual 231, 3) := by decide +kernel
theorem dX10_descend_200 : decode cX10_descend 200 = .ok (.aload_n 1, 1) := by decide +kernel
theorem dX10_descend_201 : decode cX10_descend 201 = .ok (.getfield 97, 3) := by decide +kernel
theorem dX10_descend_204 : decode cX10_descend 204 = .ok (.ireturn, 1) := by decide +kernel
theorem dX10_measure_0 : decode cX10_measure 0 = .ok (.iconst 0, 1) := by decide +kernel
theorem dX10_measure_1 : decode cX10_measure 1 = .ok (.iload_n 2, 1) := by decide +kernel
theorem dX10_measure_2 : decode cX10_measure 2 = .ok (.aload_n 0, 1) := by decide +kernel
theorem dX10_measure_3 : decode cX10_measure 3 = .ok (.getfield 12, 3) := by decide +kernel
theorem dX10_measure_6 : decode cX10_measure 6 = .ok (.getfield 200, 3) := by decide +kernel
theorem dX10_measure_9 : decode cX10_measure 9 = .ok (.aload_n 1, 1) := by decide +kernel
theorem dX10_measure_10 : decode cX10_measure 10 = .ok (.getfield 97, 3) := by decide +kernel
theorem dX10_measure_13 : decode cX10_measure 13 = .ok (.iaload, 1) := by decide +kernel
theorem dX10_measure_14 : decode cX10_measure 14 = .ok (.iconst 1, 1) := by decide +kernel
theorem dX10_measure_15 : decode cX10_measure 15 = .ok (.isub, 1) := by decide +kernel
theorem dX10_measure_16 : decode cX10_measure 16 = .ok (.invokestatic 145, 3) := by decide +kernel
theorem dX10_measure_19 : decode cX10_measure 19 = .ok (.invokestatic 170, 3) := by decide +kernel
theorem dX10_measure_22 : decode cX10_measure 22 = .ok (.istore_n 3, 1) := by decide +kernel
theorem dX10_measure_23 : decode cX10_measure 23 = .ok (.aload_n 1, 1) := by decide +kernel
theorem dX10_measure_24 : decode cX10_measure 24 = .ok (.aload_n 0, 1) := by decide +kernel
theorem dX10_measure_25 : decode cX10_measure 25 = .ok (.getfield 12, 3) := by decide +kernel
theorem dX10_measure_28 : decode cX10_measure 28 = .ok (.getfield 235, 3) := by decide +kernel
theorem dX10_measure_31 : decode cX10_measure 31 = .ok (.aload_n 1, 1) := by decide +kernel
theorem dX10_measure_32 : decode cX10_measure 32 = .ok (.getfield 97, 3) := by decide +kernel
theorem dX10_measure_35 : decode cX10_measure 35 = .ok (.iload_n 3, 1) := by decide +kernel
theorem dX10_measure_36 : decode cX10_measure 36 = .ok (.invokestatic 238, 3) := by decide +kernel
theorem dX10_measure_39 : decode cX10_measure 39 = .ok (.iaload, 1) := by decide +kernel
theorem dX10_measure_40 : decode cX10_measure 40 = .ok (.iconst 3, 1) := by decide +kernel
theorem dX10_measure_41 : decode cX10_measure 41 = .ok (.aload_n 1, 1) := by decide +kernel
theorem dX10_measure_42 : decode cX10_measure 42 = .ok (.getfield 194, 3) := by decide +kernel
theorem dX10_measure_45 : decode cX10_measure 45 = .ok (.imul, 1) := by decide +kernel
theorem dX10_measure_46 : decode cX10_measure 46 = .ok (.iadd, 1) := by decide +kernel
theorem dX10_measure_47 : decode cX10_measure 47 = .ok (.putfield 197, 3) := by decide +kernel
theorem dX10_measure_50 : decode cX10_measure 50 = .ok (.aload_n 1, 1) := by decide +kernel
theorem dX10_measure_51 : decode cX10_measure 51 = .ok (.iconst 1, 1) := by decide +kernel
theorem dX10_measure_52 : decode cX10_measure 52 = .ok (.putfield 241, 3) := by decide +kernel
theorem dX10_measure_55 : decode cX10_measure 55 = .ok (.aload_n 0, 1) := by decide +kernel
theorem dX10_measure_56 : decode cX10_measure 56 = .ok (.getfield 57, 3) := by decide +kernel
theorem dX10_measure_59 : decode cX10_measure 59 = .ok (.aload_n 0, 1) := by decide +kernel
theorem dX10_measure_60 : decode cX10_measure 60 = .ok (.aload_n 1, 1) := by decide +kernel
theorem dX10_measure_61 : decode cX10_measure 61 = .ok (.invokevirtual 244, 3) := by decide +kernel
theorem dX10_measure_64 : decode cX10_measure 64 = .ok (.aload_n 1, 1) := by decide +kernel
theorem dX10_measure_65 : decode cX10_measure 65 = .ok (.aload_n 0, 1) := by decide +kernel
theorem dX10_measure_66 : decode cX10_measure 66 = .ok (.getfield 28, 3) := by decide +kernel
theorem dX10_measure_69 : decode cX10_measure 69 = .ok (.iload_n 3, 1) := by decide +kernel
theorem dX10_measure_70 : decode cX10_measure 70 = .ok (.invokevirtual 248, 3) := by decide +kernel
theorem dX10_measure_73 : decode cX10_measure 73 = .ok (.aload_n 0, 1) := by decide +kernel
theorem dX10_measure_74 : decode cX10_measure 74 = .ok (.getfield 12, 3) := by decide +kernel
theorem dX10_measure_77 : decode cX10_measure 77 = .ok (.aload_n 1, 1) := by decide +kernel
theorem dX10_measure_78 : decode cX10_measure 78 = .ok (.getfield 97, 3) := by decide +kernel
theorem dX10_measure_81 : decode cX10_measure 81 = .ok (.invokevirtual 252, 3) := by decide +kernel
theorem dX10_measure_84 : decode cX10_measure 84 = .ok (.aload_n 1, 1) := by decide +kernel
theorem dX10_measure_85 : decode cX10_measure 85 = .ok (.dup, 1) := by decide +kernel
theorem dX10_measure_86 : decode cX10_measure 86 = .ok (.getfield 194, 3) := by decide +kernel
theorem dX10_measure_89 : decode cX10_measure 89 = .ok (.iconst 1, 1) := by decide +kernel
theorem dX10_measure_90 : decode cX10_measure 90 = .ok (.iadd, 1) := by decide +kernel
theorem dX10_measure_91 : decode cX10_measure 91 = .ok (.putfield 194, 3) := by decide +kernel
theorem dX10_measure_94 : decode cX10_measure 94 = .ok (.return_, 1) := by decide +kernel
theorem dX10_numberOf_0 : decode cX10_numberOf 0 = .ok (.iconst 0, 1) := by decide +kernel
theorem dX10_numberOf_1 : decode cX10_numberOf 1 = .ok (.istore_n 2, 1) := by decide +kernel
theorem dX10_numberOf_2 : decode cX10_numberOf 2 = .ok (.iload_n 2, 1) := by decide +kernel
theorem dX10_numberOf_3 : decode cX10_numberOf 3 = .ok (.aload_n 0, 1) := by decide +kernel
theorem dX10_numberOf_4 : decode cX10_numberOf 4 = .ok (.getfield 24, 3) := by decide +kernel
theorem dX10_numberOf_7 : decode cX10_numberOf 7 = .ok (.if_icmp .ge 21, 3) := by decide +kernel
theorem dX10_numberOf_10 : decode cX10_numberOf 10 = .ok (.aload_n 0, 1) := by decide +kernel
theorem dX10_numberOf_11 : decode cX10_numberOf 11 = .ok (.getfield 20, 3) := by decide +kernel
theorem dX10_numberOf_14 : decode cX10_numberOf 14 = .ok (.iload_n 2, 1) := by decide +kernel
theorem dX10_numberOf_15 : decode cX10_numberOf 15 = .ok (.aaload, 1) := by decide +kernel
theorem dX10_numberOf_16 : decode cX10_numberOf 16 = .ok (.aload_n 1, 1) := by decide +kernel
theorem dX10_numberOf_17 : decode cX10_numberOf 17 = .ok (.if_acmp .ne 5, 3) := by decide +kernel
theorem dX10_numberOf_20 : decode cX10_numberOf 20 = .ok (.iload_n 2, 1) := by decide +kernel
theorem dX10_numberOf_21 : decode cX10_numberOf 21 = .ok (.ireturn, 1) := by decide +kernel
theorem dX10_numberOf_22 : decode cX10_numberOf 22 = .ok (.iinc 2 1, 3) := by decide +kernel
theorem dX10_numberOf_25 : decode cX10_numberOf 25 = .ok (.goto (-23), 3) := by decide +kernel
theorem dX10_numberOf_28 : decode cX10_numberOf 28 = .ok (.bipush (-4), 2) := by decide +kernel
theorem dX10_numberOf_30 : decode cX10_numberOf 30 = .ok (.ireturn, 1) := by decide +kernel
theorem dX11_init_0 : decode cX11_init 0 = .ok (.aload_n 0, 1) := by decide +kernel
theorem dX11_init_1 : decode cX11_init 1 = .ok (.invokespecial 3, 3) := by decide +kernel
theorem dX11_init_4 : decode cX11_init 4 = .ok (.aload_n 0, 1) := by decide +kernel
theorem dX11_init_5 : decode cX11_init 5 = .ok (.new 9, 3) := by decide +kernel
theorem dX11_init_8 : decode cX11_init 8 = .ok (.dup, 1) := by decide +kernel
theorem dX11_init_9 : decode cX11_init 9 = .ok (.invokespecial 11, 3) := by decide +kernel
theorem dX11_init_12 : decode cX11_init 12 = .ok (.putfield 12, 3) := by decide +kernel
theorem dX11_init_15 : decode cX11_init 15 = .ok (.aload_n 0, 1) := by decide +kernel
theorem dX11_init_16 : decode cX11_init 16 = .ok (.new 16, 3) := by decide +kernel
theorem dX11_init_19 : decode cX11_init 19 = .ok (.dup, 1) := by decide +kernel
theorem dX11_init_20 : decode cX11_init 20 = .ok (.aload_n 0, 1) := by decide +kernel
theorem dX11_init_21 : decode cX11_init 21 = .ok (.getfield 12, 3) := by decide +kernel
theorem dX11_init_24 : decode cX11_init 24 = .ok (.invokespecial 18, 3) := by decide +kernel
theorem dX11_init_27 : decode cX11_init 27 = .ok (.putfield 21, 3) := by decide +kernel
theorem dX11_init_30 : decode cX11_init 30 = .ok (.aload_n 0, 1) := by decide +kernel
theorem dX11_init_31 : decode cX11_init 31 = .ok (.new 25, 3) := by decide +kernel
theorem dX11_init_34 : decode cX11_init 34 = .ok (.dup, 1) := by decide +kernel
theorem dX11_init_35 : decode cX11_init 35 = .ok (.invokespecial 27, 3) := by decide +kernel
theorem dX11_init_38 : decode cX11_init 38 = .ok (.putfield 28, 3) := by decide +kernel
theorem dX11_init_41 : decode cX11_init 41 = .ok (.aload_n 0, 1) := by decide +kernel
theorem dX11_init_42 : decode cX11_init 42 = .ok (.bipush 8, 2) := by decide +kernel
theorem dX11_init_44 : decode cX11_init 44 = .ok (.anewarray 32, 3) := by decide +kernel
theorem dX11_init_47 : decode cX11_init 47 = .ok (.putfield 34, 3) := by decide +kernel
theorem dX11_init_50 : decode cX11_init 50 = .ok (.aload_n 0, 1) := by decide +kernel
theorem dX11_init_51 : decode cX11_init 51 = .ok (.aconst_null, 1) := by decide +kernel
theorem dX11_init_52 : decode cX11_init 52 = .ok (.putfield 38, 3) := by decide +kernel
theorem dX11_init_55 : decode cX11_init 55 = .ok (.iconst 0, 1) := by decide +kernel
theorem dX11_init_56 : decode cX11_init 56 = .ok (.istore_n 1, 1) := by decide +kernel
theorem dX11_init_57 : decode cX11_init 57 = .ok (.iload_n 1, 1) := by decide +kernel
theorem dX11_init_58 : decode cX11_init 58 = .ok (.bipush 8, 2) := by decide +kernel
theorem dX11_init_60 : decode cX11_init 60 = .ok (.if_icmp .ge 22, 3) := by decide +kernel
theorem dX11_init_63 : decode cX11_init 63 = .ok (.aload_n 0, 1) := by decide +kernel
theorem dX11_init_64 : decode cX11_init 64 = .ok (.getfield 34, 3) := by decide +kernel
theorem dX11_init_67 : decode cX11_init 67 = .ok (.iload_n 1, 1) := by decide +kernel
theorem dX11_init_68 : decode cX11_init 68 = .ok (.new 32, 3) := by decide +kernel
theorem dX11_init_71 : decode cX11_init 71 = .ok (.dup, 1) := by decide +kernel
theorem dX11_init_72 : decode cX11_init 72 = .ok (.invokespecial 41, 3) := by decide +kernel
theorem dX11_init_75 : decode cX11_init 75 = .ok (.aastore, 1) := by decide +kernel
theorem dX11_init_76 : decode cX11_init 76 = .ok (.iinc 1 1, 3) := by decide +kernel
theorem dX11_init_79 : decode cX11_init 79 = .ok (.goto (-22), 3) := by decide +kernel
theorem dX11_init_82 : decode cX11_init 82 = .ok (.return_, 1) := by decide +kernel
theorem dX11_sea_0 : decode cX11_sea 0 = .ok (.iload_n 1, 1) := by decide +kernel
theorem dX11_sea_1 : decode cX11_sea 1 = .ok (.bipush 10, 2) := by decide +kernel
theorem dX11_sea_3 : decode cX11_sea 3 = .ok (.invokestatic 42, 3) := by decide +kernel
theorem dX11_sea_6 : decode cX11_sea 6 = .ok (.ifCond .eq 21, 3) := by decide +kernel
theorem dX11_sea_9 : decode cX11_sea 9 = .ok (.iload_n 2, 1) := by decide +kernel
theorem dX11_sea_10 : decode cX11_sea 10 = .ok (.bipush 8, 2) := by decide +kernel
theorem dX11_sea_12 : decode cX11_sea 12 = .ok (.invokestatic 42, 3) := by decide +kernel
theorem dX11_sea_15 : decode cX11_sea 15 = .ok (.ifCond .eq 12, 3) := by decide +kernel
theorem dX11_sea_18 : decode cX11_sea 18 = .ok (.iload_n 3, 1) := by decide +kernel
theorem dX11_sea_19 : decode cX11_sea 19 = .ok (.iload 4, 2) := by decide +kernel
theorem dX11_sea_21 : decode cX11_sea 21 = .ok (.invokestatic 46, 3) := by decide +kernel
theorem dX11_sea_24 : decode cX11_sea 24 = .ok (.ifCond .ne 5, 3) := by decide +kernel
theorem dX11_sea_27 : decode cX11_sea 27 = .ok (.iconst (-1), 1) := by decide +kernel
theorem dX11_sea_28 : decode cX11_sea 28 = .ok (.ireturn, 1) := by decide +kernel
theorem dX11_sea_29 : decode cX11_sea 29 = .ok (.iload_n 3, 1) := by decide +kernel
theorem dX11_sea_30 : decode cX11_sea 30 = .ok (.ifCond .ne 23, 3) := by decide +kernel
theorem dX11_sea_33 : decode cX11_sea 33 = .ok (.iload 4, 2) := by decide +kernel
theorem dX11_sea_35 : decode cX11_sea 35 = .ok (.ifCond .ne 18, 3) := by decide +kernel
theorem dX11_sea_38 : decode cX11_sea 38 = .ok (.aload_n 0, 1) := by decide +kernel
theorem dX11_sea_39 : decode cX11_sea 39 = .ok (.getfield 12, 3) := by decide +kernel
theorem dX11_sea_42 : decode cX11_sea 42 = .ok (.iload_n 1, 1) := by decide +kernel
theorem dX11_sea_43 : decode cX11_sea 43 = .ok (.iload_n 2, 1) := by decide +kernel
theorem dX11_sea_44 : decode cX11_sea 44 = .ok (.invokevirtual 49, 3) := by decide +kernel
theorem dX11_sea_47 : decode cX11_sea 47 = .ok (.ifCond .eq 6, 3) := by decide +kernel
theorem dX11_sea_50 : decode cX11_sea 50 = .ok (.bipush (-3), 2) := by decide +kernel
theorem dX11_sea_52 : decode cX11_sea 52 = .ok (.ireturn, 1) := by decide +kernel
theorem dX11_sea_53 : decode cX11_sea 53 = .ok (.aload_n 0, 1) := by decide +kernel
theorem dX11_sea_54 : decode cX11_sea 54 = .ok (.getfield 12, 3) := by decide +kernel
theorem dX11_sea_57 : decode cX11_sea 57 = .ok (.getfield 52, 3) := by decide +kernel
theorem dX11_sea_60 : decode cX11_sea 60 = .ok (.iload_n 1, 1) := by decide +kernel
theorem dX11_sea_61 : decode cX11_sea 61 = .ok (.iload_n 2, 1) := by decide +kernel
theorem dX11_sea_62 : decode cX11_sea 62 = .ok (.iload_n 3, 1) := by decide +kernel
theorem dX11_sea_63 : decode cX11_sea 63 = .ok (.iload 4, 2) := by decide +kernel
theorem dX11_sea_65 : decode cX11_sea 65 = .ok (.invokevirtual 56, 3) := by decide +kernel
theorem dX11_sea_68 : decode cX11_sea 68 = .ok (.ireturn, 1) := by decide +kernel
theorem dX11_stream_0 : decode cX11_stream 0 = .ok (.iload_n 1, 1) := by decide +kernel
theorem dX11_stream_1 : decode cX11_stream 1 = .ok (.iload_n 2, 1) := by decide +kernel
theorem dX11_stream_2 : decode cX11_stream 2 = .ok (.invokestatic 62, 3) := by decide +kernel
theorem dX11_stream_5 : decode cX11_stream 5 = .ok (.ifCond .eq 26, 3) := by decide +kernel
theorem dX11_stream_8 : decode cX11_stream 8 = .ok (.iload_n 3, 1) := by decide +kernel
theorem dX11_stream_9 : decode cX11_stream 9 = .ok (.invokestatic 65, 3) := by decide +kernel
theorem dX11_stream_12 : decode cX11_stream 12 = .ok (.ifCond .eq 19, 3) := by decide +kernel
theorem dX11_stream_15 : decode cX11_stream 15 = .ok (.iload 4, 2) := by decide +kernel
theorem dX11_stream_17 : decode cX11_stream 17 = .ok (.invokestatic 69, 3) := by decide +kernel
theorem dX11_stream_20 : decode cX11_stream 20 = .ok (.ifCond .eq 11, 3) := by decide +kernel
theorem dX11_stream_23 : decode cX11_stream 23 = .ok (.iload 5, 2) := by decide +kernel
theorem dX11_stream_25 : decode cX11_stream 25 = .ok (.invokestatic 69, 3) := by decide +kernel
theorem dX11_stream_28 : decode cX11_stream 28 = .ok (.ifCond .ne 5, 3) := by decide +kernel
theorem dX11_stream_31 : decode cX11_stream 31 = .ok (.iconst (-1), 1) := by decide +kernel
theorem dX11_stream_32 : decode cX11_stream 32 = .ok (.ireturn, 1) := by decide +kernel
theorem dX11_stream_33 : decode cX11_stream 33 = .ok (.iload 6, 2) := by decide +kernel
theorem dX11_stream_35 : decode cX11_stream 35 = .ok (.ifCond .eq 16, 3) := by decide +kernel
theorem dX11_stream_38 : decode cX11_stream 38 = .ok (.aload_n 0, 1) := by decide +kernel
theorem dX11_stream_39 : decode cX11_stream 39 = .ok (.getfield 12, 3) := by decide +kernel
theorem dX11_stream_42 : decode cX11_stream 42 = .ok (.getfield 52, 3) := by decide +kernel
theorem dX11_stream_45 : decode cX11_stream 45 = .ok (.getfield 72, 3) := by decide +kernel
theorem dX11_stream_48 : decode cX11_stream 48 = .ok (.goto 13, 3) := by decide +kernel
theorem dX11_stream_51 : decode cX11_stream 51 = .ok (.aload_n 0, 1) := by decide +kernel
theorem dX11_stream_52 : decode cX11_stream 52 = .ok (.getfield 12, 3) := by decide +kernel
theorem dX11_stream_55 : decode cX11_stream 55 = .ok (.getfield 52, 3) := by decide +kernel
theorem dX11_stream_58 : decode cX11_stream 58 = .ok (.getfield 76, 3) := by decide +kernel
theorem dX11_stream_61 : decode cX11_stream 61 = .ok (.astore 7, 2) := by decide +kernel
theorem dX11_stream_63 : decode cX11_stream 63 = .ok (.iload_n 1, 1) := by decide +kernel
theorem dX11_stream_64 : decode cX11_stream 64 = .ok (.iload_n 2, 1) := by decide +kernel
theorem dX11_stream_65 : decode cX11_stream 65 = .ok (.invokestatic 79, 3) := by decide +kernel
theorem dX11_stream_68 : decode cX11_stream 68 = .ok (.iload_n 3, 1) := by decide +kernel
theorem dX11_stream_69 : decode cX11_stream 69 = .ok (.invokestatic 83, 3) := by decide +kernel
theorem dX11_stream_72 : decode cX11_stream 72 = .ok (.istore 8, 2) := by decide +kernel
theorem dX11_stream_74 : decode cX11_stream 74 = .ok (.aload 7, 2) := by decide +kernel
theorem dX11_stream_76 : decode cX11_stream 76 = .ok (.getfield 86, 3) := by decide +kernel
theorem dX11_stream_79 : decode cX11_stream 79 = .ok (.iload 8, 2) := by decide +kernel
theorem dX11_stream_81 : decode cX11_stream 81 = .ok (.iload 4, 2) := by decide +kernel
theorem dX11_stream_83 : decode cX11_stream 83 = .ok (.iastore, 1) := by decide +kernel
theorem dX11_stream_84 : decode cX11_stream 84 = .ok (.aload 7, 2) := by decide +kernel
theorem dX11_stream_86 : decode cX11_stream 86 = .ok (.getfield 92, 3) := by decide +kernel
theorem dX11_stream_89 : decode cX11_stream 89 = .ok (.iload 8, 2) := by decide +kernel
theorem dX11_stream_91 : decode cX11_stream 91 = .ok (.iload 5, 2) := by decide +kernel
theorem dX11_stream_93 : decode cX11_stream 93 = .ok (.iastore, 1) := by decide +kernel
theorem dX11_stream_94 : decode cX11_stream 94 = .ok (.iconst 0, 1) := by decide +kernel
theorem dX11_stream_95 : decode cX11_stream 95 = .ok (.ireturn, 1) := by decide +kernel
theorem dX11_salt_0 : decode cX11_salt 0 = .ok (.iload_n 1, 1) := by decide +kernel
theorem dX11_salt_1 : decode cX11_salt 1 = .ok (.iload_n 2, 1) := by decide +kernel
theorem dX11_salt_2 : decode cX11_salt 2 = .ok (.invokestatic 62, 3) := by decide +kernel
theorem dX11_salt_5 : decode cX11_salt 5 = .ok (.ifCond .eq 23, 3) := by decide +kernel
theorem dX11_salt_8 : decode cX11_salt 8 = .ok (.iload_n 3, 1) := by decide +kernel
theorem dX11_salt_9 : decode cX11_salt 9 = .ok (.invokestatic 65, 3) := by decide +kernel
theorem dX11_salt_12 : decode cX11_salt 12 = .ok (.ifCond .eq 16, 3) := by decide +kernel
theorem dX11_salt_15 : decode cX11_salt 15 = .ok (.iload 4, 2) := by decide +kernel
theorem dX11_salt_17 : decode cX11_salt 17 = .ok (.ifCond .lt 11, 3) := by decide +kernel
theorem dX11_salt_20 : decode cX11_salt 20 = .ok (.iload 4, 2) := by decide +kernel
theorem dX11_salt_22 : decode cX11_salt 22 = .ok (.sipush 1001, 3) := by decide +kernel
theorem dX11_salt_25 : decode cX11_salt 25 = .ok (.if_icmp .le 5, 3) := by decide +kernel
theorem dX11_salt_28 : decode cX11_salt 28 = .ok (.iconst (-1), 1) := by decide +kernel
theorem dX11_salt_29 : decode cX11_salt 29 = .ok (.ireturn, 1) := by decide +kernel
theorem dX11_salt_30 : decode cX11_salt 30 = .ok (.iload_n 1, 1) := by decide +kernel
theorem dX11_salt_31 : decode cX11_salt 31 = .ok (.iload_n 2, 1) := by decide +kernel
theorem dX11_salt_32 : decode cX11_salt 32 = .ok (.invokestatic 79, 3) := by decide +kernel
theorem dX11_salt_35 : decode cX11_salt 35 = .ok (.iload_n 3, 1) := by decide +kernel
theorem dX11_salt_36 : decode cX11_salt 36 = .ok (.invokestatic 83, 3) := by decide +kernel
theorem dX11_salt_39 : decode cX11_salt 39 = .ok (.istore 5, 2) := by decide +kernel
theorem dX11_salt_41 : decode cX11_salt 41 = .ok (.iload 4, 2) := by decide +kernel
theorem dX11_salt_43 : decode cX11_salt 43 = .ok (.sipush 999, 3) := by decide +kernel
theorem dX11_salt_46 : decode cX11_salt 46 = .ok (.if_icmp .gt 21, 3) := by decide +kernel
theorem dX11_salt_49 : decode cX11_salt 49 = .ok (.aload_n 0, 1) := by decide +kernel
theorem dX11_salt_50 : decode cX11_salt 50 = .ok (.getfield 12, 3) := by decide +kernel
theorem dX11_salt_53 : decode cX11_salt 53 = .ok (.getfield 52, 3) := by decide +kernel
theorem dX11_salt_56 : decode cX11_salt 56 = .ok (.getfield 95, 3) := by decide +kernel
theorem dX11_salt_59 : decode cX11_salt 59 = .ok (.iload 5, 2) := by decide +kernel
theorem dX11_salt_61 : decode cX11_salt 61 = .ok (.iload 4, 2) := by decide +kernel
theorem dX11_salt_63 : decode cX11_salt 63 = .ok (.invokestatic 98, 3) := by decide +kernel
theorem dX11_salt_66 : decode cX11_salt 66 = .ok (.ireturn, 1) := by decide +kernel
theorem dX11_salt_67 : decode cX11_salt 67 = .ok (.aload_n 0, 1) := by decide +kernel
theorem dX11_salt_68 : decode cX11_salt 68 = .ok (.getfield 12, 3) := by decide +kernel
theorem dX11_salt_71 : decode cX11_salt 71 = .ok (.getfield 52, 3) := by decide +kernel
theorem dX11_salt_74 : decode cX11_salt 74 = .ok (.getfield 102, 3) := by decide +kernel
theorem dX11_salt_77 : decode cX11_salt 77 = .ok (.iload 5, 2) := by decide +kernel
theorem dX11_salt_79 : decode cX11_salt 79 = .ok (.iload 4, 2) := by decide +kernel
theorem dX11_salt_81 : decode cX11_salt 81 = .ok (.sipush 1000, 3) := by decide +kernel
theorem dX11_salt_84 : decode cX11_salt 84 = .ok (.if_icmp .ne 7, 3) := by decide +kernel
theorem dX11_salt_87 : decode cX11_salt 87 = .ok (.iconst 1, 1) := by decide +kernel
theorem dX11_salt_88 : decode cX11_salt 88 = .ok (.goto 4, 3) := by decide +kernel
theorem dX11_salt_91 : decode cX11_salt 91 = .ok (.iconst 0, 1) := by decide +kernel
theorem dX11_salt_92 : decode cX11_salt 92 = .ok (.invokestatic 98, 3) := by decide +kernel
theorem dX11_salt_95 : decode cX11_salt 95 = .ok (.ireturn, 1) := by decide +kernel
theorem dX11_cell_0 : decode cX11_cell 0 = .ok (.iload_n 1, 1) := by decide +kernel
theorem dX11_cell_1 : decode cX11_cell 1 = .ok (.iload_n 2, 1) := by decide +kernel
theorem dX11_cell_2 : decode cX11_cell 2 = .ok (.invokestatic 62, 3) := by decide +kernel
theorem dX11_cell_5 : decode cX11_cell 5 = .ok (.ifCond .eq 15, 3) := by decide +kernel
theorem dX11_cell_8 : decode cX11_cell 8 = .ok (.iload 4, 2) := by decide +kernel
theorem dX11_cell_10 : decode cX11_cell 10 = .ok (.ifCond .lt 10, 3) := by decide +kernel
theorem dX11_cell_13 : decode cX11_cell 13 = .ok (.iload 4, 2) := by decide +kernel
theorem dX11_cell_15 : decode cX11_cell 15 = .ok (.bipush 8, 2) := by decide +kernel
theorem dX11_cell_17 : decode cX11_cell 17 = .ok (.if_icmp .le 5, 3) := by decide +kernel
theorem dX11_cell_20 : decode cX11_cell 20 = .ok (.iconst (-1), 1) := by decide +kernel
theorem dX11_cell_21 : decode cX11_cell 21 = .ok (.ireturn, 1) := by decide +kernel
theorem dX11_cell_22 : decode cX11_cell 22 = .ok (.iload_n 1, 1) := by decide +kernel
theorem dX11_cell_23 : decode cX11_cell 23 = .ok (.iload_n 2, 1) := by decide +kernel
theorem dX11_cell_24 : decode cX11_cell 24 = .ok (.invokestatic 79, 3) := by decide +kernel
theorem dX11_cell_27 : decode cX11_cell 27 = .ok (.istore 5, 2) := by decide +kernel
theorem dX11_cell_29 : decode cX11_cell 29 = .ok (.iload 4, 2) := by decide +kernel
theorem dX11_cell_31 : decode cX11_cell 31 = .ok (.iconst 2, 1) := by decide +kernel
theorem dX11_cell_32 : decode cX11_cell 32 = .ok (.if_icmp .gt 19, 3) := by decide +kernel
theorem dX11_cell_35 : decode cX11_cell 35 = .ok (.aload_n 0, 1) := by decide +kernel
theorem dX11_cell_36 : decode cX11_cell 36 = .ok (.getfield 12, 3) := by decide +kernel
theorem dX11_cell_39 : decode cX11_cell 39 = .ok (.getfield 52, 3) := by decide +kernel
theorem dX11_cell_42 : decode cX11_cell 42 = .ok (.iload 4, 2) := by decide +kernel
theorem dX11_cell_44 : decode cX11_cell 44 = .ok (.invokevirtual 105, 3) := by decide +kernel
theorem dX11_cell_47 : decode cX11_cell 47 = .ok (.iload 5, 2) := by decide +kernel
theorem dX11_cell_49 : decode cX11_cell 49 = .ok (.iaload, 1) := by decide +kernel
theorem dX11_cell_50 : decode cX11_cell 50 = .ok (.ireturn, 1) := by decide +kernel
theorem dX11_cell_51 : decode cX11_cell 51 = .ok (.iload_n 3, 1) := by decide +kernel
theorem dX11_cell_52 : decode cX11_cell 52 = .ok (.invokestatic 65, 3) := by decide +kernel
theorem dX11_cell_55 : decode cX11_cell 55 = .ok (.ifCond .ne 5, 3) := by decide +kernel
theorem dX11_cell_58 : decode cX11_cell 58 = .ok (.iconst (-1), 1) := by decide +kernel
theorem dX11_cell_59 : decode cX11_cell 59 = .ok (.ireturn, 1) := by decide +kernel
theorem dX11_cell_60 : decode cX11_cell 60 = .ok (.aload_n 0, 1) := by decide +kernel
theorem dX11_cell_61 : decode cX11_cell 61 = .ok (.getfield 12, 3) := by decide +kernel
theorem dX11_cell_64 : decode cX11_cell 64 = .ok (.getfield 52, 3) := by decide +kernel
theorem dX11_cell_67 : decode cX11_cell 67 = .ok (.iload 4, 2) := by decide +kernel
theorem dX11_cell_69 : decode cX11_cell 69 = .ok (.invokevirtual 109, 3) := by decide +kernel
theorem dX11_cell_72 : decode cX11_cell 72 = .ok (.iload 5, 2) := by decide +kernel
theorem dX11_cell_74 : decode cX11_cell 74 = .ok (.iload_n 3, 1) := by decide +kernel
theorem dX11_cell_75 : decode cX11_cell 75 = .ok (.invokestatic 83, 3) := by decide +kernel
theorem dX11_cell_78 : decode cX11_cell 78 = .ok (.iaload, 1) := by decide +kernel
theorem dX11_cell_79 : decode cX11_cell 79 = .ok (.ireturn, 1) := by decide +kernel
theorem dX11_glider_0 : decode cX11_glider 0 = .ok (.iload_n 1, 1) := by decide +kernel
theorem dX11_glider_1 : decode cX11_glider 1 = .ok (.ifCond .lt 29, 3) := by decide +kernel
theorem dX11_glider_4 : decode cX11_glider 4 = .ok (.iload_n 1, 1) := by decide +kernel
theorem dX11_glider_5 : decode cX11_glider 5 = .ok (.iconst 3, 1) := by decide +kernel
theorem dX11_glider_6 : decode cX11_glider 6 = .ok (.if_icmp .gt 24, 3) := by decide +kernel
theorem dX11_glider_9 : decode cX11_glider 9 = .ok (.iload_n 2, 1) := by decide +kernel
theorem dX11_glider_10 : decode cX11_glider 10 = .ok (.iload_n 3, 1) := by decide +kernel
theorem dX11_glider_11 : decode cX11_glider 11 = .ok (.invokestatic 62, 3) := by decide +kernel
theorem dX11_glider_14 : decode cX11_glider 14 = .ok (.ifCond .eq 16, 3) := by decide +kernel
theorem dX11_glider_17 : decode cX11_glider 17 = .ok (.iload 4, 2) := by decide +kernel
theorem dX11_glider_19 : decode cX11_glider 19 = .ok (.ifCond .lt 11, 3) := by decide +kernel
theorem dX11_glider_22 : decode cX11_glider 22 = .ok (.iload 4, 2) := by decide +kernel
theorem dX11_glider_24 : decode cX11_glider 24 = .ok (.sipush 999, 3) := by decide +kernel
theorem dX11_glider_27 : decode cX11_glider 27 = .ok (.if_icmp .le 5, 3) := by decide +kernel
theorem dX11_glider_30 : decode cX11_glider 30 = .ok (.iconst (-1), 1) := by decide +kernel
theorem dX11_glider_31 : decode cX11_glider 31 = .ok (.ireturn, 1) := by decide +kernel
theorem dX11_glider_32 : decode cX11_glider 32 = .ok (.aload_n 0, 1) := by decide +kernel
theorem dX11_glider_33 : decode cX11_glider 33 = .ok (.getfield 12, 3) := by decide +kernel
theorem dX11_glider_36 : decode cX11_glider 36 = .ok (.getfield 112, 3) := by decide +kernel
theorem dX11_glider_39 : decode cX11_glider 39 = .ok (.bipush 8, 2) := by decide +kernel
theorem dX11_glider_41 : decode cX11_glider 41 = .ok (.if_icmp .lt 6, 3) := by decide +kernel
theorem dX11_glider_44 : decode cX11_glider 44 = .ok (.bipush (-2), 2) := by decide +kernel
theorem dX11_glider_46 : decode cX11_glider 46 = .ok (.ireturn, 1) := by decide +kernel
theorem dX11_glider_47 : decode cX11_glider 47 = .ok (.aload_n 0, 1) := by decide +kernel
theorem dX11_glider_48 : decode cX11_glider 48 = .ok (.getfield 12, 3) := by decide +kernel
theorem dX11_glider_51 : decode cX11_glider 51 = .ok (.getfield 52, 3) := by decide +kernel
theorem dX11_glider_54 : decode cX11_glider 54 = .ok (.getfield 116, 3) := by decide +kernel
theorem dX11_glider_57 : decode cX11_glider 57 = .ok (.iload_n 2, 1) := by decide +kernel
theorem dX11_glider_58 : decode cX11_glider 58 = .ok (.iload_n 3, 1) := by decide +kernel
theorem dX11_glider_59 : decode cX11_glider 59 = .ok (.invokestatic 79, 3) := by decide +kernel
theorem dX11_glider_62 : decode cX11_glider 62 = .ok (.iaload, 1) := by decide +kernel
theorem dX11_glider_63 : decode cX11_glider 63 = .ok (.ifCond .ne 6, 3) := by decide +kernel
theorem dX11_glider_66 : decode cX11_glider 66 = .ok (.bipush (-3), 2) := by decide +kernel
theorem dX11_glider_68 : decode cX11_glider 68 = .ok (.ireturn, 1) := by decide +kernel
theorem dX11_glider_69 : decode cX11_glider 69 = .ok (.aload_n 0, 1) := by decide +kernel
theorem dX11_glider_70 : decode cX11_glider 70 = .ok (.getfield 12, 3) := by decide +kernel
theorem dX11_glider_73 : decode cX11_glider 73 = .ok (.iload_n 1, 1) := by decide +kernel
theorem dX11_glider_74 : decode cX11_glider 74 = .ok (.iload_n 2, 1) := by decide +kernel
theorem dX11_glider_75 : decode cX11_glider 75 = .ok (.iload_n 3, 1) := by decide +kernel
theorem dX11_glider_76 : decode cX11_glider 76 = .ok (.invokestatic 79, 3) := by decide +kernel
theorem dX11_glider_79 : decode cX11_glider 79 = .ok (.iload 4, 2) := by decide +kernel
theorem dX11_glider_81 : decode cX11_glider 81 = .ok (.invokevirtual 119, 3) := by decide +kernel
theorem dX11_glider_84 : decode cX11_glider 84 = .ok (.ireturn, 1) := by decide +kernel
theorem dX11_about_0 : decode cX11_about 0 = .ok (.aload_n 0, 1) := by decide +kernel
theorem dX11_about_1 : decode cX11_about 1 = .ok (.getfield 12, 3) := by decide +kernel
theorem dX11_about_4 : decode cX11_about 4 = .ok (.iload_n 1, 1) := by decide +kernel
theorem dX11_about_5 : decode cX11_about 5 = .ok (.invokevirtual 123, 3) := by decide +kernel
theorem dX11_about_8 : decode cX11_about 8 = .ok (.astore_n 3, 1) := by decide +kernel
theorem dX11_about_9 : decode cX11_about 9 = .ok (.aload_n 3, 1) := by decide +kernel
theorem dX11_about_10 : decode cX11_about 10 = .ok (.ifnonnull 5, 3) := by decide +kernel
theorem dX11_about_13 : decode cX11_about 13 = .ok (.iconst (-1), 1) := by decide +kernel
theorem dX11_about_14 : decode cX11_about 14 = .ok (.ireturn, 1) := by decide +kernel
theorem dX11_about_15 : decode cX11_about 15 = .ok (.aload_n 3, 1) := by decide +kernel
theorem dX11_about_16 : decode cX11_about 16 = .ok (.iload_n 2, 1) := by decide +kernel
theorem dX11_about_17 : decode cX11_about 17 = .ok (.invokestatic 127, 3) := by decide +kernel
theorem dX11_about_20 : decode cX11_about 20 = .ok (.ireturn, 1) := by decide +kernel
theorem dX11_can_0 : decode cX11_can 0 = .ok (.aload_n 0, 1) := by decide +kernel
theorem dX11_can_1 : decode cX11_can 1 = .ok (.getfield 12, 3) := by decide +kernel
theorem dX11_can_4 : decode cX11_can 4 = .ok (.iload_n 1, 1) := by decide +kernel
theorem dX11_can_5 : decode cX11_can 5 = .ok (.invokevirtual 123, 3) := by decide +kernel
theorem dX11_can_8 : decode cX11_can 8 = .ok (.astore_n 3, 1) := by decide +kernel
theorem dX11_can_9 : decode cX11_can 9 = .ok (.aload_n 3, 1) := by decide +kernel
theorem dX11_can_10 : decode cX11_can 10 = .ok (.ifnull 12, 3) := by decide +kernel
theorem dX11_can_13 : decode cX11_can 13 = .ok (.iload_n 2, 1) := by decide +kernel
theorem dX11_can_14 : decode cX11_can 14 = .ok (.ifCond .lt 8, 3) := by decide +kernel
theorem dX11_can_17 : decode cX11_can 17 = .ok (.iload_n 2, 1) := by decide +kernel
theorem dX11_can_18 : decode cX11_can 18 = .ok (.iconst 5, 1) := by decide +kernel
theorem dX11_can_19 : decode cX11_can 19 = .ok (.if_icmp .le 5, 3) := by decide +kernel
theorem dX11_can_22 : decode cX11_can 22 = .ok (.iconst (-1), 1) := by decide +kernel
theorem dX11_can_23 : decode cX11_can 23 = .ok (.ireturn, 1) := by decide +kernel
theorem dX11_can_24 : decode cX11_can 24 = .ok (.iload_n 2, 1) := by decide +kernel
theorem dX11_can_25 : decode cX11_can 25 = .ok (.ifCond .ne 8, 3) := by decide +kernel
theorem dX11_can_28 : decode cX11_can 28 = .ok (.aload_n 3, 1) := by decide +kernel
theorem dX11_can_29 : decode cX11_can 29 = .ok (.invokevirtual 131, 3) := by decide +kernel
theorem dX11_can_32 : decode cX11_can 32 = .ok (.ireturn, 1) := by decide +kernel
theorem dX11_can_33 : decode cX11_can 33 = .ok (.iload_n 2, 1) := by decide +kernel
theorem dX11_can_34 : decode cX11_can 34 = .ok (.iconst 1, 1) := by decide +kernel
theorem dX11_can_35 : decode cX11_can 35 = .ok (.if_icmp .ne 8, 3) := by decide +kernel
theorem dX11_can_38 : decode cX11_can 38 = .ok (.aload_n 3, 1) := by decide +kernel
theorem dX11_can_39 : decode cX11_can 39 = .ok (.invokevirtual 137, 3) := by decide +kernel
theorem dX11_can_42 : decode cX11_can 42 = .ok (.ireturn, 1) := by decide +kernel
theorem dX11_can_43 : decode cX11_can 43 = .ok (.iload_n 2, 1) := by decide +kernel
theorem dX11_can_44 : decode cX11_can 44 = .ok (.iconst 2, 1) := by decide +kernel
theorem dX11_can_45 : decode cX11_can 45 = .ok (.isub, 1) := by decide +kernel
theorem dX11_can_46 : decode cX11_can 46 = .ok (.aload_n 3, 1) := by decide +kernel
theorem dX11_can_47 : decode cX11_can 47 = .ok (.invokevirtual 131, 3) := by decide +kernel
theorem dX11_can_50 : decode cX11_can 50 = .ok (.if_icmp .le 8, 3) := by decide +kernel
theorem dX11_can_53 : decode cX11_can 53 = .ok (.bipush (-3), 2) := by decide +kernel
theorem dX11_can_55 : decode cX11_can 55 = .ok (.goto 10, 3) := by decide +kernel
theorem dX11_can_58 : decode cX11_can 58 = .ok (.aload_n 3, 1) := by decide +kernel
theorem dX11_can_59 : decode cX11_can 59 = .ok (.iload_n 2, 1) := by decide +kernel
theorem dX11_can_60 : decode cX11_can 60 = .ok (.iconst 2, 1) := by decide +kernel
theorem dX11_can_61 : decode cX11_can 61 = .ok (.isub, 1) := by decide +kernel
theorem dX11_can_62 : decode cX11_can 62 = .ok (.invokevirtual 140, 3) := by decide +kernel
theorem dX11_can_65 : decode cX11_can 65 = .ok (.ireturn, 1) := by decide +kernel
theorem dX11_leak_0 : decode cX11_leak 0 = .ok (.aload_n 0, 1) := by decide +kernel
theorem dX11_leak_1 : decode cX11_leak 1 = .ok (.getfield 12, 3) := by decide +kernel
theorem dX11_leak_4 : decode cX11_leak 4 = .ok (.iload_n 1, 1) := by decide +kernel
theorem dX11_leak_5 : decode cX11_leak 5 = .ok (.invokevirtual 123, 3) := by decide +kernel
theorem dX11_leak_8 : decode cX11_leak 8 = .ok (.astore_n 3, 1) := by decide +kernel
theorem dX11_leak_9 : decode cX11_leak 9 = .ok (.aload_n 3, 1) := by decide +kernel
theorem dX11_leak_10 : decode cX11_leak 10 = .ok (.ifnonnull 5, 3) := by decide +kernel
theorem dX11_leak_13 : decode cX11_leak 13 = .ok (.iconst (-1), 1) := by decide +kernel
theorem dX11_leak_14 : decode cX11_leak 14 = .ok (.ireturn, 1) := by decide +kernel
theorem dX11_leak_15 : decode cX11_leak 15 = .ok (.aload_n 3, 1) := by decide +kernel
theorem dX11_leak_16 : decode cX11_leak 16 = .ok (.getfield 144, 3) := by decide +kernel
theorem dX11_leak_19 : decode cX11_leak 19 = .ok (.istore 4, 2) := by decide +kernel
theorem dX11_leak_21 : decode cX11_leak 21 = .ok (.aload_n 3, 1) := by decide +kernel
theorem dX11_leak_22 : decode cX11_leak 22 = .ok (.iload_n 2, 1) := by decide +kernel
theorem dX11_leak_23 : decode cX11_leak 23 = .ok (.putfield 144, 3) := by decide +kernel
theorem dX11_leak_26 : decode cX11_leak 26 = .ok (.iload 4, 2) := by decide +kernel
theorem dX11_leak_28 : decode cX11_leak 28 = .ok (.iload_n 2, 1) := by decide +kernel
theorem dX11_leak_29 : decode cX11_leak 29 = .ok (.if_icmp .ne 7, 3) := by decide +kernel
theorem dX11_leak_32 : decode cX11_leak 32 = .ok (.iconst 0, 1) := by decide +kernel
theorem dX11_leak_33 : decode cX11_leak 33 = .ok (.goto 4, 3) := by decide +kernel
theorem dX11_leak_36 : decode cX11_leak 36 = .ok (.iconst 1, 1) := by decide +kernel
theorem dX11_leak_37 : decode cX11_leak 37 = .ok (.ireturn, 1) := by decide +kernel
theorem dX11_dive_0 : decode cX11_dive 0 = .ok (.aload_n 0, 1) := by decide +kernel
theorem dX11_dive_1 : decode cX11_dive 1 = .ok (.getfield 12, 3) := by decide +kernel
theorem dX11_dive_4 : decode cX11_dive 4 = .ok (.iload_n 1, 1) := by decide +kernel
theorem dX11_dive_5 : decode cX11_dive 5 = .ok (.invokevirtual 123, 3) := by decide +kernel
theorem dX11_dive_8 : decode cX11_dive 8 = .ok (.astore 5, 2) := by decide +kernel
theorem dX11_dive_10 : decode cX11_dive 10 = .ok (.aload 5, 2) := by decide +kernel
theorem dX11_dive_12 : decode cX11_dive 12 = .ok (.ifnull 15, 3) := by decide +kernel
theorem dX11_dive_15 : decode cX11_dive 15 = .ok (.aload 5, 2) := by decide +kernel
theorem dX11_dive_17 : decode cX11_dive 17 = .ok (.iload_n 2, 1) := by decide +kernel
theorem dX11_dive_18 : decode cX11_dive 18 = .ok (.iload_n 3, 1) := by decide +kernel
theorem dX11_dive_19 : decode cX11_dive 19 = .ok (.iload 4, 2) := by decide +kernel
theorem dX11_dive_21 : decode cX11_dive 21 = .ok (.invokevirtual 148, 3) := by decide +kernel
theorem dX11_dive_24 : decode cX11_dive 24 = .ok (.ifCond .ne 5, 3) := by decide +kernel
theorem dX11_dive_27 : decode cX11_dive 27 = .ok (.iconst (-1), 1) := by decide +kernel
theorem dX11_dive_28 : decode cX11_dive 28 = .ok (.ireturn, 1) := by decide +kernel
theorem dX11_dive_29 : decode cX11_dive 29 = .ok (.aload 5, 2) := by decide +kernel
theorem dX11_dive_31 : decode cX11_dive 31 = .ok (.getfield 152, 3) := by decide +kernel
theorem dX11_dive_34 : decode cX11_dive 34 = .ok (.ifCond .ne 17, 3) := by decide +kernel
theorem dX11_dive_37 : decode cX11_dive 37 = .ok (.aload 5, 2) := by decide +kernel
theorem dX11_dive_39 : decode cX11_dive 39 = .ok (.getfield 155, 3) := by decide +kernel
theorem dX11_dive_42 : decode cX11_dive 42 = .ok (.aload 5, 2) := by decide +kernel
theorem dX11_dive_44 : decode cX11_dive 44 = .ok (.iload_n 2, 1) := by decide +kernel
theorem dX11_dive_45 : decode cX11_dive 45 = .ok (.invokevirtual 140, 3) := by decide +kernel
theorem dX11_dive_48 : decode cX11_dive 48 = .ok (.if_icmp .ge 6, 3) := by decide +kernel
theorem dX11_dive_51 : decode cX11_dive 51 = .ok (.bipush (-3), 2) := by decide +kernel
theorem dX11_dive_53 : decode cX11_dive 53 = .ok (.ireturn, 1) := by decide +kernel
theorem dX11_dive_54 : decode cX11_dive 54 = .ok (.aload_n 0, 1) := by decide +kernel
theorem dX11_dive_55 : decode cX11_dive 55 = .ok (.getfield 12, 3) := by decide +kernel
theorem dX11_dive_58 : decode cX11_dive 58 = .ok (.aload 5, 2) := by decide +kernel
theorem dX11_dive_60 : decode cX11_dive 60 = .ok (.iload_n 2, 1) := by decide +kernel
theorem dX11_dive_61 : decode cX11_dive 61 = .ok (.iload_n 3, 1) := by decide +kernel
theorem dX11_dive_62 : decode cX11_dive 62 = .ok (.iload 4, 2) := by decide +kernel
theorem dX11_dive_64 : decode cX11_dive 64 = .ok (.invokevirtual 158, 3) := by decide +kernel
theorem dX11_dive_67 : decode cX11_dive 67 = .ok (.ireturn, 1) := by decide +kernel
theorem dX11_fault_0 : decode cX11_fault 0 = .ok (.aload_n 0, 1) := by decide +kernel
theorem dX11_fault_1 : decode cX11_fault 1 = .ok (.iload_n 1, 1) := by decide +kernel
theorem dX11_fault_2 : decode cX11_fault 2 = .ok (.invokevirtual 162, 3) := by decide +kernel
theorem dX11_fault_5 : decode cX11_fault 5 = .ok (.astore_n 2, 1) := by decide +kernel
theorem dX11_fault_6 : decode cX11_fault 6 = .ok (.aload_n 2, 1) := by decide +kernel
theorem dX11_fault_7 : decode cX11_fault 7 = .ok (.ifnonnull 5, 3) := by decide +kernel
theorem dX11_fault_10 : decode cX11_fault 10 = .ok (.iconst (-1), 1) := by decide +kernel
theorem dX11_fault_11 : decode cX11_fault 11 = .ok (.ireturn, 1) := by decide +kernel
theorem dX11_fault_12 : decode cX11_fault 12 = .ok (.aload_n 2, 1) := by decide +kernel
theorem dX11_fault_13 : decode cX11_fault 13 = .ok (.invokevirtual 166, 3) := by decide +kernel
theorem dX11_fault_16 : decode cX11_fault 16 = .ok (.istore_n 3, 1) := by decide +kernel
theorem dX11_fault_17 : decode cX11_fault 17 = .ok (.iload_n 3, 1) := by decide +kernel
theorem dX11_fault_18 : decode cX11_fault 18 = .ok (.ifCond .eq 7, 3) := by decide +kernel
theorem dX11_fault_21 : decode cX11_fault 21 = .ok (.iload_n 3, 1) := by decide +kernel
theorem dX11_fault_22 : decode cX11_fault 22 = .ok (.goto 18, 3) := by decide +kernel
theorem dX11_fault_25 : decode cX11_fault 25 = .ok (.aload_n 0, 1) := by decide +kernel
theorem dX11_fault_26 : decode cX11_fault 26 = .ok (.getfield 28, 3) := by decide +kernel
theorem dX11_fault_29 : decode cX11_fault 29 = .ok (.aload_n 2, 1) := by decide +kernel
theorem dX11_fault_30 : decode cX11_fault 30 = .ok (.getfield 169, 3) := by decide +kernel
theorem dX11_fault_33 : decode cX11_fault 33 = .ok (.aload_n 2, 1) := by decide +kernel
theorem dX11_fault_34 : decode cX11_fault 34 = .ok (.getfield 172, 3) := by decide +kernel
theorem dX11_fault_37 : decode cX11_fault 37 = .ok (.invokevirtual 175, 3) := by decide +kernel
theorem dX11_fault_40 : decode cX11_fault 40 = .ok (.ireturn, 1) := by decide +kernel
theorem dX11_order_0 : decode cX11_order 0 = .ok (.aload_n 0, 1) := by decide +kernel
theorem dX11_order_1 : decode cX11_order 1 = .ok (.iload_n 1, 1) := by decide +kernel
theorem dX11_order_2 : decode cX11_order 2 = .ok (.invokevirtual 162, 3) := by decide +kernel
theorem dX11_order_5 : decode cX11_order 5 = .ok (.astore_n 2, 1) := by decide +kernel
theorem dX11_order_6 : decode cX11_order 6 = .ok (.aload_n 2, 1) := by decide +kernel
theorem dX11_order_7 : decode cX11_order 7 = .ok (.ifnonnull 5, 3) := by decide +kernel
theorem dX11_order_10 : decode cX11_order 10 = .ok (.iconst (-1), 1) := by decide +kernel
theorem dX11_order_11 : decode cX11_order 11 = .ok (.ireturn, 1) := by decide +kernel
theorem dX11_order_12 : decode cX11_order 12 = .ok (.aload_n 0, 1) := by decide +kernel
theorem dX11_order_13 : decode cX11_order 13 = .ok (.getfield 12, 3) := by decide +kernel
theorem dX11_order_16 : decode cX11_order 16 = .ok (.getfield 179, 3) := by decide +kernel
theorem dX11_order_19 : decode cX11_order 19 = .ok (.bipush 10, 2) := by decide +kernel
theorem dX11_order_21 : decode cX11_order 21 = .ok (.if_icmp .lt 6, 3) := by decide +kernel
theorem dX11_order_24 : decode cX11_order 24 = .ok (.bipush (-2), 2) := by decide +kernel
theorem dX11_order_26 : decode cX11_order 26 = .ok (.ireturn, 1) := by decide +kernel
theorem dX11_order_27 : decode cX11_order 27 = .ok (.aload_n 2, 1) := by decide +kernel
theorem dX11_order_28 : decode cX11_order 28 = .ok (.invokevirtual 166, 3) := by decide +kernel
theorem dX11_order_31 : decode cX11_order 31 = .ok (.istore_n 3, 1) := by decide +kernel
theorem dX11_order_32 : decode cX11_order 32 = .ok (.iload_n 3, 1) := by decide +kernel
theorem dX11_order_33 : decode cX11_order 33 = .ok (.ifCond .eq 5, 3) := by decide +kernel
theorem dX11_order_36 : decode cX11_order 36 = .ok (.iload_n 3, 1) := by decide +kernel
theorem dX11_order_37 : decode cX11_order 37 = .ok (.ireturn, 1) := by decide +kernel
theorem dX11_order_38 : decode cX11_order 38 = .ok (.aload_n 0, 1) := by decide +kernel
theorem dX11_order_39 : decode cX11_order 39 = .ok (.getfield 28, 3) := by decide +kernel
theorem dX11_order_42 : decode cX11_order 42 = .ok (.aload_n 2, 1) := by decide +kernel
theorem dX11_order_43 : decode cX11_order 43 = .ok (.getfield 169, 3) := by decide +kernel
theorem dX11_order_46 : decode cX11_order 46 = .ok (.aload_n 2, 1) := by decide +kernel
theorem dX11_order_47 : decode cX11_order 47 = .ok (.getfield 172, 3) := by decide +kernel
theorem dX11_order_50 : decode cX11_order 50 = .ok (.invokevirtual 175, 3) := by decide +kernel
theorem dX11_order_53 : decode cX11_order 53 = .ok (.istore 4, 2) := by decide +kernel
theorem dX11_order_55 : decode cX11_order 55 = .ok (.iload 4, 2) := by decide +kernel
theorem dX11_order_57 : decode cX11_order 57 = .ok (.bipush (-4), 2) := by decide +kernel
theorem dX11_order_59 : decode cX11_order 59 = .ok (.if_icmp .eq 9, 3) := by decide +kernel
theorem dX11_order_62 : decode cX11_order 62 = .ok (.bipush (-100), 2) := by decide +kernel
theorem dX11_order_64 : decode cX11_order 64 = .ok (.iload 4, 2) := by decide +kernel
theorem dX11_order_66 : decode cX11_order 66 = .ok (.isub, 1) := by decide +kernel
theorem dX11_order_67 : decode cX11_order 67 = .ok (.ireturn, 1) := by decide +kernel
theorem dX11_order_68 : decode cX11_order 68 = .ok (.aload_n 0, 1) := by decide +kernel
theorem dX11_order_69 : decode cX11_order 69 = .ok (.getfield 12, 3) := by decide +kernel
theorem dX11_order_72 : decode cX11_order 72 = .ok (.getfield 182, 3) := by decide +kernel
theorem dX11_order_75 : decode cX11_order 75 = .ok (.aload_n 0, 1) := by decide +kernel
theorem dX11_order_76 : decode cX11_order 76 = .ok (.getfield 12, 3) := by decide +kernel
theorem dX11_order_79 : decode cX11_order 79 = .ok (.getfield 179, 3) := by decide +kernel
theorem dX11_order_82 : decode cX11_order 82 = .ok (.aload_n 0, 1) := by decide +kernel
theorem dX11_order_83 : decode cX11_order 83 = .ok (.getfield 28, 3) := by decide +kernel
theorem dX11_order_86 : decode cX11_order 86 = .ok (.invokevirtual 186, 3) := by decide +kernel
theorem dX11_order_89 : decode cX11_order 89 = .ok (.aastore, 1) := by decide +kernel
theorem dX11_order_90 : decode cX11_order 90 = .ok (.aload_n 0, 1) := by decide +kernel
theorem dX11_order_91 : decode cX11_order 91 = .ok (.getfield 12, 3) := by decide +kernel
theorem dX11_order_94 : decode cX11_order 94 = .ok (.dup, 1) := by decide +kernel
theorem dX11_order_95 : decode cX11_order 95 = .ok (.getfield 179, 3) := by decide +kernel
theorem dX11_order_98 : decode cX11_order 98 = .ok (.dup_x1, 1) := by decide +kernel
theorem dX11_order_99 : decode cX11_order 99 = .ok (.iconst 1, 1) := by decide +kernel
theorem dX11_order_100 : decode cX11_order 100 = .ok (.iadd, 1) := by decide +kernel
theorem dX11_order_101 : decode cX11_order 101 = .ok (.putfield 179, 3) := by decide +kernel
theorem dX11_order_104 : decode cX11_order 104 = .ok (.ireturn, 1) := by decide +kernel
theorem dX11_letter_0 : decode cX11_letter 0 = .ok (.aload_n 0, 1) := by decide +kernel
theorem dX11_letter_1 : decode cX11_letter 1 = .ok (.getfield 12, 3) := by decide +kernel
theorem dX11_letter_4 : decode cX11_letter 4 = .ok (.iload_n 1, 1) := by decide +kernel
theorem dX11_letter_5 : decode cX11_letter 5 = .ok (.invokevirtual 123, 3) := by decide +kernel
theorem dX11_letter_8 : decode cX11_letter 8 = .ok (.ifnull 18, 3) := by decide +kernel
theorem dX11_letter_11 : decode cX11_letter 11 = .ok (.iload_n 2, 1) := by decide +kernel
theorem dX11_letter_12 : decode cX11_letter 12 = .ok (.ifCond .lt 14, 3) := by decide +kernel
theorem dX11_letter_15 : decode cX11_letter 15 = .ok (.iload_n 2, 1) := by decide +kernel
theorem dX11_letter_16 : decode cX11_letter 16 = .ok (.aload_n 0, 1) := by decide +kernel
theorem dX11_letter_17 : decode cX11_letter 17 = .ok (.getfield 12, 3) := by decide +kernel
theorem dX11_letter_20 : decode cX11_letter 20 = .ok (.getfield 179, 3) := by decide +kernel
theorem dX11_letter_23 : decode cX11_letter 23 = .ok (.if_icmp .lt 5, 3) := by decide +kernel
theorem dX11_letter_26 : decode cX11_letter 26 = .ok (.iconst (-1), 1) := by decide +kernel
theorem dX11_letter_27 : decode cX11_letter 27 = .ok (.ireturn, 1) := by decide +kernel
theorem dX11_letter_28 : decode cX11_letter 28 = .ok (.aload_n 0, 1) := by decide +kernel
theorem dX11_letter_29 : decode cX11_letter 29 = .ok (.getfield 12, 3) := by decide +kernel
theorem dX11_letter_32 : decode cX11_letter 32 = .ok (.getfield 190, 3) := by decide +kernel
theorem dX11_letter_35 : decode cX11_letter 35 = .ok (.getfield 194, 3) := by decide +kernel
theorem dX11_letter_38 : decode cX11_letter 38 = .ok (.bipush 60, 2) := by decide +kernel
theorem dX11_letter_40 : decode cX11_letter 40 = .ok (.if_icmp .lt 6, 3) := by decide +kernel
theorem dX11_letter_43 : decode cX11_letter 43 = .ok (.bipush (-2), 2) := by decide +kernel
theorem dX11_letter_45 : decode cX11_letter 45 = .ok (.ireturn, 1) := by decide +kernel
theorem dX11_letter_46 : decode cX11_letter 46 = .ok (.aload_n 0, 1) := by decide +kernel
theorem dX11_letter_47 : decode cX11_letter 47 = .ok (.getfield 12, 3) := by decide +kernel
theorem dX11_letter_50 : decode cX11_letter 50 = .ok (.getfield 190, 3) := by decide +kernel
theorem dX11_letter_53 : decode cX11_letter 53 = .ok (.iload_n 1, 1) := by decide +kernel
theorem dX11_letter_54 : decode cX11_letter 54 = .ok (.iload_n 2, 1) := by decide +kernel
theorem dX11_letter_55 : decode cX11_letter 55 = .ok (.aload_n 0, 1) := by decide +kernel
theorem dX11_letter_56 : decode cX11_letter 56 = .ok (.getfield 12, 3) := by decide +kernel
theorem dX11_letter_59 : decode cX11_letter 59 = .ok (.getfield 199, 3) := by decide +kernel
theorem dX11_letter_62 : decode cX11_letter 62 = .ok (.invokevirtual 202, 3) := by decide +kernel
theorem dX11_letter_65 : decode cX11_letter 65 = .ok (.ireturn, 1) := by decide +kernel
theorem dX11_waiting_0 : decode cX11_waiting 0 = .ok (.aload_n 0, 1) := by decide +kernel
theorem dX11_waiting_1 : decode cX11_waiting 1 = .ok (.getfield 12, 3) := by decide +kernel
theorem dX11_waiting_4 : decode cX11_waiting 4 = .ok (.iload_n 1, 1) := by decide +kernel
theorem dX11_waiting_5 : decode cX11_waiting 5 = .ok (.invokevirtual 123, 3) := by decide +kernel
theorem dX11_waiting_8 : decode cX11_waiting 8 = .ok (.ifnonnull 5, 3) := by decide +kernel
theorem dX11_waiting_11 : decode cX11_waiting 11 = .ok (.iconst (-1), 1) := by decide +kernel
theorem dX11_waiting_12 : decode cX11_waiting 12 = .ok (.ireturn, 1) := by decide +kernel
theorem dX11_waiting_13 : decode cX11_waiting 13 = .ok (.aload_n 0, 1) := by decide +kernel
theorem dX11_waiting_14 : decode cX11_waiting 14 = .ok (.getfield 12, 3) := by decide +kernel
theorem dX11_waiting_17 : decode cX11_waiting 17 = .ok (.getfield 190, 3) := by decide +kernel
theorem dX11_waiting_20 : decode cX11_waiting 20 = .ok (.iload_n 1, 1) := by decide +kernel
theorem dX11_waiting_21 : decode cX11_waiting 21 = .ok (.invokevirtual 205, 3) := by decide +kernel
theorem dX11_waiting_24 : decode cX11_waiting 24 = .ok (.ireturn, 1) := by decide +kernel
theorem dX11_deaf_0 : decode cX11_deaf 0 = .ok (.iload_n 1, 1) := by decide +kernel
theorem dX11_deaf_1 : decode cX11_deaf 1 = .ok (.ifCond .lt 10, 3) := by decide +kernel
theorem dX11_deaf_4 : decode cX11_deaf 4 = .ok (.iload_n 1, 1) := by decide +kernel
theorem dX11_deaf_5 : decode cX11_deaf 5 = .ok (.sipush 400, 3) := by decide +kernel
theorem dX11_deaf_8 : decode cX11_deaf 8 = .ok (.if_icmp .le 5, 3) := by decide +kernel
theorem dX11_deaf_11 : decode cX11_deaf 11 = .ok (.iconst (-1), 1) := by decide +kernel
theorem dX11_deaf_12 : decode cX11_deaf 12 = .ok (.ireturn, 1) := by decide +kernel
theorem dX11_deaf_13 : decode cX11_deaf 13 = .ok (.aload_n 0, 1) := by decide +kernel
theorem dX11_deaf_14 : decode cX11_deaf 14 = .ok (.getfield 12, 3) := by decide +kernel
theorem dX11_deaf_17 : decode cX11_deaf 17 = .ok (.getfield 208, 3) := by decide +kernel
theorem dX11_deaf_20 : decode cX11_deaf 20 = .ok (.iload_n 1, 1) := by decide +kernel
theorem dX11_deaf_21 : decode cX11_deaf 21 = .ok (.iload_n 2, 1) := by decide +kernel
theorem dX11_deaf_22 : decode cX11_deaf 22 = .ok (.ifCond .eq 7, 3) := by decide +kernel
theorem dX11_deaf_25 : decode cX11_deaf 25 = .ok (.iconst 1, 1) := by decide +kernel
theorem dX11_deaf_26 : decode cX11_deaf 26 = .ok (.goto 4, 3) := by decide +kernel
theorem dX11_deaf_29 : decode cX11_deaf 29 = .ok (.iconst 0, 1) := by decide +kernel
theorem dX11_deaf_30 : decode cX11_deaf 30 = .ok (.invokestatic 98, 3) := by decide +kernel
theorem dX11_deaf_33 : decode cX11_deaf 33 = .ok (.ireturn, 1) := by decide +kernel
theorem dX11_rule_0 : decode cX11_rule 0 = .ok (.aload_n 0, 1) := by decide +kernel
theorem dX11_rule_1 : decode cX11_rule 1 = .ok (.getfield 12, 3) := by decide +kernel
theorem dX11_rule_4 : decode cX11_rule 4 = .ok (.iload_n 1, 1) := by decide +kernel
theorem dX11_rule_5 : decode cX11_rule 5 = .ok (.invokevirtual 123, 3) := by decide +kernel
theorem dX11_rule_8 : decode cX11_rule 8 = .ok (.astore_n 2, 1) := by decide +kernel
theorem dX11_rule_9 : decode cX11_rule 9 = .ok (.aload_n 2, 1) := by decide +kernel
theorem dX11_rule_10 : decode cX11_rule 10 = .ok (.ifnonnull 5, 3) := by decide +kernel
theorem dX11_rule_13 : decode cX11_rule 13 = .ok (.iconst (-1), 1) := by decide +kernel
theorem dX11_rule_14 : decode cX11_rule 14 = .ok (.ireturn, 1) := by decide +kernel
theorem dX11_rule_15 : decode cX11_rule 15 = .ok (.aload_n 0, 1) := by decide +kernel
theorem dX11_rule_16 : decode cX11_rule 16 = .ok (.getfield 12, 3) := by decide +kernel
theorem dX11_rule_19 : decode cX11_rule 19 = .ok (.aload_n 2, 1) := by decide +kernel
theorem dX11_rule_20 : decode cX11_rule 20 = .ok (.invokevirtual 211, 3) := by decide +kernel
theorem dX11_rule_23 : decode cX11_rule 23 = .ok (.astore_n 3, 1) := by decide +kernel
theorem dX11_rule_24 : decode cX11_rule 24 = .ok (.aload_n 2, 1) := by decide +kernel
theorem dX11_rule_25 : decode cX11_rule 25 = .ok (.getfield 152, 3) := by decide +kernel
theorem dX11_rule_28 : decode cX11_rule 28 = .ok (.ifCond .ne 7, 3) := by decide +kernel
theorem dX11_rule_31 : decode cX11_rule 31 = .ok (.aload_n 3, 1) := by decide +kernel
theorem dX11_rule_32 : decode cX11_rule 32 = .ok (.ifnonnull 6, 3) := by decide +kernel
theorem dX11_rule_35 : decode cX11_rule 35 = .ok (.bipush (-3), 2) := by decide +kernel
theorem dX11_rule_37 : decode cX11_rule 37 = .ok (.ireturn, 1) := by decide +kernel
theorem dX11_rule_38 : decode cX11_rule 38 = .ok (.aload_n 0, 1) := by decide +kernel
theorem dX11_rule_39 : decode cX11_rule 39 = .ok (.getfield 12, 3) := by decide +kernel
theorem dX11_rule_42 : decode cX11_rule 42 = .ok (.aload_n 2, 1) := by decide +kernel
theorem dX11_rule_43 : decode cX11_rule 43 = .ok (.aload_n 3, 1) := by decide +kernel
theorem dX11_rule_44 : decode cX11_rule 44 = .ok (.invokevirtual 215, 3) := by decide +kernel
theorem dX11_rule_47 : decode cX11_rule 47 = .ok (.ireturn, 1) := by decide +kernel
theorem dX11_times_0 : decode cX11_times 0 = .ok (.iload_n 1, 1) := by decide +kernel
theorem dX11_times_1 : decode cX11_times 1 = .ok (.iconst 1, 1) := by decide +kernel
theorem dX11_times_2 : decode cX11_times 2 = .ok (.if_icmp .lt 9, 3) := by decide +kernel
theorem dX11_times_5 : decode cX11_times 5 = .ok (.iload_n 1, 1) := by decide +kernel
theorem dX11_times_6 : decode cX11_times 6 = .ok (.bipush 40, 2) := by decide +kernel
theorem dX11_times_8 : decode cX11_times 8 = .ok (.if_icmp .le 5, 3) := by decide +kernel
theorem dX11_times_11 : decode cX11_times 11 = .ok (.iconst (-1), 1) := by decide +kernel
theorem dX11_times_12 : decode cX11_times 12 = .ok (.ireturn, 1) := by decide +kernel
theorem dX11_times_13 : decode cX11_times 13 = .ok (.aload_n 0, 1) := by decide +kernel
theorem dX11_times_14 : decode cX11_times 14 = .ok (.getfield 12, 3) := by decide +kernel
theorem dX11_times_17 : decode cX11_times 17 = .ok (.getfield 199, 3) := by decide +kernel
theorem dX11_times_20 : decode cX11_times 20 = .ok (.iload_n 1, 1) := by decide +kernel
theorem dX11_times_21 : decode cX11_times 21 = .ok (.iadd, 1) := by decide +kernel
theorem dX11_times_22 : decode cX11_times 22 = .ok (.sipush 400, 3) := by decide +kernel
theorem dX11_times_25 : decode cX11_times 25 = .ok (.if_icmp .le 6, 3) := by decide +kernel
theorem dX11_times_28 : decode cX11_times 28 = .ok (.bipush (-2), 2) := by decide +kernel
theorem dX11_times_30 : decode cX11_times 30 = .ok (.ireturn, 1) := by decide +kernel
theorem dX11_times_31 : decode cX11_times 31 = .ok (.iconst 0, 1) := by decide +kernel
theorem dX11_times_32 : decode cX11_times 32 = .ok (.istore_n 2, 1) := by decide +kernel
theorem dX11_times_33 : decode cX11_times 33 = .ok (.iconst 0, 1) := by decide +kernel
theorem dX11_times_34 : decode cX11_times 34 = .ok (.istore_n 3, 1) := by decide +kernel
theorem dX11_times_35 : decode cX11_times 35 = .ok (.iload_n 3, 1) := by decide +kernel
theorem dX11_times_36 : decode cX11_times 36 = .ok (.iload_n 1, 1) := by decide +kernel
theorem dX11_times_37 : decode cX11_times 37 = .ok (.if_icmp .ge 49, 3) := by decide +kernel
theorem dX11_times_40 : decode cX11_times 40 = .ok (.aload_n 0, 1) := by decide +kernel
theorem dX11_times_41 : decode cX11_times 41 = .ok (.getfield 12, 3) := by decide +kernel
theorem dX11_times_44 : decode cX11_times 44 = .ok (.invokevirtual 219, 3) := by decide +kernel
theorem dX11_times_47 : decode cX11_times 47 = .ok (.iload_n 2, 1) := by decide +kernel
theorem dX11_times_48 : decode cX11_times 48 = .ok (.aload_n 0, 1) := by decide +kernel
theorem dX11_times_49 : decode cX11_times 49 = .ok (.getfield 12, 3) := by decide +kernel
theorem dX11_times_52 : decode cX11_times 52 = .ok (.invokevirtual 222, 3) := by decide +kernel
theorem dX11_times_55 : decode cX11_times 55 = .ok (.iadd, 1) := by decide +kernel
theorem dX11_times_56 : decode cX11_times 56 = .ok (.istore_n 2, 1) := by decide +kernel
theorem dX11_times_57 : decode cX11_times 57 = .ok (.aload_n 0, 1) := by decide +kernel
theorem dX11_times_58 : decode cX11_times 58 = .ok (.getfield 12, 3) := by decide +kernel
theorem dX11_times_61 : decode cX11_times 61 = .ok (.getfield 52, 3) := by decide +kernel
theorem dX11_times_64 : decode cX11_times 64 = .ok (.invokevirtual 225, 3) := by decide +kernel
theorem dX11_times_67 : decode cX11_times 67 = .ok (.aload_n 0, 1) := by decide +kernel
theorem dX11_times_68 : decode cX11_times 68 = .ok (.getfield 12, 3) := by decide +kernel
theorem dX11_times_71 : decode cX11_times 71 = .ok (.dup, 1) := by decide +kernel
theorem dX11_times_72 : decode cX11_times 72 = .ok (.getfield 199, 3) := by decide +kernel
theorem dX11_times_75 : decode cX11_times 75 = .ok (.iconst 1, 1) := by decide +kernel
theorem dX11_times_76 : decode cX11_times 76 = .ok (.iadd, 1) := by decide +kernel
theorem dX11_times_77 : decode cX11_times 77 = .ok (.putfield 199, 3) := by decide +kernel
theorem dX11_times_80 : decode cX11_times 80 = .ok (.iinc 3 1, 3) := by decide +kernel
theorem dX11_times_83 : decode cX11_times 83 = .ok (.goto (-48), 3) := by decide +kernel
theorem dX11_times_86 : decode cX11_times 86 = .ok (.iload_n 2, 1) := by decide +kernel
theorem dX11_times_87 : decode cX11_times 87 = .ok (.ireturn, 1) := by decide +kernel
theorem dX11_known_0 : decode cX11_known 0 = .ok (.aload_n 0, 1) := by decide +kernel
theorem dX11_known_1 : decode cX11_known 1 = .ok (.getfield 12, 3) := by decide +kernel
theorem dX11_known_4 : decode cX11_known 4 = .ok (.iload_n 1, 1) := by decide +kernel
theorem dX11_known_5 : decode cX11_known 5 = .ok (.invokevirtual 123, 3) := by decide +kernel
theorem dX11_known_8 : decode cX11_known 8 = .ok (.astore_n 3, 1) := by decide +kernel
theorem dX11_known_9 : decode cX11_known 9 = .ok (.aload_n 3, 1) := by decide +kernel
theorem dX11_known_10 : decode cX11_known 10 = .ok (.ifnull 14, 3) := by decide +kernel
theorem dX11_known_13 : decode cX11_known 13 = .ok (.iload_n 2, 1) := by decide +kernel
theorem dX11_known_14 : decode cX11_known 14 = .ok (.ifCond .lt 10, 3) := by decide +kernel
theorem dX11_known_17 : decode cX11_known 17 = .ok (.iload_n 2, 1) := by decide +kernel
theorem dX11_known_18 : decode cX11_known 18 = .ok (.sipush 400, 3) := by decide +kernel
theorem dX11_known_21 : decode cX11_known 21 = .ok (.if_icmp .le 5, 3) := by decide +kernel
theorem dX11_known_24 : decode cX11_known 24 = .ok (.iconst (-1), 1) := by decide +kernel
theorem dX11_known_25 : decode cX11_known 25 = .ok (.ireturn, 1) := by decide +kernel
theorem dX11_known_26 : decode cX11_known 26 = .ok (.aload_n 3, 1) := by decide +kernel
theorem dX11_known_27 : decode cX11_known 27 = .ok (.iload_n 2, 1) := by decide +kernel
theorem dX11_known_28 : decode cX11_known 28 = .ok (.invokevirtual 228, 3) := by decide +kernel
theorem dX11_known_31 : decode cX11_known 31 = .ok (.ireturn, 1) := by decide +kernel
theorem dX11_clean_0 : decode cX11_clean 0 = .ok (.aload_n 0, 1) := by decide +kernel
theorem dX11_clean_1 : decode cX11_clean 1 = .ok (.getfield 12, 3) := by decide +kernel
theorem dX11_clean_4 : decode cX11_clean 4 = .ok (.iload_n 1, 1) := by decide +kernel
theorem dX11_clean_5 : decode cX11_clean 5 = .ok (.invokevirtual 123, 3) := by decide +kernel
theorem dX11_clean_8 : decode cX11_clean 8 = .ok (.astore_n 3, 1) := by decide +kernel
theorem dX11_clean_9 : decode cX11_clean 9 = .ok (.aload_n 3, 1) := by decide +kernel
theorem dX11_clean_10 : decode cX11_clean 10 = .ok (.ifnull 17, 3) := by decide +kernel
theorem dX11_clean_13 : decode cX11_clean 13 = .ok (.iload_n 2, 1) := by decide +kernel
theorem dX11_clean_14 : decode cX11_clean 14 = .ok (.sipush (-2000), 3) := by decide +kernel
theorem dX11_clean_17 : decode cX11_clean 17 = .ok (.if_icmp .lt 10, 3) := by decide +kernel
theorem dX11_clean_20 : decode cX11_clean 20 = .ok (.iload_n 2, 1) := by decide +kernel
theorem dX11_clean_21 : decode cX11_clean 21 = .ok (.sipush 2000, 3) := by decide +kernel
theorem dX11_clean_24 : decode cX11_clean 24 = .ok (.if_icmp .le 5, 3) := by decide +kernel
theorem dX11_clean_27 : decode cX11_clean 27 = .ok (.iconst (-1), 1) := by decide +kernel
theorem dX11_clean_28 : decode cX11_clean 28 = .ok (.ireturn, 1) := by decide +kernel
theorem dX11_clean_29 : decode cX11_clean 29 = .ok (.aload_n 0, 1) := by decide +kernel
theorem dX11_clean_30 : decode cX11_clean 30 = .ok (.getfield 12, 3) := by decide +kernel
theorem dX11_clean_33 : decode cX11_clean 33 = .ok (.getfield 231, 3) := by decide +kernel
theorem dX11_clean_36 : decode cX11_clean 36 = .ok (.getfield 235, 3) := by decide +kernel
theorem dX11_clean_39 : decode cX11_clean 39 = .ok (.bipush 60, 2) := by decide +kernel
theorem dX11_clean_41 : decode cX11_clean 41 = .ok (.if_icmp .lt 6, 3) := by decide +kernel
theorem dX11_clean_44 : decode cX11_clean 44 = .ok (.bipush (-2), 2) := by decide +kernel
theorem dX11_clean_46 : decode cX11_clean 46 = .ok (.ireturn, 1) := by decide +kernel
theorem dX11_clean_47 : decode cX11_clean 47 = .ok (.aload_n 0, 1) := by decide +kernel
theorem dX11_clean_48 : decode cX11_clean 48 = .ok (.getfield 12, 3) := by decide +kernel
theorem dX11_clean_51 : decode cX11_clean 51 = .ok (.getfield 231, 3) := by decide +kernel
theorem dX11_clean_54 : decode cX11_clean 54 = .ok (.iload_n 1, 1) := by decide +kernel
theorem dX11_clean_55 : decode cX11_clean 55 = .ok (.iload_n 2, 1) := by decide +kernel
theorem dX11_clean_56 : decode cX11_clean 56 = .ok (.aload_n 3, 1) := by decide +kernel
theorem dX11_clean_57 : decode cX11_clean 57 = .ok (.getfield 240, 3) := by decide +kernel
theorem dX11_clean_60 : decode cX11_clean 60 = .ok (.invokevirtual 243, 3) := by decide +kernel
theorem dX11_clean_63 : decode cX11_clean 63 = .ok (.istore 4, 2) := by decide +kernel
theorem dX11_clean_65 : decode cX11_clean 65 = .ok (.aload_n 3, 1) := by decide +kernel
theorem dX11_clean_66 : decode cX11_clean 66 = .ok (.iconst 0, 1) := by decide +kernel
theorem dX11_clean_67 : decode cX11_clean 67 = .ok (.putfield 240, 3) := by decide +kernel
theorem dX11_clean_70 : decode cX11_clean 70 = .ok (.iload 4, 2) := by decide +kernel
theorem dX11_clean_72 : decode cX11_clean 72 = .ok (.ireturn, 1) := by decide +kernel
theorem dX11_reading_0 : decode cX11_reading 0 = .ok (.aload_n 0, 1) := by decide +kernel
theorem dX11_reading_1 : decode cX11_reading 1 = .ok (.getfield 12, 3) := by decide +kernel
theorem dX11_reading_4 : decode cX11_reading 4 = .ok (.getfield 231, 3) := by decide +kernel
theorem dX11_reading_7 : decode cX11_reading 7 = .ok (.astore_n 3, 1) := by decide +kernel
theorem dX11_reading_8 : decode cX11_reading 8 = .ok (.iload_n 1, 1) := by decide +kernel
theorem dX11_reading_9 : decode cX11_reading 9 = .ok (.ifCond .lt 11, 3) := by decide +kernel
theorem dX11_reading_12 : decode cX11_reading 12 = .ok (.iload_n 1, 1) := by decide +kernel
theorem dX11_reading_13 : decode cX11_reading 13 = .ok (.aload_n 3, 1) := by decide +kernel
theorem dX11_reading_14 : decode cX11_reading 14 = .ok (.getfield 246, 3) := by decide +kernel
theorem dX11_reading_17 : decode cX11_reading 17 = .ok (.if_icmp .lt 5, 3) := by decide +kernel
theorem dX11_reading_20 : decode cX11_reading 20 = .ok (.iconst (-1), 1) := by decide +kernel
theorem dX11_reading_21 : decode cX11_reading 21 = .ok (.ireturn, 1) := by decide +kernel
theorem dX11_reading_22 : decode cX11_reading 22 = .ok (.iload_n 2, 1) := by decide +kernel
theorem dX11_reading_23 : decode cX11_reading 23 = .ok (.tableswitch 68 0 4 #[33, 40, 47, 54, 61], 33) := by decide +kernel
theorem dX11_reading_56 : decode cX11_reading 56 = .ok (.aload_n 3, 1) := by decide +kernel
theorem dX11_reading_57 : decode cX11_reading 57 = .ok (.getfield 249, 3) := by decide +kernel
theorem dX11_reading_60 : decode cX11_reading 60 = .ok (.iload_n 1, 1) := by decide +kernel
theorem dX11_reading_61 : decode cX11_reading 61 = .ok (.iaload, 1) := by decide +kernel
theorem dX11_reading_62 : decode cX11_reading 62 = .ok (.ireturn, 1) := by decide +kernel
theorem dX11_reading_63 : decode cX11_reading 63 = .ok (.aload_n 3, 1) := by decide +kernel
theorem dX11_reading_64 : decode cX11_reading 64 = .ok (.getfield 252, 3) := by decide +kernel
theorem dX11_reading_67 : decode cX11_reading 67 = .ok (.iload_n 1, 1) := by decide +kernel
theorem dX11_reading_68 : decode cX11_reading 68 = .ok (.iaload, 1) := by decide +kernel
theorem dX11_reading_69 : decode cX11_reading 69 = .ok (.ireturn, 1) := by decide +kernel
theorem dX11_reading_70 : decode cX11_reading 70 = .ok (.aload_n 3, 1) := by decide +kernel
theorem dX11_reading_71 : decode cX11_reading 71 = .ok (.getfield 255, 3) := by decide +kernel
theorem dX11_reading_74 : decode cX11_reading 74 = .ok (.iload_n 1, 1) := by decide +kernel
theorem dX11_reading_75 : decode cX11_reading 75 = .ok (.iaload, 1) := by decide +kernel
theorem dX11_reading_76 : decode cX11_reading 76 = .ok (.ireturn, 1) := by decide +kernel
theorem dX11_reading_77 : decode cX11_reading 77 = .ok (.aload_n 3, 1) := by decide +kernel
theorem dX11_reading_78 : decode cX11_reading 78 = .ok (.getfield 258, 3) := by decide +kernel
theorem dX11_reading_81 : decode cX11_reading 81 = .ok (.iload_n 1, 1) := by decide +kernel
theorem dX11_reading_82 : decode cX11_reading 82 = .ok (.iaload, 1) := by decide +kernel
theorem dX11_reading_83 : decode cX11_reading 83 = .ok (.ireturn, 1) := by decide +kernel
theorem dX11_reading_84 : decode cX11_reading 84 = .ok (.aload_n 3, 1) := by decide +kernel
theorem dX11_reading_85 : decode cX11_reading 85 = .ok (.getfield 261, 3) := by decide +kernel
theorem dX11_reading_88 : decode cX11_reading 88 = .ok (.iload_n 1, 1) := by decide +kernel
theorem dX11_reading_89 : decode cX11_reading 89 = .ok (.iaload, 1) := by decide +kernel
theorem dX11_reading_90 : decode cX11_reading 90 = .ok (.ireturn, 1) := by decide +kernel
theorem dX11_reading_91 : decode cX11_reading 91 = .ok (.iconst (-1), 1) := by decide +kernel
theorem dX11_reading_92 : decode cX11_reading 92 = .ok (.ireturn, 1) := by decide +kernel
theorem dX11_read_0 : decode cX11_read 0 = .ok (.iload_n 1, 1) := by decide +kernel
theorem dX11_read_1 : decode cX11_read 1 = .ok (.ifCond .lt 17, 3) := by decide +kernel
theorem dX11_read_4 : decode cX11_read 4 = .ok (.iload_n 1, 1) := by decide +kernel
theorem dX11_read_5 : decode cX11_read 5 = .ok (.aload_n 0, 1) := by decide +kernel
theorem dX11_read_6 : decode cX11_read 6 = .ok (.getfield 12, 3) := by decide +kernel
theorem dX11_read_9 : decode cX11_read 9 = .ok (.getfield 231, 3) := by decide +kernel
theorem dX11_read_12 : decode cX11_read 12 = .ok (.getfield 246, 3) := by decide +kernel
theorem dX11_read_15 : decode cX11_read 15 = .ok (.if_icmp .lt 14, 3) := by decide +kernel
theorem dX11_read_18 : decode cX11_read 18 = .ok (.new 264, 3) := by decide +kernel
theorem dX11_read_21 : decode cX11_read 21 = .ok (.dup, 1) := by decide +kernel
theorem dX11_read_22 : decode cX11_read 22 = .ok (.ldc_w 266, 3) := by decide +kernel
theorem dX11_read_25 : decode cX11_read 25 = .ok (.invokespecial 268, 3) := by decide +kernel
theorem dX11_read_28 : decode cX11_read 28 = .ok (.athrow, 1) := by decide +kernel
theorem dX11_read_29 : decode cX11_read 29 = .ok (.iload_n 2, 1) := by decide +kernel
theorem dX11_read_30 : decode cX11_read 30 = .ok (.ifCond .eq 18, 3) := by decide +kernel
theorem dX11_read_33 : decode cX11_read 33 = .ok (.aload_n 0, 1) := by decide +kernel
theorem dX11_read_34 : decode cX11_read 34 = .ok (.getfield 12, 3) := by decide +kernel
theorem dX11_read_37 : decode cX11_read 37 = .ok (.getfield 231, 3) := by decide +kernel
theorem dX11_read_40 : decode cX11_read 40 = .ok (.iload_n 1, 1) := by decide +kernel
theorem dX11_read_41 : decode cX11_read 41 = .ok (.invokevirtual 271, 3) := by decide +kernel
theorem dX11_read_44 : decode cX11_read 44 = .ok (.i2l, 1) := by decide +kernel
theorem dX11_read_45 : decode cX11_read 45 = .ok (.goto 16, 3) := by decide +kernel
theorem dX11_read_48 : decode cX11_read 48 = .ok (.aload_n 0, 1) := by decide +kernel
theorem dX11_read_49 : decode cX11_read 49 = .ok (.getfield 12, 3) := by decide +kernel
theorem dX11_read_52 : decode cX11_read 52 = .ok (.getfield 231, 3) := by decide +kernel
theorem dX11_read_55 : decode cX11_read 55 = .ok (.getfield 274, 3) := by decide +kernel
theorem dX11_read_58 : decode cX11_read 58 = .ok (.iload_n 1, 1) := by decide +kernel
theorem dX11_read_59 : decode cX11_read 59 = .ok (.iaload, 1) := by decide +kernel
theorem dX11_read_60 : decode cX11_read 60 = .ok (.i2l, 1) := by decide +kernel
theorem dX11_read_61 : decode cX11_read 61 = .ok (.lreturn, 1) := by decide +kernel
theorem dX11_plan_0 : decode cX11_plan 0 = .ok (.iload_n 1, 1) := by decide +kernel
theorem dX11_plan_1 : decode cX11_plan 1 = .ok (.invokestatic 65, 3) := by decide +kernel
theorem dX11_plan_4 : decode cX11_plan 4 = .ok (.ifCond .ne 5, 3) := by decide +kernel
theorem dX11_plan_7 : decode cX11_plan 7 = .ok (.iconst (-1), 1) := by decide +kernel
theorem dX11_plan_8 : decode cX11_plan 8 = .ok (.ireturn, 1) := by decide +kernel
theorem dX11_plan_9 : decode cX11_plan 9 = .ok (.aload_n 0, 1) := by decide +kernel
theorem dX11_plan_10 : decode cX11_plan 10 = .ok (.getfield 21, 3) := by decide +kernel
theorem dX11_plan_13 : decode cX11_plan 13 = .ok (.iload_n 1, 1) := by decide +kernel
theorem dX11_plan_14 : decode cX11_plan 14 = .ok (.invokevirtual 277, 3) := by decide +kernel
theorem dX11_plan_17 : decode cX11_plan 17 = .ok (.ireturn, 1) := by decide +kernel
theorem dX11_planned_0 : decode cX11_planned 0 = .ok (.iload_n 1, 1) := by decide +kernel
theorem dX11_planned_1 : decode cX11_planned 1 = .ok (.invokestatic 65, 3) := by decide +kernel
theorem dX11_planned_4 : decode cX11_planned 4 = .ok (.ifCond .eq 14, 3) := by decide +kernel
theorem dX11_planned_7 : decode cX11_planned 7 = .ok (.aload_n 0, 1) := by decide +kernel
theorem dX11_planned_8 : decode cX11_planned 8 = .ok (.getfield 12, 3) := by decide +kernel
theorem dX11_planned_11 : decode cX11_planned 11 = .ok (.iload_n 2, 1) := by decide +kernel
theorem dX11_planned_12 : decode cX11_planned 12 = .ok (.invokevirtual 123, 3) := by decide +kernel
theorem dX11_planned_15 : decode cX11_planned 15 = .ok (.ifnonnull 5, 3) := by decide +kernel
theorem dX11_planned_18 : decode cX11_planned 18 = .ok (.iconst (-1), 1) := by decide +kernel
theorem dX11_planned_19 : decode cX11_planned 19 = .ok (.ireturn, 1) := by decide +kernel
theorem dX11_planned_20 : decode cX11_planned 20 = .ok (.aload_n 0, 1) := by decide +kernel
theorem dX11_planned_21 : decode cX11_planned 21 = .ok (.getfield 21, 3) := by decide +kernel
theorem dX11_planned_24 : decode cX11_planned 24 = .ok (.iload_n 1, 1) := by decide +kernel
theorem dX11_planned_25 : decode cX11_planned 25 = .ok (.invokevirtual 277, 3) := by decide +kernel
theorem dX11_planned_28 : decode cX11_planned 28 = .ok (.pop, 1) := by decide +kernel
theorem dX11_planned_29 : decode cX11_planned 29 = .ok (.aload_n 0, 1) := by decide +kernel
theorem dX11_planned_30 : decode cX11_planned 30 = .ok (.getfield 21, 3) := by decide +kernel
theorem dX11_planned_33 : decode cX11_planned 33 = .ok (.iload_n 2, 1) := by decide +kernel
theorem dX11_planned_34 : decode cX11_planned 34 = .ok (.invokevirtual 280, 3) := by decide +kernel
theorem dX11_planned_37 : decode cX11_planned 37 = .ok (.ireturn, 1) := by decide +kernel
theorem dX11_ends_0 : decode cX11_ends 0 = .ok (.aload_n 0, 1) := by decide +kernel
theorem dX11_ends_1 : decode cX11_ends 1 = .ok (.getfield 12, 3) := by decide +kernel
theorem dX11_ends_4 : decode cX11_ends 4 = .ok (.iload_n 1, 1) := by decide +kernel
theorem dX11_ends_5 : decode cX11_ends 5 = .ok (.invokevirtual 123, 3) := by decide +kernel
theorem dX11_ends_8 : decode cX11_ends 8 = .ok (.astore 5, 2) := by decide +kernel
theorem dX11_ends_10 : decode cX11_ends 10 = .ok (.aload 5, 2) := by decide +kernel
theorem dX11_ends_12 : decode cX11_ends 12 = .ok (.ifnull 15, 3) := by decide +kernel
theorem dX11_ends_15 : decode cX11_ends 15 = .ok (.aload 5, 2) := by decide +kernel
theorem dX11_ends_17 : decode cX11_ends 17 = .ok (.iload_n 2, 1) := by decide +kernel
theorem dX11_ends_18 : decode cX11_ends 18 = .ok (.iload_n 3, 1) := by decide +kernel
theorem dX11_ends_19 : decode cX11_ends 19 = .ok (.iload 4, 2) := by decide +kernel
theorem dX11_ends_21 : decode cX11_ends 21 = .ok (.invokevirtual 148, 3) := by decide +kernel
theorem dX11_ends_24 : decode cX11_ends 24 = .ok (.ifCond .ne 5, 3) := by decide +kernel
theorem dX11_ends_27 : decode cX11_ends 27 = .ok (.iconst (-1), 1) := by decide +kernel
theorem dX11_ends_28 : decode cX11_ends 28 = .ok (.ireturn, 1) := by decide +kernel
theorem dX11_ends_29 : decode cX11_ends 29 = .ok (.aload 5, 2) := by decide +kernel
theorem dX11_ends_31 : decode cX11_ends 31 = .ok (.getfield 152, 3) := by decide +kernel
theorem dX11_ends_34 : decode cX11_ends 34 = .ok (.ifCond .eq 6, 3) := by decide +kernel
theorem dX11_ends_37 : decode cX11_ends 37 = .ok (.bipush (-3), 2) := by decide +kernel
theorem dX11_ends_39 : decode cX11_ends 39 = .ok (.ireturn, 1) := by decide +kernel
theorem dX11_ends_40 : decode cX11_ends 40 = .ok (.aload_n 0, 1) := by decide +kernel
theorem dX11_ends_41 : decode cX11_ends 41 = .ok (.getfield 12, 3) := by decide +kernel
theorem dX11_ends_44 : decode cX11_ends 44 = .ok (.getfield 283, 3) := by decide +kernel
theorem dX11_ends_47 : decode cX11_ends 47 = .ok (.aload_n 0, 1) := by decide +kernel
theorem dX11_ends_48 : decode cX11_ends 48 = .ok (.getfield 12, 3) := by decide +kernel
theorem dX11_ends_51 : decode cX11_ends 51 = .ok (.getfield 52, 3) := by decide +kernel
theorem dX11_ends_54 : decode cX11_ends 54 = .ok (.aload_n 0, 1) := by decide +kernel
theorem dX11_ends_55 : decode cX11_ends 55 = .ok (.getfield 12, 3) := by decide +kernel
theorem dX11_ends_58 : decode cX11_ends 58 = .ok (.getfield 52, 3) := by decide +kernel
theorem dX11_ends_61 : decode cX11_ends 61 = .ok (.getfield 72, 3) := by decide +kernel
theorem dX11_ends_64 : decode cX11_ends 64 = .ok (.aload 5, 2) := by decide +kernel
theorem dX11_ends_66 : decode cX11_ends 66 = .ok (.getfield 287, 3) := by decide +kernel
theorem dX11_ends_69 : decode cX11_ends 69 = .ok (.iload_n 2, 1) := by decide +kernel
theorem dX11_ends_70 : decode cX11_ends 70 = .ok (.iconst 0, 1) := by decide +kernel
theorem dX11_ends_71 : decode cX11_ends 71 = .ok (.invokevirtual 290, 3) := by decide +kernel
theorem dX11_ends_74 : decode cX11_ends 74 = .ok (.aload_n 0, 1) := by decide +kernel
theorem dX11_ends_75 : decode cX11_ends 75 = .ok (.getfield 12, 3) := by decide +kernel
theorem dX11_ends_78 : decode cX11_ends 78 = .ok (.getfield 52, 3) := by decide +kernel
theorem dX11_ends_81 : decode cX11_ends 81 = .ok (.aload_n 0, 1) := by decide +kernel
theorem dX11_ends_82 : decode cX11_ends 82 = .ok (.getfield 12, 3) := by decide +kernel
theorem dX11_ends_85 : decode cX11_ends 85 = .ok (.getfield 283, 3) := by decide +kernel
theorem dX11_ends_88 : decode cX11_ends 88 = .ok (.getfield 296, 3) := by decide +kernel
theorem dX11_ends_91 : decode cX11_ends 91 = .ok (.iload_n 3, 1) := by decide +kernel
theorem dX11_ends_92 : decode cX11_ends 92 = .ok (.iload 4, 2) := by decide +kernel
theorem dX11_ends_94 : decode cX11_ends 94 = .ok (.invokevirtual 297, 3) := by decide +kernel
theorem dX11_ends_97 : decode cX11_ends 97 = .ok (.ireturn, 1) := by decide +kernel
theorem dX11_whole_0 : decode cX11_whole 0 = .ok (.iload_n 1, 1) := by decide +kernel
theorem dX11_whole_1 : decode cX11_whole 1 = .ok (.invokestatic 65, 3) := by decide +kernel
theorem dX11_whole_4 : decode cX11_whole 4 = .ok (.ifCond .ne 5, 3) := by decide +kernel
theorem dX11_whole_7 : decode cX11_whole 7 = .ok (.iconst (-1), 1) := by decide +kernel
theorem dX11_whole_8 : decode cX11_whole 8 = .ok (.ireturn, 1) := by decide +kernel
theorem dX11_whole_9 : decode cX11_whole 9 = .ok (.iconst 0, 1) := by decide +kernel
theorem dX11_whole_10 : decode cX11_whole 10 = .ok (.istore_n 2, 1) := by decide +kernel
theorem dX11_whole_11 : decode cX11_whole 11 = .ok (.iconst 0, 1) := by decide +kernel
theorem dX11_whole_12 : decode cX11_whole 12 = .ok (.istore_n 3, 1) := by decide +kernel
theorem dX11_whole_13 : decode cX11_whole 13 = .ok (.iload_n 3, 1) := by decide +kernel
theorem dX11_whole_14 : decode cX11_whole 14 = .ok (.bipush 80, 2) := by decide +kernel
theorem dX11_whole_16 : decode cX11_whole 16 = .ok (.if_icmp .ge 42, 3) := by decide +kernel
theorem dX11_whole_19 : decode cX11_whole 19 = .ok (.aload_n 0, 1) := by decide +kernel
theorem dX11_whole_20 : decode cX11_whole 20 = .ok (.getfield 12, 3) := by decide +kernel
theorem dX11_whole_23 : decode cX11_whole 23 = .ok (.getfield 52, 3) := by decide +kernel
theorem dX11_whole_26 : decode cX11_whole 26 = .ok (.iload_n 3, 1) := by decide +kernel
theorem dX11_whole_27 : decode cX11_whole 27 = .ok (.iload_n 1, 1) := by decide +kernel
theorem dX11_whole_28 : decode cX11_whole 28 = .ok (.invokevirtual 300, 3) := by decide +kernel
theorem dX11_whole_31 : decode cX11_whole 31 = .ok (.ifCond .eq 21, 3) := by decide +kernel
theorem dX11_whole_34 : decode cX11_whole 34 = .ok (.aload_n 0, 1) := by decide +kernel
theorem dX11_whole_35 : decode cX11_whole 35 = .ok (.getfield 12, 3) := by decide +kernel
theorem dX11_whole_38 : decode cX11_whole 38 = .ok (.getfield 52, 3) := by decide +kernel
theorem dX11_whole_41 : decode cX11_whole 41 = .ok (.iload_n 3, 1) := by decide +kernel
theorem dX11_whole_42 : decode cX11_whole 42 = .ok (.iload_n 1, 1) := by decide +kernel
theorem dX11_whole_43 : decode cX11_whole 43 = .ok (.invokevirtual 303, 3) := by decide +kernel
theorem dX11_whole_46 : decode cX11_whole 46 = .ok (.ifCond .eq 6, 3) := by decide +kernel
theorem dX11_whole_49 : decode cX11_whole 49 = .ok (.iinc 2 1, 3) := by decide +kernel
theorem dX11_whole_52 : decode cX11_whole 52 = .ok (.iinc 3 1, 3) := by decide +kernel
theorem dX11_whole_55 : decode cX11_whole 55 = .ok (.goto (-42), 3) := by decide +kernel
theorem dX11_whole_58 : decode cX11_whole 58 = .ok (.iload_n 2, 1) := by decide +kernel
theorem dX11_whole_59 : decode cX11_whole 59 = .ok (.ireturn, 1) := by decide +kernel
theorem dX11_ship_0 : decode cX11_ship 0 = .ok (.iload_n 1, 1) := by decide +kernel
theorem dX11_ship_1 : decode cX11_ship 1 = .ok (.iload_n 2, 1) := by decide +kernel
theorem dX11_ship_2 : decode cX11_ship 2 = .ok (.invokestatic 62, 3) := by decide +kernel
theorem dX11_ship_5 : decode cX11_ship 5 = .ok (.ifCond .ne 5, 3) := by decide +kernel
theorem dX11_ship_8 : decode cX11_ship 8 = .ok (.iconst (-1), 1) := by decide +kernel
theorem dX11_ship_9 : decode cX11_ship 9 = .ok (.ireturn, 1) := by decide +kernel
theorem dX11_ship_10 : decode cX11_ship 10 = .ok (.aload_n 0, 1) := by decide +kernel
theorem dX11_ship_11 : decode cX11_ship 11 = .ok (.getfield 12, 3) := by decide +kernel
theorem dX11_ship_14 : decode cX11_ship 14 = .ok (.getfield 52, 3) := by decide +kernel
theorem dX11_ship_17 : decode cX11_ship 17 = .ok (.getfield 116, 3) := by decide +kernel
theorem dX11_ship_20 : decode cX11_ship 20 = .ok (.iload_n 1, 1) := by decide +kernel
theorem dX11_ship_21 : decode cX11_ship 21 = .ok (.iload_n 2, 1) := by decide +kernel
theorem dX11_ship_22 : decode cX11_ship 22 = .ok (.invokestatic 79, 3) := by decide +kernel
theorem dX11_ship_25 : decode cX11_ship 25 = .ok (.iaload, 1) := by decide +kernel
theorem dX11_ship_26 : decode cX11_ship 26 = .ok (.ifCond .ne 6, 3) := by decide +kernel
theorem dX11_ship_29 : decode cX11_ship 29 = .ok (.bipush (-3), 2) := by decide +kernel
theorem dX11_ship_31 : decode cX11_ship 31 = .ok (.ireturn, 1) := by decide +kernel
theorem dX11_ship_32 : decode cX11_ship 32 = .ok (.aload_n 0, 1) := by decide +kernel
theorem dX11_ship_33 : decode cX11_ship 33 = .ok (.getfield 12, 3) := by decide +kernel
theorem dX11_ship_36 : decode cX11_ship 36 = .ok (.getfield 306, 3) := by decide +kernel
theorem dX11_ship_39 : decode cX11_ship 39 = .ok (.istore_n 3, 1) := by decide +kernel
theorem dX11_ship_40 : decode cX11_ship 40 = .ok (.aload_n 0, 1) := by decide +kernel
theorem dX11_ship_41 : decode cX11_ship 41 = .ok (.getfield 12, 3) := by decide +kernel
theorem dX11_ship_44 : decode cX11_ship 44 = .ok (.iload_n 1, 1) := by decide +kernel
theorem dX11_ship_45 : decode cX11_ship 45 = .ok (.iload_n 2, 1) := by decide +kernel
theorem dX11_ship_46 : decode cX11_ship 46 = .ok (.invokestatic 79, 3) := by decide +kernel
theorem dX11_ship_49 : decode cX11_ship 49 = .ok (.putfield 306, 3) := by decide +kernel
theorem dX11_ship_52 : decode cX11_ship 52 = .ok (.iload_n 3, 1) := by decide +kernel
theorem dX11_ship_53 : decode cX11_ship 53 = .ok (.ireturn, 1) := by decide +kernel
theorem dX11_left_0 : decode cX11_left 0 = .ok (.aload_n 0, 1) := by decide +kernel
theorem dX11_left_1 : decode cX11_left 1 = .ok (.getfield 12, 3) := by decide +kernel
theorem dX11_left_4 : decode cX11_left 4 = .ok (.iload_n 1, 1) := by decide +kernel
theorem dX11_left_5 : decode cX11_left 5 = .ok (.invokevirtual 123, 3) := by decide +kernel
theorem dX11_left_8 : decode cX11_left 8 = .ok (.astore_n 2, 1) := by decide +kernel
theorem dX11_left_9 : decode cX11_left 9 = .ok (.aload_n 2, 1) := by decide +kernel
theorem dX11_left_10 : decode cX11_left 10 = .ok (.ifnonnull 5, 3) := by decide +kernel
theorem dX11_left_13 : decode cX11_left 13 = .ok (.iconst (-1), 1) := by decide +kernel
theorem dX11_left_14 : decode cX11_left 14 = .ok (.ireturn, 1) := by decide +kernel
theorem dX11_left_15 : decode cX11_left 15 = .ok (.aload_n 2, 1) := by decide +kernel
theorem dX11_left_16 : decode cX11_left 16 = .ok (.getfield 152, 3) := by decide +kernel
theorem dX11_left_19 : decode cX11_left 19 = .ok (.ifCond .eq 8, 3) := by decide +kernel
theorem dX11_left_22 : decode cX11_left 22 = .ok (.bipush (-3), 2) := by decide +kernel
theorem dX11_left_24 : decode cX11_left 24 = .ok (.goto 7, 3) := by decide +kernel
theorem dX11_left_27 : decode cX11_left 27 = .ok (.aload_n 2, 1) := by decide +kernel
theorem dX11_left_28 : decode cX11_left 28 = .ok (.invokevirtual 309, 3) := by decide +kernel
theorem dX11_left_31 : decode cX11_left 31 = .ok (.ireturn, 1) := by decide +kernel
theorem dX11_next_0 : decode cX11_next 0 = .ok (.bipush (-4), 2) := by decide +kernel
theorem dX11_next_2 : decode cX11_next 2 = .ok (.istore_n 1, 1) := by decide +kernel
theorem dX11_next_3 : decode cX11_next 3 = .ok (.iconst 0, 1) := by decide +kernel
theorem dX11_next_4 : decode cX11_next 4 = .ok (.istore_n 2, 1) := by decide +kernel
theorem dX11_next_5 : decode cX11_next 5 = .ok (.iconst 0, 1) := by decide +kernel
theorem dX11_next_6 : decode cX11_next 6 = .ok (.istore_n 3, 1) := by decide +kernel
theorem dX11_next_7 : decode cX11_next 7 = .ok (.iconst 0, 1) := by decide +kernel
theorem dX11_next_8 : decode cX11_next 8 = .ok (.istore 4, 2) := by decide +kernel
theorem dX11_next_10 : decode cX11_next 10 = .ok (.iload 4, 2) := by decide +kernel
theorem dX11_next_12 : decode cX11_next 12 = .ok (.aload_n 0, 1) := by decide +kernel
theorem dX11_next_13 : decode cX11_next 13 = .ok (.getfield 12, 3) := by decide +kernel
theorem dX11_next_16 : decode cX11_next 16 = .ok (.getfield 112, 3) := by decide +kernel
theorem dX11_next_19 : decode cX11_next 19 = .ok (.if_icmp .ge 89, 3) := by decide +kernel
theorem dX11_next_22 : decode cX11_next 22 = .ok (.aload_n 0, 1) := by decide +kernel
theorem dX11_next_23 : decode cX11_next 23 = .ok (.getfield 12, 3) := by decide +kernel
theorem dX11_next_26 : decode cX11_next 26 = .ok (.getfield 312, 3) := by decide +kernel
theorem dX11_next_29 : decode cX11_next 29 = .ok (.iload 4, 2) := by decide +kernel
theorem dX11_next_31 : decode cX11_next 31 = .ok (.aaload, 1) := by decide +kernel
theorem dX11_next_32 : decode cX11_next 32 = .ok (.astore 5, 2) := by decide +kernel
theorem dX11_next_34 : decode cX11_next 34 = .ok (.aload 5, 2) := by decide +kernel
theorem dX11_next_36 : decode cX11_next 36 = .ok (.getfield 152, 3) := by decide +kernel
theorem dX11_next_39 : decode cX11_next 39 = .ok (.ifCond .eq 6, 3) := by decide +kernel
theorem dX11_next_42 : decode cX11_next 42 = .ok (.goto 60, 3) := by decide +kernel
theorem dX11_next_45 : decode cX11_next 45 = .ok (.aload 5, 2) := by decide +kernel
theorem dX11_next_47 : decode cX11_next 47 = .ok (.invokevirtual 309, 3) := by decide +kernel
theorem dX11_next_50 : decode cX11_next 50 = .ok (.istore 6, 2) := by decide +kernel
theorem dX11_next_52 : decode cX11_next 52 = .ok (.aload 5, 2) := by decide +kernel
theorem dX11_next_54 : decode cX11_next 54 = .ok (.getfield 287, 3) := by decide +kernel
theorem dX11_next_57 : decode cX11_next 57 = .ok (.aload_n 0, 1) := by decide +kernel
theorem dX11_next_58 : decode cX11_next 58 = .ok (.getfield 12, 3) := by decide +kernel
theorem dX11_next_61 : decode cX11_next 61 = .ok (.getfield 306, 3) := by decide +kernel
theorem dX11_next_64 : decode cX11_next 64 = .ok (.invokestatic 316, 3) := by decide +kernel
theorem dX11_next_67 : decode cX11_next 67 = .ok (.istore 7, 2) := by decide +kernel
theorem dX11_next_69 : decode cX11_next 69 = .ok (.iload_n 1, 1) := by decide +kernel
theorem dX11_next_70 : decode cX11_next 70 = .ok (.bipush (-4), 2) := by decide +kernel
theorem dX11_next_72 : decode cX11_next 72 = .ok (.if_icmp .eq 21, 3) := by decide +kernel
theorem dX11_next_75 : decode cX11_next 75 = .ok (.iload 6, 2) := by decide +kernel
theorem dX11_next_77 : decode cX11_next 77 = .ok (.iload_n 2, 1) := by decide +kernel
theorem dX11_next_78 : decode cX11_next 78 = .ok (.if_icmp .lt 15, 3) := by decide +kernel
theorem dX11_next_81 : decode cX11_next 81 = .ok (.iload 6, 2) := by decide +kernel
theorem dX11_next_83 : decode cX11_next 83 = .ok (.iload_n 2, 1) := by decide +kernel
theorem dX11_next_84 : decode cX11_next 84 = .ok (.if_icmp .ne 18, 3) := by decide +kernel
theorem dX11_next_87 : decode cX11_next 87 = .ok (.iload 7, 2) := by decide +kernel
theorem dX11_next_89 : decode cX11_next 89 = .ok (.iload_n 3, 1) := by decide +kernel
theorem dX11_next_90 : decode cX11_next 90 = .ok (.if_icmp .ge 12, 3) := by decide +kernel
theorem dX11_next_93 : decode cX11_next 93 = .ok (.iload 4, 2) := by decide +kernel
theorem dX11_next_95 : decode cX11_next 95 = .ok (.istore_n 1, 1) := by decide +kernel
theorem dX11_next_96 : decode cX11_next 96 = .ok (.iload 6, 2) := by decide +kernel
theorem dX11_next_98 : decode cX11_next 98 = .ok (.istore_n 2, 1) := by decide +kernel
theorem dX11_next_99 : decode cX11_next 99 = .ok (.iload 7, 2) := by decide +kernel
theorem dX11_next_101 : decode cX11_next 101 = .ok (.istore_n 3, 1) := by decide +kernel
theorem dX11_next_102 : decode cX11_next 102 = .ok (.iinc 4 1, 3) := by decide +kernel
theorem dX11_next_105 : decode cX11_next 105 = .ok (.goto (-95), 3) := by decide +kernel
theorem dX11_next_108 : decode cX11_next 108 = .ok (.iload_n 1, 1) := by decide +kernel
theorem dX11_next_109 : decode cX11_next 109 = .ok (.ireturn, 1) := by decide +kernel
theorem dX11_fetch_0 : decode cX11_fetch 0 = .ok (.aload_n 0, 1) := by decide +kernel
theorem dX11_fetch_1 : decode cX11_fetch 1 = .ok (.getfield 12, 3) := by decide +kernel
theorem dX11_fetch_4 : decode cX11_fetch 4 = .ok (.iload_n 1, 1) := by decide +kernel
theorem dX11_fetch_5 : decode cX11_fetch 5 = .ok (.invokevirtual 123, 3) := by decide +kernel
theorem dX11_fetch_8 : decode cX11_fetch 8 = .ok (.astore_n 2, 1) := by decide +kernel
theorem dX11_fetch_9 : decode cX11_fetch 9 = .ok (.aload_n 2, 1) := by decide +kernel
theorem dX11_fetch_10 : decode cX11_fetch 10 = .ok (.ifnonnull 5, 3) := by decide +kernel
theorem dX11_fetch_13 : decode cX11_fetch 13 = .ok (.iconst (-1), 1) := by decide +kernel
theorem dX11_fetch_14 : decode cX11_fetch 14 = .ok (.ireturn, 1) := by decide +kernel
theorem dX11_fetch_15 : decode cX11_fetch 15 = .ok (.aload_n 2, 1) := by decide +kernel
theorem dX11_fetch_16 : decode cX11_fetch 16 = .ok (.getfield 287, 3) := by decide +kernel
theorem dX11_fetch_19 : decode cX11_fetch 19 = .ok (.aload_n 0, 1) := by decide +kernel
theorem dX11_fetch_20 : decode cX11_fetch 20 = .ok (.getfield 12, 3) := by decide +kernel
theorem dX11_fetch_23 : decode cX11_fetch 23 = .ok (.getfield 306, 3) := by decide +kernel
theorem dX11_fetch_26 : decode cX11_fetch 26 = .ok (.invokestatic 316, 3) := by decide +kernel
theorem dX11_fetch_29 : decode cX11_fetch 29 = .ok (.istore_n 3, 1) := by decide +kernel
theorem dX11_fetch_30 : decode cX11_fetch 30 = .ok (.aload_n 2, 1) := by decide +kernel
theorem dX11_fetch_31 : decode cX11_fetch 31 = .ok (.getfield 152, 3) := by decide +kernel
theorem dX11_fetch_34 : decode cX11_fetch 34 = .ok (.ifCond .ne 8, 3) := by decide +kernel
theorem dX11_fetch_37 : decode cX11_fetch 37 = .ok (.iload_n 3, 1) := by decide +kernel
theorem dX11_fetch_38 : decode cX11_fetch 38 = .ok (.iconst 3, 1) := by decide +kernel
theorem dX11_fetch_39 : decode cX11_fetch 39 = .ok (.if_icmp .le 6, 3) := by decide +kernel
theorem dX11_fetch_42 : decode cX11_fetch 42 = .ok (.bipush (-3), 2) := by decide +kernel
theorem dX11_fetch_44 : decode cX11_fetch 44 = .ok (.ireturn, 1) := by decide +kernel
theorem dX11_fetch_45 : decode cX11_fetch 45 = .ok (.aload_n 2, 1) := by decide +kernel
theorem dX11_fetch_46 : decode cX11_fetch 46 = .ok (.iconst 1, 1) := by decide +kernel
theorem dX11_fetch_47 : decode cX11_fetch 47 = .ok (.putfield 152, 3) := by decide +kernel
theorem dX11_fetch_50 : decode cX11_fetch 50 = .ok (.iload_n 3, 1) := by decide +kernel
theorem dX11_fetch_51 : decode cX11_fetch 51 = .ok (.ireturn, 1) := by decide +kernel
theorem dX11_image_0 : decode cX11_image 0 = .ok (.aload_n 0, 1) := by decide +kernel
theorem dX11_image_1 : decode cX11_image 1 = .ok (.getfield 38, 3) := by decide +kernel
theorem dX11_image_4 : decode cX11_image 4 = .ok (.ifnonnull 14, 3) := by decide +kernel
theorem dX11_image_7 : decode cX11_image 7 = .ok (.aload_n 0, 1) := by decide +kernel
theorem dX11_image_8 : decode cX11_image 8 = .ok (.new 9, 3) := by decide +kernel
theorem dX11_image_11 : decode cX11_image 11 = .ok (.dup, 1) := by decide +kernel
theorem dX11_image_12 : decode cX11_image 12 = .ok (.invokespecial 11, 3) := by decide +kernel
theorem dX11_image_15 : decode cX11_image 15 = .ok (.putfield 38, 3) := by decide +kernel
theorem dX11_image_18 : decode cX11_image 18 = .ok (.aload_n 0, 1) := by decide +kernel
theorem dX11_image_19 : decode cX11_image 19 = .ok (.getfield 38, 3) := by decide +kernel
theorem dX11_image_22 : decode cX11_image 22 = .ok (.aload_n 0, 1) := by decide +kernel
theorem dX11_image_23 : decode cX11_image 23 = .ok (.getfield 12, 3) := by decide +kernel
theorem dX11_image_26 : decode cX11_image 26 = .ok (.invokevirtual 319, 3) := by decide +kernel
theorem dX11_image_29 : decode cX11_image 29 = .ok (.aload_n 0, 1) := by decide +kernel
theorem dX11_image_30 : decode cX11_image 30 = .ok (.getfield 12, 3) := by decide +kernel
theorem dX11_image_33 : decode cX11_image 33 = .ok (.getfield 199, 3) := by decide +kernel
theorem dX11_image_36 : decode cX11_image 36 = .ok (.ireturn, 1) := by decide +kernel
theorem dX11_restore_0 : decode cX11_restore 0 = .ok (.aload_n 0, 1) := by decide +kernel
theorem dX11_restore_1 : decode cX11_restore 1 = .ok (.getfield 38, 3) := by decide +kernel
theorem dX11_restore_4 : decode cX11_restore 4 = .ok (.ifnonnull 6, 3) := by decide +kernel
theorem dX11_restore_7 : decode cX11_restore 7 = .ok (.bipush (-3), 2) := by decide +kernel
theorem dX11_restore_9 : decode cX11_restore 9 = .ok (.ireturn, 1) := by decide +kernel
theorem dX11_restore_10 : decode cX11_restore 10 = .ok (.aload_n 0, 1) := by decide +kernel
theorem dX11_restore_11 : decode cX11_restore 11 = .ok (.getfield 12, 3) := by decide +kernel
theorem dX11_restore_14 : decode cX11_restore 14 = .ok (.aload_n 0, 1) := by decide +kernel
theorem dX11_restore_15 : decode cX11_restore 15 = .ok (.getfield 38, 3) := by decide +kernel
theorem dX11_restore_18 : decode cX11_restore 18 = .ok (.invokevirtual 319, 3) := by decide +kernel
theorem dX11_restore_21 : decode cX11_restore 21 = .ok (.aload_n 0, 1) := by decide +kernel
theorem dX11_restore_22 : decode cX11_restore 22 = .ok (.getfield 12, 3) := by decide +kernel
theorem dX11_restore_25 : decode cX11_restore 25 = .ok (.getfield 199, 3) := by decide +kernel
theorem dX11_restore_28 : decode cX11_restore 28 = .ok (.ireturn, 1) := by decide +kernel
theorem dX11_count_0 : decode cX11_count 0 = .ok (.iload_n 1, 1) := by decide +kernel
theorem dX11_count_1 : decode cX11_count 1 = .ok (.tableswitch 162 0 10 #[59, 67, 76, 85, 94, 102, 113, 124, 132, 143, 154], 59) := by decide +kernel
theorem dX11_count_60 : decode cX11_count 60 = .ok (.aload_n 0, 1) := by decide +kernel
theorem dX11_count_61 : decode cX11_count 61 = .ok (.getfield 12, 3) := by decide +kernel
theorem dX11_count_64 : decode cX11_count 64 = .ok (.getfield 112, 3) := by decide +kernel
theorem dX11_count_67 : decode cX11_count 67 = .ok (.ireturn, 1) := by decide +kernel
theorem dX11_count_68 : decode cX11_count 68 = .ok (.aload_n 0, 1) := by decide +kernel
theorem dX11_count_69 : decode cX11_count 69 = .ok (.getfield 12, 3) := by decide +kernel
theorem dX11_count_72 : decode cX11_count 72 = .ok (.iconst 0, 1) := by decide +kernel
theorem dX11_count_73 : decode cX11_count 73 = .ok (.invokevirtual 322, 3) := by decide +kernel
theorem dX11_count_76 : decode cX11_count 76 = .ok (.ireturn, 1) := by decide +kernel
theorem dX11_count_77 : decode cX11_count 77 = .ok (.aload_n 0, 1) := by decide +kernel
theorem dX11_count_78 : decode cX11_count 78 = .ok (.getfield 12, 3) := by decide +kernel
theorem dX11_count_81 : decode cX11_count 81 = .ok (.iconst 1, 1) := by decide +kernel
theorem dX11_count_82 : decode cX11_count 82 = .ok (.invokevirtual 322, 3) := by decide +kernel
theorem dX11_count_85 : decode cX11_count 85 = .ok (.ireturn, 1) := by decide +kernel
theorem dX11_count_86 : decode cX11_count 86 = .ok (.aload_n 0, 1) := by decide +kernel
theorem dX11_count_87 : decode cX11_count 87 = .ok (.getfield 12, 3) := by decide +kernel
theorem dX11_count_90 : decode cX11_count 90 = .ok (.iconst 2, 1) := by decide +kernel
theorem dX11_count_91 : decode cX11_count 91 = .ok (.invokevirtual 322, 3) := by decide +kernel
theorem dX11_count_94 : decode cX11_count 94 = .ok (.ireturn, 1) := by decide +kernel
theorem dX11_count_95 : decode cX11_count 95 = .ok (.aload_n 0, 1) := by decide +kernel
theorem dX11_count_96 : decode cX11_count 96 = .ok (.getfield 12, 3) := by decide +kernel
theorem dX11_count_99 : decode cX11_count 99 = .ok (.getfield 199, 3) := by decide +kernel
theorem dX11_count_102 : decode cX11_count 102 = .ok (.ireturn, 1) := by decide +kernel
theorem dX11_count_103 : decode cX11_count 103 = .ok (.aload_n 0, 1) := by decide +kernel
theorem dX11_count_104 : decode cX11_count 104 = .ok (.getfield 12, 3) := by decide +kernel
theorem dX11_count_107 : decode cX11_count 107 = .ok (.getfield 231, 3) := by decide +kernel
theorem dX11_count_110 : decode cX11_count 110 = .ok (.getfield 246, 3) := by decide +kernel
theorem dX11_count_113 : decode cX11_count 113 = .ok (.ireturn, 1) := by decide +kernel
theorem dX11_count_114 : decode cX11_count 114 = .ok (.aload_n 0, 1) := by decide +kernel
theorem dX11_count_115 : decode cX11_count 115 = .ok (.getfield 12, 3) := by decide +kernel
theorem dX11_count_118 : decode cX11_count 118 = .ok (.getfield 190, 3) := by decide +kernel
theorem dX11_count_121 : decode cX11_count 121 = .ok (.getfield 194, 3) := by decide +kernel
theorem dX11_count_124 : decode cX11_count 124 = .ok (.ireturn, 1) := by decide +kernel
theorem dX11_count_125 : decode cX11_count 125 = .ok (.aload_n 0, 1) := by decide +kernel
theorem dX11_count_126 : decode cX11_count 126 = .ok (.getfield 12, 3) := by decide +kernel
theorem dX11_count_129 : decode cX11_count 129 = .ok (.getfield 179, 3) := by decide +kernel
theorem dX11_count_132 : decode cX11_count 132 = .ok (.ireturn, 1) := by decide +kernel
theorem dX11_count_133 : decode cX11_count 133 = .ok (.aload_n 0, 1) := by decide +kernel
theorem dX11_count_134 : decode cX11_count 134 = .ok (.getfield 12, 3) := by decide +kernel
theorem dX11_count_137 : decode cX11_count 137 = .ok (.getfield 52, 3) := by decide +kernel
theorem dX11_count_140 : decode cX11_count 140 = .ok (.invokevirtual 325, 3) := by decide +kernel
theorem dX11_count_143 : decode cX11_count 143 = .ok (.ireturn, 1) := by decide +kernel
theorem dX11_count_144 : decode cX11_count 144 = .ok (.aload_n 0, 1) := by decide +kernel
theorem dX11_count_145 : decode cX11_count 145 = .ok (.getfield 12, 3) := by decide +kernel
theorem dX11_count_148 : decode cX11_count 148 = .ok (.getfield 231, 3) := by decide +kernel
theorem dX11_count_151 : decode cX11_count 151 = .ok (.getfield 235, 3) := by decide +kernel
theorem dX11_count_154 : decode cX11_count 154 = .ok (.ireturn, 1) := by decide +kernel
theorem dX11_count_155 : decode cX11_count 155 = .ok (.aload_n 0, 1) := by decide +kernel
theorem dX11_count_156 : decode cX11_count 156 = .ok (.getfield 12, 3) := by decide +kernel
theorem dX11_count_159 : decode cX11_count 159 = .ok (.invokevirtual 328, 3) := by decide +kernel
theorem dX11_count_162 : decode cX11_count 162 = .ok (.ireturn, 1) := by decide +kernel
theorem dX11_count_163 : decode cX11_count 163 = .ok (.iconst (-1), 1) := by decide +kernel
theorem dX11_count_164 : decode cX11_count 164 = .ok (.ireturn, 1) := by decide +kernel
theorem dX11_keep_0 : decode cX11_keep 0 = .ok (.aload_n 0, 1) := by decide +kernel
theorem dX11_keep_1 : decode cX11_keep 1 = .ok (.iload_n 1, 1) := by decide +kernel
theorem dX11_keep_2 : decode cX11_keep 2 = .ok (.invokevirtual 162, 3) := by decide +kernel
theorem dX11_keep_5 : decode cX11_keep 5 = .ok (.astore 4, 2) := by decide +kernel
theorem dX11_keep_7 : decode cX11_keep 7 = .ok (.aload 4, 2) := by decide +kernel
theorem dX11_keep_9 : decode cX11_keep 9 = .ok (.ifnull 12, 3) := by decide +kernel
theorem dX11_keep_12 : decode cX11_keep 12 = .ok (.iload_n 2, 1) := by decide +kernel
theorem dX11_keep_13 : decode cX11_keep 13 = .ok (.ifCond .lt 8, 3) := by decide +kernel
theorem dX11_keep_16 : decode cX11_keep 16 = .ok (.iload_n 2, 1) := by decide +kernel
theorem dX11_keep_17 : decode cX11_keep 17 = .ok (.iconst 1, 1) := by decide +kernel
theorem dX11_keep_18 : decode cX11_keep 18 = .ok (.if_icmp .le 5, 3) := by decide +kernel
theorem dX11_keep_21 : decode cX11_keep 21 = .ok (.iconst (-1), 1) := by decide +kernel
theorem dX11_keep_22 : decode cX11_keep 22 = .ok (.ireturn, 1) := by decide +kernel
theorem dX11_keep_23 : decode cX11_keep 23 = .ok (.iload_n 2, 1) := by decide +kernel
theorem dX11_keep_24 : decode cX11_keep 24 = .ok (.ifCond .ne 11, 3) := by decide +kernel
theorem dX11_keep_27 : decode cX11_keep 27 = .ok (.aload 4, 2) := by decide +kernel
theorem dX11_keep_29 : decode cX11_keep 29 = .ok (.iconst 0, 1) := by decide +kernel
theorem dX11_keep_30 : decode cX11_keep 30 = .ok (.putfield 331, 3) := by decide +kernel
theorem dX11_keep_33 : decode cX11_keep 33 = .ok (.iconst 0, 1) := by decide +kernel
theorem dX11_keep_34 : decode cX11_keep 34 = .ok (.ireturn, 1) := by decide +kernel
theorem dX11_keep_35 : decode cX11_keep 35 = .ok (.aload_n 0, 1) := by decide +kernel
theorem dX11_keep_36 : decode cX11_keep 36 = .ok (.getfield 12, 3) := by decide +kernel
theorem dX11_keep_39 : decode cX11_keep 39 = .ok (.iload_n 3, 1) := by decide +kernel
theorem dX11_keep_40 : decode cX11_keep 40 = .ok (.invokevirtual 123, 3) := by decide +kernel
theorem dX11_keep_43 : decode cX11_keep 43 = .ok (.astore 5, 2) := by decide +kernel
theorem dX11_keep_45 : decode cX11_keep 45 = .ok (.aload 5, 2) := by decide +kernel
theorem dX11_keep_47 : decode cX11_keep 47 = .ok (.ifnonnull 5, 3) := by decide +kernel
theorem dX11_keep_50 : decode cX11_keep 50 = .ok (.iconst (-1), 1) := by decide +kernel
theorem dX11_keep_51 : decode cX11_keep 51 = .ok (.ireturn, 1) := by decide +kernel
theorem dX11_keep_52 : decode cX11_keep 52 = .ok (.aload 4, 2) := by decide +kernel
theorem dX11_keep_54 : decode cX11_keep 54 = .ok (.aload 5, 2) := by decide +kernel
theorem dX11_keep_56 : decode cX11_keep 56 = .ok (.invokevirtual 334, 3) := by decide +kernel
theorem dX11_keep_59 : decode cX11_keep 59 = .ok (.iconst 0, 1) := by decide +kernel
theorem dX11_keep_60 : decode cX11_keep 60 = .ok (.ireturn, 1) := by decide +kernel
theorem dX11_row_0 : decode cX11_row 0 = .ok (.aload_n 0, 1) := by decide +kernel
theorem dX11_row_1 : decode cX11_row 1 = .ok (.iload_n 1, 1) := by decide +kernel
theorem dX11_row_2 : decode cX11_row 2 = .ok (.invokevirtual 162, 3) := by decide +kernel
theorem dX11_row_5 : decode cX11_row 5 = .ok (.astore 4, 2) := by decide +kernel
theorem dX11_row_7 : decode cX11_row 7 = .ok (.aload 4, 2) := by decide +kernel
theorem dX11_row_9 : decode cX11_row 9 = .ok (.ifnull 18, 3) := by decide +kernel
theorem dX11_row_12 : decode cX11_row 12 = .ok (.iload_n 2, 1) := by decide +kernel
theorem dX11_row_13 : decode cX11_row 13 = .ok (.ifCond .lt 14, 3) := by decide +kernel
theorem dX11_row_16 : decode cX11_row 16 = .ok (.iload_n 2, 1) := by decide +kernel
theorem dX11_row_17 : decode cX11_row 17 = .ok (.iconst 2, 1) := by decide +kernel
theorem dX11_row_18 : decode cX11_row 18 = .ok (.if_icmp .gt 9, 3) := by decide +kernel
theorem dX11_row_21 : decode cX11_row 21 = .ok (.iload_n 3, 1) := by decide +kernel
theorem dX11_row_22 : decode cX11_row 22 = .ok (.bipush 80, 2) := by decide +kernel
theorem dX11_row_24 : decode cX11_row 24 = .ok (.if_icmp .le 5, 3) := by decide +kernel
theorem dX11_row_27 : decode cX11_row 27 = .ok (.iconst (-1), 1) := by decide +kernel
theorem dX11_row_28 : decode cX11_row 28 = .ok (.ireturn, 1) := by decide +kernel
theorem dX11_row_29 : decode cX11_row 29 = .ok (.iload_n 3, 1) := by decide +kernel
theorem dX11_row_30 : decode cX11_row 30 = .ok (.ifCond .ge 6, 3) := by decide +kernel
theorem dX11_row_33 : decode cX11_row 33 = .ok (.bipush (-14), 2) := by decide +kernel
theorem dX11_row_35 : decode cX11_row 35 = .ok (.ireturn, 1) := by decide +kernel
theorem dX11_row_36 : decode cX11_row 36 = .ok (.aload 4, 2) := by decide +kernel
theorem dX11_row_38 : decode cX11_row 38 = .ok (.iload_n 2, 1) := by decide +kernel
theorem dX11_row_39 : decode cX11_row 39 = .ok (.iload_n 3, 1) := by decide +kernel
theorem dX11_row_40 : decode cX11_row 40 = .ok (.invokevirtual 338, 3) := by decide +kernel
theorem dX11_row_43 : decode cX11_row 43 = .ok (.iconst 0, 1) := by decide +kernel
theorem dX11_row_44 : decode cX11_row 44 = .ok (.ireturn, 1) := by decide +kernel
theorem dX11_put_0 : decode cX11_put 0 = .ok (.aload_n 0, 1) := by decide +kernel
theorem dX11_put_1 : decode cX11_put 1 = .ok (.iload_n 1, 1) := by decide +kernel
theorem dX11_put_2 : decode cX11_put 2 = .ok (.invokevirtual 162, 3) := by decide +kernel
theorem dX11_put_5 : decode cX11_put 5 = .ok (.astore 4, 2) := by decide +kernel
theorem dX11_put_7 : decode cX11_put 7 = .ok (.aload 4, 2) := by decide +kernel
theorem dX11_put_9 : decode cX11_put 9 = .ok (.ifnonnull 5, 3) := by decide +kernel
theorem dX11_put_12 : decode cX11_put 12 = .ok (.iconst (-1), 1) := by decide +kernel
theorem dX11_put_13 : decode cX11_put 13 = .ok (.ireturn, 1) := by decide +kernel
theorem dX11_put_14 : decode cX11_put 14 = .ok (.aload 4, 2) := by decide +kernel
theorem dX11_put_16 : decode cX11_put 16 = .ok (.getfield 331, 3) := by decide +kernel
theorem dX11_put_19 : decode cX11_put 19 = .ok (.iconst 2, 1) := by decide +kernel
theorem dX11_put_20 : decode cX11_put 20 = .ok (.if_icmp .eq 19, 3) := by decide +kernel
theorem dX11_put_23 : decode cX11_put 23 = .ok (.aload 4, 2) := by decide +kernel
theorem dX11_put_25 : decode cX11_put 25 = .ok (.getfield 331, 3) := by decide +kernel
theorem dX11_put_28 : decode cX11_put 28 = .ok (.ifCond .ne 8, 3) := by decide +kernel
theorem dX11_put_31 : decode cX11_put 31 = .ok (.bipush (-11), 2) := by decide +kernel
theorem dX11_put_33 : decode cX11_put 33 = .ok (.goto 5, 3) := by decide +kernel
theorem dX11_put_36 : decode cX11_put 36 = .ok (.bipush (-12), 2) := by decide +kernel
theorem dX11_put_38 : decode cX11_put 38 = .ok (.ireturn, 1) := by decide +kernel
theorem dX11_put_39 : decode cX11_put 39 = .ok (.iload_n 2, 1) := by decide +kernel
theorem dX11_put_40 : decode cX11_put 40 = .ok (.ifCond .lt 12, 3) := by decide +kernel
theorem dX11_put_43 : decode cX11_put 43 = .ok (.iload_n 2, 1) := by decide +kernel
theorem dX11_put_44 : decode cX11_put 44 = .ok (.aload 4, 2) := by decide +kernel
theorem dX11_put_46 : decode cX11_put 46 = .ok (.getfield 172, 3) := by decide +kernel
theorem dX11_put_49 : decode cX11_put 49 = .ok (.if_icmp .lt 6, 3) := by decide +kernel
theorem dX11_put_52 : decode cX11_put 52 = .ok (.bipush (-13), 2) := by decide +kernel
theorem dX11_put_54 : decode cX11_put 54 = .ok (.ireturn, 1) := by decide +kernel
theorem dX11_put_55 : decode cX11_put 55 = .ok (.aload 4, 2) := by decide +kernel
theorem dX11_put_57 : decode cX11_put 57 = .ok (.getfield 169, 3) := by decide +kernel
theorem dX11_put_60 : decode cX11_put 60 = .ok (.iload_n 2, 1) := by decide +kernel
theorem dX11_put_61 : decode cX11_put 61 = .ok (.aload 4, 2) := by decide +kernel
theorem dX11_put_63 : decode cX11_put 63 = .ok (.getfield 342, 3) := by decide +kernel
theorem dX11_put_66 : decode cX11_put 66 = .ok (.iload_n 3, 1) := by decide +kernel
theorem dX11_put_67 : decode cX11_put 67 = .ok (.invokestatic 345, 3) := by decide +kernel
theorem dX11_put_70 : decode cX11_put 70 = .ok (.iastore, 1) := by decide +kernel
theorem dX11_put_71 : decode cX11_put 71 = .ok (.iconst 0, 1) := by decide +kernel
theorem dX11_put_72 : decode cX11_put 72 = .ok (.ireturn, 1) := by decide +kernel
theorem dX11_element_0 : decode cX11_element 0 = .ok (.aload_n 0, 1) := by decide +kernel
theorem dX11_element_1 : decode cX11_element 1 = .ok (.iload_n 1, 1) := by decide +kernel
theorem dX11_element_2 : decode cX11_element 2 = .ok (.invokevirtual 162, 3) := by decide +kernel
theorem dX11_element_5 : decode cX11_element 5 = .ok (.astore_n 3, 1) := by decide +kernel
theorem dX11_element_6 : decode cX11_element 6 = .ok (.aload_n 3, 1) := by decide +kernel
theorem dX11_element_7 : decode cX11_element 7 = .ok (.ifnonnull 14, 3) := by decide +kernel
theorem dX11_element_10 : decode cX11_element 10 = .ok (.new 264, 3) := by decide +kernel
theorem dX11_element_13 : decode cX11_element 13 = .ok (.dup, 1) := by decide +kernel
theorem dX11_element_14 : decode cX11_element 14 = .ok (.ldc_w 348, 3) := by decide +kernel
theorem dX11_element_17 : decode cX11_element 17 = .ok (.invokespecial 268, 3) := by decide +kernel
theorem dX11_element_20 : decode cX11_element 20 = .ok (.athrow, 1) := by decide +kernel
theorem dX11_element_21 : decode cX11_element 21 = .ok (.aload_n 3, 1) := by decide +kernel
theorem dX11_element_22 : decode cX11_element 22 = .ok (.getfield 331, 3) := by decide +kernel
theorem dX11_element_25 : decode cX11_element 25 = .ok (.iconst 2, 1) := by decide +kernel
theorem dX11_element_26 : decode cX11_element 26 = .ok (.if_icmp .ne 15, 3) := by decide +kernel
theorem dX11_element_29 : decode cX11_element 29 = .ok (.iload_n 2, 1) := by decide +kernel
theorem dX11_element_30 : decode cX11_element 30 = .ok (.ifCond .lt 11, 3) := by decide +kernel
theorem dX11_element_33 : decode cX11_element 33 = .ok (.iload_n 2, 1) := by decide +kernel
theorem dX11_element_34 : decode cX11_element 34 = .ok (.aload_n 3, 1) := by decide +kernel
theorem dX11_element_35 : decode cX11_element 35 = .ok (.getfield 172, 3) := by decide +kernel
theorem dX11_element_38 : decode cX11_element 38 = .ok (.if_icmp .lt 14, 3) := by decide +kernel
theorem dX11_element_41 : decode cX11_element 41 = .ok (.new 350, 3) := by decide +kernel
theorem dX11_element_44 : decode cX11_element 44 = .ok (.dup, 1) := by decide +kernel
theorem dX11_element_45 : decode cX11_element 45 = .ok (.ldc_w 352, 3) := by decide +kernel
theorem dX11_element_48 : decode cX11_element 48 = .ok (.invokespecial 354, 3) := by decide +kernel
theorem dX11_element_51 : decode cX11_element 51 = .ok (.athrow, 1) := by decide +kernel
theorem dX11_element_52 : decode cX11_element 52 = .ok (.aload_n 3, 1) := by decide +kernel
theorem dX11_element_53 : decode cX11_element 53 = .ok (.getfield 169, 3) := by decide +kernel
theorem dX11_element_56 : decode cX11_element 56 = .ok (.iload_n 2, 1) := by decide +kernel
theorem dX11_element_57 : decode cX11_element 57 = .ok (.iaload, 1) := by decide +kernel
theorem dX11_element_58 : decode cX11_element 58 = .ok (.i2l, 1) := by decide +kernel
theorem dX11_element_59 : decode cX11_element 59 = .ok (.lreturn, 1) := by decide +kernel
theorem dX11_copy_0 : decode cX11_copy 0 = .ok (.aload_n 0, 1) := by decide +kernel
theorem dX11_copy_1 : decode cX11_copy 1 = .ok (.iload_n 1, 1) := by decide +kernel
theorem dX11_copy_2 : decode cX11_copy 2 = .ok (.invokevirtual 162, 3) := by decide +kernel
theorem dX11_copy_5 : decode cX11_copy 5 = .ok (.astore 6, 2) := by decide +kernel
theorem dX11_copy_7 : decode cX11_copy 7 = .ok (.aload_n 0, 1) := by decide +kernel
theorem dX11_copy_8 : decode cX11_copy 8 = .ok (.iload_n 3, 1) := by decide +kernel
theorem dX11_copy_9 : decode cX11_copy 9 = .ok (.invokevirtual 162, 3) := by decide +kernel
theorem dX11_copy_12 : decode cX11_copy 12 = .ok (.astore 7, 2) := by decide +kernel
theorem dX11_copy_14 : decode cX11_copy 14 = .ok (.aload 6, 2) := by decide +kernel
theorem dX11_copy_16 : decode cX11_copy 16 = .ok (.ifnull 8, 3) := by decide +kernel
theorem dX11_copy_19 : decode cX11_copy 19 = .ok (.aload 7, 2) := by decide +kernel
theorem dX11_copy_21 : decode cX11_copy 21 = .ok (.ifnonnull 5, 3) := by decide +kernel
theorem dX11_copy_24 : decode cX11_copy 24 = .ok (.iconst (-1), 1) := by decide +kernel
theorem dX11_copy_25 : decode cX11_copy 25 = .ok (.ireturn, 1) := by decide +kernel
theorem dX11_copy_26 : decode cX11_copy 26 = .ok (.aload 6, 2) := by decide +kernel
theorem dX11_copy_28 : decode cX11_copy 28 = .ok (.getfield 331, 3) := by decide +kernel
theorem dX11_copy_31 : decode cX11_copy 31 = .ok (.ifCond .eq 11, 3) := by decide +kernel
theorem dX11_copy_34 : decode cX11_copy 34 = .ok (.aload 7, 2) := by decide +kernel
theorem dX11_copy_36 : decode cX11_copy 36 = .ok (.getfield 331, 3) := by decide +kernel
theorem dX11_copy_39 : decode cX11_copy 39 = .ok (.ifCond .ne 6, 3) := by decide +kernel
theorem dX11_copy_42 : decode cX11_copy 42 = .ok (.bipush (-11), 2) := by decide +kernel
theorem dX11_copy_44 : decode cX11_copy 44 = .ok (.ireturn, 1) := by decide +kernel
theorem dX11_copy_45 : decode cX11_copy 45 = .ok (.aload 6, 2) := by decide +kernel
theorem dX11_copy_47 : decode cX11_copy 47 = .ok (.getfield 331, 3) := by decide +kernel
theorem dX11_copy_50 : decode cX11_copy 50 = .ok (.iconst 2, 1) := by decide +kernel
theorem dX11_copy_51 : decode cX11_copy 51 = .ok (.if_icmp .ne 25, 3) := by decide +kernel
theorem dX11_copy_54 : decode cX11_copy 54 = .ok (.aload 7, 2) := by decide +kernel
theorem dX11_copy_56 : decode cX11_copy 56 = .ok (.getfield 331, 3) := by decide +kernel
theorem dX11_copy_59 : decode cX11_copy 59 = .ok (.iconst 2, 1) := by decide +kernel
theorem dX11_copy_60 : decode cX11_copy 60 = .ok (.if_icmp .ne 16, 3) := by decide +kernel
theorem dX11_copy_63 : decode cX11_copy 63 = .ok (.aload 6, 2) := by decide +kernel
theorem dX11_copy_65 : decode cX11_copy 65 = .ok (.getfield 342, 3) := by decide +kernel
theorem dX11_copy_68 : decode cX11_copy 68 = .ok (.aload 7, 2) := by decide +kernel
theorem dX11_copy_70 : decode cX11_copy 70 = .ok (.getfield 342, 3) := by decide +kernel
theorem dX11_copy_73 : decode cX11_copy 73 = .ok (.if_icmp .eq 6, 3) := by decide +kernel
theorem dX11_copy_76 : decode cX11_copy 76 = .ok (.bipush (-12), 2) := by decide +kernel
theorem dX11_copy_78 : decode cX11_copy 78 = .ok (.ireturn, 1) := by decide +kernel
theorem dX11_copy_79 : decode cX11_copy 79 = .ok (.iload_n 2, 1) := by decide +kernel
theorem dX11_copy_80 : decode cX11_copy 80 = .ok (.iload 5, 2) := by decide +kernel
theorem dX11_copy_82 : decode cX11_copy 82 = .ok (.aload 6, 2) := by decide +kernel
theorem dX11_copy_84 : decode cX11_copy 84 = .ok (.getfield 172, 3) := by decide +kernel
theorem dX11_copy_87 : decode cX11_copy 87 = .ok (.invokestatic 355, 3) := by decide +kernel
theorem dX11_copy_90 : decode cX11_copy 90 = .ok (.ifCond .eq 18, 3) := by decide +kernel
theorem dX11_copy_93 : decode cX11_copy 93 = .ok (.iload 4, 2) := by decide +kernel
theorem dX11_copy_95 : decode cX11_copy 95 = .ok (.iload 5, 2) := by decide +kernel
theorem dX11_copy_97 : decode cX11_copy 97 = .ok (.aload 7, 2) := by decide +kernel
theorem dX11_copy_99 : decode cX11_copy 99 = .ok (.getfield 172, 3) := by decide +kernel
theorem dX11_copy_102 : decode cX11_copy 102 = .ok (.invokestatic 355, 3) := by decide +kernel
theorem dX11_copy_105 : decode cX11_copy 105 = .ok (.ifCond .ne 6, 3) := by decide +kernel
theorem dX11_copy_108 : decode cX11_copy 108 = .ok (.bipush (-13), 2) := by decide +kernel
theorem dX11_copy_110 : decode cX11_copy 110 = .ok (.ireturn, 1) := by decide +kernel
theorem dX11_copy_111 : decode cX11_copy 111 = .ok (.aload 6, 2) := by decide +kernel
theorem dX11_copy_113 : decode cX11_copy 113 = .ok (.getfield 169, 3) := by decide +kernel
theorem dX11_copy_116 : decode cX11_copy 116 = .ok (.iload_n 2, 1) := by decide +kernel
theorem dX11_copy_117 : decode cX11_copy 117 = .ok (.aload 7, 2) := by decide +kernel
theorem dX11_copy_119 : decode cX11_copy 119 = .ok (.getfield 169, 3) := by decide +kernel
theorem dX11_copy_122 : decode cX11_copy 122 = .ok (.iload 4, 2) := by decide +kernel
theorem dX11_copy_124 : decode cX11_copy 124 = .ok (.iload 5, 2) := by decide +kernel
theorem dX11_copy_126 : decode cX11_copy 126 = .ok (.invokestatic 358, 3) := by decide +kernel
theorem dX11_copy_129 : decode cX11_copy 129 = .ok (.iload 5, 2) := by decide +kernel
theorem dX11_copy_131 : decode cX11_copy 131 = .ok (.ireturn, 1) := by decide +kernel
theorem dX11_sum_0 : decode cX11_sum 0 = .ok (.aload_n 0, 1) := by decide +kernel
theorem dX11_sum_1 : decode cX11_sum 1 = .ok (.iload_n 1, 1) := by decide +kernel
theorem dX11_sum_2 : decode cX11_sum 2 = .ok (.invokevirtual 162, 3) := by decide +kernel
theorem dX11_sum_5 : decode cX11_sum 5 = .ok (.astore_n 2, 1) := by decide +kernel
theorem dX11_sum_6 : decode cX11_sum 6 = .ok (.aload_n 2, 1) := by decide +kernel
theorem dX11_sum_7 : decode cX11_sum 7 = .ok (.ifnonnull 5, 3) := by decide +kernel
theorem dX11_sum_10 : decode cX11_sum 10 = .ok (.iconst (-1), 1) := by decide +kernel
theorem dX11_sum_11 : decode cX11_sum 11 = .ok (.ireturn, 1) := by decide +kernel
theorem dX11_sum_12 : decode cX11_sum 12 = .ok (.aload_n 2, 1) := by decide +kernel
theorem dX11_sum_13 : decode cX11_sum 13 = .ok (.getfield 331, 3) := by decide +kernel
theorem dX11_sum_16 : decode cX11_sum 16 = .ok (.iconst 1, 1) := by decide +kernel
theorem dX11_sum_17 : decode cX11_sum 17 = .ok (.if_icmp .eq 18, 3) := by decide +kernel
theorem dX11_sum_20 : decode cX11_sum 20 = .ok (.aload_n 2, 1) := by decide +kernel
theorem dX11_sum_21 : decode cX11_sum 21 = .ok (.getfield 331, 3) := by decide +kernel
theorem dX11_sum_24 : decode cX11_sum 24 = .ok (.ifCond .ne 8, 3) := by decide +kernel
theorem dX11_sum_27 : decode cX11_sum 27 = .ok (.bipush (-11), 2) := by decide +kernel
theorem dX11_sum_29 : decode cX11_sum 29 = .ok (.goto 5, 3) := by decide +kernel
theorem dX11_sum_32 : decode cX11_sum 32 = .ok (.bipush (-12), 2) := by decide +kernel
theorem dX11_sum_34 : decode cX11_sum 34 = .ok (.ireturn, 1) := by decide +kernel
theorem dX11_sum_35 : decode cX11_sum 35 = .ok (.bipush 100, 2) := by decide +kernel
theorem dX11_sum_37 : decode cX11_sum 37 = .ok (.bipush 10, 2) := by decide +kernel
theorem dX11_sum_39 : decode cX11_sum 39 = .ok (.getstatic 364, 3) := by decide +kernel
theorem dX11_sum_42 : decode cX11_sum 42 = .ok (.aload_n 2, 1) := by decide +kernel
theorem dX11_sum_43 : decode cX11_sum 43 = .ok (.getfield 367, 3) := by decide +kernel
theorem dX11_sum_46 : decode cX11_sum 46 = .ok (.iaload, 1) := by decide +kernel
theorem dX11_sum_47 : decode cX11_sum 47 = .ok (.imul, 1) := by decide +kernel
theorem dX11_sum_48 : decode cX11_sum 48 = .ok (.iadd, 1) := by decide +kernel
theorem dX11_sum_49 : decode cX11_sum 49 = .ok (.getstatic 370, 3) := by decide +kernel
theorem dX11_sum_52 : decode cX11_sum 52 = .ok (.aload_n 2, 1) := by decide +kernel
theorem dX11_sum_53 : decode cX11_sum 53 = .ok (.getfield 367, 3) := by decide +kernel
theorem dX11_sum_56 : decode cX11_sum 56 = .ok (.iaload, 1) := by decide +kernel
theorem dX11_sum_57 : decode cX11_sum 57 = .ok (.iadd, 1) := by decide +kernel
theorem dX11_sum_58 : decode cX11_sum 58 = .ok (.istore_n 3, 1) := by decide +kernel
theorem dX11_sum_59 : decode cX11_sum 59 = .ok (.aload_n 2, 1) := by decide +kernel
theorem dX11_sum_60 : decode cX11_sum 60 = .ok (.getfield 367, 3) := by decide +kernel
theorem dX11_sum_63 : decode cX11_sum 63 = .ok (.tableswitch 50 1 3 #[25, 33, 40], 25) := by decide +kernel
theorem dX11_sum_88 : decode cX11_sum 88 = .ok (.iload_n 3, 1) := by decide +kernel
theorem dX11_sum_89 : decode cX11_sum 89 = .ok (.iconst 1, 1) := by decide +kernel
theorem dX11_sum_90 : decode cX11_sum 90 = .ok (.iconst 0, 1) := by decide +kernel
theorem dX11_sum_91 : decode cX11_sum 91 = .ok (.invokestatic 373, 3) := by decide +kernel
theorem dX11_sum_94 : decode cX11_sum 94 = .ok (.iadd, 1) := by decide +kernel
theorem dX11_sum_95 : decode cX11_sum 95 = .ok (.ireturn, 1) := by decide +kernel
theorem dX11_sum_96 : decode cX11_sum 96 = .ok (.iload_n 3, 1) := by decide +kernel
theorem dX11_sum_97 : decode cX11_sum 97 = .ok (.aload_n 2, 1) := by decide +kernel
theorem dX11_sum_98 : decode cX11_sum 98 = .ok (.getfield 376, 3) := by decide +kernel
theorem dX11_sum_101 : decode cX11_sum 101 = .ok (.iadd, 1) := by decide +kernel
theorem dX11_sum_102 : decode cX11_sum 102 = .ok (.ireturn, 1) := by decide +kernel
theorem dX11_sum_103 : decode cX11_sum 103 = .ok (.iconst 2, 1) := by decide +kernel
theorem dX11_sum_104 : decode cX11_sum 104 = .ok (.iload_n 3, 1) := by decide +kernel
theorem dX11_sum_105 : decode cX11_sum 105 = .ok (.iconst 3, 1) := by decide +kernel
theorem dX11_sum_106 : decode cX11_sum 106 = .ok (.iconst 0, 1) := by decide +kernel
theorem dX11_sum_107 : decode cX11_sum 107 = .ok (.invokestatic 373, 3) := by decide +kernel
theorem dX11_sum_110 : decode cX11_sum 110 = .ok (.iadd, 1) := by decide +kernel
theorem dX11_sum_111 : decode cX11_sum 111 = .ok (.imul, 1) := by decide +kernel
theorem dX11_sum_112 : decode cX11_sum 112 = .ok (.ireturn, 1) := by decide +kernel
theorem dX11_sum_113 : decode cX11_sum 113 = .ok (.iload_n 3, 1) := by decide +kernel
theorem dX11_sum_114 : decode cX11_sum 114 = .ok (.ireturn, 1) := by decide +kernel
theorem dX11_toss_0 : decode cX11_toss 0 = .ok (.aload_n 0, 1) := by decide +kernel
theorem dX11_toss_1 : decode cX11_toss 1 = .ok (.iload_n 1, 1) := by decide +kernel
theorem dX11_toss_2 : decode cX11_toss 2 = .ok (.invokevirtual 162, 3) := by decide +kernel
theorem dX11_toss_5 : decode cX11_toss 5 = .ok (.astore_n 2, 1) := by decide +kernel
theorem dX11_toss_6 : decode cX11_toss 6 = .ok (.aload_n 2, 1) := by decide +kernel
theorem dX11_toss_7 : decode cX11_toss 7 = .ok (.ifnonnull 5, 3) := by decide +kernel
theorem dX11_toss_10 : decode cX11_toss 10 = .ok (.iconst (-1), 1) := by decide +kernel
theorem dX11_toss_11 : decode cX11_toss 11 = .ok (.ireturn, 1) := by decide +kernel
theorem dX11_toss_12 : decode cX11_toss 12 = .ok (.aload_n 2, 1) := by decide +kernel
theorem dX11_toss_13 : decode cX11_toss 13 = .ok (.getfield 331, 3) := by decide +kernel
theorem dX11_toss_16 : decode cX11_toss 16 = .ok (.iconst 1, 1) := by decide +kernel
theorem dX11_toss_17 : decode cX11_toss 17 = .ok (.if_icmp .eq 18, 3) := by decide +kernel
theorem dX11_toss_20 : decode cX11_toss 20 = .ok (.aload_n 2, 1) := by decide +kernel
theorem dX11_toss_21 : decode cX11_toss 21 = .ok (.getfield 331, 3) := by decide +kernel
theorem dX11_toss_24 : decode cX11_toss 24 = .ok (.ifCond .ne 8, 3) := by decide +kernel
theorem dX11_toss_27 : decode cX11_toss 27 = .ok (.bipush (-11), 2) := by decide +kernel
theorem dX11_toss_29 : decode cX11_toss 29 = .ok (.goto 5, 3) := by decide +kernel
theorem dX11_toss_32 : decode cX11_toss 32 = .ok (.bipush (-12), 2) := by decide +kernel
theorem dX11_toss_34 : decode cX11_toss 34 = .ok (.ireturn, 1) := by decide +kernel
theorem dX11_toss_35 : decode cX11_toss 35 = .ok (.aload_n 2, 1) := by decide +kernel
theorem dX11_toss_36 : decode cX11_toss 36 = .ok (.invokestatic 377, 3) := by decide +kernel
theorem dX11_toss_39 : decode cX11_toss 39 = .ok (.bipush (-15), 2) := by decide +kernel
theorem dX11_toss_41 : decode cX11_toss 41 = .ok (.ireturn, 1) := by decide +kernel
theorem dX11_toss_42 : decode cX11_toss 42 = .ok (.astore_n 3, 1) := by decide +kernel
theorem dX11_toss_43 : decode cX11_toss 43 = .ok (.bipush 100, 2) := by decide +kernel
theorem dX11_toss_45 : decode cX11_toss 45 = .ok (.aload_n 2, 1) := by decide +kernel
theorem dX11_toss_46 : decode cX11_toss 46 = .ok (.getfield 383, 3) := by decide +kernel
theorem dX11_toss_49 : decode cX11_toss 49 = .ok (.iadd, 1) := by decide +kernel
theorem dX11_toss_50 : decode cX11_toss 50 = .ok (.ireturn, 1) := by decide +kernel
theorem dX11_toss_51 : decode cX11_toss 51 = .ok (.astore_n 3, 1) := by decide +kernel
theorem dX11_toss_52 : decode cX11_toss 52 = .ok (.aload_n 2, 1) := by decide +kernel
theorem dX11_toss_53 : decode cX11_toss 53 = .ok (.getfield 383, 3) := by decide +kernel
theorem dX11_toss_56 : decode cX11_toss 56 = .ok (.ireturn, 1) := by decide +kernel
theorem dX11_throwFailure_0 : decode cX11_throwFailure 0 = .ok (.aload_n 0, 1) := by decide +kernel
theorem dX11_throwFailure_1 : decode cX11_throwFailure 1 = .ok (.getfield 384, 3) := by decide +kernel
theorem dX11_throwFailure_4 : decode cX11_throwFailure 4 = .ok (.ifCond .ne 10, 3) := by decide +kernel
theorem dX11_throwFailure_7 : decode cX11_throwFailure 7 = .ok (.aload_n 0, 1) := by decide +kernel
theorem dX11_throwFailure_8 : decode cX11_throwFailure 8 = .ok (.getfield 367, 3) := by decide +kernel
theorem dX11_throwFailure_11 : decode cX11_throwFailure 11 = .ok (.ifCond .ne 4, 3) := by decide +kernel
theorem dX11_throwFailure_14 : decode cX11_throwFailure 14 = .ok (.return_, 1) := by decide +kernel
theorem dX11_throwFailure_15 : decode cX11_throwFailure 15 = .ok (.aload_n 0, 1) := by decide +kernel
theorem dX11_throwFailure_16 : decode cX11_throwFailure 16 = .ok (.getfield 367, 3) := by decide +kernel
theorem dX11_throwFailure_19 : decode cX11_throwFailure 19 = .ok (.iconst 3, 1) := by decide +kernel
theorem dX11_throwFailure_20 : decode cX11_throwFailure 20 = .ok (.if_icmp .ne 14, 3) := by decide +kernel
theorem dX11_throwFailure_23 : decode cX11_throwFailure 23 = .ok (.new 381, 3) := by decide +kernel
theorem dX11_throwFailure_26 : decode cX11_throwFailure 26 = .ok (.dup, 1) := by decide +kernel
theorem dX11_throwFailure_27 : decode cX11_throwFailure 27 = .ok (.ldc_w 385, 3) := by decide +kernel
theorem dX11_throwFailure_30 : decode cX11_throwFailure 30 = .ok (.invokespecial 387, 3) := by decide +kernel
theorem dX11_throwFailure_33 : decode cX11_throwFailure 33 = .ok (.athrow, 1) := by decide +kernel
theorem dX11_throwFailure_34 : decode cX11_throwFailure 34 = .ok (.new 350, 3) := by decide +kernel
theorem dX11_throwFailure_37 : decode cX11_throwFailure 37 = .ok (.dup, 1) := by decide +kernel
theorem dX11_throwFailure_38 : decode cX11_throwFailure 38 = .ok (.ldc_w 388, 3) := by decide +kernel
theorem dX11_throwFailure_41 : decode cX11_throwFailure 41 = .ok (.invokespecial 354, 3) := by decide +kernel
theorem dX11_throwFailure_44 : decode cX11_throwFailure 44 = .ok (.athrow, 1) := by decide +kernel
theorem dX11_shelfAt_0 : decode cX11_shelfAt 0 = .ok (.iload_n 1, 1) := by decide +kernel
theorem dX11_shelfAt_1 : decode cX11_shelfAt 1 = .ok (.ifCond .lt 18, 3) := by decide +kernel
theorem dX11_shelfAt_4 : decode cX11_shelfAt 4 = .ok (.iload_n 1, 1) := by decide +kernel
theorem dX11_shelfAt_5 : decode cX11_shelfAt 5 = .ok (.bipush 8, 2) := by decide +kernel
theorem dX11_shelfAt_7 : decode cX11_shelfAt 7 = .ok (.if_icmp .ge 12, 3) := by decide +kernel
theorem dX11_shelfAt_10 : decode cX11_shelfAt 10 = .ok (.aload_n 0, 1) := by decide +kernel
theorem dX11_shelfAt_11 : decode cX11_shelfAt 11 = .ok (.getfield 34, 3) := by decide +kernel
theorem dX11_shelfAt_14 : decode cX11_shelfAt 14 = .ok (.iload_n 1, 1) := by decide +kernel
theorem dX11_shelfAt_15 : decode cX11_shelfAt 15 = .ok (.aaload, 1) := by decide +kernel
theorem dX11_shelfAt_16 : decode cX11_shelfAt 16 = .ok (.goto 4, 3) := by decide +kernel
theorem dX11_shelfAt_19 : decode cX11_shelfAt 19 = .ok (.aconst_null, 1) := by decide +kernel
theorem dX11_shelfAt_20 : decode cX11_shelfAt 20 = .ok (.areturn, 1) := by decide +kernel
theorem dX11_tellAbout_0 : decode cX11_tellAbout 0 = .ok (.iload_n 1, 1) := by decide +kernel
theorem dX11_tellAbout_1 : decode cX11_tellAbout 1 = .ok (.tableswitch 140 0 10 #[59, 64, 72, 80, 85, 90, 103, 108, 113, 118, 123], 59) := by decide +kernel
theorem dX11_tellAbout_60 : decode cX11_tellAbout 60 = .ok (.aload_n 0, 1) := by decide +kernel
theorem dX11_tellAbout_61 : decode cX11_tellAbout 61 = .ok (.getfield 390, 3) := by decide +kernel
theorem dX11_tellAbout_64 : decode cX11_tellAbout 64 = .ok (.ireturn, 1) := by decide +kernel
theorem dX11_tellAbout_65 : decode cX11_tellAbout 65 = .ok (.aload_n 0, 1) := by decide +kernel
theorem dX11_tellAbout_66 : decode cX11_tellAbout 66 = .ok (.getfield 287, 3) := by decide +kernel
theorem dX11_tellAbout_69 : decode cX11_tellAbout 69 = .ok (.invokestatic 391, 3) := by decide +kernel
theorem dX11_tellAbout_72 : decode cX11_tellAbout 72 = .ok (.ireturn, 1) := by decide +kernel
theorem dX11_tellAbout_73 : decode cX11_tellAbout 73 = .ok (.aload_n 0, 1) := by decide +kernel
theorem dX11_tellAbout_74 : decode cX11_tellAbout 74 = .ok (.getfield 287, 3) := by decide +kernel
theorem dX11_tellAbout_77 : decode cX11_tellAbout 77 = .ok (.invokestatic 394, 3) := by decide +kernel
theorem dX11_tellAbout_80 : decode cX11_tellAbout 80 = .ok (.ireturn, 1) := by decide +kernel
theorem dX11_tellAbout_81 : decode cX11_tellAbout 81 = .ok (.aload_n 0, 1) := by decide +kernel
theorem dX11_tellAbout_82 : decode cX11_tellAbout 82 = .ok (.getfield 155, 3) := by decide +kernel
theorem dX11_tellAbout_85 : decode cX11_tellAbout 85 = .ok (.ireturn, 1) := by decide +kernel
theorem dX11_tellAbout_86 : decode cX11_tellAbout 86 = .ok (.aload_n 0, 1) := by decide +kernel
theorem dX11_tellAbout_87 : decode cX11_tellAbout 87 = .ok (.getfield 152, 3) := by decide +kernel
theorem dX11_tellAbout_90 : decode cX11_tellAbout 90 = .ok (.ireturn, 1) := by decide +kernel
theorem dX11_tellAbout_91 : decode cX11_tellAbout 91 = .ok (.aload_n 0, 1) := by decide +kernel
theorem dX11_tellAbout_92 : decode cX11_tellAbout 92 = .ok (.getfield 144, 3) := by decide +kernel
theorem dX11_tellAbout_95 : decode cX11_tellAbout 95 = .ok (.ifCond .eq 7, 3) := by decide +kernel
theorem dX11_tellAbout_98 : decode cX11_tellAbout 98 = .ok (.iconst 1, 1) := by decide +kernel
theorem dX11_tellAbout_99 : decode cX11_tellAbout 99 = .ok (.goto 4, 3) := by decide +kernel
theorem dX11_tellAbout_102 : decode cX11_tellAbout 102 = .ok (.iconst 0, 1) := by decide +kernel
theorem dX11_tellAbout_103 : decode cX11_tellAbout 103 = .ok (.ireturn, 1) := by decide +kernel
theorem dX11_tellAbout_104 : decode cX11_tellAbout 104 = .ok (.aload_n 0, 1) := by decide +kernel
theorem dX11_tellAbout_105 : decode cX11_tellAbout 105 = .ok (.getfield 240, 3) := by decide +kernel
theorem dX11_tellAbout_108 : decode cX11_tellAbout 108 = .ok (.ireturn, 1) := by decide +kernel
theorem dX11_tellAbout_109 : decode cX11_tellAbout 109 = .ok (.aload_n 0, 1) := by decide +kernel
theorem dX11_tellAbout_110 : decode cX11_tellAbout 110 = .ok (.getfield 397, 3) := by decide +kernel
theorem dX11_tellAbout_113 : decode cX11_tellAbout 113 = .ok (.ireturn, 1) := by decide +kernel
theorem dX11_tellAbout_114 : decode cX11_tellAbout 114 = .ok (.aload_n 0, 1) := by decide +kernel
theorem dX11_tellAbout_115 : decode cX11_tellAbout 115 = .ok (.getfield 400, 3) := by decide +kernel
theorem dX11_tellAbout_118 : decode cX11_tellAbout 118 = .ok (.ireturn, 1) := by decide +kernel
theorem dX11_tellAbout_119 : decode cX11_tellAbout 119 = .ok (.aload_n 0, 1) := by decide +kernel
theorem dX11_tellAbout_120 : decode cX11_tellAbout 120 = .ok (.getfield 403, 3) := by decide +kernel
theorem dX11_tellAbout_123 : decode cX11_tellAbout 123 = .ok (.ireturn, 1) := by decide +kernel
theorem dX11_tellAbout_124 : decode cX11_tellAbout 124 = .ok (.aload_n 0, 1) := by decide +kernel
theorem dX11_tellAbout_125 : decode cX11_tellAbout 125 = .ok (.getfield 406, 3) := by decide +kernel
theorem dX11_tellAbout_128 : decode cX11_tellAbout 128 = .ok (.ifCond .eq 10, 3) := by decide +kernel
theorem dX11_tellAbout_131 : decode cX11_tellAbout 131 = .ok (.aload_n 0, 1) := by decide +kernel
theorem dX11_tellAbout_132 : decode cX11_tellAbout 132 = .ok (.getfield 409, 3) := by decide +kernel
theorem dX11_tellAbout_135 : decode cX11_tellAbout 135 = .ok (.goto 5, 3) := by decide +kernel
theorem dX11_tellAbout_138 : decode cX11_tellAbout 138 = .ok (.bipush (-4), 2) := by decide +kernel
theorem dX11_tellAbout_140 : decode cX11_tellAbout 140 = .ok (.ireturn, 1) := by decide +kernel
theorem dX11_tellAbout_141 : decode cX11_tellAbout 141 = .ok (.iconst (-1), 1) := by decide +kernel
theorem dX11_tellAbout_142 : decode cX11_tellAbout 142 = .ok (.ireturn, 1) := by decide +kernel
theorem dX11_isCell_0 : decode cX11_isCell 0 = .ok (.iload_n 0, 1) := by decide +kernel
theorem dX11_isCell_1 : decode cX11_isCell 1 = .ok (.ifCond .lt 23, 3) := by decide +kernel
theorem dX11_isCell_4 : decode cX11_isCell 4 = .ok (.iload_n 0, 1) := by decide +kernel
theorem dX11_isCell_5 : decode cX11_isCell 5 = .ok (.bipush 10, 2) := by decide +kernel
theorem dX11_isCell_7 : decode cX11_isCell 7 = .ok (.if_icmp .ge 17, 3) := by decide +kernel
theorem dX11_isCell_10 : decode cX11_isCell 10 = .ok (.iload_n 1, 1) := by decide +kernel
theorem dX11_isCell_11 : decode cX11_isCell 11 = .ok (.ifCond .lt 13, 3) := by decide +kernel
theorem dX11_isCell_14 : decode cX11_isCell 14 = .ok (.iload_n 1, 1) := by decide +kernel
theorem dX11_isCell_15 : decode cX11_isCell 15 = .ok (.bipush 8, 2) := by decide +kernel
theorem dX11_isCell_17 : decode cX11_isCell 17 = .ok (.if_icmp .ge 7, 3) := by decide +kernel
theorem dX11_isCell_20 : decode cX11_isCell 20 = .ok (.iconst 1, 1) := by decide +kernel
theorem dX11_isCell_21 : decode cX11_isCell 21 = .ok (.goto 4, 3) := by decide +kernel
theorem dX11_isCell_24 : decode cX11_isCell 24 = .ok (.iconst 0, 1) := by decide +kernel
theorem dX11_isCell_25 : decode cX11_isCell 25 = .ok (.ireturn, 1) := by decide +kernel
theorem dX11_isLayer_0 : decode cX11_isLayer 0 = .ok (.iload_n 0, 1) := by decide +kernel
theorem dX11_isLayer_1 : decode cX11_isLayer 1 = .ok (.ifCond .lt 12, 3) := by decide +kernel
theorem dX11_isLayer_4 : decode cX11_isLayer 4 = .ok (.iload_n 0, 1) := by decide +kernel
theorem dX11_isLayer_5 : decode cX11_isLayer 5 = .ok (.iconst 4, 1) := by decide +kernel
theorem dX11_isLayer_6 : decode cX11_isLayer 6 = .ok (.if_icmp .ge 7, 3) := by decide +kernel
theorem dX11_isLayer_9 : decode cX11_isLayer 9 = .ok (.iconst 1, 1) := by decide +kernel
theorem dX11_isLayer_10 : decode cX11_isLayer 10 = .ok (.goto 4, 3) := by decide +kernel
theorem dX11_isLayer_13 : decode cX11_isLayer 13 = .ok (.iconst 0, 1) := by decide +kernel
theorem dX11_isLayer_14 : decode cX11_isLayer 14 = .ok (.ireturn, 1) := by decide +kernel
theorem dX11_isStream_0 : decode cX11_isStream 0 = .ok (.iload_n 0, 1) := by decide +kernel
theorem dX11_isStream_1 : decode cX11_isStream 1 = .ok (.bipush (-2), 2) := by decide +kernel
theorem dX11_isStream_3 : decode cX11_isStream 3 = .ok (.if_icmp .lt 12, 3) := by decide +kernel
theorem dX11_isStream_6 : decode cX11_isStream 6 = .ok (.iload_n 0, 1) := by decide +kernel
theorem dX11_isStream_7 : decode cX11_isStream 7 = .ok (.iconst 2, 1) := by decide +kernel
theorem dX11_isStream_8 : decode cX11_isStream 8 = .ok (.if_icmp .gt 7, 3) := by decide +kernel
theorem dX11_isStream_11 : decode cX11_isStream 11 = .ok (.iconst 1, 1) := by decide +kernel
theorem dX11_isStream_12 : decode cX11_isStream 12 = .ok (.goto 4, 3) := by decide +kernel
theorem dX11_isStream_15 : decode cX11_isStream 15 = .ok (.iconst 0, 1) := by decide +kernel
theorem dX11_isStream_16 : decode cX11_isStream 16 = .ok (.ireturn, 1) := by decide +kernel
theorem dX11_isSpan_0 : decode cX11_isSpan 0 = .ok (.iload_n 0, 1) := by decide +kernel
theorem dX11_isSpan_1 : decode cX11_isSpan 1 = .ok (.ifCond .lt 32, 3) := by decide +kernel
theorem dX11_isSpan_4 : decode cX11_isSpan 4 = .ok (.iload_n 0, 1) := by decide +kernel
theorem dX11_isSpan_5 : decode cX11_isSpan 5 = .ok (.bipush 100, 2) := by decide +kernel
theorem dX11_isSpan_7 : decode cX11_isSpan 7 = .ok (.if_icmp .ge 26, 3) := by decide +kernel
theorem dX11_isSpan_10 : decode cX11_isSpan 10 = .ok (.iload_n 0, 1) := by decide +kernel
theorem dX11_isSpan_11 : decode cX11_isSpan 11 = .ok (.bipush 10, 2) := by decide +kernel
theorem dX11_isSpan_13 : decode cX11_isSpan 13 = .ok (.idiv, 1) := by decide +kernel
theorem dX11_isSpan_14 : decode cX11_isSpan 14 = .ok (.iload_n 0, 1) := by decide +kernel
theorem dX11_isSpan_15 : decode cX11_isSpan 15 = .ok (.bipush 10, 2) := by decide +kernel
theorem dX11_isSpan_17 : decode cX11_isSpan 17 = .ok (.irem, 1) := by decide +kernel
theorem dX11_isSpan_18 : decode cX11_isSpan 18 = .ok (.if_icmp .gt 15, 3) := by decide +kernel
theorem dX11_isSpan_21 : decode cX11_isSpan 21 = .ok (.iload_n 0, 1) := by decide +kernel
theorem dX11_isSpan_22 : decode cX11_isSpan 22 = .ok (.bipush 10, 2) := by decide +kernel
theorem dX11_isSpan_24 : decode cX11_isSpan 24 = .ok (.irem, 1) := by decide +kernel
theorem dX11_isSpan_25 : decode cX11_isSpan 25 = .ok (.iload_n 1, 1) := by decide +kernel
theorem dX11_isSpan_26 : decode cX11_isSpan 26 = .ok (.if_icmp .ge 7, 3) := by decide +kernel
theorem dX11_isSpan_29 : decode cX11_isSpan 29 = .ok (.iconst 1, 1) := by decide +kernel
theorem dX11_isSpan_30 : decode cX11_isSpan 30 = .ok (.goto 4, 3) := by decide +kernel
theorem dX11_isSpan_33 : decode cX11_isSpan 33 = .ok (.iconst 0, 1) := by decide +kernel
theorem dX11_isSpan_34 : decode cX11_isSpan 34 = .ok (.ireturn, 1) := by decide +kernel
theorem dX11_isSeaValue_0 : decode cX11_isSeaValue 0 = .ok (.iload_n 0, 1) := by decide +kernel
theorem dX11_isSeaValue_1 : decode cX11_isSeaValue 1 = .ok (.tableswitch 73 0 2 #[27, 42, 57], 27) := by decide +kernel
theorem dX11_isSeaValue_28 : decode cX11_isSeaValue 28 = .ok (.iload_n 1, 1) := by decide +kernel
theorem dX11_isSeaValue_29 : decode cX11_isSeaValue 29 = .ok (.ifCond .lt 12, 3) := by decide +kernel
theorem dX11_isSeaValue_32 : decode cX11_isSeaValue 32 = .ok (.iload_n 1, 1) := by decide +kernel
theorem dX11_isSeaValue_33 : decode cX11_isSeaValue 33 = .ok (.iconst 4, 1) := by decide +kernel
theorem dX11_isSeaValue_34 : decode cX11_isSeaValue 34 = .ok (.if_icmp .gt 7, 3) := by decide +kernel
theorem dX11_isSeaValue_37 : decode cX11_isSeaValue 37 = .ok (.iconst 1, 1) := by decide +kernel
theorem dX11_isSeaValue_38 : decode cX11_isSeaValue 38 = .ok (.goto 4, 3) := by decide +kernel
theorem dX11_isSeaValue_41 : decode cX11_isSeaValue 41 = .ok (.iconst 0, 1) := by decide +kernel
theorem dX11_isSeaValue_42 : decode cX11_isSeaValue 42 = .ok (.ireturn, 1) := by decide +kernel
theorem dX11_isSeaValue_43 : decode cX11_isSeaValue 43 = .ok (.iload_n 1, 1) := by decide +kernel
theorem dX11_isSeaValue_44 : decode cX11_isSeaValue 44 = .ok (.ifCond .eq 8, 3) := by decide +kernel
theorem dX11_isSeaValue_47 : decode cX11_isSeaValue 47 = .ok (.iload_n 1, 1) := by decide +kernel
theorem dX11_isSeaValue_48 : decode cX11_isSeaValue 48 = .ok (.iconst 1, 1) := by decide +kernel
theorem dX11_isSeaValue_49 : decode cX11_isSeaValue 49 = .ok (.if_icmp .ne 7, 3) := by decide +kernel
theorem dX11_isSeaValue_52 : decode cX11_isSeaValue 52 = .ok (.iconst 1, 1) := by decide +kernel
theorem dX11_isSeaValue_53 : decode cX11_isSeaValue 53 = .ok (.goto 4, 3) := by decide +kernel
theorem dX11_isSeaValue_56 : decode cX11_isSeaValue 56 = .ok (.iconst 0, 1) := by decide +kernel
theorem dX11_isSeaValue_57 : decode cX11_isSeaValue 57 = .ok (.ireturn, 1) := by decide +kernel
theorem dX11_isSeaValue_58 : decode cX11_isSeaValue 58 = .ok (.iload_n 1, 1) := by decide +kernel
theorem dX11_isSeaValue_59 : decode cX11_isSeaValue 59 = .ok (.ifCond .lt 13, 3) := by decide +kernel
theorem dX11_isSeaValue_62 : decode cX11_isSeaValue 62 = .ok (.iload_n 1, 1) := by decide +kernel
theorem dX11_isSeaValue_63 : decode cX11_isSeaValue 63 = .ok (.bipush 99, 2) := by decide +kernel
theorem dX11_isSeaValue_65 : decode cX11_isSeaValue 65 = .ok (.if_icmp .gt 7, 3) := by decide +kernel
theorem dX11_isSeaValue_68 : decode cX11_isSeaValue 68 = .ok (.iconst 1, 1) := by decide +kernel
theorem dX11_isSeaValue_69 : decode cX11_isSeaValue 69 = .ok (.goto 4, 3) := by decide +kernel
theorem dX11_isSeaValue_72 : decode cX11_isSeaValue 72 = .ok (.iconst 0, 1) := by decide +kernel
theorem dX11_isSeaValue_73 : decode cX11_isSeaValue 73 = .ok (.ireturn, 1) := by decide +kernel
theorem dX11_isSeaValue_74 : decode cX11_isSeaValue 74 = .ok (.iconst 0, 1) := by decide +kernel
theorem dX11_isSeaValue_75 : decode cX11_isSeaValue 75 = .ok (.ireturn, 1) := by decide +kernel
theorem dX11_isStretch_0 : decode cX11_isStretch 0 = .ok (.iload_n 0, 1) := by decide +kernel
theorem dX11_isStretch_1 : decode cX11_isStretch 1 = .ok (.ifCond .lt 23, 3) := by decide +kernel
theorem dX11_isStretch_4 : decode cX11_isStretch 4 = .ok (.iload_n 1, 1) := by decide +kernel
theorem dX11_isStretch_5 : decode cX11_isStretch 5 = .ok (.ifCond .lt 19, 3) := by decide +kernel
theorem dX11_isStretch_8 : decode cX11_isStretch 8 = .ok (.iload_n 0, 1) := by decide +kernel
theorem dX11_isStretch_9 : decode cX11_isStretch 9 = .ok (.iload_n 2, 1) := by decide +kernel
theorem dX11_isStretch_10 : decode cX11_isStretch 10 = .ok (.if_icmp .gt 14, 3) := by decide +kernel
theorem dX11_isStretch_13 : decode cX11_isStretch 13 = .ok (.iload_n 1, 1) := by decide +kernel
theorem dX11_isStretch_14 : decode cX11_isStretch 14 = .ok (.iload_n 2, 1) := by decide +kernel
theorem dX11_isStretch_15 : decode cX11_isStretch 15 = .ok (.iload_n 0, 1) := by decide +kernel
theorem dX11_isStretch_16 : decode cX11_isStretch 16 = .ok (.isub, 1) := by decide +kernel
theorem dX11_isStretch_17 : decode cX11_isStretch 17 = .ok (.if_icmp .gt 7, 3) := by decide +kernel
theorem dX11_isStretch_20 : decode cX11_isStretch 20 = .ok (.iconst 1, 1) := by decide +kernel
theorem dX11_isStretch_21 : decode cX11_isStretch 21 = .ok (.goto 4, 3) := by decide +kernel
theorem dX11_isStretch_24 : decode cX11_isStretch 24 = .ok (.iconst 0, 1) := by decide +kernel
theorem dX11_isStretch_25 : decode cX11_isStretch 25 = .ok (.ireturn, 1) := by decide +kernel
theorem dX11_cellOf_0 : decode cX11_cellOf 0 = .ok (.bipush 8, 2) := by decide +kernel
theorem dX11_cellOf_2 : decode cX11_cellOf 2 = .ok (.iload_n 0, 1) := by decide +kernel
theorem dX11_cellOf_3 : decode cX11_cellOf 3 = .ok (.imul, 1) := by decide +kernel
theorem dX11_cellOf_4 : decode cX11_cellOf 4 = .ok (.iload_n 1, 1) := by decide +kernel
theorem dX11_cellOf_5 : decode cX11_cellOf 5 = .ok (.iadd, 1) := by decide +kernel
theorem dX11_cellOf_6 : decode cX11_cellOf 6 = .ok (.ireturn, 1) := by decide +kernel
theorem dX11_xOf_0 : decode cX11_xOf 0 = .ok (.iload_n 0, 1) := by decide +kernel
theorem dX11_xOf_1 : decode cX11_xOf 1 = .ok (.bipush 8, 2) := by decide +kernel
theorem dX11_xOf_3 : decode cX11_xOf 3 = .ok (.idiv, 1) := by decide +kernel
theorem dX11_xOf_4 : decode cX11_xOf 4 = .ok (.ireturn, 1) := by decide +kernel
theorem dX11_yOf_0 : decode cX11_yOf 0 = .ok (.iload_n 0, 1) := by decide +kernel
theorem dX11_yOf_1 : decode cX11_yOf 1 = .ok (.bipush 8, 2) := by decide +kernel
theorem dX11_yOf_3 : decode cX11_yOf 3 = .ok (.irem, 1) := by decide +kernel
theorem dX11_yOf_4 : decode cX11_yOf 4 = .ok (.ireturn, 1) := by decide +kernel
theorem dX11_placeOf_0 : decode cX11_placeOf 0 = .ok (.iconst 4, 1) := by decide +kernel
theorem dX11_placeOf_1 : decode cX11_placeOf 1 = .ok (.iload_n 0, 1) := by decide +kernel
theorem dX11_placeOf_2 : decode cX11_placeOf 2 = .ok (.imul, 1) := by decide +kernel
theorem dX11_placeOf_3 : decode cX11_placeOf 3 = .ok (.iload_n 1, 1) := by decide +kernel
theorem dX11_placeOf_4 : decode cX11_placeOf 4 = .ok (.iadd, 1) := by decide +kernel
theorem dX11_placeOf_5 : decode cX11_placeOf 5 = .ok (.ireturn, 1) := by decide +kernel
theorem dX11_changeAt_0 : decode cX11_changeAt 0 = .ok (.aload_n 0, 1) := by decide +kernel
theorem dX11_changeAt_1 : decode cX11_changeAt 1 = .ok (.iload_n 1, 1) := by decide +kernel
theorem dX11_changeAt_2 : decode cX11_changeAt 2 = .ok (.iaload, 1) := by decide +kernel
theorem dX11_changeAt_3 : decode cX11_changeAt 3 = .ok (.istore_n 3, 1) := by decide +kernel
theorem dX11_changeAt_4 : decode cX11_changeAt 4 = .ok (.aload_n 0, 1) := by decide +kernel
theorem dX11_changeAt_5 : decode cX11_changeAt 5 = .ok (.iload_n 1, 1) := by decide +kernel
theorem dX11_changeAt_6 : decode cX11_changeAt 6 = .ok (.iload_n 2, 1) := by decide +kernel
theorem dX11_changeAt_7 : decode cX11_changeAt 7 = .ok (.iastore, 1) := by decide +kernel
theorem dX11_changeAt_8 : decode cX11_changeAt 8 = .ok (.iload_n 3, 1) := by decide +kernel
theorem dX11_changeAt_9 : decode cX11_changeAt 9 = .ok (.iload_n 2, 1) := by decide +kernel
theorem dX11_changeAt_10 : decode cX11_changeAt 10 = .ok (.if_icmp .ne 7, 3) := by decide +kernel
theorem dX11_changeAt_13 : decode cX11_changeAt 13 = .ok (.iconst 0, 1) := by decide +kernel
theorem dX11_changeAt_14 : decode cX11_changeAt 14 = .ok (.goto 4, 3) := by decide +kernel
theorem dX11_changeAt_17 : decode cX11_changeAt 17 = .ok (.iconst 1, 1) := by decide +kernel
theorem dX11_changeAt_18 : decode cX11_changeAt 18 = .ok (.ireturn, 1) := by decide +kernel
theorem dX11_stepsBetween_0 : decode cX11_stepsBetween 0 = .ok (.iload_n 0, 1) := by decide +kernel
theorem dX11_stepsBetween_1 : decode cX11_stepsBetween 1 = .ok (.invokestatic 391, 3) := by decide +kernel
theorem dX11_stepsBetween_4 : decode cX11_stepsBetween 4 = .ok (.iload_n 1, 1) := by decide +kernel
theorem dX11_stepsBetween_5 : decode cX11_stepsBetween 5 = .ok (.invokestatic 391, 3) := by decide +kernel
theorem dX11_stepsBetween_8 : decode cX11_stepsBetween 8 = .ok (.isub, 1) := by decide +kernel
theorem dX11_stepsBetween_9 : decode cX11_stepsBetween 9 = .ok (.invokestatic 412, 3) := by decide +kernel
theorem dX11_stepsBetween_12 : decode cX11_stepsBetween 12 = .ok (.iload_n 0, 1) := by decide +kernel
theorem dX11_stepsBetween_13 : decode cX11_stepsBetween 13 = .ok (.invokestatic 394, 3) := by decide +kernel
theorem dX11_stepsBetween_16 : decode cX11_stepsBetween 16 = .ok (.iload_n 1, 1) := by decide +kernel
theorem dX11_stepsBetween_17 : decode cX11_stepsBetween 17 = .ok (.invokestatic 394, 3) := by decide +kernel
theorem dX11_stepsBetween_20 : decode cX11_stepsBetween 20 = .ok (.isub, 1) := by decide +kernel
theorem dX11_stepsBetween_21 : decode cX11_stepsBetween 21 = .ok (.invokestatic 412, 3) := by decide +kernel
theorem dX11_stepsBetween_24 : decode cX11_stepsBetween 24 = .ok (.iadd, 1) := by decide +kernel
theorem dX11_stepsBetween_25 : decode cX11_stepsBetween 25 = .ok (.ireturn, 1) := by decide +kernel
theorem dX11_costOf_0 : decode cX11_costOf 0 = .ok (.iconst 4, 1) := by decide +kernel
theorem dX11_costOf_1 : decode cX11_costOf 1 = .ok (.iconst 2, 1) := by decide +kernel
theorem dX11_costOf_2 : decode cX11_costOf 2 = .ok (.iload_n 1, 1) := by decide +kernel
theorem dX11_costOf_3 : decode cX11_costOf 3 = .ok (.imul, 1) := by decide +kernel
theorem dX11_costOf_4 : decode cX11_costOf 4 = .ok (.iadd, 1) := by decide +kernel
theorem dX11_costOf_5 : decode cX11_costOf 5 = .ok (.istore_n 2, 1) := by decide +kernel
theorem dX11_costOf_6 : decode cX11_costOf 6 = .ok (.iload_n 0, 1) := by decide +kernel
theorem dX11_costOf_7 : decode cX11_costOf 7 = .ok (.tableswitch 39 1 3 #[25, 29, 33], 25) := by decide +kernel
theorem dX11_costOf_32 : decode cX11_costOf 32 = .ok (.iload_n 2, 1) := by decide +kernel
theorem dX11_costOf_33 : decode cX11_costOf 33 = .ok (.iconst 2, 1) := by decide +kernel
theorem dX11_costOf_34 : decode cX11_costOf 34 = .ok (.idiv, 1) := by decide +kernel
theorem dX11_costOf_35 : decode cX11_costOf 35 = .ok (.ireturn, 1) := by decide +kernel
theorem dX11_costOf_36 : decode cX11_costOf 36 = .ok (.iload_n 2, 1) := by decide +kernel
theorem dX11_costOf_37 : decode cX11_costOf 37 = .ok (.iconst 1, 1) := by decide +kernel
theorem dX11_costOf_38 : decode cX11_costOf 38 = .ok (.isub, 1) := by decide +kernel
theorem dX11_costOf_39 : decode cX11_costOf 39 = .ok (.ireturn, 1) := by decide +kernel
theorem dX11_costOf_40 : decode cX11_costOf 40 = .ok (.iload_n 2, 1) := by decide +kernel
theorem dX11_costOf_41 : decode cX11_costOf 41 = .ok (.iconst 2, 1) := by decide +kernel
theorem dX11_costOf_42 : decode cX11_costOf 42 = .ok (.idiv, 1) := by decide +kernel
theorem dX11_costOf_43 : decode cX11_costOf 43 = .ok (.iconst 1, 1) := by decide +kernel
theorem dX11_costOf_44 : decode cX11_costOf 44 = .ok (.iadd, 1) := by decide +kernel
theorem dX11_costOf_45 : decode cX11_costOf 45 = .ok (.ireturn, 1) := by decide +kernel
theorem dX11_costOf_46 : decode cX11_costOf 46 = .ok (.iload_n 2, 1) := by decide +kernel
theorem dX11_costOf_47 : decode cX11_costOf 47 = .ok (.ireturn, 1) := by decide +kernel
theorem dX11_lowestBits_0 : decode cX11_lowestBits 0 = .ok (.iload_n 0, 1) := by decide +kernel
theorem dX11_lowestBits_1 : decode cX11_lowestBits 1 = .ok (.ifCond .ne 6, 3) := by decide +kernel
theorem dX11_lowestBits_4 : decode cX11_lowestBits 4 = .ok (.iload_n 1, 1) := by decide +kernel
theorem dX11_lowestBits_5 : decode cX11_lowestBits 5 = .ok (.i2b, 1) := by decide +kernel
theorem dX11_lowestBits_6 : decode cX11_lowestBits 6 = .ok (.ireturn, 1) := by decide +kernel
theorem dX11_lowestBits_7 : decode cX11_lowestBits 7 = .ok (.iload_n 0, 1) := by decide +kernel
theorem dX11_lowestBits_8 : decode cX11_lowestBits 8 = .ok (.iconst 1, 1) := by decide +kernel
theorem dX11_lowestBits_9 : decode cX11_lowestBits 9 = .ok (.if_icmp .ne 8, 3) := by decide +kernel
theorem dX11_lowestBits_12 : decode cX11_lowestBits 12 = .ok (.iload_n 1, 1) := by decide +kernel
theorem dX11_lowestBits_13 : decode cX11_lowestBits 13 = .ok (.i2s, 1) := by decide +kernel
theorem dX11_lowestBits_14 : decode cX11_lowestBits 14 = .ok (.goto 4, 3) := by decide +kernel
theorem dX11_lowestBits_17 : decode cX11_lowestBits 17 = .ok (.iload_n 1, 1) := by decide +kernel
theorem dX11_lowestBits_18 : decode cX11_lowestBits 18 = .ok (.ireturn, 1) := by decide +kernel
theorem dX11_copyAll_0 : decode cX11_copyAll 0 = .ok (.aload_n 0, 1) := by decide +kernel
theorem dX11_copyAll_1 : decode cX11_copyAll 1 = .ok (.iconst 0, 1) := by decide +kernel
theorem dX11_copyAll_2 : decode cX11_copyAll 2 = .ok (.aload_n 1, 1) := by decide +kernel
theorem dX11_copyAll_3 : decode cX11_copyAll 3 = .ok (.iconst 0, 1) := by decide +kernel
theorem dX11_copyAll_4 : decode cX11_copyAll 4 = .ok (.aload_n 0, 1) := by decide +kernel
theorem dX11_copyAll_5 : decode cX11_copyAll 5 = .ok (.arraylength, 1) := by decide +kernel
theorem dX11_copyAll_6 : decode cX11_copyAll 6 = .ok (.aload_n 1, 1) := by decide +kernel
theorem dX11_copyAll_7 : decode cX11_copyAll 7 = .ok (.arraylength, 1) := by decide +kernel
theorem dX11_copyAll_8 : decode cX11_copyAll 8 = .ok (.invokestatic 417, 3) := by decide +kernel
theorem dX11_copyAll_11 : decode cX11_copyAll 11 = .ok (.invokestatic 358, 3) := by decide +kernel
theorem dX11_copyAll_14 : decode cX11_copyAll 14 = .ok (.return_, 1) := by decide +kernel
theorem dX12_thrown_0 : decode cX12_thrown 0 = .ok (.aload_n 0, 1) := by decide +kernel
theorem dX12_thrown_1 : decode cX12_thrown 1 = .ok (.getfield 1, 3) := by decide +kernel
theorem dX12_thrown_4 : decode cX12_thrown 4 = .ok (.ireturn, 1) := by decide +kernel
theorem dX12_is_0 : decode cX12_is 0 = .ok (.iload_n 1, 1) := by decide +kernel
theorem dX12_is_1 : decode cX12_is 1 = .ok (.iload_n 2, 1) := by decide +kernel
theorem dX12_is_2 : decode cX12_is 2 = .ok (.if_icmp .lt 12, 3) := by decide +kernel
theorem dX12_is_5 : decode cX12_is 5 = .ok (.iload_n 1, 1) := by decide +kernel
theorem dX12_is_6 : decode cX12_is 6 = .ok (.iload_n 3, 1) := by decide +kernel
theorem dX12_is_7 : decode cX12_is 7 = .ok (.if_icmp .gt 7, 3) := by decide +kernel
theorem dX12_is_10 : decode cX12_is 10 = .ok (.iconst 1, 1) := by decide +kernel
theorem dX12_is_11 : decode cX12_is 11 = .ok (.goto 4, 3) := by decide +kernel
theorem dX12_is_14 : decode cX12_is 14 = .ok (.iconst 0, 1) := by decide +kernel
theorem dX12_is_15 : decode cX12_is 15 = .ok (.ireturn, 1) := by decide +kernel
theorem dX12_init_0 : decode cX12_init 0 = .ok (.aload_n 0, 1) := by decide +kernel
theorem dX12_init_1 : decode cX12_init 1 = .ok (.invokespecial 7, 3) := by decide +kernel
theorem dX12_init_4 : decode cX12_init 4 = .ok (.aload_n 0, 1) := by decide +kernel
theorem dX12_init_5 : decode cX12_init 5 = .ok (.iconst 0, 1) := by decide +kernel
theorem dX12_init_6 : decode cX12_init 6 = .ok (.putfield 1, 3) := by decide +kernel
theorem dX12_init_9 : decode cX12_init 9 = .ok (.aload_n 0, 1) := by decide +kernel
theorem dX12_init_10 : decode cX12_init 10 = .ok (.sipush 8369, 3) := by decide +kernel
theorem dX12_init_13 : decode cX12_init 13 = .ok (.newarray .int, 2) := by decide +kernel
theorem dX12_init_15 : decode cX12_init 15 = .ok (.putfield 13, 3) := by decide +kernel
theorem dX12_init_18 : decode cX12_init 18 = .ok (.aload_n 0, 1) := by decide +kernel
theorem dX12_init_19 : decode cX12_init 19 = .ok (.sipush 8369, 3) := by decide +kernel
theorem dX12_init_22 : decode cX12_init 22 = .ok (.newarray .int, 2) := by decide +kernel
theorem dX12_init_24 : decode cX12_init 24 = .ok (.putfield 17, 3) := by decide +kernel
theorem dX12_init_27 : decode cX12_init 27 = .ok (.aload_n 0, 1) := by decide +kernel
theorem dX12_init_28 : decode cX12_init 28 = .ok (.iconst 0, 1) := by decide +kernel
theorem dX12_init_29 : decode cX12_init 29 = .ok (.putfield 20, 3) := by decide +kernel
theorem dX12_init_32 : decode cX12_init 32 = .ok (.aload_n 0, 1) := by decide +kernel
theorem dX12_init_33 : decode cX12_init 33 = .ok (.iconst 0, 1) := by decide +kernel
theorem dX12_init_34 : decode cX12_init 34 = .ok (.putfield 24, 3) := by decide +kernel
theorem dX12_init_37 : decode cX12_init 37 = .ok (.aload_n 0, 1) := by decide +kernel
theorem dX12_init_38 : decode cX12_init 38 = .ok (.iconst 0, 1) := by decide +kernel
theorem dX12_init_39 : decode cX12_init 39 = .ok (.putfield 27, 3) := by decide +kernel
theorem dX12_init_42 : decode cX12_init 42 = .ok (.aload_n 0, 1) := by decide +kernel
theorem dX12_init_43 : decode cX12_init 43 = .ok (.iconst 0, 1) := by decide +kernel
theorem dX12_init_44 : decode cX12_init 44 = .ok (.putfield 30, 3) := by decide +kernel
theorem dX12_init_47 : decode cX12_init 47 = .ok (.aload_n 0, 1) := by decide +kernel
theorem dX12_init_48 : decode cX12_init 48 = .ok (.iconst 0, 1) := by decide +kernel
theorem dX12_init_49 : decode cX12_init 49 = .ok (.putfield 33, 3) := by decide +kernel
theorem dX12_init_52 : decode cX12_init 52 = .ok (.aload_n 0, 1) := by decide +kernel
theorem dX12_init_53 : decode cX12_init 53 = .ok (.bipush 80, 2) := by decide +kernel
theorem dX12_init_55 : decode cX12_init 55 = .ok (.newarray .int, 2) := by decide +kernel
theorem dX12_init_57 : decode cX12_init 57 = .ok (.putfield 36, 3) := by decide +kernel
theorem dX12_init_60 : decode cX12_init 60 = .ok (.aload_n 0, 1) := by decide +kernel
theorem dX12_init_61 : decode cX12_init 61 = .ok (.iconst 0, 1) := by decide +kernel
theorem dX12_init_62 : decode cX12_init 62 = .ok (.putfield 39, 3) := by decide +kernel
theorem dX12_init_65 : decode cX12_init 65 = .ok (.aload_n 0, 1) := by decide +kernel
theorem dX12_init_66 : decode cX12_init 66 = .ok (.iconst 0, 1) := by decide +kernel
theorem dX12_init_67 : decode cX12_init 67 = .ok (.putfield 42, 3) := by decide +kernel
theorem dX12_init_70 : decode cX12_init 70 = .ok (.aload_n 0, 1) := by decide +kernel
theorem dX12_init_71 : decode cX12_init 71 = .ok (.iconst 0, 1) := by decide +kernel
theorem dX12_init_72 : decode cX12_init 72 = .ok (.putfield 45, 3) := by decide +kernel
theorem dX12_init_75 : decode cX12_init 75 = .ok (.aload_n 0, 1) := by decide +kernel
theorem dX12_init_76 : decode cX12_init 76 = .ok (.iconst 0, 1) := by decide +kernel
theorem dX12_init_77 : decode cX12_init 77 = .ok (.putfield 48, 3) := by decide +kernel
theorem dX12_init_80 : decode cX12_init 80 = .ok (.aload_n 0, 1) := by decide +kernel
theorem dX12_init_81 : decode cX12_init 81 = .ok (.iconst 0, 1) := by decide +kernel
theorem dX12_init_82 : decode cX12_init 82 = .ok (.putfield 51, 3) := by decide +kernel
theorem dX12_init_85 : decode cX12_init 85 = .ok (.aload_n 0, 1) := by decide +kernel
theorem dX12_init_86 : decode cX12_init 86 = .ok (.iconst 0, 1) := by decide +kernel
theorem dX12_init_87 : decode cX12_init 87 = .ok (.putfield 54, 3) := by decide +kernel
theorem dX12_init_90 : decode cX12_init 90 = .ok (.aload_n 0, 1) := by decide +kernel
theorem dX12_init_91 : decode cX12_init 91 = .ok (.iconst 0, 1) := by decide +kernel
theorem dX12_init_92 : decode cX12_init 92 = .ok (.putfield 57, 3) := by decide +kernel
theorem dX12_init_95 : decode cX12_init 95 = .ok (.aload_n 0, 1) := by decide +kernel
theorem dX12_init_96 : decode cX12_init 96 = .ok (.iconst 0, 1) := by decide +kernel
theorem dX12_init_97 : decode cX12_init 97 = .ok (.putfield 60, 3) := by decide +kernel
theorem dX12_init_100 : decode cX12_init 100 = .ok (.aload_n 0, 1) := by decide +kernel
theorem dX12_init_101 : decode cX12_init 101 = .ok (.iconst 0, 1) := by decide +kernel
theorem dX12_init_102 : decode cX12_init 102 = .ok (.putfield 63, 3) := by decide +kernel
theorem dX12_init_105 : decode cX12_init 105 = .ok (.aload_n 0, 1) := by decide +kernel
theorem dX12_init_106 : decode cX12_init 106 = .ok (.iconst 0, 1) := by decide +kernel
theorem dX12_init_107 : decode cX12_init 107 = .ok (.putfield 66, 3) := by decide +kernel
theorem dX12_init_110 : decode cX12_init 110 = .ok (.aload_n 0, 1) := by decide +kernel
theorem dX12_init_111 : decode cX12_init 111 = .ok (.iconst 0, 1) := by decide +kernel
theorem dX12_init_112 : decode cX12_init 112 = .ok (.putfield 69, 3) := by decide +kernel
theorem dX12_init_115 : decode cX12_init 115 = .ok (.aload_n 0, 1) := by decide +kernel
theorem dX12_init_116 : decode cX12_init 116 = .ok (.iconst 0, 1) := by decide +kernel
theorem dX12_init_117 : decode cX12_init 117 = .ok (.putfield 72, 3) := by decide +kernel
theorem dX12_init_120 : decode cX12_init 120 = .ok (.aload_n 0, 1) := by decide +kernel
theorem dX12_init_121 : decode cX12_init 121 = .ok (.iconst 3, 1) := by decide +kernel
theorem dX12_init_122 : decode cX12_init 122 = .ok (.newarray .int, 2) := by decide +kernel
theorem dX12_init_124 : decode cX12_init 124 = .ok (.putfield 75, 3) := by decide +kernel
theorem dX12_init_127 : decode cX12_init 127 = .ok (.aload_n 0, 1) := by decide +kernel
theorem dX12_init_128 : decode cX12_init 128 = .ok (.sipush 243, 3) := by decide +kernel
theorem dX12_init_131 : decode cX12_init 131 = .ok (.newarray .int, 2) := by decide +kernel
theorem dX12_init_133 : decode cX12_init 133 = .ok (.putfield 78, 3) := by decide +kernel
theorem dX12_init_136 : decode cX12_init 136 = .ok (.aload_n 0, 1) := by decide +kernel
theorem dX12_init_137 : decode cX12_init 137 = .ok (.iconst 3, 1) := by decide +kernel
theorem dX12_init_138 : decode cX12_init 138 = .ok (.newarray .int, 2) := by decide +kernel
theorem dX12_init_140 : decode cX12_init 140 = .ok (.putfield 81, 3) := by decide +kernel
theorem dX12_init_143 : decode cX12_init 143 = .ok (.aload_n 0, 1) := by decide +kernel
theorem dX12_init_144 : decode cX12_init 144 = .ok (.iconst 3, 1) := by decide +kernel
theorem dX12_init_145 : decode cX12_init 145 = .ok (.newarray .int, 2) := by decide +kernel
theorem dX12_init_147 : decode cX12_init 147 = .ok (.putfield 84, 3) := by decide +kernel
theorem dX12_init_150 : decode cX12_init 150 = .ok (.aload_n 0, 1) := by decide +kernel
theorem dX12_init_151 : decode cX12_init 151 = .ok (.bipush 80, 2) := by decide +kernel
theorem dX12_init_153 : decode cX12_init 153 = .ok (.newarray .int, 2) := by decide +kernel
theorem dX12_init_155 : decode cX12_init 155 = .ok (.putfield 87, 3) := by decide +kernel
theorem dX12_init_158 : decode cX12_init 158 = .ok (.aload_n 0, 1) := by decide +kernel
theorem dX12_init_159 : decode cX12_init 159 = .ok (.iconst 0, 1) := by decide +kernel
theorem dX12_init_160 : decode cX12_init 160 = .ok (.putfield 90, 3) := by decide +kernel
theorem dX12_init_163 : decode cX12_init 163 = .ok (.aload_n 0, 1) := by decide +kernel
theorem dX12_init_164 : decode cX12_init 164 = .ok (.iconst 0, 1) := by decide +kernel
theorem dX12_init_165 : decode cX12_init 165 = .ok (.putfield 93, 3) := by decide +kernel
theorem dX12_init_168 : decode cX12_init 168 = .ok (.aload_n 0, 1) := by decide +kernel
theorem dX12_init_169 : decode cX12_init 169 = .ok (.bipush 8, 2) := by decide +kernel
theorem dX12_init_171 : decode cX12_init 171 = .ok (.newarray .int, 2) := by decide +kernel
theorem dX12_init_173 : decode cX12_init 173 = .ok (.putfield 96, 3) := by decide +kernel
theorem dX12_init_176 : decode cX12_init 176 = .ok (.aload_n 0, 1) := by decide +kernel
theorem dX12_init_177 : decode cX12_init 177 = .ok (.bipush 8, 2) := by decide +kernel
theorem dX12_init_179 : decode cX12_init 179 = .ok (.newarray .int, 2) := by decide +kernel
theorem dX12_init_181 : decode cX12_init 181 = .ok (.putfield 99, 3) := by decide +kernel
theorem dX12_init_184 : decode cX12_init 184 = .ok (.aload_n 0, 1) := by decide +kernel
theorem dX12_init_185 : decode cX12_init 185 = .ok (.bipush 8, 2) := by decide +kernel
theorem dX12_init_187 : decode cX12_init 187 = .ok (.newarray .int, 2) := by decide +kernel
theorem dX12_init_189 : decode cX12_init 189 = .ok (.putfield 102, 3) := by decide +kernel
theorem dX12_init_192 : decode cX12_init 192 = .ok (.aload_n 0, 1) := by decide +kernel
theorem dX12_init_193 : decode cX12_init 193 = .ok (.bipush 8, 2) := by decide +kernel
theorem dX12_init_195 : decode cX12_init 195 = .ok (.newarray .int, 2) := by decide +kernel
theorem dX12_init_197 : decode cX12_init 197 = .ok (.putfield 105, 3) := by decide +kernel
theorem dX12_init_200 : decode cX12_init 200 = .ok (.aload_n 0, 1) := by decide +kernel
theorem dX12_init_201 : decode cX12_init 201 = .ok (.bipush 8, 2) := by decide +kernel
theorem dX12_init_203 : decode cX12_init 203 = .ok (.newarray .int, 2) := by decide +kernel
theorem dX12_init_205 : decode cX12_init 205 = .ok (.putfield 108, 3) := by decide +kernel
theorem dX12_init_208 : decode cX12_init 208 = .ok (.aload_n 0, 1) := by decide +kernel
theorem dX12_init_209 : decode cX12_init 209 = .ok (.bipush 8, 2) := by decide +kernel
theorem dX12_init_211 : decode cX12_init 211 = .ok (.newarray .int, 2) := by decide +kernel
theorem dX12_init_213 : decode cX12_init 213 = .ok (.putfield 111, 3) := by decide +kernel
theorem dX12_init_216 : decode cX12_init 216 = .ok (.aload_n 0, 1) := by decide +kernel
theorem dX12_init_217 : decode cX12_init 217 = .ok (.bipush 8, 2) := by decide +kernel
theorem dX12_init_219 : decode cX12_init 219 = .ok (.newarray .int, 2) := by decide +kernel
theorem dX12_init_221 : decode cX12_init 221 = .ok (.putfield 114, 3) := by decide +kernel
theorem dX12_init_224 : decode cX12_init 224 = .ok (.aload_n 0, 1) := by decide +kernel
theorem dX12_init_225 : decode cX12_init 225 = .ok (.sipush 640, 3) := by decide +kernel
theorem dX12_init_228 : decode cX12_init 228 = .ok (.newarray .int, 2) := by decide +kernel
theorem dX12_init_230 : decode cX12_init 230 = .ok (.putfield 117, 3) := by decide +kernel
theorem dX12_init_233 : decode cX12_init 233 = .ok (.aload_n 0, 1) := by decide +kernel
theorem dX12_init_234 : decode cX12_init 234 = .ok (.bipush 80, 2) := by decide +kernel
theorem dX12_init_236 : decode cX12_init 236 = .ok (.newarray .int, 2) := by decide +kernel
theorem dX12_init_238 : decode cX12_init 238 = .ok (.putfield 120, 3) := by decide +kernel
theorem dX12_init_241 : decode cX12_init 241 = .ok (.iconst 0, 1) := by decide +kernel
theorem dX12_init_242 : decode cX12_init 242 = .ok (.istore_n 1, 1) := by decide +kernel
theorem dX12_init_243 : decode cX12_init 243 = .ok (.iload_n 1, 1) := by decide +kernel
theorem dX12_init_244 : decode cX12_init 244 = .ok (.bipush 80, 2) := by decide +kernel
theorem dX12_init_246 : decode cX12_init 246 = .ok (.if_icmp .ge 31, 3) := by decide +kernel
theorem dX12_init_249 : decode cX12_init 249 = .ok (.aload_n 0, 1) := by decide +kernel
theorem dX12_init_250 : decode cX12_init 250 = .ok (.getfield 13, 3) := by decide +kernel
theorem dX12_init_253 : decode cX12_init 253 = .ok (.bipush 10, 2) := by decide +kernel
theorem dX12_init_255 : decode cX12_init 255 = .ok (.iload_n 1, 1) := by decide +kernel
theorem dX12_init_256 : decode cX12_init 256 = .ok (.iadd, 1) := by decide +kernel
theorem dX12_init_257 : decode cX12_init 257 = .ok (.iconst 4, 1) := by decide +kernel
theorem dX12_init_258 : decode cX12_init 258 = .ok (.iastore, 1) := by decide +kernel
theorem dX12_init_259 : decode cX12_init 259 = .ok (.aload_n 0, 1) := by decide +kernel
theorem dX12_init_260 : decode cX12_init 260 = .ok (.getfield 13, 3) := by decide +kernel
theorem dX12_init_263 : decode cX12_init 263 = .ok (.sipush 170, 3) := by decide +kernel
theorem dX12_init_266 : decode cX12_init 266 = .ok (.iload_n 1, 1) := by decide +kernel
theorem dX12_init_267 : decode cX12_init 267 = .ok (.iadd, 1) := by decide +kernel
theorem dX12_init_268 : decode cX12_init 268 = .ok (.bipush 50, 2) := by decide +kernel
theorem dX12_init_270 : decode cX12_init 270 = .ok (.iastore, 1) := by decide +kernel
theorem dX12_init_271 : decode cX12_init 271 = .ok (.iinc 1 1, 3) := by decide +kernel
theorem dX12_init_274 : decode cX12_init 274 = .ok (.goto (-31), 3) := by decide +kernel
theorem dX12_init_277 : decode cX12_init 277 = .ok (.iconst 0, 1) := by decide +kernel
theorem dX12_init_278 : decode cX12_init 278 = .ok (.istore_n 1, 1) := by decide +kernel
theorem dX12_init_279 : decode cX12_init 279 = .ok (.iload_n 1, 1) := by decide +kernel
theorem dX12_init_280 : decode cX12_init 280 = .ok (.sipush 3208, 3) := by decide +kernel
theorem dX12_init_283 : decode cX12_init 283 = .ok (.if_icmp .ge 20, 3) := by decide +kernel
theorem dX12_init_286 : decode cX12_init 286 = .ok (.aload_n 0, 1) := by decide +kernel
theorem dX12_init_287 : decode cX12_init 287 = .ok (.getfield 13, 3) := by decide +kernel
theorem dX12_init_290 : decode cX12_init 290 = .ok (.sipush 4351, 3) := by decide +kernel
theorem dX12_init_293 : decode cX12_init 293 = .ok (.iload_n 1, 1) := by decide +kernel
theorem dX12_init_294 : decode cX12_init 294 = .ok (.iadd, 1) := by decide +kernel
theorem dX12_init_295 : decode cX12_init 295 = .ok (.iconst (-1), 1) := by decide +kernel
theorem dX12_init_296 : decode cX12_init 296 = .ok (.iastore, 1) := by decide +kernel
theorem dX12_init_297 : decode cX12_init 297 = .ok (.iinc 1 1, 3) := by decide +kernel
theorem dX12_init_300 : decode cX12_init 300 = .ok (.goto (-21), 3) := by decide +kernel
theorem dX12_init_303 : decode cX12_init 303 = .ok (.return_, 1) := by decide +kernel
theorem dX12_isCell_0 : decode cX12_isCell 0 = .ok (.aload_n 0, 1) := by decide +kernel
theorem dX12_isCell_1 : decode cX12_isCell 1 = .ok (.iload_n 1, 1) := by decide +kernel
theorem dX12_isCell_2 : decode cX12_isCell 2 = .ok (.iconst 0, 1) := by decide +kernel
theorem dX12_isCell_3 : decode cX12_isCell 3 = .ok (.bipush 9, 2) := by decide +kernel
theorem dX12_isCell_5 : decode cX12_isCell 5 = .ok (.invokevirtual 123, 3) := by decide +kernel
theorem dX12_isCell_8 : decode cX12_isCell 8 = .ok (.ifCond .eq 18, 3) := by decide +kernel
theorem dX12_isCell_11 : decode cX12_isCell 11 = .ok (.aload_n 0, 1) := by decide +kernel
theorem dX12_isCell_12 : decode cX12_isCell 12 = .ok (.iload_n 2, 1) := by decide +kernel
theorem dX12_isCell_13 : decode cX12_isCell 13 = .ok (.iconst 0, 1) := by decide +kernel
theorem dX12_isCell_14 : decode cX12_isCell 14 = .ok (.bipush 7, 2) := by decide +kernel
theorem dX12_isCell_16 : decode cX12_isCell 16 = .ok (.invokevirtual 123, 3) := by decide +kernel
theorem dX12_isCell_19 : decode cX12_isCell 19 = .ok (.ifCond .eq 7, 3) := by decide +kernel
theorem dX12_isCell_22 : decode cX12_isCell 22 = .ok (.iconst 1, 1) := by decide +kernel
theorem dX12_isCell_23 : decode cX12_isCell 23 = .ok (.goto 4, 3) := by decide +kernel
theorem dX12_isCell_26 : decode cX12_isCell 26 = .ok (.iconst 0, 1) := by decide +kernel
theorem dX12_isCell_27 : decode cX12_isCell 27 = .ok (.ireturn, 1) := by decide +kernel
theorem dX12_isWater_0 : decode cX12_isWater 0 = .ok (.aload_n 0, 1) := by decide +kernel
theorem dX12_isWater_1 : decode cX12_isWater 1 = .ok (.iload_n 1, 1) := by decide +kernel
theorem dX12_isWater_2 : decode cX12_isWater 2 = .ok (.iload_n 2, 1) := by decide +kernel
theorem dX12_isWater_3 : decode cX12_isWater 3 = .ok (.invokevirtual 127, 3) := by decide +kernel
theorem dX12_isWater_6 : decode cX12_isWater 6 = .ok (.ifCond .eq 24, 3) := by decide +kernel
theorem dX12_isWater_9 : decode cX12_isWater 9 = .ok (.aload_n 0, 1) := by decide +kernel
theorem dX12_isWater_10 : decode cX12_isWater 10 = .ok (.getfield 13, 3) := by decide +kernel
theorem dX12_isWater_13 : decode cX12_isWater 13 = .ok (.bipush 10, 2) := by decide +kernel
theorem dX12_isWater_15 : decode cX12_isWater 15 = .ok (.bipush 8, 2) := by decide +kernel
theorem dX12_isWater_17 : decode cX12_isWater 17 = .ok (.iload_n 1, 1) := by decide +kernel
theorem dX12_isWater_18 : decode cX12_isWater 18 = .ok (.imul, 1) := by decide +kernel
theorem dX12_isWater_19 : decode cX12_isWater 19 = .ok (.iadd, 1) := by decide +kernel
theorem dX12_isWater_20 : decode cX12_isWater 20 = .ok (.iload_n 2, 1) := by decide +kernel
theorem dX12_isWater_21 : decode cX12_isWater 21 = .ok (.iadd, 1) := by decide +kernel
theorem dX12_isWater_22 : decode cX12_isWater 22 = .ok (.iaload, 1) := by decide +kernel
theorem dX12_isWater_23 : decode cX12_isWater 23 = .ok (.ifCond .le 7, 3) := by decide +kernel
theorem dX12_isWater_26 : decode cX12_isWater 26 = .ok (.iconst 1, 1) := by decide +kernel
theorem dX12_isWater_27 : decode cX12_isWater 27 = .ok (.goto 4, 3) := by decide +kernel
theorem dX12_isWater_30 : decode cX12_isWater 30 = .ok (.iconst 0, 1) := by decide +kernel
theorem dX12_isWater_31 : decode cX12_isWater 31 = .ok (.ireturn, 1) := by decide +kernel
theorem dX12_sea_0 : decode cX12_sea 0 = .ok (.iload_n 1, 1) := by decide +kernel
theorem dX12_sea_1 : decode cX12_sea 1 = .ok (.ifCond .lt 98, 3) := by decide +kernel
theorem dX12_sea_4 : decode cX12_sea 4 = .ok (.iload_n 2, 1) := by decide +kernel
theorem dX12_sea_5 : decode cX12_sea 5 = .ok (.ifCond .lt 94, 3) := by decide +kernel
theorem dX12_sea_8 : decode cX12_sea 8 = .ok (.aload_n 0, 1) := by decide +kernel
theorem dX12_sea_9 : decode cX12_sea 9 = .ok (.iload_n 1, 1) := by decide +kernel
theorem dX12_sea_10 : decode cX12_sea 10 = .ok (.bipush 10, 2) := by decide +kernel
theorem dX12_sea_12 : decode cX12_sea 12 = .ok (.idiv, 1) := by decide +kernel
theorem dX12_sea_13 : decode cX12_sea 13 = .ok (.iload_n 2, 1) := by decide +kernel
theorem dX12_sea_14 : decode cX12_sea 14 = .ok (.bipush 10, 2) := by decide +kernel
theorem dX12_sea_16 : decode cX12_sea 16 = .ok (.idiv, 1) := by decide +kernel
theorem dX12_sea_17 : decode cX12_sea 17 = .ok (.invokevirtual 127, 3) := by decide +kernel
theorem dX12_sea_20 : decode cX12_sea 20 = .ok (.ifCond .eq 79, 3) := by decide +kernel
theorem dX12_sea_23 : decode cX12_sea 23 = .ok (.aload_n 0, 1) := by decide +kernel
theorem dX12_sea_24 : decode cX12_sea 24 = .ok (.iload_n 1, 1) := by decide +kernel
theorem dX12_sea_25 : decode cX12_sea 25 = .ok (.bipush 10, 2) := by decide +kernel
theorem dX12_sea_27 : decode cX12_sea 27 = .ok (.irem, 1) := by decide +kernel
theorem dX12_sea_28 : decode cX12_sea 28 = .ok (.iload_n 2, 1) := by decide +kernel
theorem dX12_sea_29 : decode cX12_sea 29 = .ok (.bipush 10, 2) := by decide +kernel
theorem dX12_sea_31 : decode cX12_sea 31 = .ok (.irem, 1) := by decide +kernel
theorem dX12_sea_32 : decode cX12_sea 32 = .ok (.invokevirtual 127, 3) := by decide +kernel
theorem dX12_sea_35 : decode cX12_sea 35 = .ok (.ifCond .eq 64, 3) := by decide +kernel
theorem dX12_sea_38 : decode cX12_sea 38 = .ok (.iload_n 1, 1) := by decide +kernel
theorem dX12_sea_39 : decode cX12_sea 39 = .ok (.bipush 10, 2) := by decide +kernel
theorem dX12_sea_41 : decode cX12_sea 41 = .ok (.idiv, 1) := by decide +kernel
theorem dX12_sea_42 : decode cX12_sea 42 = .ok (.iload_n 1, 1) := by decide +kernel
theorem dX12_sea_43 : decode cX12_sea 43 = .ok (.bipush 10, 2) := by decide +kernel
theorem dX12_sea_45 : decode cX12_sea 45 = .ok (.irem, 1) := by decide +kernel
theorem dX12_sea_46 : decode cX12_sea 46 = .ok (.if_icmp .gt 53, 3) := by decide +kernel
theorem dX12_sea_49 : decode cX12_sea 49 = .ok (.iload_n 2, 1) := by decide +kernel
theorem dX12_sea_50 : decode cX12_sea 50 = .ok (.bipush 10, 2) := by decide +kernel
theorem dX12_sea_52 : decode cX12_sea 52 = .ok (.idiv, 1) := by decide +kernel
theorem dX12_sea_53 : decode cX12_sea 53 = .ok (.iload_n 2, 1) := by decide +kernel
theorem dX12_sea_54 : decode cX12_sea 54 = .ok (.bipush 10, 2) := by decide +kernel
theorem dX12_sea_56 : decode cX12_sea 56 = .ok (.irem, 1) := by decide +kernel
theorem dX12_sea_57 : decode cX12_sea 57 = .ok (.if_icmp .gt 42, 3) := by decide +kernel
theorem dX12_sea_60 : decode cX12_sea 60 = .ok (.aload_n 0, 1) := by decide +kernel
theorem dX12_sea_61 : decode cX12_sea 61 = .ok (.iload_n 3, 1) := by decide +kernel
theorem dX12_sea_62 : decode cX12_sea 62 = .ok (.iconst 0, 1) := by decide +kernel
theorem dX12_sea_63 : decode cX12_sea 63 = .ok (.iconst 2, 1) := by decide +kernel
theorem dX12_sea_64 : decode cX12_sea 64 = .ok (.invokevirtual 123, 3) := by decide +kernel
theorem dX12_sea_67 : decode cX12_sea 67 = .ok (.ifCond .eq 32, 3) := by decide +kernel
theorem dX12_sea_70 : decode cX12_sea 70 = .ok (.aload_n 0, 1) := by decide +kernel
theorem dX12_sea_71 : decode cX12_sea 71 = .ok (.iload 4, 2) := by decide +kernel
theorem dX12_sea_73 : decode cX12_sea 73 = .ok (.iconst 0, 1) := by decide +kernel
theorem dX12_sea_74 : decode cX12_sea 74 = .ok (.iload_n 3, 1) := by decide +kernel
theorem dX12_sea_75 : decode cX12_sea 75 = .ok (.ifCond .ne 7, 3) := by decide +kernel
theorem dX12_sea_78 : decode cX12_sea 78 = .ok (.iconst 4, 1) := by decide +kernel
theorem dX12_sea_79 : decode cX12_sea 79 = .ok (.goto 14, 3) := by decide +kernel
theorem dX12_sea_82 : decode cX12_sea 82 = .ok (.iload_n 3, 1) := by decide +kernel
theorem dX12_sea_83 : decode cX12_sea 83 = .ok (.iconst 1, 1) := by decide +kernel
theorem dX12_sea_84 : decode cX12_sea 84 = .ok (.if_icmp .ne 7, 3) := by decide +kernel
theorem dX12_sea_87 : decode cX12_sea 87 = .ok (.iconst 1, 1) := by decide +kernel
theorem dX12_sea_88 : decode cX12_sea 88 = .ok (.goto 5, 3) := by decide +kernel
theorem dX12_sea_91 : decode cX12_sea 91 = .ok (.bipush 99, 2) := by decide +kernel
theorem dX12_sea_93 : decode cX12_sea 93 = .ok (.invokevirtual 123, 3) := by decide +kernel
theorem dX12_sea_96 : decode cX12_sea 96 = .ok (.ifCond .ne 5, 3) := by decide +kernel
theorem dX12_sea_99 : decode cX12_sea 99 = .ok (.iconst (-1), 1) := by decide +kernel
theorem dX12_sea_100 : decode cX12_sea 100 = .ok (.ireturn, 1) := by decide +kernel
theorem dX12_sea_101 : decode cX12_sea 101 = .ok (.iconst 0, 1) := by decide +kernel
theorem dX12_sea_102 : decode cX12_sea 102 = .ok (.istore 5, 2) := by decide +kernel
theorem dX12_sea_104 : decode cX12_sea 104 = .ok (.iload 5, 2) := by decide +kernel
theorem dX12_sea_106 : decode cX12_sea 106 = .ok (.aload_n 0, 1) := by decide +kernel
theorem dX12_sea_107 : decode cX12_sea 107 = .ok (.getfield 13, 3) := by decide +kernel
theorem dX12_sea_110 : decode cX12_sea 110 = .ok (.iconst 0, 1) := by decide +kernel
theorem dX12_sea_111 : decode cX12_sea 111 = .ok (.iaload, 1) := by decide +kernel
theorem dX12_sea_112 : decode cX12_sea 112 = .ok (.if_icmp .ge 87, 3) := by decide +kernel
theorem dX12_sea_115 : decode cX12_sea 115 = .ok (.iload_n 3, 1) := by decide +kernel
theorem dX12_sea_116 : decode cX12_sea 116 = .ok (.ifCond .ne 77, 3) := by decide +kernel
theorem dX12_sea_119 : decode cX12_sea 119 = .ok (.iload 4, 2) := by decide +kernel
theorem dX12_sea_121 : decode cX12_sea 121 = .ok (.ifCond .ne 72, 3) := by decide +kernel
theorem dX12_sea_124 : decode cX12_sea 124 = .ok (.aload_n 0, 1) := by decide +kernel
theorem dX12_sea_125 : decode cX12_sea 125 = .ok (.getfield 13, 3) := by decide +kernel
theorem dX12_sea_128 : decode cX12_sea 128 = .ok (.sipush 2202, 3) := by decide +kernel
theorem dX12_sea_131 : decode cX12_sea 131 = .ok (.iload 5, 2) := by decide +kernel
theorem dX12_sea_133 : decode cX12_sea 133 = .ok (.iadd, 1) := by decide +kernel
theorem dX12_sea_134 : decode cX12_sea 134 = .ok (.iaload, 1) := by decide +kernel
theorem dX12_sea_135 : decode cX12_sea 135 = .ok (.ifCond .ne 58, 3) := by decide +kernel
theorem dX12_sea_138 : decode cX12_sea 138 = .ok (.aload_n 0, 1) := by decide +kernel
theorem dX12_sea_139 : decode cX12_sea 139 = .ok (.aload_n 0, 1) := by decide +kernel
theorem dX12_sea_140 : decode cX12_sea 140 = .ok (.getfield 13, 3) := by decide +kernel
theorem dX12_sea_143 : decode cX12_sea 143 = .ok (.sipush 2178, 3) := by decide +kernel
theorem dX12_sea_146 : decode cX12_sea 146 = .ok (.iload 5, 2) := by decide +kernel
theorem dX12_sea_148 : decode cX12_sea 148 = .ok (.iadd, 1) := by decide +kernel
theorem dX12_sea_149 : decode cX12_sea 149 = .ok (.iaload, 1) := by decide +kernel
theorem dX12_sea_150 : decode cX12_sea 150 = .ok (.iload_n 1, 1) := by decide +kernel
theorem dX12_sea_151 : decode cX12_sea 151 = .ok (.bipush 10, 2) := by decide +kernel
theorem dX12_sea_153 : decode cX12_sea 153 = .ok (.idiv, 1) := by decide +kernel
theorem dX12_sea_154 : decode cX12_sea 154 = .ok (.iload_n 1, 1) := by decide +kernel
theorem dX12_sea_155 : decode cX12_sea 155 = .ok (.bipush 10, 2) := by decide +kernel
theorem dX12_sea_157 : decode cX12_sea 157 = .ok (.irem, 1) := by decide +kernel
theorem dX12_sea_158 : decode cX12_sea 158 = .ok (.invokevirtual 123, 3) := by decide +kernel
theorem dX12_sea_161 : decode cX12_sea 161 = .ok (.ifCond .eq 32, 3) := by decide +kernel
theorem dX12_sea_164 : decode cX12_sea 164 = .ok (.aload_n 0, 1) := by decide +kernel
theorem dX12_sea_165 : decode cX12_sea 165 = .ok (.aload_n 0, 1) := by decide +kernel
theorem dX12_sea_166 : decode cX12_sea 166 = .ok (.getfield 13, 3) := by decide +kernel
theorem dX12_sea_169 : decode cX12_sea 169 = .ok (.sipush 2186, 3) := by decide +kernel
theorem dX12_sea_172 : decode cX12_sea 172 = .ok (.iload 5, 2) := by decide +kernel
theorem dX12_sea_174 : decode cX12_sea 174 = .ok (.iadd, 1) := by decide +kernel
theorem dX12_sea_175 : decode cX12_sea 175 = .ok (.iaload, 1) := by decide +kernel
theorem dX12_sea_176 : decode cX12_sea 176 = .ok (.iload_n 2, 1) := by decide +kernel
theorem dX12_sea_177 : decode cX12_sea 177 = .ok (.bipush 10, 2) := by decide +kernel
theorem dX12_sea_179 : decode cX12_sea 179 = .ok (.idiv, 1) := by decide +kernel
theorem dX12_sea_180 : decode cX12_sea 180 = .ok (.iload_n 2, 1) := by decide +kernel
theorem dX12_sea_181 : decode cX12_sea 181 = .ok (.bipush 10, 2) := by decide +kernel
theorem dX12_sea_183 : decode cX12_sea 183 = .ok (.irem, 1) := by decide +kernel
theorem dX12_sea_184 : decode cX12_sea 184 = .ok (.invokevirtual 123, 3) := by decide +kernel
theorem dX12_sea_187 : decode cX12_sea 187 = .ok (.ifCond .eq 6, 3) := by decide +kernel
theorem dX12_sea_190 : decode cX12_sea 190 = .ok (.bipush (-3), 2) := by decide +kernel
theorem dX12_sea_192 : decode cX12_sea 192 = .ok (.ireturn, 1) := by decide +kernel
theorem dX12_sea_193 : decode cX12_sea 193 = .ok (.iinc 5 1, 3) := by decide +kernel
theorem dX12_sea_196 : decode cX12_sea 196 = .ok (.goto (-92), 3) := by decide +kernel
theorem dX12_sea_199 : decode cX12_sea 199 = .ok (.iconst 0, 1) := by decide +kernel
theorem dX12_sea_200 : decode cX12_sea 200 = .ok (.istore 5, 2) := by decide +kernel
theorem dX12_sea_202 : decode cX12_sea 202 = .ok (.iconst 0, 1) := by decide +kernel
theorem dX12_sea_203 : decode cX12_sea 203 = .ok (.istore 6, 2) := by decide +kernel
theorem dX12_sea_205 : decode cX12_sea 205 = .ok (.iload 6, 2) := by decide +kernel
theorem dX12_sea_207 : decode cX12_sea 207 = .ok (.bipush 80, 2) := by decide +kernel
theorem dX12_sea_209 : decode cX12_sea 209 = .ok (.if_icmp .ge 153, 3) := by decide +kernel
theorem dX12_sea_212 : decode cX12_sea 212 = .ok (.aload_n 0, 1) := by decide +kernel
theorem dX12_sea_213 : decode cX12_sea 213 = .ok (.iload 6, 2) := by decide +kernel
theorem dX12_sea_215 : decode cX12_sea 215 = .ok (.bipush 8, 2) := by decide +kernel
theorem dX12_sea_217 : decode cX12_sea 217 = .ok (.idiv, 1) := by decide +kernel
theorem dX12_sea_218 : decode cX12_sea 218 = .ok (.iload_n 1, 1) := by decide +kernel
theorem dX12_sea_219 : decode cX12_sea 219 = .ok (.bipush 10, 2) := by decide +kernel
theorem dX12_sea_221 : decode cX12_sea 221 = .ok (.idiv, 1) := by decide +kernel
theorem dX12_sea_222 : decode cX12_sea 222 = .ok (.iload_n 1, 1) := by decide +kernel
theorem dX12_sea_223 : decode cX12_sea 223 = .ok (.bipush 10, 2) := by decide +kernel
theorem dX12_sea_225 : decode cX12_sea 225 = .ok (.irem, 1) := by decide +kernel
theorem dX12_sea_226 : decode cX12_sea 226 = .ok (.invokevirtual 123, 3) := by decide +kernel
theorem dX12_sea_229 : decode cX12_sea 229 = .ok (.ifCond .eq 127, 3) := by decide +kernel
theorem dX12_sea_232 : decode cX12_sea 232 = .ok (.aload_n 0, 1) := by decide +kernel
theorem dX12_sea_233 : decode cX12_sea 233 = .ok (.iload 6, 2) := by decide +kernel
theorem dX12_sea_235 : decode cX12_sea 235 = .ok (.bipush 8, 2) := by decide +kernel
theorem dX12_sea_237 : decode cX12_sea 237 = .ok (.irem, 1) := by decide +kernel
theorem dX12_sea_238 : decode cX12_sea 238 = .ok (.iload_n 2, 1) := by decide +kernel
theorem dX12_sea_239 : decode cX12_sea 239 = .ok (.bipush 10, 2) := by decide +kernel
theorem dX12_sea_241 : decode cX12_sea 241 = .ok (.idiv, 1) := by decide +kernel
theorem dX12_sea_242 : decode cX12_sea 242 = .ok (.iload_n 2, 1) := by decide +kernel
theorem dX12_sea_243 : decode cX12_sea 243 = .ok (.bipush 10, 2) := by decide +kernel
theorem dX12_sea_245 : decode cX12_sea 245 = .ok (.irem, 1) := by decide +kernel
theorem dX12_sea_246 : decode cX12_sea 246 = .ok (.invokevirtual 123, 3) := by decide +kernel
theorem dX12_sea_249 : decode cX12_sea 249 = .ok (.ifCond .eq 107, 3) := by decide +kernel
theorem dX12_sea_252 : decode cX12_sea 252 = .ok (.iload_n 3, 1) := by decide +kernel
theorem dX12_sea_253 : decode cX12_sea 253 = .ok (.iconst 2, 1) := by decide +kernel
theorem dX12_sea_254 : decode cX12_sea 254 = .ok (.if_icmp .ne 19, 3) := by decide +kernel
theorem dX12_sea_257 : decode cX12_sea 257 = .ok (.aload_n 0, 1) := by decide +kernel
theorem dX12_sea_258 : decode cX12_sea 258 = .ok (.getfield 13, 3) := by decide +kernel
theorem dX12_sea_261 : decode cX12_sea 261 = .ok (.bipush 10, 2) := by decide +kernel
theorem dX12_sea_263 : decode cX12_sea 263 = .ok (.iload 6, 2) := by decide +kernel
theorem dX12_sea_265 : decode cX12_sea 265 = .ok (.iadd, 1) := by decide +kernel
theorem dX12_sea_266 : decode cX12_sea 266 = .ok (.iaload, 1) := by decide +kernel
theorem dX12_sea_267 : decode cX12_sea 267 = .ok (.ifCond .ne 6, 3) := by decide +kernel
theorem dX12_sea_270 : decode cX12_sea 270 = .ok (.goto 86, 3) := by decide +kernel
theorem dX12_sea_273 : decode cX12_sea 273 = .ok (.iload_n 3, 1) := by decide +kernel
theorem dX12_sea_274 : decode cX12_sea 274 = .ok (.ifCond .ne 8, 3) := by decide +kernel
theorem dX12_sea_277 : decode cX12_sea 277 = .ok (.bipush 10, 2) := by decide +kernel
theorem dX12_sea_279 : decode cX12_sea 279 = .ok (.goto 16, 3) := by decide +kernel
theorem dX12_sea_282 : decode cX12_sea 282 = .ok (.iload_n 3, 1) := by decide +kernel
theorem dX12_sea_283 : decode cX12_sea 283 = .ok (.iconst 1, 1) := by decide +kernel
theorem dX12_sea_284 : decode cX12_sea 284 = .ok (.if_icmp .ne 8, 3) := by decide +kernel
theorem dX12_sea_287 : decode cX12_sea 287 = .ok (.bipush 90, 2) := by decide +kernel
theorem dX12_sea_289 : decode cX12_sea 289 = .ok (.goto 6, 3) := by decide +kernel
theorem dX12_sea_292 : decode cX12_sea 292 = .ok (.sipush 170, 3) := by decide +kernel
theorem dX12_sea_295 : decode cX12_sea 295 = .ok (.iload 6, 2) := by decide +kernel
theorem dX12_sea_297 : decode cX12_sea 297 = .ok (.iadd, 1) := by decide +kernel
theorem dX12_sea_298 : decode cX12_sea 298 = .ok (.istore 7, 2) := by decide +kernel
theorem dX12_sea_300 : decode cX12_sea 300 = .ok (.iload 5, 2) := by decide +kernel
theorem dX12_sea_302 : decode cX12_sea 302 = .ok (.aload_n 0, 1) := by decide +kernel
theorem dX12_sea_303 : decode cX12_sea 303 = .ok (.getfield 13, 3) := by decide +kernel
theorem dX12_sea_306 : decode cX12_sea 306 = .ok (.iload 7, 2) := by decide +kernel
theorem dX12_sea_308 : decode cX12_sea 308 = .ok (.iaload, 1) := by decide +kernel
theorem dX12_sea_309 : decode cX12_sea 309 = .ok (.iload 4, 2) := by decide +kernel
theorem dX12_sea_311 : decode cX12_sea 311 = .ok (.if_icmp .ne 7, 3) := by decide +kernel
theorem dX12_sea_314 : decode cX12_sea 314 = .ok (.iconst 0, 1) := by decide +kernel
theorem dX12_sea_315 : decode cX12_sea 315 = .ok (.goto 4, 3) := by decide +kernel
theorem dX12_sea_318 : decode cX12_sea 318 = .ok (.iconst 1, 1) := by decide +kernel
theorem dX12_sea_319 : decode cX12_sea 319 = .ok (.iadd, 1) := by decide +kernel
theorem dX12_sea_320 : decode cX12_sea 320 = .ok (.istore 5, 2) := by decide +kernel
theorem dX12_sea_322 : decode cX12_sea 322 = .ok (.aload_n 0, 1) := by decide +kernel
theorem dX12_sea_323 : decode cX12_sea 323 = .ok (.getfield 13, 3) := by decide +kernel
theorem dX12_sea_326 : decode cX12_sea 326 = .ok (.iload 7, 2) := by decide +kernel
theorem dX12_sea_328 : decode cX12_sea 328 = .ok (.iload 4, 2) := by decide +kernel
theorem dX12_sea_330 : decode cX12_sea 330 = .ok (.iastore, 1) := by decide +kernel
theorem dX12_sea_331 : decode cX12_sea 331 = .ok (.aload_n 0, 1) := by decide +kernel
theorem dX12_sea_332 : decode cX12_sea 332 = .ok (.getfield 13, 3) := by decide +kernel
theorem dX12_sea_335 : decode cX12_sea 335 = .ok (.bipush 10, 2) := by decide +kernel
theorem dX12_sea_337 : decode cX12_sea 337 = .ok (.iload 6, 2) := by decide +kernel
theorem dX12_sea_339 : decode cX12_sea 339 = .ok (.iadd, 1) := by decide +kernel
theorem dX12_sea_340 : decode cX12_sea 340 = .ok (.iaload, 1) := by decide +kernel
theorem dX12_sea_341 : decode cX12_sea 341 = .ok (.ifCond .ne 15, 3) := by decide +kernel
theorem dX12_sea_344 : decode cX12_sea 344 = .ok (.aload_n 0, 1) := by decide +kernel
theorem dX12_sea_345 : decode cX12_sea 345 = .ok (.getfield 13, 3) := by decide +kernel
theorem dX12_sea_348 : decode cX12_sea 348 = .ok (.sipush 170, 3) := by decide +kernel
theorem dX12_sea_351 : decode cX12_sea 351 = .ok (.iload 6, 2) := by decide +kernel
theorem dX12_sea_353 : decode cX12_sea 353 = .ok (.iadd, 1) := by decide +kernel
theorem dX12_sea_354 : decode cX12_sea 354 = .ok (.iconst 0, 1) := by decide +kernel
theorem dX12_sea_355 : decode cX12_sea 355 = .ok (.iastore, 1) := by decide +kernel
theorem dX12_sea_356 : decode cX12_sea 356 = .ok (.iinc 6 1, 3) := by decide +kernel
theorem dX12_sea_359 : decode cX12_sea 359 = .ok (.goto (-154), 3) := by decide +kernel
theorem dX12_sea_362 : decode cX12_sea 362 = .ok (.iload 5, 2) := by decide +kernel
theorem dX12_sea_364 : decode cX12_sea 364 = .ok (.ireturn, 1) := by decide +kernel
theorem dX12_stream_0 : decode cX12_stream 0 = .ok (.aload_n 0, 1) := by decide +kernel
theorem dX12_stream_1 : decode cX12_stream 1 = .ok (.iload_n 1, 1) := by decide +kernel
theorem dX12_stream_2 : decode cX12_stream 2 = .ok (.iload_n 2, 1) := by decide +kernel
theorem dX12_stream_3 : decode cX12_stream 3 = .ok (.invokevirtual 127, 3) := by decide +kernel
theorem dX12_stream_6 : decode cX12_stream 6 = .ok (.ifCond .eq 37, 3) := by decide +kernel
theorem dX12_stream_9 : decode cX12_stream 9 = .ok (.aload_n 0, 1) := by decide +kernel
theorem dX12_stream_10 : decode cX12_stream 10 = .ok (.iload_n 3, 1) := by decide +kernel
theorem dX12_stream_11 : decode cX12_stream 11 = .ok (.iconst 0, 1) := by decide +kernel
theorem dX12_stream_12 : decode cX12_stream 12 = .ok (.iconst 3, 1) := by decide +kernel
theorem dX12_stream_13 : decode cX12_stream 13 = .ok (.invokevirtual 123, 3) := by decide +kernel
theorem dX12_stream_16 : decode cX12_stream 16 = .ok (.ifCond .eq 27, 3) := by decide +kernel
theorem dX12_stream_19 : decode cX12_stream 19 = .ok (.aload_n 0, 1) := by decide +kernel
theorem dX12_stream_20 : decode cX12_stream 20 = .ok (.iload 4, 2) := by decide +kernel
theorem dX12_stream_22 : decode cX12_stream 22 = .ok (.bipush (-2), 2) := by decide +kernel
theorem dX12_stream_24 : decode cX12_stream 24 = .ok (.iconst 2, 1) := by decide +kernel
theorem dX12_stream_25 : decode cX12_stream 25 = .ok (.invokevirtual 123, 3) := by decide +kernel
theorem dX12_stream_28 : decode cX12_stream 28 = .ok (.ifCond .eq 15, 3) := by decide +kernel
theorem dX12_stream_31 : decode cX12_stream 31 = .ok (.aload_n 0, 1) := by decide +kernel
theorem dX12_stream_32 : decode cX12_stream 32 = .ok (.iload 5, 2) := by decide +kernel
theorem dX12_stream_34 : decode cX12_stream 34 = .ok (.bipush (-2), 2) := by decide +kernel
theorem dX12_stream_36 : decode cX12_stream 36 = .ok (.iconst 2, 1) := by decide +kernel
theorem dX12_stream_37 : decode cX12_stream 37 = .ok (.invokevirtual 123, 3) := by decide +kernel
theorem dX12_stream_40 : decode cX12_stream 40 = .ok (.ifCond .ne 5, 3) := by decide +kernel
theorem dX12_stream_43 : decode cX12_stream 43 = .ok (.iconst (-1), 1) := by decide +kernel
theorem dX12_stream_44 : decode cX12_stream 44 = .ok (.ireturn, 1) := by decide +kernel
theorem dX12_stream_45 : decode cX12_stream 45 = .ok (.iconst 4, 1) := by decide +kernel
theorem dX12_stream_46 : decode cX12_stream 46 = .ok (.bipush 8, 2) := by decide +kernel
theorem dX12_stream_48 : decode cX12_stream 48 = .ok (.iload_n 1, 1) := by decide +kernel
theorem dX12_stream_49 : decode cX12_stream 49 = .ok (.imul, 1) := by decide +kernel
theorem dX12_stream_50 : decode cX12_stream 50 = .ok (.iload_n 2, 1) := by decide +kernel
theorem dX12_stream_51 : decode cX12_stream 51 = .ok (.iadd, 1) := by decide +kernel
theorem dX12_stream_52 : decode cX12_stream 52 = .ok (.imul, 1) := by decide +kernel
theorem dX12_stream_53 : decode cX12_stream 53 = .ok (.iload_n 3, 1) := by decide +kernel
theorem dX12_stream_54 : decode cX12_stream 54 = .ok (.iadd, 1) := by decide +kernel
theorem dX12_stream_55 : decode cX12_stream 55 = .ok (.istore 7, 2) := by decide +kernel
theorem dX12_stream_57 : decode cX12_stream 57 = .ok (.aload_n 0, 1) := by decide +kernel
theorem dX12_stream_58 : decode cX12_stream 58 = .ok (.getfield 13, 3) := by decide +kernel
theorem dX12_stream_61 : decode cX12_stream 61 = .ok (.iload 6, 2) := by decide +kernel
theorem dX12_stream_63 : decode cX12_stream 63 = .ok (.ifCond .eq 9, 3) := by decide +kernel
theorem dX12_stream_66 : decode cX12_stream 66 = .ok (.sipush 890, 3) := by decide +kernel
theorem dX12_stream_69 : decode cX12_stream 69 = .ok (.goto 6, 3) := by decide +kernel
theorem dX12_stream_72 : decode cX12_stream 72 = .ok (.sipush 250, 3) := by decide +kernel
theorem dX12_stream_75 : decode cX12_stream 75 = .ok (.iload 7, 2) := by decide +kernel
theorem dX12_stream_77 : decode cX12_stream 77 = .ok (.iadd, 1) := by decide +kernel
theorem dX12_stream_78 : decode cX12_stream 78 = .ok (.iload 4, 2) := by decide +kernel
theorem dX12_stream_80 : decode cX12_stream 80 = .ok (.iastore, 1) := by decide +kernel
theorem dX12_stream_81 : decode cX12_stream 81 = .ok (.aload_n 0, 1) := by decide +kernel
theorem dX12_stream_82 : decode cX12_stream 82 = .ok (.getfield 13, 3) := by decide +kernel
theorem dX12_stream_85 : decode cX12_stream 85 = .ok (.iload 6, 2) := by decide +kernel
theorem dX12_stream_87 : decode cX12_stream 87 = .ok (.ifCond .eq 9, 3) := by decide +kernel
theorem dX12_stream_90 : decode cX12_stream 90 = .ok (.sipush 1210, 3) := by decide +kernel
theorem dX12_stream_93 : decode cX12_stream 93 = .ok (.goto 6, 3) := by decide +kernel
theorem dX12_stream_96 : decode cX12_stream 96 = .ok (.sipush 570, 3) := by decide +kernel
theorem dX12_stream_99 : decode cX12_stream 99 = .ok (.iload 7, 2) := by decide +kernel
theorem dX12_stream_101 : decode cX12_stream 101 = .ok (.iadd, 1) := by decide +kernel
theorem dX12_stream_102 : decode cX12_stream 102 = .ok (.iload 5, 2) := by decide +kernel
theorem dX12_stream_104 : decode cX12_stream 104 = .ok (.iastore, 1) := by decide +kernel
theorem dX12_stream_105 : decode cX12_stream 105 = .ok (.iconst 0, 1) := by decide +kernel
theorem dX12_stream_106 : decode cX12_stream 106 = .ok (.ireturn, 1) := by decide +kernel
theorem dX12_salt_0 : decode cX12_salt 0 = .ok (.aload_n 0, 1) := by decide +kernel
theorem dX12_salt_1 : decode cX12_salt 1 = .ok (.iload_n 1, 1) := by decide +kernel
theorem dX12_salt_2 : decode cX12_salt 2 = .ok (.iload_n 2, 1) := by decide +kernel
theorem dX12_salt_3 : decode cX12_salt 3 = .ok (.invokevirtual 127, 3) := by decide +kernel
theorem dX12_salt_6 : decode cX12_salt 6 = .ok (.ifCond .eq 26, 3) := by decide +kernel
theorem dX12_salt_9 : decode cX12_salt 9 = .ok (.aload_n 0, 1) := by decide +kernel
theorem dX12_salt_10 : decode cX12_salt 10 = .ok (.iload_n 3, 1) := by decide +kernel
theorem dX12_salt_11 : decode cX12_salt 11 = .ok (.iconst 0, 1) := by decide +kernel
theorem dX12_salt_12 : decode cX12_salt 12 = .ok (.iconst 3, 1) := by decide +kernel
theorem dX12_salt_13 : decode cX12_salt 13 = .ok (.invokevirtual 123, 3) := by decide +kernel
theorem dX12_salt_16 : decode cX12_salt 16 = .ok (.ifCond .eq 16, 3) := by decide +kernel
theorem dX12_salt_19 : decode cX12_salt 19 = .ok (.aload_n 0, 1) := by decide +kernel
theorem dX12_salt_20 : decode cX12_salt 20 = .ok (.iload 4, 2) := by decide +kernel
theorem dX12_salt_22 : decode cX12_salt 22 = .ok (.iconst 0, 1) := by decide +kernel
theorem dX12_salt_23 : decode cX12_salt 23 = .ok (.sipush 1001, 3) := by decide +kernel
theorem dX12_salt_26 : decode cX12_salt 26 = .ok (.invokevirtual 123, 3) := by decide +kernel
theorem dX12_salt_29 : decode cX12_salt 29 = .ok (.ifCond .ne 5, 3) := by decide +kernel
theorem dX12_salt_32 : decode cX12_salt 32 = .ok (.iconst (-1), 1) := by decide +kernel
theorem dX12_salt_33 : decode cX12_salt 33 = .ok (.ireturn, 1) := by decide +kernel
theorem dX12_salt_34 : decode cX12_salt 34 = .ok (.iload 4, 2) := by decide +kernel
theorem dX12_salt_36 : decode cX12_salt 36 = .ok (.sipush 1000, 3) := by decide +kernel
theorem dX12_salt_39 : decode cX12_salt 39 = .ok (.if_icmp .ge 9, 3) := by decide +kernel
theorem dX12_salt_42 : decode cX12_salt 42 = .ok (.sipush 1530, 3) := by decide +kernel
theorem dX12_salt_45 : decode cX12_salt 45 = .ok (.goto 6, 3) := by decide +kernel
theorem dX12_salt_48 : decode cX12_salt 48 = .ok (.sipush 1850, 3) := by decide +kernel
theorem dX12_salt_51 : decode cX12_salt 51 = .ok (.iconst 4, 1) := by decide +kernel
theorem dX12_salt_52 : decode cX12_salt 52 = .ok (.bipush 8, 2) := by decide +kernel
theorem dX12_salt_54 : decode cX12_salt 54 = .ok (.iload_n 1, 1) := by decide +kernel
theorem dX12_salt_55 : decode cX12_salt 55 = .ok (.imul, 1) := by decide +kernel
theorem dX12_salt_56 : decode cX12_salt 56 = .ok (.iload_n 2, 1) := by decide +kernel
theorem dX12_salt_57 : decode cX12_salt 57 = .ok (.iadd, 1) := by decide +kernel
theorem dX12_salt_58 : decode cX12_salt 58 = .ok (.imul, 1) := by decide +kernel
theorem dX12_salt_59 : decode cX12_salt 59 = .ok (.iadd, 1) := by decide +kernel
theorem dX12_salt_60 : decode cX12_salt 60 = .ok (.iload_n 3, 1) := by decide +kernel
theorem dX12_salt_61 : decode cX12_salt 61 = .ok (.iadd, 1) := by decide +kernel
theorem dX12_salt_62 : decode cX12_salt 62 = .ok (.istore 5, 2) := by decide +kernel
theorem dX12_salt_64 : decode cX12_salt 64 = .ok (.iload 4, 2) := by decide +kernel
theorem dX12_salt_66 : decode cX12_salt 66 = .ok (.sipush 1000, 3) := by decide +kernel
theorem dX12_salt_69 : decode cX12_salt 69 = .ok (.if_icmp .ge 8, 3) := by decide +kernel
theorem dX12_salt_72 : decode cX12_salt 72 = .ok (.iload 4, 2) := by decide +kernel
theorem dX12_salt_74 : decode cX12_salt 74 = .ok (.goto 9, 3) := by decide +kernel
theorem dX12_salt_77 : decode cX12_salt 77 = .ok (.sipush 1001, 3) := by decide +kernel
theorem dX12_salt_80 : decode cX12_salt 80 = .ok (.iload 4, 2) := by decide +kernel
theorem dX12_salt_82 : decode cX12_salt 82 = .ok (.isub, 1) := by decide +kernel
theorem dX12_salt_83 : decode cX12_salt 83 = .ok (.istore 6, 2) := by decide +kernel
theorem dX12_salt_85 : decode cX12_salt 85 = .ok (.aload_n 0, 1) := by decide +kernel
theorem dX12_salt_86 : decode cX12_salt 86 = .ok (.getfield 13, 3) := by decide +kernel
theorem dX12_salt_89 : decode cX12_salt 89 = .ok (.iload 5, 2) := by decide +kernel
theorem dX12_salt_91 : decode cX12_salt 91 = .ok (.iaload, 1) := by decide +kernel
theorem dX12_salt_92 : decode cX12_salt 92 = .ok (.istore 7, 2) := by decide +kernel
theorem dX12_salt_94 : decode cX12_salt 94 = .ok (.aload_n 0, 1) := by decide +kernel
theorem dX12_salt_95 : decode cX12_salt 95 = .ok (.getfield 13, 3) := by decide +kernel
theorem dX12_salt_98 : decode cX12_salt 98 = .ok (.iload 5, 2) := by decide +kernel
theorem dX12_salt_100 : decode cX12_salt 100 = .ok (.iload 6, 2) := by decide +kernel
theorem dX12_salt_102 : decode cX12_salt 102 = .ok (.iastore, 1) := by decide +kernel
theorem dX12_salt_103 : decode cX12_salt 103 = .ok (.iload 7, 2) := by decide +kernel
theorem dX12_salt_105 : decode cX12_salt 105 = .ok (.iload 6, 2) := by decide +kernel
theorem dX12_salt_107 : decode cX12_salt 107 = .ok (.if_icmp .ne 7, 3) := by decide +kernel
theorem dX12_salt_110 : decode cX12_salt 110 = .ok (.iconst 0, 1) := by decide +kernel
theorem dX12_salt_111 : decode cX12_salt 111 = .ok (.goto 4, 3) := by decide +kernel
theorem dX12_salt_114 : decode cX12_salt 114 = .ok (.iconst 1, 1) := by decide +kernel
theorem dX12_salt_115 : decode cX12_salt 115 = .ok (.ireturn, 1) := by decide +kernel
theorem dX12_cell_0 : decode cX12_cell 0 = .ok (.aload_n 0, 1) := by decide +kernel
theorem dX12_cell_1 : decode cX12_cell 1 = .ok (.iload_n 1, 1) := by decide +kernel
theorem dX12_cell_2 : decode cX12_cell 2 = .ok (.iload_n 2, 1) := by decide +kernel
theorem dX12_cell_3 : decode cX12_cell 3 = .ok (.invokevirtual 127, 3) := by decide +kernel
theorem dX12_cell_6 : decode cX12_cell 6 = .ok (.ifCond .eq 31, 3) := by decide +kernel
theorem dX12_cell_9 : decode cX12_cell 9 = .ok (.aload_n 0, 1) := by decide +kernel
theorem dX12_cell_10 : decode cX12_cell 10 = .ok (.iload 4, 2) := by decide +kernel
theorem dX12_cell_12 : decode cX12_cell 12 = .ok (.iconst 0, 1) := by decide +kernel
theorem dX12_cell_13 : decode cX12_cell 13 = .ok (.bipush 8, 2) := by decide +kernel
theorem dX12_cell_15 : decode cX12_cell 15 = .ok (.invokevirtual 123, 3) := by decide +kernel
theorem dX12_cell_18 : decode cX12_cell 18 = .ok (.ifCond .eq 19, 3) := by decide +kernel
theorem dX12_cell_21 : decode cX12_cell 21 = .ok (.iload 4, 2) := by decide +kernel
theorem dX12_cell_23 : decode cX12_cell 23 = .ok (.iconst 2, 1) := by decide +kernel
theorem dX12_cell_24 : decode cX12_cell 24 = .ok (.if_icmp .le 15, 3) := by decide +kernel
theorem dX12_cell_27 : decode cX12_cell 27 = .ok (.aload_n 0, 1) := by decide +kernel
theorem dX12_cell_28 : decode cX12_cell 28 = .ok (.iload_n 3, 1) := by decide +kernel
theorem dX12_cell_29 : decode cX12_cell 29 = .ok (.iconst 0, 1) := by decide +kernel
theorem dX12_cell_30 : decode cX12_cell 30 = .ok (.iconst 3, 1) := by decide +kernel
theorem dX12_cell_31 : decode cX12_cell 31 = .ok (.invokevirtual 123, 3) := by decide +kernel
theorem dX12_cell_34 : decode cX12_cell 34 = .ok (.ifCond .ne 5, 3) := by decide +kernel
theorem dX12_cell_37 : decode cX12_cell 37 = .ok (.iconst (-1), 1) := by decide +kernel
theorem dX12_cell_38 : decode cX12_cell 38 = .ok (.ireturn, 1) := by decide +kernel
theorem dX12_cell_39 : decode cX12_cell 39 = .ok (.bipush 8, 2) := by decide +kernel
theorem dX12_cell_41 : decode cX12_cell 41 = .ok (.iload_n 1, 1) := by decide +kernel
theorem dX12_cell_42 : decode cX12_cell 42 = .ok (.imul, 1) := by decide +kernel
theorem dX12_cell_43 : decode cX12_cell 43 = .ok (.iload_n 2, 1) := by decide +kernel
theorem dX12_cell_44 : decode cX12_cell 44 = .ok (.iadd, 1) := by decide +kernel
theorem dX12_cell_45 : decode cX12_cell 45 = .ok (.istore 5, 2) := by decide +kernel
theorem dX12_cell_47 : decode cX12_cell 47 = .ok (.iload 4, 2) := by decide +kernel
theorem dX12_cell_49 : decode cX12_cell 49 = .ok (.tableswitch 161 0 7 #[47, 58, 69, 81, 97, 113, 129, 145], 47) := by decide +kernel
theorem dX12_cell_96 : decode cX12_cell 96 = .ok (.aload_n 0, 1) := by decide +kernel
theorem dX12_cell_97 : decode cX12_cell 97 = .ok (.getfield 13, 3) := by decide +kernel
theorem dX12_cell_100 : decode cX12_cell 100 = .ok (.bipush 10, 2) := by decide +kernel
theorem dX12_cell_102 : decode cX12_cell 102 = .ok (.iload 5, 2) := by decide +kernel
theorem dX12_cell_104 : decode cX12_cell 104 = .ok (.iadd, 1) := by decide +kernel
theorem dX12_cell_105 : decode cX12_cell 105 = .ok (.iaload, 1) := by decide +kernel
theorem dX12_cell_106 : decode cX12_cell 106 = .ok (.ireturn, 1) := by decide +kernel
theorem dX12_cell_107 : decode cX12_cell 107 = .ok (.aload_n 0, 1) := by decide +kernel
theorem dX12_cell_108 : decode cX12_cell 108 = .ok (.getfield 13, 3) := by decide +kernel
theorem dX12_cell_111 : decode cX12_cell 111 = .ok (.bipush 90, 2) := by decide +kernel
theorem dX12_cell_113 : decode cX12_cell 113 = .ok (.iload 5, 2) := by decide +kernel
theorem dX12_cell_115 : decode cX12_cell 115 = .ok (.iadd, 1) := by decide +kernel
theorem dX12_cell_116 : decode cX12_cell 116 = .ok (.iaload, 1) := by decide +kernel
theorem dX12_cell_117 : decode cX12_cell 117 = .ok (.ireturn, 1) := by decide +kernel
theorem dX12_cell_118 : decode cX12_cell 118 = .ok (.aload_n 0, 1) := by decide +kernel
theorem dX12_cell_119 : decode cX12_cell 119 = .ok (.getfield 13, 3) := by decide +kernel
theorem dX12_cell_122 : decode cX12_cell 122 = .ok (.sipush 170, 3) := by decide +kernel
theorem dX12_cell_125 : decode cX12_cell 125 = .ok (.iload 5, 2) := by decide +kernel
theorem dX12_cell_127 : decode cX12_cell 127 = .ok (.iadd, 1) := by decide +kernel
theorem dX12_cell_128 : decode cX12_cell 128 = .ok (.iaload, 1) := by decide +kernel
theorem dX12_cell_129 : decode cX12_cell 129 = .ok (.ireturn, 1) := by decide +kernel
theorem dX12_cell_130 : decode cX12_cell 130 = .ok (.aload_n 0, 1) := by decide +kernel
theorem dX12_cell_131 : decode cX12_cell 131 = .ok (.getfield 13, 3) := by decide +kernel
theorem dX12_cell_134 : decode cX12_cell 134 = .ok (.sipush 250, 3) := by decide +kernel
theorem dX12_cell_137 : decode cX12_cell 137 = .ok (.iconst 4, 1) := by decide +kernel
theorem dX12_cell_138 : decode cX12_cell 138 = .ok (.iload 5, 2) := by decide +kernel
theorem dX12_cell_140 : decode cX12_cell 140 = .ok (.imul, 1) := by decide +kernel
theorem dX12_cell_141 : decode cX12_cell 141 = .ok (.iadd, 1) := by decide +kernel
theorem dX12_cell_142 : decode cX12_cell 142 = .ok (.iload_n 3, 1) := by decide +kernel
theorem dX12_cell_143 : decode cX12_cell 143 = .ok (.iadd, 1) := by decide +kernel
theorem dX12_cell_144 : decode cX12_cell 144 = .ok (.iaload, 1) := by decide +kernel
theorem dX12_cell_145 : decode cX12_cell 145 = .ok (.ireturn, 1) := by decide +kernel
theorem dX12_cell_146 : decode cX12_cell 146 = .ok (.aload_n 0, 1) := by decide +kernel
theorem dX12_cell_147 : decode cX12_cell 147 = .ok (.getfield 13, 3) := by decide +kernel
theorem dX12_cell_150 : decode cX12_cell 150 = .ok (.sipush 570, 3) := by decide +kernel
theorem dX12_cell_153 : decode cX12_cell 153 = .ok (.iconst 4, 1) := by decide +kernel
theorem dX12_cell_154 : decode cX12_cell 154 = .ok (.iload 5, 2) := by decide +kernel
theorem dX12_cell_156 : decode cX12_cell 156 = .ok (.imul, 1) := by decide +kernel
theorem dX12_cell_157 : decode cX12_cell 157 = .ok (.iadd, 1) := by decide +kernel
theorem dX12_cell_158 : decode cX12_cell 158 = .ok (.iload_n 3, 1) := by decide +kernel
theorem dX12_cell_159 : decode cX12_cell 159 = .ok (.iadd, 1) := by decide +kernel
theorem dX12_cell_160 : decode cX12_cell 160 = .ok (.iaload, 1) := by decide +kernel
theorem dX12_cell_161 : decode cX12_cell 161 = .ok (.ireturn, 1) := by decide +kernel
theorem dX12_cell_162 : decode cX12_cell 162 = .ok (.aload_n 0, 1) := by decide +kernel
theorem dX12_cell_163 : decode cX12_cell 163 = .ok (.getfield 13, 3) := by decide +kernel
theorem dX12_cell_166 : decode cX12_cell 166 = .ok (.sipush 890, 3) := by decide +kernel
theorem dX12_cell_169 : decode cX12_cell 169 = .ok (.iconst 4, 1) := by decide +kernel
theorem dX12_cell_170 : decode cX12_cell 170 = .ok (.iload 5, 2) := by decide +kernel
theorem dX12_cell_172 : decode cX12_cell 172 = .ok (.imul, 1) := by decide +kernel
theorem dX12_cell_173 : decode cX12_cell 173 = .ok (.iadd, 1) := by decide +kernel
theorem dX12_cell_174 : decode cX12_cell 174 = .ok (.iload_n 3, 1) := by decide +kernel
theorem dX12_cell_175 : decode cX12_cell 175 = .ok (.iadd, 1) := by decide +kernel
theorem dX12_cell_176 : decode cX12_cell 176 = .ok (.iaload, 1) := by decide +kernel
theorem dX12_cell_177 : decode cX12_cell 177 = .ok (.ireturn, 1) := by decide +kernel
theorem dX12_cell_178 : decode cX12_cell 178 = .ok (.aload_n 0, 1) := by decide +kernel
theorem dX12_cell_179 : decode cX12_cell 179 = .ok (.getfield 13, 3) := by decide +kernel
theorem dX12_cell_182 : decode cX12_cell 182 = .ok (.sipush 1210, 3) := by decide +kernel
theorem dX12_cell_185 : decode cX12_cell 185 = .ok (.iconst 4, 1) := by decide +kernel
theorem dX12_cell_186 : decode cX12_cell 186 = .ok (.iload 5, 2) := by decide +kernel
theorem dX12_cell_188 : decode cX12_cell 188 = .ok (.imul, 1) := by decide +kernel
theorem dX12_cell_189 : decode cX12_cell 189 = .ok (.iadd, 1) := by decide +kernel
theorem dX12_cell_190 : decode cX12_cell 190 = .ok (.iload_n 3, 1) := by decide +kernel
theorem dX12_cell_191 : decode cX12_cell 191 = .ok (.iadd, 1) := by decide +kernel
theorem dX12_cell_192 : decode cX12_cell 192 = .ok (.iaload, 1) := by decide +kernel
theorem dX12_cell_193 : decode cX12_cell 193 = .ok (.ireturn, 1) := by decide +kernel
theorem dX12_cell_194 : decode cX12_cell 194 = .ok (.aload_n 0, 1) := by decide +kernel
theorem dX12_cell_195 : decode cX12_cell 195 = .ok (.getfield 13, 3) := by decide +kernel
theorem dX12_cell_198 : decode cX12_cell 198 = .ok (.sipush 1530, 3) := by decide +kernel
theorem dX12_cell_201 : decode cX12_cell 201 = .ok (.iconst 4, 1) := by decide +kernel
theorem dX12_cell_202 : decode cX12_cell 202 = .ok (.iload 5, 2) := by decide +kernel
theorem dX12_cell_204 : decode cX12_cell 204 = .ok (.imul, 1) := by decide +kernel
theorem dX12_cell_205 : decode cX12_cell 205 = .ok (.iadd, 1) := by decide +kernel
theorem dX12_cell_206 : decode cX12_cell 206 = .ok (.iload_n 3, 1) := by decide +kernel
theorem dX12_cell_207 : decode cX12_cell 207 = .ok (.iadd, 1) := by decide +kernel
theorem dX12_cell_208 : decode cX12_cell 208 = .ok (.iaload, 1) := by decide +kernel
theorem dX12_cell_209 : decode cX12_cell 209 = .ok (.ireturn, 1) := by decide +kernel
theorem dX12_cell_210 : decode cX12_cell 210 = .ok (.aload_n 0, 1) := by decide +kernel
theorem dX12_cell_211 : decode cX12_cell 211 = .ok (.getfield 13, 3) := by decide +kernel
theorem dX12_cell_214 : decode cX12_cell 214 = .ok (.sipush 1850, 3) := by decide +kernel
theorem dX12_cell_217 : decode cX12_cell 217 = .ok (.iconst 4, 1) := by decide +kernel
theorem dX12_cell_218 : decode cX12_cell 218 = .ok (.iload 5, 2) := by decide +kernel
theorem dX12_cell_220 : decode cX12_cell 220 = .ok (.imul, 1) := by decide +kernel
theorem dX12_cell_221 : decode cX12_cell 221 = .ok (.iadd, 1) := by decide +kernel
theorem dX12_cell_222 : decode cX12_cell 222 = .ok (.iload_n 3, 1) := by decide +kernel
theorem dX12_cell_223 : decode cX12_cell 223 = .ok (.iadd, 1) := by decide +kernel
theorem dX12_cell_224 : decode cX12_cell 224 = .ok (.iaload, 1) := by decide +kernel
theorem dX12_cell_225 : decode cX12_cell 225 = .ok (.ireturn, 1) := by decide +kernel
theorem dX12_isGlider_0 : decode cX12_isGlider 0 = .ok (.aload_n 0, 1) := by decide +kernel
theorem dX12_isGlider_1 : decode cX12_isGlider 1 = .ok (.iload_n 1, 1) := by decide +kernel
theorem dX12_isGlider_2 : decode cX12_isGlider 2 = .ok (.iconst 0, 1) := by decide +kernel
theorem dX12_isGlider_3 : decode cX12_isGlider 3 = .ok (.aload_n 0, 1) := by decide +kernel
theorem dX12_isGlider_4 : decode cX12_isGlider 4 = .ok (.getfield 13, 3) := by decide +kernel
theorem dX12_isGlider_7 : decode cX12_isGlider 7 = .ok (.iconst 0, 1) := by decide +kernel
theorem dX12_isGlider_8 : decode cX12_isGlider 8 = .ok (.iaload, 1) := by decide +kernel
theorem dX12_isGlider_9 : decode cX12_isGlider 9 = .ok (.iconst 1, 1) := by decide +kernel
theorem dX12_isGlider_10 : decode cX12_isGlider 10 = .ok (.isub, 1) := by decide +kernel
theorem dX12_isGlider_11 : decode cX12_isGlider 11 = .ok (.invokevirtual 123, 3) := by decide +kernel
theorem dX12_isGlider_14 : decode cX12_isGlider 14 = .ok (.ireturn, 1) := by decide +kernel
theorem dX12_isUp_0 : decode cX12_isUp 0 = .ok (.aload_n 0, 1) := by decide +kernel
theorem dX12_isUp_1 : decode cX12_isUp 1 = .ok (.getfield 13, 3) := by decide +kernel
theorem dX12_isUp_4 : decode cX12_isUp 4 = .ok (.sipush 2202, 3) := by decide +kernel
theorem dX12_isUp_7 : decode cX12_isUp 7 = .ok (.iload_n 1, 1) := by decide +kernel
theorem dX12_isUp_8 : decode cX12_isUp 8 = .ok (.iadd, 1) := by decide +kernel
theorem dX12_isUp_9 : decode cX12_isUp 9 = .ok (.iaload, 1) := by decide +kernel
theorem dX12_isUp_10 : decode cX12_isUp 10 = .ok (.ifCond .ne 7, 3) := by decide +kernel
theorem dX12_isUp_13 : decode cX12_isUp 13 = .ok (.iconst 1, 1) := by decide +kernel
theorem dX12_isUp_14 : decode cX12_isUp 14 = .ok (.goto 4, 3) := by decide +kernel
theorem dX12_isUp_17 : decode cX12_isUp 17 = .ok (.iconst 0, 1) := by decide +kernel
theorem dX12_isUp_18 : decode cX12_isUp 18 = .ok (.ireturn, 1) := by decide +kernel
theorem dX12_sinks_0 : decode cX12_sinks 0 = .ok (.aload_n 0, 1) := by decide +kernel
theorem dX12_sinks_1 : decode cX12_sinks 1 = .ok (.getfield 13, 3) := by decide +kernel
theorem dX12_sinks_4 : decode cX12_sinks 4 = .ok (.sipush 2170, 3) := by decide +kernel
theorem dX12_sinks_7 : decode cX12_sinks 7 = .ok (.iload_n 1, 1) := by decide +kernel
theorem dX12_sinks_8 : decode cX12_sinks 8 = .ok (.iadd, 1) := by decide +kernel
theorem dX12_sinks_9 : decode cX12_sinks 9 = .ok (.iaload, 1) := by decide +kernel
theorem dX12_sinks_10 : decode cX12_sinks 10 = .ok (.ifCond .ne 7, 3) := by decide +kernel
theorem dX12_sinks_13 : decode cX12_sinks 13 = .ok (.iconst 2, 1) := by decide +kernel
theorem dX12_sinks_14 : decode cX12_sinks 14 = .ok (.goto 22, 3) := by decide +kernel
theorem dX12_sinks_17 : decode cX12_sinks 17 = .ok (.aload_n 0, 1) := by decide +kernel
theorem dX12_sinks_18 : decode cX12_sinks 18 = .ok (.getfield 13, 3) := by decide +kernel
theorem dX12_sinks_21 : decode cX12_sinks 21 = .ok (.sipush 2170, 3) := by decide +kernel
theorem dX12_sinks_24 : decode cX12_sinks 24 = .ok (.iload_n 1, 1) := by decide +kernel
theorem dX12_sinks_25 : decode cX12_sinks 25 = .ok (.iadd, 1) := by decide +kernel
theorem dX12_sinks_26 : decode cX12_sinks 26 = .ok (.iaload, 1) := by decide +kernel
theorem dX12_sinks_27 : decode cX12_sinks 27 = .ok (.iconst 2, 1) := by decide +kernel
theorem dX12_sinks_28 : decode cX12_sinks 28 = .ok (.if_icmp .ne 7, 3) := by decide +kernel
theorem dX12_sinks_31 : decode cX12_sinks 31 = .ok (.iconst 3, 1) := by decide +kernel
theorem dX12_sinks_32 : decode cX12_sinks 32 = .ok (.goto 4, 3) := by decide +kernel
theorem dX12_sinks_35 : decode cX12_sinks 35 = .ok (.iconst 1, 1) := by decide +kernel
theorem dX12_sinks_36 : decode cX12_sinks 36 = .ok (.ireturn, 1) := by decide +kernel
theorem dX12_goes_0 : decode cX12_goes 0 = .ok (.aload_n 0, 1) := by decide +kernel
theorem dX12_goes_1 : decode cX12_goes 1 = .ok (.getfield 13, 3) := by decide +kernel
theorem dX12_goes_4 : decode cX12_goes 4 = .ok (.sipush 2170, 3) := by decide +kernel
theorem dX12_goes_7 : decode cX12_goes 7 = .ok (.iload_n 1, 1) := by decide +kernel
theorem dX12_goes_8 : decode cX12_goes 8 = .ok (.iadd, 1) := by decide +kernel
theorem dX12_goes_9 : decode cX12_goes 9 = .ok (.iaload, 1) := by decide +kernel
theorem dX12_goes_10 : decode cX12_goes 10 = .ok (.ifCond .ne 7, 3) := by decide +kernel
theorem dX12_goes_13 : decode cX12_goes 13 = .ok (.iconst 2, 1) := by decide +kernel
theorem dX12_goes_14 : decode cX12_goes 14 = .ok (.goto 40, 3) := by decide +kernel
theorem dX12_goes_17 : decode cX12_goes 17 = .ok (.aload_n 0, 1) := by decide +kernel
theorem dX12_goes_18 : decode cX12_goes 18 = .ok (.getfield 13, 3) := by decide +kernel
theorem dX12_goes_21 : decode cX12_goes 21 = .ok (.sipush 2170, 3) := by decide +kernel
theorem dX12_goes_24 : decode cX12_goes 24 = .ok (.iload_n 1, 1) := by decide +kernel
theorem dX12_goes_25 : decode cX12_goes 25 = .ok (.iadd, 1) := by decide +kernel
theorem dX12_goes_26 : decode cX12_goes 26 = .ok (.iaload, 1) := by decide +kernel
theorem dX12_goes_27 : decode cX12_goes 27 = .ok (.iconst 1, 1) := by decide +kernel
theorem dX12_goes_28 : decode cX12_goes 28 = .ok (.if_icmp .ne 7, 3) := by decide +kernel
theorem dX12_goes_31 : decode cX12_goes 31 = .ok (.iconst 3, 1) := by decide +kernel
theorem dX12_goes_32 : decode cX12_goes 32 = .ok (.goto 22, 3) := by decide +kernel
theorem dX12_goes_35 : decode cX12_goes 35 = .ok (.aload_n 0, 1) := by decide +kernel
theorem dX12_goes_36 : decode cX12_goes 36 = .ok (.getfield 13, 3) := by decide +kernel
theorem dX12_goes_39 : decode cX12_goes 39 = .ok (.sipush 2170, 3) := by decide +kernel
theorem dX12_goes_42 : decode cX12_goes 42 = .ok (.iload_n 1, 1) := by decide +kernel
theorem dX12_goes_43 : decode cX12_goes 43 = .ok (.iadd, 1) := by decide +kernel
theorem dX12_goes_44 : decode cX12_goes 44 = .ok (.iaload, 1) := by decide +kernel
theorem dX12_goes_45 : decode cX12_goes 45 = .ok (.iconst 2, 1) := by decide +kernel
theorem dX12_goes_46 : decode cX12_goes 46 = .ok (.if_icmp .ne 7, 3) := by decide +kernel
theorem dX12_goes_49 : decode cX12_goes 49 = .ok (.iconst 1, 1) := by decide +kernel
theorem dX12_goes_50 : decode cX12_goes 50 = .ok (.goto 4, 3) := by decide +kernel
theorem dX12_goes_53 : decode cX12_goes 53 = .ok (.iconst 4, 1) := by decide +kernel
theorem dX12_goes_54 : decode cX12_goes 54 = .ok (.ireturn, 1) := by decide +kernel
theorem dX12_dry_0 : decode cX12_dry 0 = .ok (.iload_n 1, 1) := by decide +kernel
theorem dX12_dry_1 : decode cX12_dry 1 = .ok (.ifCond .ne 11, 3) := by decide +kernel
theorem dX12_dry_4 : decode cX12_dry 4 = .ok (.iconst 4, 1) := by decide +kernel
theorem dX12_dry_5 : decode cX12_dry 5 = .ok (.iconst 2, 1) := by decide +kernel
theorem dX12_dry_6 : decode cX12_dry 6 = .ok (.iload_n 2, 1) := by decide +kernel
theorem dX12_dry_7 : decode cX12_dry 7 = .ok (.imul, 1) := by decide +kernel
theorem dX12_dry_8 : decode cX12_dry 8 = .ok (.iadd, 1) := by decide +kernel
theorem dX12_dry_9 : decode cX12_dry 9 = .ok (.goto 28, 3) := by decide +kernel
theorem dX12_dry_12 : decode cX12_dry 12 = .ok (.iload_n 1, 1) := by decide +kernel
theorem dX12_dry_13 : decode cX12_dry 13 = .ok (.iconst 1, 1) := by decide +kernel
theorem dX12_dry_14 : decode cX12_dry 14 = .ok (.if_icmp .ne 9, 3) := by decide +kernel
theorem dX12_dry_17 : decode cX12_dry 17 = .ok (.iconst 2, 1) := by decide +kernel
theorem dX12_dry_18 : decode cX12_dry 18 = .ok (.iload_n 2, 1) := by decide +kernel
theorem dX12_dry_19 : decode cX12_dry 19 = .ok (.iadd, 1) := by decide +kernel
theorem dX12_dry_20 : decode cX12_dry 20 = .ok (.goto 17, 3) := by decide +kernel
theorem dX12_dry_23 : decode cX12_dry 23 = .ok (.iconst 3, 1) := by decide +kernel
theorem dX12_dry_24 : decode cX12_dry 24 = .ok (.iload_n 1, 1) := by decide +kernel
theorem dX12_dry_25 : decode cX12_dry 25 = .ok (.iconst 2, 1) := by decide +kernel
theorem dX12_dry_26 : decode cX12_dry 26 = .ok (.if_icmp .ne 9, 3) := by decide +kernel
theorem dX12_dry_29 : decode cX12_dry 29 = .ok (.iconst 2, 1) := by decide +kernel
theorem dX12_dry_30 : decode cX12_dry 30 = .ok (.iload_n 2, 1) := by decide +kernel
theorem dX12_dry_31 : decode cX12_dry 31 = .ok (.imul, 1) := by decide +kernel
theorem dX12_dry_32 : decode cX12_dry 32 = .ok (.goto 4, 3) := by decide +kernel
theorem dX12_dry_35 : decode cX12_dry 35 = .ok (.iload_n 2, 1) := by decide +kernel
theorem dX12_dry_36 : decode cX12_dry 36 = .ok (.iadd, 1) := by decide +kernel
theorem dX12_dry_37 : decode cX12_dry 37 = .ok (.ireturn, 1) := by decide +kernel
