theorem dX12_cost_0 : decode cX12_cost 0 = .ok (.aload_n 0, 1) := by decide +kernel
theorem dX12_cost_1 : decode cX12_cost 1 = .ok (.aload_n 0, 1) := by decide +kernel
theorem dX12_cost_2 : decode cX12_cost 2 = .ok (.getfield 13, 3) := by decide +kernel
theorem dX12_cost_5 : decode cX12_cost 5 = .ok (.sipush 2170, 3) := by decide +kernel
theorem dX12_cost_8 : decode cX12_cost 8 = .ok (.iload_n 1, 1) := by decide +kernel
theorem dX12_cost_9 : decode cX12_cost 9 = .ok (.iadd, 1) := by decide +kernel
theorem dX12_cost_10 : decode cX12_cost 10 = .ok (.iaload, 1) := by decide +kernel
theorem dX12_cost_11 : decode cX12_cost 11 = .ok (.iload_n 2, 1) := by decide +kernel
theorem dX12_cost_12 : decode cX12_cost 12 = .ok (.invokevirtual 131, 3) := by decide +kernel
theorem dX12_cost_15 : decode cX12_cost 15 = .ok (.aload_n 0, 1) := by decide +kernel
theorem dX12_cost_16 : decode cX12_cost 16 = .ok (.getfield 13, 3) := by decide +kernel
theorem dX12_cost_19 : decode cX12_cost 19 = .ok (.sipush 2210, 3) := by decide +kernel
theorem dX12_cost_22 : decode cX12_cost 22 = .ok (.iload_n 1, 1) := by decide +kernel
theorem dX12_cost_23 : decode cX12_cost 23 = .ok (.iadd, 1) := by decide +kernel
theorem dX12_cost_24 : decode cX12_cost 24 = .ok (.iaload, 1) := by decide +kernel
theorem dX12_cost_25 : decode cX12_cost 25 = .ok (.iconst 1, 1) := by decide +kernel
theorem dX12_cost_26 : decode cX12_cost 26 = .ok (.if_icmp .ne 7, 3) := by decide +kernel
theorem dX12_cost_29 : decode cX12_cost 29 = .ok (.iconst 3, 1) := by decide +kernel
theorem dX12_cost_30 : decode cX12_cost 30 = .ok (.goto 4, 3) := by decide +kernel
theorem dX12_cost_33 : decode cX12_cost 33 = .ok (.iconst 0, 1) := by decide +kernel
theorem dX12_cost_34 : decode cX12_cost 34 = .ok (.iadd, 1) := by decide +kernel
theorem dX12_cost_35 : decode cX12_cost 35 = .ok (.ireturn, 1) := by decide +kernel
theorem dX12_layerFor_0 : decode cX12_layerFor 0 = .ok (.iload_n 2, 1) := by decide +kernel
theorem dX12_layerFor_1 : decode cX12_layerFor 1 = .ok (.aload_n 0, 1) := by decide +kernel
theorem dX12_layerFor_2 : decode cX12_layerFor 2 = .ok (.iload_n 1, 1) := by decide +kernel
theorem dX12_layerFor_3 : decode cX12_layerFor 3 = .ok (.invokevirtual 135, 3) := by decide +kernel
theorem dX12_layerFor_6 : decode cX12_layerFor 6 = .ok (.if_icmp .ge 7, 3) := by decide +kernel
theorem dX12_layerFor_9 : decode cX12_layerFor 9 = .ok (.iload_n 2, 1) := by decide +kernel
theorem dX12_layerFor_10 : decode cX12_layerFor 10 = .ok (.goto 8, 3) := by decide +kernel
theorem dX12_layerFor_13 : decode cX12_layerFor 13 = .ok (.aload_n 0, 1) := by decide +kernel
theorem dX12_layerFor_14 : decode cX12_layerFor 14 = .ok (.iload_n 1, 1) := by decide +kernel
theorem dX12_layerFor_15 : decode cX12_layerFor 15 = .ok (.invokevirtual 135, 3) := by decide +kernel
theorem dX12_layerFor_18 : decode cX12_layerFor 18 = .ok (.ireturn, 1) := by decide +kernel
theorem dX12_glider_0 : decode cX12_glider 0 = .ok (.aload_n 0, 1) := by decide +kernel
theorem dX12_glider_1 : decode cX12_glider 1 = .ok (.iload_n 1, 1) := by decide +kernel
theorem dX12_glider_2 : decode cX12_glider 2 = .ok (.iconst 0, 1) := by decide +kernel
theorem dX12_glider_3 : decode cX12_glider 3 = .ok (.iconst 3, 1) := by decide +kernel
theorem dX12_glider_4 : decode cX12_glider 4 = .ok (.invokevirtual 123, 3) := by decide +kernel
theorem dX12_glider_7 : decode cX12_glider 7 = .ok (.ifCond .eq 25, 3) := by decide +kernel
theorem dX12_glider_10 : decode cX12_glider 10 = .ok (.aload_n 0, 1) := by decide +kernel
theorem dX12_glider_11 : decode cX12_glider 11 = .ok (.iload_n 2, 1) := by decide +kernel
theorem dX12_glider_12 : decode cX12_glider 12 = .ok (.iload_n 3, 1) := by decide +kernel
theorem dX12_glider_13 : decode cX12_glider 13 = .ok (.invokevirtual 127, 3) := by decide +kernel
theorem dX12_glider_16 : decode cX12_glider 16 = .ok (.ifCond .eq 16, 3) := by decide +kernel
theorem dX12_glider_19 : decode cX12_glider 19 = .ok (.aload_n 0, 1) := by decide +kernel
theorem dX12_glider_20 : decode cX12_glider 20 = .ok (.iload 4, 2) := by decide +kernel
theorem dX12_glider_22 : decode cX12_glider 22 = .ok (.iconst 0, 1) := by decide +kernel
theorem dX12_glider_23 : decode cX12_glider 23 = .ok (.sipush 999, 3) := by decide +kernel
theorem dX12_glider_26 : decode cX12_glider 26 = .ok (.invokevirtual 123, 3) := by decide +kernel
theorem dX12_glider_29 : decode cX12_glider 29 = .ok (.ifCond .ne 5, 3) := by decide +kernel
theorem dX12_glider_32 : decode cX12_glider 32 = .ok (.iconst (-1), 1) := by decide +kernel
theorem dX12_glider_33 : decode cX12_glider 33 = .ok (.ireturn, 1) := by decide +kernel
theorem dX12_glider_34 : decode cX12_glider 34 = .ok (.aload_n 0, 1) := by decide +kernel
theorem dX12_glider_35 : decode cX12_glider 35 = .ok (.getfield 13, 3) := by decide +kernel
theorem dX12_glider_38 : decode cX12_glider 38 = .ok (.iconst 0, 1) := by decide +kernel
theorem dX12_glider_39 : decode cX12_glider 39 = .ok (.iaload, 1) := by decide +kernel
theorem dX12_glider_40 : decode cX12_glider 40 = .ok (.istore 5, 2) := by decide +kernel
theorem dX12_glider_42 : decode cX12_glider 42 = .ok (.iload 5, 2) := by decide +kernel
theorem dX12_glider_44 : decode cX12_glider 44 = .ok (.bipush 8, 2) := by decide +kernel
theorem dX12_glider_46 : decode cX12_glider 46 = .ok (.if_icmp .ne 6, 3) := by decide +kernel
theorem dX12_glider_49 : decode cX12_glider 49 = .ok (.bipush (-2), 2) := by decide +kernel
theorem dX12_glider_51 : decode cX12_glider 51 = .ok (.ireturn, 1) := by decide +kernel
theorem dX12_glider_52 : decode cX12_glider 52 = .ok (.aload_n 0, 1) := by decide +kernel
theorem dX12_glider_53 : decode cX12_glider 53 = .ok (.iload_n 2, 1) := by decide +kernel
theorem dX12_glider_54 : decode cX12_glider 54 = .ok (.iload_n 3, 1) := by decide +kernel
theorem dX12_glider_55 : decode cX12_glider 55 = .ok (.invokevirtual 139, 3) := by decide +kernel
theorem dX12_glider_58 : decode cX12_glider 58 = .ok (.ifCond .ne 6, 3) := by decide +kernel
theorem dX12_glider_61 : decode cX12_glider 61 = .ok (.bipush (-3), 2) := by decide +kernel
theorem dX12_glider_63 : decode cX12_glider 63 = .ok (.ireturn, 1) := by decide +kernel
theorem dX12_glider_64 : decode cX12_glider 64 = .ok (.aload_n 0, 1) := by decide +kernel
theorem dX12_glider_65 : decode cX12_glider 65 = .ok (.getfield 13, 3) := by decide +kernel
theorem dX12_glider_68 : decode cX12_glider 68 = .ok (.sipush 2170, 3) := by decide +kernel
theorem dX12_glider_71 : decode cX12_glider 71 = .ok (.iload 5, 2) := by decide +kernel
theorem dX12_glider_73 : decode cX12_glider 73 = .ok (.iadd, 1) := by decide +kernel
theorem dX12_glider_74 : decode cX12_glider 74 = .ok (.iload_n 1, 1) := by decide +kernel
theorem dX12_glider_75 : decode cX12_glider 75 = .ok (.iastore, 1) := by decide +kernel
theorem dX12_glider_76 : decode cX12_glider 76 = .ok (.aload_n 0, 1) := by decide +kernel
theorem dX12_glider_77 : decode cX12_glider 77 = .ok (.getfield 13, 3) := by decide +kernel
theorem dX12_glider_80 : decode cX12_glider 80 = .ok (.sipush 2178, 3) := by decide +kernel
theorem dX12_glider_83 : decode cX12_glider 83 = .ok (.iload 5, 2) := by decide +kernel
theorem dX12_glider_85 : decode cX12_glider 85 = .ok (.iadd, 1) := by decide +kernel
theorem dX12_glider_86 : decode cX12_glider 86 = .ok (.iload_n 2, 1) := by decide +kernel
theorem dX12_glider_87 : decode cX12_glider 87 = .ok (.iastore, 1) := by decide +kernel
theorem dX12_glider_88 : decode cX12_glider 88 = .ok (.aload_n 0, 1) := by decide +kernel
theorem dX12_glider_89 : decode cX12_glider 89 = .ok (.getfield 13, 3) := by decide +kernel
theorem dX12_glider_92 : decode cX12_glider 92 = .ok (.sipush 2186, 3) := by decide +kernel
theorem dX12_glider_95 : decode cX12_glider 95 = .ok (.iload 5, 2) := by decide +kernel
theorem dX12_glider_97 : decode cX12_glider 97 = .ok (.iadd, 1) := by decide +kernel
theorem dX12_glider_98 : decode cX12_glider 98 = .ok (.iload_n 3, 1) := by decide +kernel
theorem dX12_glider_99 : decode cX12_glider 99 = .ok (.iastore, 1) := by decide +kernel
theorem dX12_glider_100 : decode cX12_glider 100 = .ok (.aload_n 0, 1) := by decide +kernel
theorem dX12_glider_101 : decode cX12_glider 101 = .ok (.getfield 13, 3) := by decide +kernel
theorem dX12_glider_104 : decode cX12_glider 104 = .ok (.sipush 2194, 3) := by decide +kernel
theorem dX12_glider_107 : decode cX12_glider 107 = .ok (.iload 5, 2) := by decide +kernel
theorem dX12_glider_109 : decode cX12_glider 109 = .ok (.iadd, 1) := by decide +kernel
theorem dX12_glider_110 : decode cX12_glider 110 = .ok (.iload 4, 2) := by decide +kernel
theorem dX12_glider_112 : decode cX12_glider 112 = .ok (.iastore, 1) := by decide +kernel
theorem dX12_glider_113 : decode cX12_glider 113 = .ok (.aload_n 0, 1) := by decide +kernel
theorem dX12_glider_114 : decode cX12_glider 114 = .ok (.getfield 13, 3) := by decide +kernel
theorem dX12_glider_117 : decode cX12_glider 117 = .ok (.sipush 2226, 3) := by decide +kernel
theorem dX12_glider_120 : decode cX12_glider 120 = .ok (.iload 5, 2) := by decide +kernel
theorem dX12_glider_122 : decode cX12_glider 122 = .ok (.iadd, 1) := by decide +kernel
theorem dX12_glider_123 : decode cX12_glider 123 = .ok (.bipush (-4), 2) := by decide +kernel
theorem dX12_glider_125 : decode cX12_glider 125 = .ok (.iastore, 1) := by decide +kernel
theorem dX12_glider_126 : decode cX12_glider 126 = .ok (.aload_n 0, 1) := by decide +kernel
theorem dX12_glider_127 : decode cX12_glider 127 = .ok (.getfield 13, 3) := by decide +kernel
theorem dX12_glider_130 : decode cX12_glider 130 = .ok (.sipush 2234, 3) := by decide +kernel
theorem dX12_glider_133 : decode cX12_glider 133 = .ok (.iload 5, 2) := by decide +kernel
theorem dX12_glider_135 : decode cX12_glider 135 = .ok (.iadd, 1) := by decide +kernel
theorem dX12_glider_136 : decode cX12_glider 136 = .ok (.bipush (-4), 2) := by decide +kernel
theorem dX12_glider_138 : decode cX12_glider 138 = .ok (.iastore, 1) := by decide +kernel
theorem dX12_glider_139 : decode cX12_glider 139 = .ok (.aload_n 0, 1) := by decide +kernel
theorem dX12_glider_140 : decode cX12_glider 140 = .ok (.getfield 13, 3) := by decide +kernel
theorem dX12_glider_143 : decode cX12_glider 143 = .ok (.sipush 2250, 3) := by decide +kernel
theorem dX12_glider_146 : decode cX12_glider 146 = .ok (.iload 5, 2) := by decide +kernel
theorem dX12_glider_148 : decode cX12_glider 148 = .ok (.iadd, 1) := by decide +kernel
theorem dX12_glider_149 : decode cX12_glider 149 = .ok (.bipush (-4), 2) := by decide +kernel
theorem dX12_glider_151 : decode cX12_glider 151 = .ok (.iastore, 1) := by decide +kernel
theorem dX12_glider_152 : decode cX12_glider 152 = .ok (.aload_n 0, 1) := by decide +kernel
theorem dX12_glider_153 : decode cX12_glider 153 = .ok (.getfield 13, 3) := by decide +kernel
theorem dX12_glider_156 : decode cX12_glider 156 = .ok (.iconst 0, 1) := by decide +kernel
theorem dX12_glider_157 : decode cX12_glider 157 = .ok (.dup2, 1) := by decide +kernel
theorem dX12_glider_158 : decode cX12_glider 158 = .ok (.iaload, 1) := by decide +kernel
theorem dX12_glider_159 : decode cX12_glider 159 = .ok (.iconst 1, 1) := by decide +kernel
theorem dX12_glider_160 : decode cX12_glider 160 = .ok (.iadd, 1) := by decide +kernel
theorem dX12_glider_161 : decode cX12_glider 161 = .ok (.iastore, 1) := by decide +kernel
theorem dX12_glider_162 : decode cX12_glider 162 = .ok (.iload 5, 2) := by decide +kernel
theorem dX12_glider_164 : decode cX12_glider 164 = .ok (.ireturn, 1) := by decide +kernel
theorem dX12_about_0 : decode cX12_about 0 = .ok (.aload_n 0, 1) := by decide +kernel
theorem dX12_about_1 : decode cX12_about 1 = .ok (.iload_n 1, 1) := by decide +kernel
theorem dX12_about_2 : decode cX12_about 2 = .ok (.invokevirtual 142, 3) := by decide +kernel
theorem dX12_about_5 : decode cX12_about 5 = .ok (.ifCond .ne 5, 3) := by decide +kernel
theorem dX12_about_8 : decode cX12_about 8 = .ok (.iconst (-1), 1) := by decide +kernel
theorem dX12_about_9 : decode cX12_about 9 = .ok (.ireturn, 1) := by decide +kernel
theorem dX12_about_10 : decode cX12_about 10 = .ok (.iload_n 2, 1) := by decide +kernel
theorem dX12_about_11 : decode cX12_about 11 = .ok (.tableswitch 178 0 10 #[57, 68, 79, 90, 101, 112, 123, 134, 145, 156, 167], 57) := by decide +kernel
theorem dX12_about_68 : decode cX12_about 68 = .ok (.aload_n 0, 1) := by decide +kernel
theorem dX12_about_69 : decode cX12_about 69 = .ok (.getfield 13, 3) := by decide +kernel
theorem dX12_about_72 : decode cX12_about 72 = .ok (.sipush 2170, 3) := by decide +kernel
theorem dX12_about_75 : decode cX12_about 75 = .ok (.iload_n 1, 1) := by decide +kernel
theorem dX12_about_76 : decode cX12_about 76 = .ok (.iadd, 1) := by decide +kernel
theorem dX12_about_77 : decode cX12_about 77 = .ok (.iaload, 1) := by decide +kernel
theorem dX12_about_78 : decode cX12_about 78 = .ok (.ireturn, 1) := by decide +kernel
theorem dX12_about_79 : decode cX12_about 79 = .ok (.aload_n 0, 1) := by decide +kernel
theorem dX12_about_80 : decode cX12_about 80 = .ok (.getfield 13, 3) := by decide +kernel
theorem dX12_about_83 : decode cX12_about 83 = .ok (.sipush 2178, 3) := by decide +kernel
theorem dX12_about_86 : decode cX12_about 86 = .ok (.iload_n 1, 1) := by decide +kernel
theorem dX12_about_87 : decode cX12_about 87 = .ok (.iadd, 1) := by decide +kernel
theorem dX12_about_88 : decode cX12_about 88 = .ok (.iaload, 1) := by decide +kernel
theorem dX12_about_89 : decode cX12_about 89 = .ok (.ireturn, 1) := by decide +kernel
theorem dX12_about_90 : decode cX12_about 90 = .ok (.aload_n 0, 1) := by decide +kernel
theorem dX12_about_91 : decode cX12_about 91 = .ok (.getfield 13, 3) := by decide +kernel
theorem dX12_about_94 : decode cX12_about 94 = .ok (.sipush 2186, 3) := by decide +kernel
theorem dX12_about_97 : decode cX12_about 97 = .ok (.iload_n 1, 1) := by decide +kernel
theorem dX12_about_98 : decode cX12_about 98 = .ok (.iadd, 1) := by decide +kernel
theorem dX12_about_99 : decode cX12_about 99 = .ok (.iaload, 1) := by decide +kernel
theorem dX12_about_100 : decode cX12_about 100 = .ok (.ireturn, 1) := by decide +kernel
theorem dX12_about_101 : decode cX12_about 101 = .ok (.aload_n 0, 1) := by decide +kernel
theorem dX12_about_102 : decode cX12_about 102 = .ok (.getfield 13, 3) := by decide +kernel
theorem dX12_about_105 : decode cX12_about 105 = .ok (.sipush 2194, 3) := by decide +kernel
theorem dX12_about_108 : decode cX12_about 108 = .ok (.iload_n 1, 1) := by decide +kernel
theorem dX12_about_109 : decode cX12_about 109 = .ok (.iadd, 1) := by decide +kernel
theorem dX12_about_110 : decode cX12_about 110 = .ok (.iaload, 1) := by decide +kernel
theorem dX12_about_111 : decode cX12_about 111 = .ok (.ireturn, 1) := by decide +kernel
theorem dX12_about_112 : decode cX12_about 112 = .ok (.aload_n 0, 1) := by decide +kernel
theorem dX12_about_113 : decode cX12_about 113 = .ok (.getfield 13, 3) := by decide +kernel
theorem dX12_about_116 : decode cX12_about 116 = .ok (.sipush 2202, 3) := by decide +kernel
theorem dX12_about_119 : decode cX12_about 119 = .ok (.iload_n 1, 1) := by decide +kernel
theorem dX12_about_120 : decode cX12_about 120 = .ok (.iadd, 1) := by decide +kernel
theorem dX12_about_121 : decode cX12_about 121 = .ok (.iaload, 1) := by decide +kernel
theorem dX12_about_122 : decode cX12_about 122 = .ok (.ireturn, 1) := by decide +kernel
theorem dX12_about_123 : decode cX12_about 123 = .ok (.aload_n 0, 1) := by decide +kernel
theorem dX12_about_124 : decode cX12_about 124 = .ok (.getfield 13, 3) := by decide +kernel
theorem dX12_about_127 : decode cX12_about 127 = .ok (.sipush 2210, 3) := by decide +kernel
theorem dX12_about_130 : decode cX12_about 130 = .ok (.iload_n 1, 1) := by decide +kernel
theorem dX12_about_131 : decode cX12_about 131 = .ok (.iadd, 1) := by decide +kernel
theorem dX12_about_132 : decode cX12_about 132 = .ok (.iaload, 1) := by decide +kernel
theorem dX12_about_133 : decode cX12_about 133 = .ok (.ireturn, 1) := by decide +kernel
theorem dX12_about_134 : decode cX12_about 134 = .ok (.aload_n 0, 1) := by decide +kernel
theorem dX12_about_135 : decode cX12_about 135 = .ok (.getfield 13, 3) := by decide +kernel
theorem dX12_about_138 : decode cX12_about 138 = .ok (.sipush 2218, 3) := by decide +kernel
theorem dX12_about_141 : decode cX12_about 141 = .ok (.iload_n 1, 1) := by decide +kernel
theorem dX12_about_142 : decode cX12_about 142 = .ok (.iadd, 1) := by decide +kernel
theorem dX12_about_143 : decode cX12_about 143 = .ok (.iaload, 1) := by decide +kernel
theorem dX12_about_144 : decode cX12_about 144 = .ok (.ireturn, 1) := by decide +kernel
theorem dX12_about_145 : decode cX12_about 145 = .ok (.aload_n 0, 1) := by decide +kernel
theorem dX12_about_146 : decode cX12_about 146 = .ok (.getfield 13, 3) := by decide +kernel
theorem dX12_about_149 : decode cX12_about 149 = .ok (.sipush 2226, 3) := by decide +kernel
theorem dX12_about_152 : decode cX12_about 152 = .ok (.iload_n 1, 1) := by decide +kernel
theorem dX12_about_153 : decode cX12_about 153 = .ok (.iadd, 1) := by decide +kernel
theorem dX12_about_154 : decode cX12_about 154 = .ok (.iaload, 1) := by decide +kernel
theorem dX12_about_155 : decode cX12_about 155 = .ok (.ireturn, 1) := by decide +kernel
theorem dX12_about_156 : decode cX12_about 156 = .ok (.aload_n 0, 1) := by decide +kernel
theorem dX12_about_157 : decode cX12_about 157 = .ok (.getfield 13, 3) := by decide +kernel
theorem dX12_about_160 : decode cX12_about 160 = .ok (.sipush 2234, 3) := by decide +kernel
theorem dX12_about_163 : decode cX12_about 163 = .ok (.iload_n 1, 1) := by decide +kernel
theorem dX12_about_164 : decode cX12_about 164 = .ok (.iadd, 1) := by decide +kernel
theorem dX12_about_165 : decode cX12_about 165 = .ok (.iaload, 1) := by decide +kernel
theorem dX12_about_166 : decode cX12_about 166 = .ok (.ireturn, 1) := by decide +kernel
theorem dX12_about_167 : decode cX12_about 167 = .ok (.aload_n 0, 1) := by decide +kernel
theorem dX12_about_168 : decode cX12_about 168 = .ok (.getfield 13, 3) := by decide +kernel
theorem dX12_about_171 : decode cX12_about 171 = .ok (.sipush 2242, 3) := by decide +kernel
theorem dX12_about_174 : decode cX12_about 174 = .ok (.iload_n 1, 1) := by decide +kernel
theorem dX12_about_175 : decode cX12_about 175 = .ok (.iadd, 1) := by decide +kernel
theorem dX12_about_176 : decode cX12_about 176 = .ok (.iaload, 1) := by decide +kernel
theorem dX12_about_177 : decode cX12_about 177 = .ok (.ireturn, 1) := by decide +kernel
theorem dX12_about_178 : decode cX12_about 178 = .ok (.aload_n 0, 1) := by decide +kernel
theorem dX12_about_179 : decode cX12_about 179 = .ok (.getfield 13, 3) := by decide +kernel
theorem dX12_about_182 : decode cX12_about 182 = .ok (.sipush 2250, 3) := by decide +kernel
theorem dX12_about_185 : decode cX12_about 185 = .ok (.iload_n 1, 1) := by decide +kernel
theorem dX12_about_186 : decode cX12_about 186 = .ok (.iadd, 1) := by decide +kernel
theorem dX12_about_187 : decode cX12_about 187 = .ok (.iaload, 1) := by decide +kernel
theorem dX12_about_188 : decode cX12_about 188 = .ok (.ireturn, 1) := by decide +kernel
theorem dX12_about_189 : decode cX12_about 189 = .ok (.iconst (-1), 1) := by decide +kernel
theorem dX12_about_190 : decode cX12_about 190 = .ok (.ireturn, 1) := by decide +kernel
theorem dX12_can_0 : decode cX12_can 0 = .ok (.aload_n 0, 1) := by decide +kernel
theorem dX12_can_1 : decode cX12_can 1 = .ok (.iload_n 1, 1) := by decide +kernel
theorem dX12_can_2 : decode cX12_can 2 = .ok (.invokevirtual 142, 3) := by decide +kernel
theorem dX12_can_5 : decode cX12_can 5 = .ok (.ifCond .eq 13, 3) := by decide +kernel
theorem dX12_can_8 : decode cX12_can 8 = .ok (.aload_n 0, 1) := by decide +kernel
theorem dX12_can_9 : decode cX12_can 9 = .ok (.iload_n 2, 1) := by decide +kernel
theorem dX12_can_10 : decode cX12_can 10 = .ok (.iconst 0, 1) := by decide +kernel
theorem dX12_can_11 : decode cX12_can 11 = .ok (.iconst 5, 1) := by decide +kernel
theorem dX12_can_12 : decode cX12_can 12 = .ok (.invokevirtual 123, 3) := by decide +kernel
theorem dX12_can_15 : decode cX12_can 15 = .ok (.ifCond .ne 5, 3) := by decide +kernel
theorem dX12_can_18 : decode cX12_can 18 = .ok (.iconst (-1), 1) := by decide +kernel
theorem dX12_can_19 : decode cX12_can 19 = .ok (.ireturn, 1) := by decide +kernel
theorem dX12_can_20 : decode cX12_can 20 = .ok (.iload_n 2, 1) := by decide +kernel
theorem dX12_can_21 : decode cX12_can 21 = .ok (.ifCond .ne 11, 3) := by decide +kernel
theorem dX12_can_24 : decode cX12_can 24 = .ok (.aload_n 0, 1) := by decide +kernel
theorem dX12_can_25 : decode cX12_can 25 = .ok (.iload_n 1, 1) := by decide +kernel
theorem dX12_can_26 : decode cX12_can 26 = .ok (.invokevirtual 135, 3) := by decide +kernel
theorem dX12_can_29 : decode cX12_can 29 = .ok (.goto 40, 3) := by decide +kernel
theorem dX12_can_32 : decode cX12_can 32 = .ok (.iload_n 2, 1) := by decide +kernel
theorem dX12_can_33 : decode cX12_can 33 = .ok (.iconst 1, 1) := by decide +kernel
theorem dX12_can_34 : decode cX12_can 34 = .ok (.if_icmp .ne 11, 3) := by decide +kernel
theorem dX12_can_37 : decode cX12_can 37 = .ok (.aload_n 0, 1) := by decide +kernel
theorem dX12_can_38 : decode cX12_can 38 = .ok (.iload_n 1, 1) := by decide +kernel
theorem dX12_can_39 : decode cX12_can 39 = .ok (.invokevirtual 146, 3) := by decide +kernel
theorem dX12_can_42 : decode cX12_can 42 = .ok (.goto 27, 3) := by decide +kernel
theorem dX12_can_45 : decode cX12_can 45 = .ok (.iload_n 2, 1) := by decide +kernel
theorem dX12_can_46 : decode cX12_can 46 = .ok (.iconst 2, 1) := by decide +kernel
theorem dX12_can_47 : decode cX12_can 47 = .ok (.isub, 1) := by decide +kernel
theorem dX12_can_48 : decode cX12_can 48 = .ok (.aload_n 0, 1) := by decide +kernel
theorem dX12_can_49 : decode cX12_can 49 = .ok (.iload_n 1, 1) := by decide +kernel
theorem dX12_can_50 : decode cX12_can 50 = .ok (.invokevirtual 135, 3) := by decide +kernel
theorem dX12_can_53 : decode cX12_can 53 = .ok (.if_icmp .le 8, 3) := by decide +kernel
theorem dX12_can_56 : decode cX12_can 56 = .ok (.bipush (-3), 2) := by decide +kernel
theorem dX12_can_58 : decode cX12_can 58 = .ok (.goto 11, 3) := by decide +kernel
theorem dX12_can_61 : decode cX12_can 61 = .ok (.aload_n 0, 1) := by decide +kernel
theorem dX12_can_62 : decode cX12_can 62 = .ok (.iload_n 1, 1) := by decide +kernel
theorem dX12_can_63 : decode cX12_can 63 = .ok (.iload_n 2, 1) := by decide +kernel
theorem dX12_can_64 : decode cX12_can 64 = .ok (.iconst 2, 1) := by decide +kernel
theorem dX12_can_65 : decode cX12_can 65 = .ok (.isub, 1) := by decide +kernel
theorem dX12_can_66 : decode cX12_can 66 = .ok (.invokevirtual 149, 3) := by decide +kernel
theorem dX12_can_69 : decode cX12_can 69 = .ok (.ireturn, 1) := by decide +kernel
theorem dX12_leak_0 : decode cX12_leak 0 = .ok (.aload_n 0, 1) := by decide +kernel
theorem dX12_leak_1 : decode cX12_leak 1 = .ok (.iload_n 1, 1) := by decide +kernel
theorem dX12_leak_2 : decode cX12_leak 2 = .ok (.invokevirtual 142, 3) := by decide +kernel
theorem dX12_leak_5 : decode cX12_leak 5 = .ok (.ifCond .ne 5, 3) := by decide +kernel
theorem dX12_leak_8 : decode cX12_leak 8 = .ok (.iconst (-1), 1) := by decide +kernel
theorem dX12_leak_9 : decode cX12_leak 9 = .ok (.ireturn, 1) := by decide +kernel
theorem dX12_leak_10 : decode cX12_leak 10 = .ok (.aload_n 0, 1) := by decide +kernel
theorem dX12_leak_11 : decode cX12_leak 11 = .ok (.getfield 13, 3) := by decide +kernel
theorem dX12_leak_14 : decode cX12_leak 14 = .ok (.sipush 2210, 3) := by decide +kernel
theorem dX12_leak_17 : decode cX12_leak 17 = .ok (.iload_n 1, 1) := by decide +kernel
theorem dX12_leak_18 : decode cX12_leak 18 = .ok (.iadd, 1) := by decide +kernel
theorem dX12_leak_19 : decode cX12_leak 19 = .ok (.iaload, 1) := by decide +kernel
theorem dX12_leak_20 : decode cX12_leak 20 = .ok (.istore_n 3, 1) := by decide +kernel
theorem dX12_leak_21 : decode cX12_leak 21 = .ok (.aload_n 0, 1) := by decide +kernel
theorem dX12_leak_22 : decode cX12_leak 22 = .ok (.getfield 13, 3) := by decide +kernel
theorem dX12_leak_25 : decode cX12_leak 25 = .ok (.sipush 2210, 3) := by decide +kernel
theorem dX12_leak_28 : decode cX12_leak 28 = .ok (.iload_n 1, 1) := by decide +kernel
theorem dX12_leak_29 : decode cX12_leak 29 = .ok (.iadd, 1) := by decide +kernel
theorem dX12_leak_30 : decode cX12_leak 30 = .ok (.iload_n 2, 1) := by decide +kernel
theorem dX12_leak_31 : decode cX12_leak 31 = .ok (.ifCond .eq 7, 3) := by decide +kernel
theorem dX12_leak_34 : decode cX12_leak 34 = .ok (.iconst 1, 1) := by decide +kernel
theorem dX12_leak_35 : decode cX12_leak 35 = .ok (.goto 4, 3) := by decide +kernel
theorem dX12_leak_38 : decode cX12_leak 38 = .ok (.iconst 0, 1) := by decide +kernel
theorem dX12_leak_39 : decode cX12_leak 39 = .ok (.iastore, 1) := by decide +kernel
theorem dX12_leak_40 : decode cX12_leak 40 = .ok (.iload_n 3, 1) := by decide +kernel
theorem dX12_leak_41 : decode cX12_leak 41 = .ok (.aload_n 0, 1) := by decide +kernel
theorem dX12_leak_42 : decode cX12_leak 42 = .ok (.getfield 13, 3) := by decide +kernel
theorem dX12_leak_45 : decode cX12_leak 45 = .ok (.sipush 2210, 3) := by decide +kernel
theorem dX12_leak_48 : decode cX12_leak 48 = .ok (.iload_n 1, 1) := by decide +kernel
theorem dX12_leak_49 : decode cX12_leak 49 = .ok (.iadd, 1) := by decide +kernel
theorem dX12_leak_50 : decode cX12_leak 50 = .ok (.iaload, 1) := by decide +kernel
theorem dX12_leak_51 : decode cX12_leak 51 = .ok (.if_icmp .ne 7, 3) := by decide +kernel
theorem dX12_leak_54 : decode cX12_leak 54 = .ok (.iconst 0, 1) := by decide +kernel
theorem dX12_leak_55 : decode cX12_leak 55 = .ok (.goto 4, 3) := by decide +kernel
theorem dX12_leak_58 : decode cX12_leak 58 = .ok (.iconst 1, 1) := by decide +kernel
theorem dX12_leak_59 : decode cX12_leak 59 = .ok (.ireturn, 1) := by decide +kernel
theorem dX12_abs_0 : decode cX12_abs 0 = .ok (.iload_n 1, 1) := by decide +kernel
theorem dX12_abs_1 : decode cX12_abs 1 = .ok (.ifCond .ge 8, 3) := by decide +kernel
theorem dX12_abs_4 : decode cX12_abs 4 = .ok (.iload_n 1, 1) := by decide +kernel
theorem dX12_abs_5 : decode cX12_abs 5 = .ok (.ineg, 1) := by decide +kernel
theorem dX12_abs_6 : decode cX12_abs 6 = .ok (.goto 4, 3) := by decide +kernel
theorem dX12_abs_9 : decode cX12_abs 9 = .ok (.iload_n 1, 1) := by decide +kernel
theorem dX12_abs_10 : decode cX12_abs 10 = .ok (.ireturn, 1) := by decide +kernel
theorem dX12_step_0 : decode cX12_step 0 = .ok (.aload_n 0, 1) := by decide +kernel
theorem dX12_step_1 : decode cX12_step 1 = .ok (.aload_n 0, 1) := by decide +kernel
theorem dX12_step_2 : decode cX12_step 2 = .ok (.getfield 24, 3) := by decide +kernel
theorem dX12_step_5 : decode cX12_step 5 = .ok (.iload_n 1, 1) := by decide +kernel
theorem dX12_step_6 : decode cX12_step 6 = .ok (.iadd, 1) := by decide +kernel
theorem dX12_step_7 : decode cX12_step 7 = .ok (.aload_n 0, 1) := by decide +kernel
theorem dX12_step_8 : decode cX12_step 8 = .ok (.getfield 27, 3) := by decide +kernel
theorem dX12_step_11 : decode cX12_step 11 = .ok (.iload_n 2, 1) := by decide +kernel
theorem dX12_step_12 : decode cX12_step 12 = .ok (.iadd, 1) := by decide +kernel
theorem dX12_step_13 : decode cX12_step 13 = .ok (.invokevirtual 139, 3) := by decide +kernel
theorem dX12_step_16 : decode cX12_step 16 = .ok (.ifCond .ne 4, 3) := by decide +kernel
theorem dX12_step_19 : decode cX12_step 19 = .ok (.return_, 1) := by decide +kernel
theorem dX12_step_20 : decode cX12_step 20 = .ok (.aload_n 0, 1) := by decide +kernel
theorem dX12_step_21 : decode cX12_step 21 = .ok (.dup, 1) := by decide +kernel
theorem dX12_step_22 : decode cX12_step 22 = .ok (.getfield 24, 3) := by decide +kernel
theorem dX12_step_25 : decode cX12_step 25 = .ok (.iload_n 1, 1) := by decide +kernel
theorem dX12_step_26 : decode cX12_step 26 = .ok (.iadd, 1) := by decide +kernel
theorem dX12_step_27 : decode cX12_step 27 = .ok (.putfield 24, 3) := by decide +kernel
theorem dX12_step_30 : decode cX12_step 30 = .ok (.aload_n 0, 1) := by decide +kernel
theorem dX12_step_31 : decode cX12_step 31 = .ok (.dup, 1) := by decide +kernel
theorem dX12_step_32 : decode cX12_step 32 = .ok (.getfield 27, 3) := by decide +kernel
theorem dX12_step_35 : decode cX12_step 35 = .ok (.iload_n 2, 1) := by decide +kernel
theorem dX12_step_36 : decode cX12_step 36 = .ok (.iadd, 1) := by decide +kernel
theorem dX12_step_37 : decode cX12_step 37 = .ok (.putfield 27, 3) := by decide +kernel
theorem dX12_step_40 : decode cX12_step 40 = .ok (.return_, 1) := by decide +kernel
theorem dX12_steps_0 : decode cX12_steps 0 = .ok (.iconst 0, 1) := by decide +kernel
theorem dX12_steps_1 : decode cX12_steps 1 = .ok (.istore_n 3, 1) := by decide +kernel
theorem dX12_steps_2 : decode cX12_steps 2 = .ok (.iload_n 3, 1) := by decide +kernel
theorem dX12_steps_3 : decode cX12_steps 3 = .ok (.aload_n 0, 1) := by decide +kernel
theorem dX12_steps_4 : decode cX12_steps 4 = .ok (.iload_n 1, 1) := by decide +kernel
theorem dX12_steps_5 : decode cX12_steps 5 = .ok (.invokevirtual 152, 3) := by decide +kernel
theorem dX12_steps_8 : decode cX12_steps 8 = .ok (.if_icmp .ge 23, 3) := by decide +kernel
theorem dX12_steps_11 : decode cX12_steps 11 = .ok (.aload_n 0, 1) := by decide +kernel
theorem dX12_steps_12 : decode cX12_steps 12 = .ok (.iload_n 1, 1) := by decide +kernel
theorem dX12_steps_13 : decode cX12_steps 13 = .ok (.ifCond .ge 7, 3) := by decide +kernel
theorem dX12_steps_16 : decode cX12_steps 16 = .ok (.iconst (-1), 1) := by decide +kernel
theorem dX12_steps_17 : decode cX12_steps 17 = .ok (.goto 4, 3) := by decide +kernel
theorem dX12_steps_20 : decode cX12_steps 20 = .ok (.iconst 1, 1) := by decide +kernel
theorem dX12_steps_21 : decode cX12_steps 21 = .ok (.iconst 0, 1) := by decide +kernel
theorem dX12_steps_22 : decode cX12_steps 22 = .ok (.invokevirtual 155, 3) := by decide +kernel
theorem dX12_steps_25 : decode cX12_steps 25 = .ok (.iinc 3 1, 3) := by decide +kernel
theorem dX12_steps_28 : decode cX12_steps 28 = .ok (.goto (-26), 3) := by decide +kernel
theorem dX12_steps_31 : decode cX12_steps 31 = .ok (.iconst 0, 1) := by decide +kernel
theorem dX12_steps_32 : decode cX12_steps 32 = .ok (.istore_n 3, 1) := by decide +kernel
theorem dX12_steps_33 : decode cX12_steps 33 = .ok (.iload_n 3, 1) := by decide +kernel
theorem dX12_steps_34 : decode cX12_steps 34 = .ok (.aload_n 0, 1) := by decide +kernel
theorem dX12_steps_35 : decode cX12_steps 35 = .ok (.iload_n 2, 1) := by decide +kernel
theorem dX12_steps_36 : decode cX12_steps 36 = .ok (.invokevirtual 152, 3) := by decide +kernel
theorem dX12_steps_39 : decode cX12_steps 39 = .ok (.if_icmp .ge 23, 3) := by decide +kernel
theorem dX12_steps_42 : decode cX12_steps 42 = .ok (.aload_n 0, 1) := by decide +kernel
theorem dX12_steps_43 : decode cX12_steps 43 = .ok (.iconst 0, 1) := by decide +kernel
theorem dX12_steps_44 : decode cX12_steps 44 = .ok (.iload_n 2, 1) := by decide +kernel
theorem dX12_steps_45 : decode cX12_steps 45 = .ok (.ifCond .ge 7, 3) := by decide +kernel
theorem dX12_steps_48 : decode cX12_steps 48 = .ok (.iconst (-1), 1) := by decide +kernel
theorem dX12_steps_49 : decode cX12_steps 49 = .ok (.goto 4, 3) := by decide +kernel
theorem dX12_steps_52 : decode cX12_steps 52 = .ok (.iconst 1, 1) := by decide +kernel
theorem dX12_steps_53 : decode cX12_steps 53 = .ok (.invokevirtual 155, 3) := by decide +kernel
theorem dX12_steps_56 : decode cX12_steps 56 = .ok (.iinc 3 1, 3) := by decide +kernel
theorem dX12_steps_59 : decode cX12_steps 59 = .ok (.goto (-26), 3) := by decide +kernel
theorem dX12_steps_62 : decode cX12_steps 62 = .ok (.return_, 1) := by decide +kernel
theorem dX12_isNet_0 : decode cX12_isNet 0 = .ok (.aload_n 0, 1) := by decide +kernel
theorem dX12_isNet_1 : decode cX12_isNet 1 = .ok (.getfield 13, 3) := by decide +kernel
theorem dX12_isNet_4 : decode cX12_isNet 4 = .ok (.sipush 1850, 3) := by decide +kernel
theorem dX12_isNet_7 : decode cX12_isNet 7 = .ok (.iconst 4, 1) := by decide +kernel
theorem dX12_isNet_8 : decode cX12_isNet 8 = .ok (.bipush 8, 2) := by decide +kernel
theorem dX12_isNet_10 : decode cX12_isNet 10 = .ok (.aload_n 0, 1) := by decide +kernel
theorem dX12_isNet_11 : decode cX12_isNet 11 = .ok (.getfield 24, 3) := by decide +kernel
theorem dX12_isNet_14 : decode cX12_isNet 14 = .ok (.imul, 1) := by decide +kernel
theorem dX12_isNet_15 : decode cX12_isNet 15 = .ok (.aload_n 0, 1) := by decide +kernel
theorem dX12_isNet_16 : decode cX12_isNet 16 = .ok (.getfield 27, 3) := by decide +kernel
theorem dX12_isNet_19 : decode cX12_isNet 19 = .ok (.iadd, 1) := by decide +kernel
theorem dX12_isNet_20 : decode cX12_isNet 20 = .ok (.imul, 1) := by decide +kernel
theorem dX12_isNet_21 : decode cX12_isNet 21 = .ok (.iadd, 1) := by decide +kernel
theorem dX12_isNet_22 : decode cX12_isNet 22 = .ok (.iload_n 1, 1) := by decide +kernel
theorem dX12_isNet_23 : decode cX12_isNet 23 = .ok (.iadd, 1) := by decide +kernel
theorem dX12_isNet_24 : decode cX12_isNet 24 = .ok (.iaload, 1) := by decide +kernel
theorem dX12_isNet_25 : decode cX12_isNet 25 = .ok (.iconst 1, 1) := by decide +kernel
theorem dX12_isNet_26 : decode cX12_isNet 26 = .ok (.if_icmp .ne 31, 3) := by decide +kernel
theorem dX12_isNet_29 : decode cX12_isNet 29 = .ok (.aload_n 0, 1) := by decide +kernel
theorem dX12_isNet_30 : decode cX12_isNet 30 = .ok (.getfield 13, 3) := by decide +kernel
theorem dX12_isNet_33 : decode cX12_isNet 33 = .ok (.bipush 10, 2) := by decide +kernel
theorem dX12_isNet_35 : decode cX12_isNet 35 = .ok (.bipush 8, 2) := by decide +kernel
theorem dX12_isNet_37 : decode cX12_isNet 37 = .ok (.aload_n 0, 1) := by decide +kernel
theorem dX12_isNet_38 : decode cX12_isNet 38 = .ok (.getfield 24, 3) := by decide +kernel
theorem dX12_isNet_41 : decode cX12_isNet 41 = .ok (.imul, 1) := by decide +kernel
theorem dX12_isNet_42 : decode cX12_isNet 42 = .ok (.iadd, 1) := by decide +kernel
theorem dX12_isNet_43 : decode cX12_isNet 43 = .ok (.aload_n 0, 1) := by decide +kernel
theorem dX12_isNet_44 : decode cX12_isNet 44 = .ok (.getfield 27, 3) := by decide +kernel
theorem dX12_isNet_47 : decode cX12_isNet 47 = .ok (.iadd, 1) := by decide +kernel
theorem dX12_isNet_48 : decode cX12_isNet 48 = .ok (.iaload, 1) := by decide +kernel
theorem dX12_isNet_49 : decode cX12_isNet 49 = .ok (.iload_n 1, 1) := by decide +kernel
theorem dX12_isNet_50 : decode cX12_isNet 50 = .ok (.if_icmp .le 7, 3) := by decide +kernel
theorem dX12_isNet_53 : decode cX12_isNet 53 = .ok (.iconst 1, 1) := by decide +kernel
theorem dX12_isNet_54 : decode cX12_isNet 54 = .ok (.goto 4, 3) := by decide +kernel
theorem dX12_isNet_57 : decode cX12_isNet 57 = .ok (.iconst 0, 1) := by decide +kernel
theorem dX12_isNet_58 : decode cX12_isNet 58 = .ok (.ireturn, 1) := by decide +kernel
theorem dX12_sink_0 : decode cX12_sink 0 = .ok (.aload_n 0, 1) := by decide +kernel
theorem dX12_sink_1 : decode cX12_sink 1 = .ok (.iconst 0, 1) := by decide +kernel
theorem dX12_sink_2 : decode cX12_sink 2 = .ok (.putfield 30, 3) := by decide +kernel
theorem dX12_sink_5 : decode cX12_sink 5 = .ok (.aload_n 0, 1) := by decide +kernel
theorem dX12_sink_6 : decode cX12_sink 6 = .ok (.iconst 0, 1) := by decide +kernel
theorem dX12_sink_7 : decode cX12_sink 7 = .ok (.putfield 33, 3) := by decide +kernel
theorem dX12_sink_10 : decode cX12_sink 10 = .ok (.iconst 0, 1) := by decide +kernel
theorem dX12_sink_11 : decode cX12_sink 11 = .ok (.istore_n 3, 1) := by decide +kernel
theorem dX12_sink_12 : decode cX12_sink 12 = .ok (.iload_n 3, 1) := by decide +kernel
theorem dX12_sink_13 : decode cX12_sink 13 = .ok (.iload_n 1, 1) := by decide +kernel
theorem dX12_sink_14 : decode cX12_sink 14 = .ok (.if_icmp .gt 125, 3) := by decide +kernel
theorem dX12_sink_17 : decode cX12_sink 17 = .ok (.aload_n 0, 1) := by decide +kernel
theorem dX12_sink_18 : decode cX12_sink 18 = .ok (.getfield 33, 3) := by decide +kernel
theorem dX12_sink_21 : decode cX12_sink 21 = .ok (.ifCond .ne 118, 3) := by decide +kernel
theorem dX12_sink_24 : decode cX12_sink 24 = .ok (.bipush 8, 2) := by decide +kernel
theorem dX12_sink_26 : decode cX12_sink 26 = .ok (.aload_n 0, 1) := by decide +kernel
theorem dX12_sink_27 : decode cX12_sink 27 = .ok (.getfield 24, 3) := by decide +kernel
theorem dX12_sink_30 : decode cX12_sink 30 = .ok (.imul, 1) := by decide +kernel
theorem dX12_sink_31 : decode cX12_sink 31 = .ok (.aload_n 0, 1) := by decide +kernel
theorem dX12_sink_32 : decode cX12_sink 32 = .ok (.getfield 27, 3) := by decide +kernel
theorem dX12_sink_35 : decode cX12_sink 35 = .ok (.iadd, 1) := by decide +kernel
theorem dX12_sink_36 : decode cX12_sink 36 = .ok (.istore 4, 2) := by decide +kernel
theorem dX12_sink_38 : decode cX12_sink 38 = .ok (.aload_n 0, 1) := by decide +kernel
theorem dX12_sink_39 : decode cX12_sink 39 = .ok (.getfield 13, 3) := by decide +kernel
theorem dX12_sink_42 : decode cX12_sink 42 = .ok (.bipush 10, 2) := by decide +kernel
theorem dX12_sink_44 : decode cX12_sink 44 = .ok (.iload 4, 2) := by decide +kernel
theorem dX12_sink_46 : decode cX12_sink 46 = .ok (.iadd, 1) := by decide +kernel
theorem dX12_sink_47 : decode cX12_sink 47 = .ok (.iaload, 1) := by decide +kernel
theorem dX12_sink_48 : decode cX12_sink 48 = .ok (.iload_n 3, 1) := by decide +kernel
theorem dX12_sink_49 : decode cX12_sink 49 = .ok (.if_icmp .gt 4, 3) := by decide +kernel
theorem dX12_sink_52 : decode cX12_sink 52 = .ok (.return_, 1) := by decide +kernel
theorem dX12_sink_53 : decode cX12_sink 53 = .ok (.aload_n 0, 1) := by decide +kernel
theorem dX12_sink_54 : decode cX12_sink 54 = .ok (.iload_n 3, 1) := by decide +kernel
theorem dX12_sink_55 : decode cX12_sink 55 = .ok (.putfield 30, 3) := by decide +kernel
theorem dX12_sink_58 : decode cX12_sink 58 = .ok (.aload_n 0, 1) := by decide +kernel
theorem dX12_sink_59 : decode cX12_sink 59 = .ok (.aload_n 0, 1) := by decide +kernel
theorem dX12_sink_60 : decode cX12_sink 60 = .ok (.getfield 13, 3) := by decide +kernel
theorem dX12_sink_63 : decode cX12_sink 63 = .ok (.iload_n 2, 1) := by decide +kernel
theorem dX12_sink_64 : decode cX12_sink 64 = .ok (.ifCond .eq 9, 3) := by decide +kernel
theorem dX12_sink_67 : decode cX12_sink 67 = .ok (.sipush 890, 3) := by decide +kernel
theorem dX12_sink_70 : decode cX12_sink 70 = .ok (.goto 6, 3) := by decide +kernel
theorem dX12_sink_73 : decode cX12_sink 73 = .ok (.sipush 250, 3) := by decide +kernel
theorem dX12_sink_76 : decode cX12_sink 76 = .ok (.iconst 4, 1) := by decide +kernel
theorem dX12_sink_77 : decode cX12_sink 77 = .ok (.iload 4, 2) := by decide +kernel
theorem dX12_sink_79 : decode cX12_sink 79 = .ok (.imul, 1) := by decide +kernel
theorem dX12_sink_80 : decode cX12_sink 80 = .ok (.iadd, 1) := by decide +kernel
theorem dX12_sink_81 : decode cX12_sink 81 = .ok (.iload_n 3, 1) := by decide +kernel
theorem dX12_sink_82 : decode cX12_sink 82 = .ok (.iadd, 1) := by decide +kernel
theorem dX12_sink_83 : decode cX12_sink 83 = .ok (.iaload, 1) := by decide +kernel
theorem dX12_sink_84 : decode cX12_sink 84 = .ok (.aload_n 0, 1) := by decide +kernel
theorem dX12_sink_85 : decode cX12_sink 85 = .ok (.getfield 13, 3) := by decide +kernel
theorem dX12_sink_88 : decode cX12_sink 88 = .ok (.iload_n 2, 1) := by decide +kernel
theorem dX12_sink_89 : decode cX12_sink 89 = .ok (.ifCond .eq 9, 3) := by decide +kernel
theorem dX12_sink_92 : decode cX12_sink 92 = .ok (.sipush 1210, 3) := by decide +kernel
theorem dX12_sink_95 : decode cX12_sink 95 = .ok (.goto 6, 3) := by decide +kernel
theorem dX12_sink_98 : decode cX12_sink 98 = .ok (.sipush 570, 3) := by decide +kernel
theorem dX12_sink_101 : decode cX12_sink 101 = .ok (.iconst 4, 1) := by decide +kernel
theorem dX12_sink_102 : decode cX12_sink 102 = .ok (.iload 4, 2) := by decide +kernel
theorem dX12_sink_104 : decode cX12_sink 104 = .ok (.imul, 1) := by decide +kernel
theorem dX12_sink_105 : decode cX12_sink 105 = .ok (.iadd, 1) := by decide +kernel
theorem dX12_sink_106 : decode cX12_sink 106 = .ok (.iload_n 3, 1) := by decide +kernel
theorem dX12_sink_107 : decode cX12_sink 107 = .ok (.iadd, 1) := by decide +kernel
theorem dX12_sink_108 : decode cX12_sink 108 = .ok (.iaload, 1) := by decide +kernel
theorem dX12_sink_109 : decode cX12_sink 109 = .ok (.invokevirtual 159, 3) := by decide +kernel
theorem dX12_sink_112 : decode cX12_sink 112 = .ok (.aload_n 0, 1) := by decide +kernel
theorem dX12_sink_113 : decode cX12_sink 113 = .ok (.iload_n 2, 1) := by decide +kernel
theorem dX12_sink_114 : decode cX12_sink 114 = .ok (.ifCond .ne 15, 3) := by decide +kernel
theorem dX12_sink_117 : decode cX12_sink 117 = .ok (.aload_n 0, 1) := by decide +kernel
theorem dX12_sink_118 : decode cX12_sink 118 = .ok (.iload_n 3, 1) := by decide +kernel
theorem dX12_sink_119 : decode cX12_sink 119 = .ok (.invokevirtual 162, 3) := by decide +kernel
theorem dX12_sink_122 : decode cX12_sink 122 = .ok (.ifCond .eq 7, 3) := by decide +kernel
theorem dX12_sink_125 : decode cX12_sink 125 = .ok (.iconst 1, 1) := by decide +kernel
theorem dX12_sink_126 : decode cX12_sink 126 = .ok (.goto 4, 3) := by decide +kernel
theorem dX12_sink_129 : decode cX12_sink 129 = .ok (.iconst 0, 1) := by decide +kernel
theorem dX12_sink_130 : decode cX12_sink 130 = .ok (.putfield 33, 3) := by decide +kernel
theorem dX12_sink_133 : decode cX12_sink 133 = .ok (.iinc 3 1, 3) := by decide +kernel
theorem dX12_sink_136 : decode cX12_sink 136 = .ok (.goto (-124), 3) := by decide +kernel
theorem dX12_sink_139 : decode cX12_sink 139 = .ok (.return_, 1) := by decide +kernel
theorem dX12_isHeading_0 : decode cX12_isHeading 0 = .ok (.aload_n 0, 1) := by decide +kernel
theorem dX12_isHeading_1 : decode cX12_isHeading 1 = .ok (.iload_n 2, 1) := by decide +kernel
theorem dX12_isHeading_2 : decode cX12_isHeading 2 = .ok (.bipush (-4), 2) := by decide +kernel
theorem dX12_isHeading_4 : decode cX12_isHeading 4 = .ok (.iconst 4, 1) := by decide +kernel
theorem dX12_isHeading_5 : decode cX12_isHeading 5 = .ok (.invokevirtual 123, 3) := by decide +kernel
theorem dX12_isHeading_8 : decode cX12_isHeading 8 = .ok (.ifCond .eq 37, 3) := by decide +kernel
theorem dX12_isHeading_11 : decode cX12_isHeading 11 = .ok (.aload_n 0, 1) := by decide +kernel
theorem dX12_isHeading_12 : decode cX12_isHeading 12 = .ok (.iload_n 3, 1) := by decide +kernel
theorem dX12_isHeading_13 : decode cX12_isHeading 13 = .ok (.bipush (-4), 2) := by decide +kernel
theorem dX12_isHeading_15 : decode cX12_isHeading 15 = .ok (.iconst 4, 1) := by decide +kernel
theorem dX12_isHeading_16 : decode cX12_isHeading 16 = .ok (.invokevirtual 123, 3) := by decide +kernel
theorem dX12_isHeading_19 : decode cX12_isHeading 19 = .ok (.ifCond .eq 26, 3) := by decide +kernel
theorem dX12_isHeading_22 : decode cX12_isHeading 22 = .ok (.aload_n 0, 1) := by decide +kernel
theorem dX12_isHeading_23 : decode cX12_isHeading 23 = .ok (.iload_n 2, 1) := by decide +kernel
theorem dX12_isHeading_24 : decode cX12_isHeading 24 = .ok (.invokevirtual 152, 3) := by decide +kernel
theorem dX12_isHeading_27 : decode cX12_isHeading 27 = .ok (.aload_n 0, 1) := by decide +kernel
theorem dX12_isHeading_28 : decode cX12_isHeading 28 = .ok (.iload_n 3, 1) := by decide +kernel
theorem dX12_isHeading_29 : decode cX12_isHeading 29 = .ok (.invokevirtual 152, 3) := by decide +kernel
theorem dX12_isHeading_32 : decode cX12_isHeading 32 = .ok (.iadd, 1) := by decide +kernel
theorem dX12_isHeading_33 : decode cX12_isHeading 33 = .ok (.aload_n 0, 1) := by decide +kernel
theorem dX12_isHeading_34 : decode cX12_isHeading 34 = .ok (.iload_n 1, 1) := by decide +kernel
theorem dX12_isHeading_35 : decode cX12_isHeading 35 = .ok (.invokevirtual 146, 3) := by decide +kernel
theorem dX12_isHeading_38 : decode cX12_isHeading 38 = .ok (.if_icmp .gt 7, 3) := by decide +kernel
theorem dX12_isHeading_41 : decode cX12_isHeading 41 = .ok (.iconst 1, 1) := by decide +kernel
theorem dX12_isHeading_42 : decode cX12_isHeading 42 = .ok (.goto 4, 3) := by decide +kernel
theorem dX12_isHeading_45 : decode cX12_isHeading 45 = .ok (.iconst 0, 1) := by decide +kernel
theorem dX12_isHeading_46 : decode cX12_isHeading 46 = .ok (.ireturn, 1) := by decide +kernel
theorem dX12_measure_0 : decode cX12_measure 0 = .ok (.bipush 8, 2) := by decide +kernel
theorem dX12_measure_2 : decode cX12_measure 2 = .ok (.aload_n 0, 1) := by decide +kernel
theorem dX12_measure_3 : decode cX12_measure 3 = .ok (.getfield 24, 3) := by decide +kernel
theorem dX12_measure_6 : decode cX12_measure 6 = .ok (.imul, 1) := by decide +kernel
theorem dX12_measure_7 : decode cX12_measure 7 = .ok (.aload_n 0, 1) := by decide +kernel
theorem dX12_measure_8 : decode cX12_measure 8 = .ok (.getfield 27, 3) := by decide +kernel
theorem dX12_measure_11 : decode cX12_measure 11 = .ok (.iadd, 1) := by decide +kernel
theorem dX12_measure_12 : decode cX12_measure 12 = .ok (.istore_n 2, 1) := by decide +kernel
theorem dX12_measure_13 : decode cX12_measure 13 = .ok (.aload_n 0, 1) := by decide +kernel
theorem dX12_measure_14 : decode cX12_measure 14 = .ok (.getfield 30, 3) := by decide +kernel
theorem dX12_measure_17 : decode cX12_measure 17 = .ok (.aload_n 0, 1) := by decide +kernel
theorem dX12_measure_18 : decode cX12_measure 18 = .ok (.getfield 13, 3) := by decide +kernel
theorem dX12_measure_21 : decode cX12_measure 21 = .ok (.bipush 10, 2) := by decide +kernel
theorem dX12_measure_23 : decode cX12_measure 23 = .ok (.iload_n 2, 1) := by decide +kernel
theorem dX12_measure_24 : decode cX12_measure 24 = .ok (.iadd, 1) := by decide +kernel
theorem dX12_measure_25 : decode cX12_measure 25 = .ok (.iaload, 1) := by decide +kernel
theorem dX12_measure_26 : decode cX12_measure 26 = .ok (.if_icmp .ge 10, 3) := by decide +kernel
theorem dX12_measure_29 : decode cX12_measure 29 = .ok (.aload_n 0, 1) := by decide +kernel
theorem dX12_measure_30 : decode cX12_measure 30 = .ok (.getfield 30, 3) := by decide +kernel
theorem dX12_measure_33 : decode cX12_measure 33 = .ok (.goto 14, 3) := by decide +kernel
theorem dX12_measure_36 : decode cX12_measure 36 = .ok (.aload_n 0, 1) := by decide +kernel
theorem dX12_measure_37 : decode cX12_measure 37 = .ok (.getfield 13, 3) := by decide +kernel
theorem dX12_measure_40 : decode cX12_measure 40 = .ok (.bipush 10, 2) := by decide +kernel
theorem dX12_measure_42 : decode cX12_measure 42 = .ok (.iload_n 2, 1) := by decide +kernel
theorem dX12_measure_43 : decode cX12_measure 43 = .ok (.iadd, 1) := by decide +kernel
theorem dX12_measure_44 : decode cX12_measure 44 = .ok (.iaload, 1) := by decide +kernel
theorem dX12_measure_45 : decode cX12_measure 45 = .ok (.iconst 1, 1) := by decide +kernel
theorem dX12_measure_46 : decode cX12_measure 46 = .ok (.isub, 1) := by decide +kernel
theorem dX12_measure_47 : decode cX12_measure 47 = .ok (.istore_n 3, 1) := by decide +kernel
theorem dX12_measure_48 : decode cX12_measure 48 = .ok (.aload_n 0, 1) := by decide +kernel
theorem dX12_measure_49 : decode cX12_measure 49 = .ok (.getfield 13, 3) := by decide +kernel
theorem dX12_measure_52 : decode cX12_measure 52 = .ok (.sipush 1530, 3) := by decide +kernel
theorem dX12_measure_55 : decode cX12_measure 55 = .ok (.iconst 4, 1) := by decide +kernel
theorem dX12_measure_56 : decode cX12_measure 56 = .ok (.iload_n 2, 1) := by decide +kernel
theorem dX12_measure_57 : decode cX12_measure 57 = .ok (.imul, 1) := by decide +kernel
theorem dX12_measure_58 : decode cX12_measure 58 = .ok (.iadd, 1) := by decide +kernel
theorem dX12_measure_59 : decode cX12_measure 59 = .ok (.iload_n 3, 1) := by decide +kernel
theorem dX12_measure_60 : decode cX12_measure 60 = .ok (.iadd, 1) := by decide +kernel
theorem dX12_measure_61 : decode cX12_measure 61 = .ok (.iaload, 1) := by decide +kernel
theorem dX12_measure_62 : decode cX12_measure 62 = .ok (.iconst 3, 1) := by decide +kernel
theorem dX12_measure_63 : decode cX12_measure 63 = .ok (.aload_n 0, 1) := by decide +kernel
theorem dX12_measure_64 : decode cX12_measure 64 = .ok (.getfield 13, 3) := by decide +kernel
theorem dX12_measure_67 : decode cX12_measure 67 = .ok (.sipush 2218, 3) := by decide +kernel
theorem dX12_measure_70 : decode cX12_measure 70 = .ok (.iload_n 1, 1) := by decide +kernel
theorem dX12_measure_71 : decode cX12_measure 71 = .ok (.iadd, 1) := by decide +kernel
theorem dX12_measure_72 : decode cX12_measure 72 = .ok (.iaload, 1) := by decide +kernel
theorem dX12_measure_73 : decode cX12_measure 73 = .ok (.imul, 1) := by decide +kernel
theorem dX12_measure_74 : decode cX12_measure 74 = .ok (.iadd, 1) := by decide +kernel
theorem dX12_measure_75 : decode cX12_measure 75 = .ok (.istore 4, 2) := by decide +kernel
theorem dX12_measure_77 : decode cX12_measure 77 = .ok (.aload_n 0, 1) := by decide +kernel
theorem dX12_measure_78 : decode cX12_measure 78 = .ok (.getfield 13, 3) := by decide +kernel
theorem dX12_measure_81 : decode cX12_measure 81 = .ok (.iconst 2, 1) := by decide +kernel
theorem dX12_measure_82 : decode cX12_measure 82 = .ok (.iaload, 1) := by decide +kernel
theorem dX12_measure_83 : decode cX12_measure 83 = .ok (.istore 5, 2) := by decide +kernel
theorem dX12_measure_85 : decode cX12_measure 85 = .ok (.iload 5, 2) := by decide +kernel
theorem dX12_measure_87 : decode cX12_measure 87 = .ok (.sipush 200, 3) := by decide +kernel
theorem dX12_measure_90 : decode cX12_measure 90 = .ok (.if_icmp .ge 100, 3) := by decide +kernel
theorem dX12_measure_93 : decode cX12_measure 93 = .ok (.aload_n 0, 1) := by decide +kernel
theorem dX12_measure_94 : decode cX12_measure 94 = .ok (.getfield 13, 3) := by decide +kernel
theorem dX12_measure_97 : decode cX12_measure 97 = .ok (.sipush 2270, 3) := by decide +kernel
theorem dX12_measure_100 : decode cX12_measure 100 = .ok (.iload 5, 2) := by decide +kernel
theorem dX12_measure_102 : decode cX12_measure 102 = .ok (.iadd, 1) := by decide +kernel
theorem dX12_measure_103 : decode cX12_measure 103 = .ok (.iload_n 1, 1) := by decide +kernel
theorem dX12_measure_104 : decode cX12_measure 104 = .ok (.iastore, 1) := by decide +kernel
theorem dX12_measure_105 : decode cX12_measure 105 = .ok (.aload_n 0, 1) := by decide +kernel
theorem dX12_measure_106 : decode cX12_measure 106 = .ok (.getfield 13, 3) := by decide +kernel
theorem dX12_measure_109 : decode cX12_measure 109 = .ok (.sipush 2470, 3) := by decide +kernel
theorem dX12_measure_112 : decode cX12_measure 112 = .ok (.iload 5, 2) := by decide +kernel
theorem dX12_measure_114 : decode cX12_measure 114 = .ok (.iadd, 1) := by decide +kernel
theorem dX12_measure_115 : decode cX12_measure 115 = .ok (.aload_n 0, 1) := by decide +kernel
theorem dX12_measure_116 : decode cX12_measure 116 = .ok (.getfield 13, 3) := by decide +kernel
theorem dX12_measure_119 : decode cX12_measure 119 = .ok (.iconst 1, 1) := by decide +kernel
theorem dX12_measure_120 : decode cX12_measure 120 = .ok (.iaload, 1) := by decide +kernel
theorem dX12_measure_121 : decode cX12_measure 121 = .ok (.iastore, 1) := by decide +kernel
theorem dX12_measure_122 : decode cX12_measure 122 = .ok (.aload_n 0, 1) := by decide +kernel
theorem dX12_measure_123 : decode cX12_measure 123 = .ok (.getfield 13, 3) := by decide +kernel
theorem dX12_measure_126 : decode cX12_measure 126 = .ok (.sipush 2670, 3) := by decide +kernel
theorem dX12_measure_129 : decode cX12_measure 129 = .ok (.iload 5, 2) := by decide +kernel
theorem dX12_measure_131 : decode cX12_measure 131 = .ok (.iadd, 1) := by decide +kernel
theorem dX12_measure_132 : decode cX12_measure 132 = .ok (.iload_n 2, 1) := by decide +kernel
theorem dX12_measure_133 : decode cX12_measure 133 = .ok (.iastore, 1) := by decide +kernel
theorem dX12_measure_134 : decode cX12_measure 134 = .ok (.aload_n 0, 1) := by decide +kernel
theorem dX12_measure_135 : decode cX12_measure 135 = .ok (.getfield 13, 3) := by decide +kernel
theorem dX12_measure_138 : decode cX12_measure 138 = .ok (.sipush 2870, 3) := by decide +kernel
theorem dX12_measure_141 : decode cX12_measure 141 = .ok (.iload 5, 2) := by decide +kernel
theorem dX12_measure_143 : decode cX12_measure 143 = .ok (.iadd, 1) := by decide +kernel
theorem dX12_measure_144 : decode cX12_measure 144 = .ok (.iload_n 3, 1) := by decide +kernel
theorem dX12_measure_145 : decode cX12_measure 145 = .ok (.iastore, 1) := by decide +kernel
theorem dX12_measure_146 : decode cX12_measure 146 = .ok (.aload_n 0, 1) := by decide +kernel
theorem dX12_measure_147 : decode cX12_measure 147 = .ok (.getfield 13, 3) := by decide +kernel
theorem dX12_measure_150 : decode cX12_measure 150 = .ok (.sipush 3070, 3) := by decide +kernel
theorem dX12_measure_153 : decode cX12_measure 153 = .ok (.iload 5, 2) := by decide +kernel
theorem dX12_measure_155 : decode cX12_measure 155 = .ok (.iadd, 1) := by decide +kernel
theorem dX12_measure_156 : decode cX12_measure 156 = .ok (.aload_n 0, 1) := by decide +kernel
theorem dX12_measure_157 : decode cX12_measure 157 = .ok (.getfield 13, 3) := by decide +kernel
theorem dX12_measure_160 : decode cX12_measure 160 = .ok (.sipush 2218, 3) := by decide +kernel
theorem dX12_measure_163 : decode cX12_measure 163 = .ok (.iload_n 1, 1) := by decide +kernel
theorem dX12_measure_164 : decode cX12_measure 164 = .ok (.iadd, 1) := by decide +kernel
theorem dX12_measure_165 : decode cX12_measure 165 = .ok (.iaload, 1) := by decide +kernel
theorem dX12_measure_166 : decode cX12_measure 166 = .ok (.iastore, 1) := by decide +kernel
theorem dX12_measure_167 : decode cX12_measure 167 = .ok (.aload_n 0, 1) := by decide +kernel
theorem dX12_measure_168 : decode cX12_measure 168 = .ok (.getfield 13, 3) := by decide +kernel
theorem dX12_measure_171 : decode cX12_measure 171 = .ok (.sipush 3270, 3) := by decide +kernel
theorem dX12_measure_174 : decode cX12_measure 174 = .ok (.iload 5, 2) := by decide +kernel
theorem dX12_measure_176 : decode cX12_measure 176 = .ok (.iadd, 1) := by decide +kernel
theorem dX12_measure_177 : decode cX12_measure 177 = .ok (.iload 4, 2) := by decide +kernel
theorem dX12_measure_179 : decode cX12_measure 179 = .ok (.iastore, 1) := by decide +kernel
theorem dX12_measure_180 : decode cX12_measure 180 = .ok (.aload_n 0, 1) := by decide +kernel
theorem dX12_measure_181 : decode cX12_measure 181 = .ok (.getfield 13, 3) := by decide +kernel
theorem dX12_measure_184 : decode cX12_measure 184 = .ok (.iconst 2, 1) := by decide +kernel
theorem dX12_measure_185 : decode cX12_measure 185 = .ok (.dup2, 1) := by decide +kernel
theorem dX12_measure_186 : decode cX12_measure 186 = .ok (.iaload, 1) := by decide +kernel
theorem dX12_measure_187 : decode cX12_measure 187 = .ok (.iconst 1, 1) := by decide +kernel
theorem dX12_measure_188 : decode cX12_measure 188 = .ok (.iadd, 1) := by decide +kernel
theorem dX12_measure_189 : decode cX12_measure 189 = .ok (.iastore, 1) := by decide +kernel
theorem dX12_measure_190 : decode cX12_measure 190 = .ok (.aload_n 0, 1) := by decide +kernel
theorem dX12_measure_191 : decode cX12_measure 191 = .ok (.getfield 13, 3) := by decide +kernel
theorem dX12_measure_194 : decode cX12_measure 194 = .ok (.sipush 2250, 3) := by decide +kernel
theorem dX12_measure_197 : decode cX12_measure 197 = .ok (.iload_n 1, 1) := by decide +kernel
theorem dX12_measure_198 : decode cX12_measure 198 = .ok (.iadd, 1) := by decide +kernel
theorem dX12_measure_199 : decode cX12_measure 199 = .ok (.iload 4, 2) := by decide +kernel
theorem dX12_measure_201 : decode cX12_measure 201 = .ok (.iastore, 1) := by decide +kernel
theorem dX12_measure_202 : decode cX12_measure 202 = .ok (.aload_n 0, 1) := by decide +kernel
theorem dX12_measure_203 : decode cX12_measure 203 = .ok (.getfield 13, 3) := by decide +kernel
theorem dX12_measure_206 : decode cX12_measure 206 = .ok (.sipush 2218, 3) := by decide +kernel
theorem dX12_measure_209 : decode cX12_measure 209 = .ok (.iload_n 1, 1) := by decide +kernel
theorem dX12_measure_210 : decode cX12_measure 210 = .ok (.iadd, 1) := by decide +kernel
theorem dX12_measure_211 : decode cX12_measure 211 = .ok (.dup2, 1) := by decide +kernel
theorem dX12_measure_212 : decode cX12_measure 212 = .ok (.iaload, 1) := by decide +kernel
theorem dX12_measure_213 : decode cX12_measure 213 = .ok (.iconst 1, 1) := by decide +kernel
theorem dX12_measure_214 : decode cX12_measure 214 = .ok (.iadd, 1) := by decide +kernel
theorem dX12_measure_215 : decode cX12_measure 215 = .ok (.iastore, 1) := by decide +kernel
theorem dX12_measure_216 : decode cX12_measure 216 = .ok (.aload_n 0, 1) := by decide +kernel
theorem dX12_measure_217 : decode cX12_measure 217 = .ok (.getfield 13, 3) := by decide +kernel
theorem dX12_measure_220 : decode cX12_measure 220 = .ok (.sipush 170, 3) := by decide +kernel
theorem dX12_measure_223 : decode cX12_measure 223 = .ok (.iload_n 2, 1) := by decide +kernel
theorem dX12_measure_224 : decode cX12_measure 224 = .ok (.iadd, 1) := by decide +kernel
theorem dX12_measure_225 : decode cX12_measure 225 = .ok (.iconst 0, 1) := by decide +kernel
theorem dX12_measure_226 : decode cX12_measure 226 = .ok (.iastore, 1) := by decide +kernel
theorem dX12_measure_227 : decode cX12_measure 227 = .ok (.iconst 0, 1) := by decide +kernel
theorem dX12_measure_228 : decode cX12_measure 228 = .ok (.istore 6, 2) := by decide +kernel
theorem dX12_measure_230 : decode cX12_measure 230 = .ok (.iload 6, 2) := by decide +kernel
theorem dX12_measure_232 : decode cX12_measure 232 = .ok (.iconst 4, 1) := by decide +kernel
theorem dX12_measure_233 : decode cX12_measure 233 = .ok (.if_icmp .ge 39, 3) := by decide +kernel
theorem dX12_measure_236 : decode cX12_measure 236 = .ok (.aload_n 0, 1) := by decide +kernel
theorem dX12_measure_237 : decode cX12_measure 237 = .ok (.iload_n 2, 1) := by decide +kernel
theorem dX12_measure_238 : decode cX12_measure 238 = .ok (.iload 6, 2) := by decide +kernel
theorem dX12_measure_240 : decode cX12_measure 240 = .ok (.invokevirtual 165, 3) := by decide +kernel
theorem dX12_measure_243 : decode cX12_measure 243 = .ok (.ifCond .lt 23, 3) := by decide +kernel
theorem dX12_measure_246 : decode cX12_measure 246 = .ok (.aload_n 0, 1) := by decide +kernel
theorem dX12_measure_247 : decode cX12_measure 247 = .ok (.getfield 13, 3) := by decide +kernel
theorem dX12_measure_250 : decode cX12_measure 250 = .ok (.sipush 170, 3) := by decide +kernel
theorem dX12_measure_253 : decode cX12_measure 253 = .ok (.aload_n 0, 1) := by decide +kernel
theorem dX12_measure_254 : decode cX12_measure 254 = .ok (.iload_n 2, 1) := by decide +kernel
theorem dX12_measure_255 : decode cX12_measure 255 = .ok (.iload 6, 2) := by decide +kernel
theorem dX12_measure_257 : decode cX12_measure 257 = .ok (.invokevirtual 165, 3) := by decide +kernel
theorem dX12_measure_260 : decode cX12_measure 260 = .ok (.iadd, 1) := by decide +kernel
theorem dX12_measure_261 : decode cX12_measure 261 = .ok (.dup2, 1) := by decide +kernel
theorem dX12_measure_262 : decode cX12_measure 262 = .ok (.iaload, 1) := by decide +kernel
theorem dX12_measure_263 : decode cX12_measure 263 = .ok (.iconst 2, 1) := by decide +kernel
theorem dX12_measure_264 : decode cX12_measure 264 = .ok (.idiv, 1) := by decide +kernel
theorem dX12_measure_265 : decode cX12_measure 265 = .ok (.iastore, 1) := by decide +kernel
theorem dX12_measure_266 : decode cX12_measure 266 = .ok (.iinc 6 1, 3) := by decide +kernel
theorem dX12_measure_269 : decode cX12_measure 269 = .ok (.goto (-39), 3) := by decide +kernel
theorem dX12_measure_272 : decode cX12_measure 272 = .ok (.return_, 1) := by decide +kernel
theorem dX12_besideOf_0 : decode cX12_besideOf 0 = .ok (.iload_n 1, 1) := by decide +kernel
theorem dX12_besideOf_1 : decode cX12_besideOf 1 = .ok (.bipush 8, 2) := by decide +kernel
theorem dX12_besideOf_3 : decode cX12_besideOf 3 = .ok (.idiv, 1) := by decide +kernel
theorem dX12_besideOf_4 : decode cX12_besideOf 4 = .ok (.iload_n 2, 1) := by decide +kernel
theorem dX12_besideOf_5 : decode cX12_besideOf 5 = .ok (.ifCond .ne 7, 3) := by decide +kernel
theorem dX12_besideOf_8 : decode cX12_besideOf 8 = .ok (.iconst 1, 1) := by decide +kernel
theorem dX12_besideOf_9 : decode cX12_besideOf 9 = .ok (.goto 13, 3) := by decide +kernel
theorem dX12_besideOf_12 : decode cX12_besideOf 12 = .ok (.iload_n 2, 1) := by decide +kernel
theorem dX12_besideOf_13 : decode cX12_besideOf 13 = .ok (.iconst 2, 1) := by decide +kernel
theorem dX12_besideOf_14 : decode cX12_besideOf 14 = .ok (.if_icmp .ne 7, 3) := by decide +kernel
theorem dX12_besideOf_17 : decode cX12_besideOf 17 = .ok (.iconst (-1), 1) := by decide +kernel
theorem dX12_besideOf_18 : decode cX12_besideOf 18 = .ok (.goto 4, 3) := by decide +kernel
theorem dX12_besideOf_21 : decode cX12_besideOf 21 = .ok (.iconst 0, 1) := by decide +kernel
theorem dX12_besideOf_22 : decode cX12_besideOf 22 = .ok (.iadd, 1) := by decide +kernel
theorem dX12_besideOf_23 : decode cX12_besideOf 23 = .ok (.istore_n 3, 1) := by decide +kernel
theorem dX12_besideOf_24 : decode cX12_besideOf 24 = .ok (.iload_n 1, 1) := by decide +kernel
theorem dX12_besideOf_25 : decode cX12_besideOf 25 = .ok (.bipush 8, 2) := by decide +kernel
theorem dX12_besideOf_27 : decode cX12_besideOf 27 = .ok (.irem, 1) := by decide +kernel
theorem dX12_besideOf_28 : decode cX12_besideOf 28 = .ok (.iload_n 2, 1) := by decide +kernel
theorem dX12_besideOf_29 : decode cX12_besideOf 29 = .ok (.iconst 1, 1) := by decide +kernel
theorem dX12_besideOf_30 : decode cX12_besideOf 30 = .ok (.if_icmp .ne 7, 3) := by decide +kernel
theorem dX12_besideOf_33 : decode cX12_besideOf 33 = .ok (.iconst 1, 1) := by decide +kernel
theorem dX12_besideOf_34 : decode cX12_besideOf 34 = .ok (.goto 13, 3) := by decide +kernel
theorem dX12_besideOf_37 : decode cX12_besideOf 37 = .ok (.iload_n 2, 1) := by decide +kernel
theorem dX12_besideOf_38 : decode cX12_besideOf 38 = .ok (.iconst 3, 1) := by decide +kernel
theorem dX12_besideOf_39 : decode cX12_besideOf 39 = .ok (.if_icmp .ne 7, 3) := by decide +kernel
theorem dX12_besideOf_42 : decode cX12_besideOf 42 = .ok (.iconst (-1), 1) := by decide +kernel
theorem dX12_besideOf_43 : decode cX12_besideOf 43 = .ok (.goto 4, 3) := by decide +kernel
theorem dX12_besideOf_46 : decode cX12_besideOf 46 = .ok (.iconst 0, 1) := by decide +kernel
theorem dX12_besideOf_47 : decode cX12_besideOf 47 = .ok (.iadd, 1) := by decide +kernel
theorem dX12_besideOf_48 : decode cX12_besideOf 48 = .ok (.istore 4, 2) := by decide +kernel
theorem dX12_besideOf_50 : decode cX12_besideOf 50 = .ok (.aload_n 0, 1) := by decide +kernel
theorem dX12_besideOf_51 : decode cX12_besideOf 51 = .ok (.iload_n 3, 1) := by decide +kernel
theorem dX12_besideOf_52 : decode cX12_besideOf 52 = .ok (.iload 4, 2) := by decide +kernel
theorem dX12_besideOf_54 : decode cX12_besideOf 54 = .ok (.invokevirtual 127, 3) := by decide +kernel
theorem dX12_besideOf_57 : decode cX12_besideOf 57 = .ok (.ifCond .eq 13, 3) := by decide +kernel
theorem dX12_besideOf_60 : decode cX12_besideOf 60 = .ok (.bipush 8, 2) := by decide +kernel
theorem dX12_besideOf_62 : decode cX12_besideOf 62 = .ok (.iload_n 3, 1) := by decide +kernel
theorem dX12_besideOf_63 : decode cX12_besideOf 63 = .ok (.imul, 1) := by decide +kernel
theorem dX12_besideOf_64 : decode cX12_besideOf 64 = .ok (.iload 4, 2) := by decide +kernel
theorem dX12_besideOf_66 : decode cX12_besideOf 66 = .ok (.iadd, 1) := by decide +kernel
theorem dX12_besideOf_67 : decode cX12_besideOf 67 = .ok (.goto 4, 3) := by decide +kernel
theorem dX12_besideOf_70 : decode cX12_besideOf 70 = .ok (.iconst (-1), 1) := by decide +kernel
theorem dX12_besideOf_71 : decode cX12_besideOf 71 = .ok (.ireturn, 1) := by decide +kernel
theorem dX12_nearer_0 : decode cX12_nearer 0 = .ok (.iload_n 2, 1) := by decide +kernel
theorem dX12_nearer_1 : decode cX12_nearer 1 = .ok (.iload_n 3, 1) := by decide +kernel
theorem dX12_nearer_2 : decode cX12_nearer 2 = .ok (.if_icmp .le 14, 3) := by decide +kernel
theorem dX12_nearer_5 : decode cX12_nearer 5 = .ok (.iload_n 1, 1) := by decide +kernel
theorem dX12_nearer_6 : decode cX12_nearer 6 = .ok (.iconst 2, 1) := by decide +kernel
theorem dX12_nearer_7 : decode cX12_nearer 7 = .ok (.if_icmp .ge 9, 3) := by decide +kernel
theorem dX12_nearer_10 : decode cX12_nearer 10 = .ok (.iload_n 1, 1) := by decide +kernel
theorem dX12_nearer_11 : decode cX12_nearer 11 = .ok (.iconst 1, 1) := by decide +kernel
theorem dX12_nearer_12 : decode cX12_nearer 12 = .ok (.iadd, 1) := by decide +kernel
theorem dX12_nearer_13 : decode cX12_nearer 13 = .ok (.goto 21, 3) := by decide +kernel
theorem dX12_nearer_16 : decode cX12_nearer 16 = .ok (.iload_n 2, 1) := by decide +kernel
theorem dX12_nearer_17 : decode cX12_nearer 17 = .ok (.iload_n 3, 1) := by decide +kernel
theorem dX12_nearer_18 : decode cX12_nearer 18 = .ok (.if_icmp .ge 15, 3) := by decide +kernel
theorem dX12_nearer_21 : decode cX12_nearer 21 = .ok (.iload_n 1, 1) := by decide +kernel
theorem dX12_nearer_22 : decode cX12_nearer 22 = .ok (.bipush (-2), 2) := by decide +kernel
theorem dX12_nearer_24 : decode cX12_nearer 24 = .ok (.if_icmp .le 9, 3) := by decide +kernel
theorem dX12_nearer_27 : decode cX12_nearer 27 = .ok (.iload_n 1, 1) := by decide +kernel
theorem dX12_nearer_28 : decode cX12_nearer 28 = .ok (.iconst 1, 1) := by decide +kernel
theorem dX12_nearer_29 : decode cX12_nearer 29 = .ok (.isub, 1) := by decide +kernel
theorem dX12_nearer_30 : decode cX12_nearer 30 = .ok (.goto 4, 3) := by decide +kernel
theorem dX12_nearer_33 : decode cX12_nearer 33 = .ok (.iload_n 1, 1) := by decide +kernel
theorem dX12_nearer_34 : decode cX12_nearer 34 = .ok (.ireturn, 1) := by decide +kernel
theorem dX12_learn_0 : decode cX12_learn 0 = .ok (.aload_n 0, 1) := by decide +kernel
theorem dX12_learn_1 : decode cX12_learn 1 = .ok (.getfield 24, 3) := by decide +kernel
theorem dX12_learn_4 : decode cX12_learn 4 = .ok (.istore 4, 2) := by decide +kernel
theorem dX12_learn_6 : decode cX12_learn 6 = .ok (.aload_n 0, 1) := by decide +kernel
theorem dX12_learn_7 : decode cX12_learn 7 = .ok (.getfield 27, 3) := by decide +kernel
theorem dX12_learn_10 : decode cX12_learn 10 = .ok (.istore 5, 2) := by decide +kernel
theorem dX12_learn_12 : decode cX12_learn 12 = .ok (.aload_n 0, 1) := by decide +kernel
theorem dX12_learn_13 : decode cX12_learn 13 = .ok (.iload_n 1, 1) := by decide +kernel
theorem dX12_learn_14 : decode cX12_learn 14 = .ok (.bipush 8, 2) := by decide +kernel
theorem dX12_learn_16 : decode cX12_learn 16 = .ok (.idiv, 1) := by decide +kernel
theorem dX12_learn_17 : decode cX12_learn 17 = .ok (.putfield 24, 3) := by decide +kernel
theorem dX12_learn_20 : decode cX12_learn 20 = .ok (.aload_n 0, 1) := by decide +kernel
theorem dX12_learn_21 : decode cX12_learn 21 = .ok (.iload_n 1, 1) := by decide +kernel
theorem dX12_learn_22 : decode cX12_learn 22 = .ok (.bipush 8, 2) := by decide +kernel
theorem dX12_learn_24 : decode cX12_learn 24 = .ok (.irem, 1) := by decide +kernel
theorem dX12_learn_25 : decode cX12_learn 25 = .ok (.putfield 27, 3) := by decide +kernel
theorem dX12_learn_28 : decode cX12_learn 28 = .ok (.aload_n 0, 1) := by decide +kernel
theorem dX12_learn_29 : decode cX12_learn 29 = .ok (.iload_n 2, 1) := by decide +kernel
theorem dX12_learn_30 : decode cX12_learn 30 = .ok (.iload_n 3, 1) := by decide +kernel
theorem dX12_learn_31 : decode cX12_learn 31 = .ok (.invokevirtual 159, 3) := by decide +kernel
theorem dX12_learn_34 : decode cX12_learn 34 = .ok (.iload 4, 2) := by decide +kernel
theorem dX12_learn_36 : decode cX12_learn 36 = .ok (.aload_n 0, 1) := by decide +kernel
theorem dX12_learn_37 : decode cX12_learn 37 = .ok (.getfield 24, 3) := by decide +kernel
theorem dX12_learn_40 : decode cX12_learn 40 = .ok (.isub, 1) := by decide +kernel
theorem dX12_learn_41 : decode cX12_learn 41 = .ok (.istore 6, 2) := by decide +kernel
theorem dX12_learn_43 : decode cX12_learn 43 = .ok (.iload 5, 2) := by decide +kernel
theorem dX12_learn_45 : decode cX12_learn 45 = .ok (.aload_n 0, 1) := by decide +kernel
theorem dX12_learn_46 : decode cX12_learn 46 = .ok (.getfield 27, 3) := by decide +kernel
theorem dX12_learn_49 : decode cX12_learn 49 = .ok (.isub, 1) := by decide +kernel
theorem dX12_learn_50 : decode cX12_learn 50 = .ok (.istore 7, 2) := by decide +kernel
theorem dX12_learn_52 : decode cX12_learn 52 = .ok (.aload_n 0, 1) := by decide +kernel
theorem dX12_learn_53 : decode cX12_learn 53 = .ok (.iload 4, 2) := by decide +kernel
theorem dX12_learn_55 : decode cX12_learn 55 = .ok (.putfield 24, 3) := by decide +kernel
theorem dX12_learn_58 : decode cX12_learn 58 = .ok (.aload_n 0, 1) := by decide +kernel
theorem dX12_learn_59 : decode cX12_learn 59 = .ok (.iload 5, 2) := by decide +kernel
theorem dX12_learn_61 : decode cX12_learn 61 = .ok (.putfield 27, 3) := by decide +kernel
theorem dX12_learn_64 : decode cX12_learn 64 = .ok (.iconst 0, 1) := by decide +kernel
theorem dX12_learn_65 : decode cX12_learn 65 = .ok (.istore 8, 2) := by decide +kernel
theorem dX12_learn_67 : decode cX12_learn 67 = .ok (.iconst 0, 1) := by decide +kernel
theorem dX12_learn_68 : decode cX12_learn 68 = .ok (.istore 9, 2) := by decide +kernel
theorem dX12_learn_70 : decode cX12_learn 70 = .ok (.iconst 0, 1) := by decide +kernel
theorem dX12_learn_71 : decode cX12_learn 71 = .ok (.istore 10, 2) := by decide +kernel
theorem dX12_learn_73 : decode cX12_learn 73 = .ok (.iload 10, 2) := by decide +kernel
theorem dX12_learn_75 : decode cX12_learn 75 = .ok (.aload_n 0, 1) := by decide +kernel
theorem dX12_learn_76 : decode cX12_learn 76 = .ok (.getfield 30, 3) := by decide +kernel
theorem dX12_learn_79 : decode cX12_learn 79 = .ok (.if_icmp .gt 63, 3) := by decide +kernel
theorem dX12_learn_82 : decode cX12_learn 82 = .ok (.iload 10, 2) := by decide +kernel
theorem dX12_learn_84 : decode cX12_learn 84 = .ok (.aload_n 0, 1) := by decide +kernel
theorem dX12_learn_85 : decode cX12_learn 85 = .ok (.getfield 13, 3) := by decide +kernel
theorem dX12_learn_88 : decode cX12_learn 88 = .ok (.bipush 10, 2) := by decide +kernel
theorem dX12_learn_90 : decode cX12_learn 90 = .ok (.iload_n 1, 1) := by decide +kernel
theorem dX12_learn_91 : decode cX12_learn 91 = .ok (.iadd, 1) := by decide +kernel
theorem dX12_learn_92 : decode cX12_learn 92 = .ok (.iaload, 1) := by decide +kernel
theorem dX12_learn_93 : decode cX12_learn 93 = .ok (.if_icmp .ge 49, 3) := by decide +kernel
theorem dX12_learn_96 : decode cX12_learn 96 = .ok (.iload 8, 2) := by decide +kernel
theorem dX12_learn_98 : decode cX12_learn 98 = .ok (.aload_n 0, 1) := by decide +kernel
theorem dX12_learn_99 : decode cX12_learn 99 = .ok (.getfield 13, 3) := by decide +kernel
theorem dX12_learn_102 : decode cX12_learn 102 = .ok (.sipush 890, 3) := by decide +kernel
theorem dX12_learn_105 : decode cX12_learn 105 = .ok (.iconst 4, 1) := by decide +kernel
theorem dX12_learn_106 : decode cX12_learn 106 = .ok (.iload_n 1, 1) := by decide +kernel
theorem dX12_learn_107 : decode cX12_learn 107 = .ok (.imul, 1) := by decide +kernel
theorem dX12_learn_108 : decode cX12_learn 108 = .ok (.iadd, 1) := by decide +kernel
theorem dX12_learn_109 : decode cX12_learn 109 = .ok (.iload 10, 2) := by decide +kernel
theorem dX12_learn_111 : decode cX12_learn 111 = .ok (.iadd, 1) := by decide +kernel
theorem dX12_learn_112 : decode cX12_learn 112 = .ok (.iaload, 1) := by decide +kernel
theorem dX12_learn_113 : decode cX12_learn 113 = .ok (.iadd, 1) := by decide +kernel
theorem dX12_learn_114 : decode cX12_learn 114 = .ok (.istore 8, 2) := by decide +kernel
theorem dX12_learn_116 : decode cX12_learn 116 = .ok (.iload 9, 2) := by decide +kernel
theorem dX12_learn_118 : decode cX12_learn 118 = .ok (.aload_n 0, 1) := by decide +kernel
theorem dX12_learn_119 : decode cX12_learn 119 = .ok (.getfield 13, 3) := by decide +kernel
theorem dX12_learn_122 : decode cX12_learn 122 = .ok (.sipush 1210, 3) := by decide +kernel
theorem dX12_learn_125 : decode cX12_learn 125 = .ok (.iconst 4, 1) := by decide +kernel
theorem dX12_learn_126 : decode cX12_learn 126 = .ok (.iload_n 1, 1) := by decide +kernel
theorem dX12_learn_127 : decode cX12_learn 127 = .ok (.imul, 1) := by decide +kernel
theorem dX12_learn_128 : decode cX12_learn 128 = .ok (.iadd, 1) := by decide +kernel
theorem dX12_learn_129 : decode cX12_learn 129 = .ok (.iload 10, 2) := by decide +kernel
theorem dX12_learn_131 : decode cX12_learn 131 = .ok (.iadd, 1) := by decide +kernel
theorem dX12_learn_132 : decode cX12_learn 132 = .ok (.iaload, 1) := by decide +kernel
theorem dX12_learn_133 : decode cX12_learn 133 = .ok (.iadd, 1) := by decide +kernel
theorem dX12_learn_134 : decode cX12_learn 134 = .ok (.istore 9, 2) := by decide +kernel
theorem dX12_learn_136 : decode cX12_learn 136 = .ok (.iinc 10 1, 3) := by decide +kernel
theorem dX12_learn_139 : decode cX12_learn 139 = .ok (.goto (-66), 3) := by decide +kernel
theorem dX12_learn_142 : decode cX12_learn 142 = .ok (.iconst 0, 1) := by decide +kernel
theorem dX12_learn_143 : decode cX12_learn 143 = .ok (.istore 10, 2) := by decide +kernel
theorem dX12_learn_145 : decode cX12_learn 145 = .ok (.iload 10, 2) := by decide +kernel
theorem dX12_learn_147 : decode cX12_learn 147 = .ok (.aload_n 0, 1) := by decide +kernel
theorem dX12_learn_148 : decode cX12_learn 148 = .ok (.getfield 30, 3) := by decide +kernel
theorem dX12_learn_151 : decode cX12_learn 151 = .ok (.if_icmp .gt 99, 3) := by decide +kernel
theorem dX12_learn_154 : decode cX12_learn 154 = .ok (.iload 10, 2) := by decide +kernel
theorem dX12_learn_156 : decode cX12_learn 156 = .ok (.aload_n 0, 1) := by decide +kernel
theorem dX12_learn_157 : decode cX12_learn 157 = .ok (.getfield 13, 3) := by decide +kernel
theorem dX12_learn_160 : decode cX12_learn 160 = .ok (.bipush 10, 2) := by decide +kernel
theorem dX12_learn_162 : decode cX12_learn 162 = .ok (.iload_n 1, 1) := by decide +kernel
theorem dX12_learn_163 : decode cX12_learn 163 = .ok (.iadd, 1) := by decide +kernel
theorem dX12_learn_164 : decode cX12_learn 164 = .ok (.iaload, 1) := by decide +kernel
theorem dX12_learn_165 : decode cX12_learn 165 = .ok (.if_icmp .ge 85, 3) := by decide +kernel
theorem dX12_learn_168 : decode cX12_learn 168 = .ok (.aload_n 0, 1) := by decide +kernel
theorem dX12_learn_169 : decode cX12_learn 169 = .ok (.getfield 13, 3) := by decide +kernel
theorem dX12_learn_172 : decode cX12_learn 172 = .ok (.sipush 890, 3) := by decide +kernel
theorem dX12_learn_175 : decode cX12_learn 175 = .ok (.iconst 4, 1) := by decide +kernel
theorem dX12_learn_176 : decode cX12_learn 176 = .ok (.iload_n 1, 1) := by decide +kernel
theorem dX12_learn_177 : decode cX12_learn 177 = .ok (.imul, 1) := by decide +kernel
theorem dX12_learn_178 : decode cX12_learn 178 = .ok (.iadd, 1) := by decide +kernel
theorem dX12_learn_179 : decode cX12_learn 179 = .ok (.iload 10, 2) := by decide +kernel
theorem dX12_learn_181 : decode cX12_learn 181 = .ok (.iadd, 1) := by decide +kernel
theorem dX12_learn_182 : decode cX12_learn 182 = .ok (.aload_n 0, 1) := by decide +kernel
theorem dX12_learn_183 : decode cX12_learn 183 = .ok (.aload_n 0, 1) := by decide +kernel
theorem dX12_learn_184 : decode cX12_learn 184 = .ok (.getfield 13, 3) := by decide +kernel
theorem dX12_learn_187 : decode cX12_learn 187 = .ok (.sipush 890, 3) := by decide +kernel
theorem dX12_learn_190 : decode cX12_learn 190 = .ok (.iconst 4, 1) := by decide +kernel
theorem dX12_learn_191 : decode cX12_learn 191 = .ok (.iload_n 1, 1) := by decide +kernel
theorem dX12_learn_192 : decode cX12_learn 192 = .ok (.imul, 1) := by decide +kernel
theorem dX12_learn_193 : decode cX12_learn 193 = .ok (.iadd, 1) := by decide +kernel
theorem dX12_learn_194 : decode cX12_learn 194 = .ok (.iload 10, 2) := by decide +kernel
theorem dX12_learn_196 : decode cX12_learn 196 = .ok (.iadd, 1) := by decide +kernel
theorem dX12_learn_197 : decode cX12_learn 197 = .ok (.iaload, 1) := by decide +kernel
theorem dX12_learn_198 : decode cX12_learn 198 = .ok (.iload 6, 2) := by decide +kernel
theorem dX12_learn_200 : decode cX12_learn 200 = .ok (.iload 8, 2) := by decide +kernel
theorem dX12_learn_202 : decode cX12_learn 202 = .ok (.invokevirtual 168, 3) := by decide +kernel
theorem dX12_learn_205 : decode cX12_learn 205 = .ok (.iastore, 1) := by decide +kernel
theorem dX12_learn_206 : decode cX12_learn 206 = .ok (.aload_n 0, 1) := by decide +kernel
theorem dX12_learn_207 : decode cX12_learn 207 = .ok (.getfield 13, 3) := by decide +kernel
theorem dX12_learn_210 : decode cX12_learn 210 = .ok (.sipush 1210, 3) := by decide +kernel
theorem dX12_learn_213 : decode cX12_learn 213 = .ok (.iconst 4, 1) := by decide +kernel
theorem dX12_learn_214 : decode cX12_learn 214 = .ok (.iload_n 1, 1) := by decide +kernel
theorem dX12_learn_215 : decode cX12_learn 215 = .ok (.imul, 1) := by decide +kernel
theorem dX12_learn_216 : decode cX12_learn 216 = .ok (.iadd, 1) := by decide +kernel
theorem dX12_learn_217 : decode cX12_learn 217 = .ok (.iload 10, 2) := by decide +kernel
theorem dX12_learn_219 : decode cX12_learn 219 = .ok (.iadd, 1) := by decide +kernel
theorem dX12_learn_220 : decode cX12_learn 220 = .ok (.aload_n 0, 1) := by decide +kernel
theorem dX12_learn_221 : decode cX12_learn 221 = .ok (.aload_n 0, 1) := by decide +kernel
theorem dX12_learn_222 : decode cX12_learn 222 = .ok (.getfield 13, 3) := by decide +kernel
theorem dX12_learn_225 : decode cX12_learn 225 = .ok (.sipush 1210, 3) := by decide +kernel
theorem dX12_learn_228 : decode cX12_learn 228 = .ok (.iconst 4, 1) := by decide +kernel
theorem dX12_learn_229 : decode cX12_learn 229 = .ok (.iload_n 1, 1) := by decide +kernel
theorem dX12_learn_230 : decode cX12_learn 230 = .ok (.imul, 1) := by decide +kernel
theorem dX12_learn_231 : decode cX12_learn 231 = .ok (.iadd, 1) := by decide +kernel
theorem dX12_learn_232 : decode cX12_learn 232 = .ok (.iload 10, 2) := by decide +kernel
theorem dX12_learn_234 : decode cX12_learn 234 = .ok (.iadd, 1) := by decide +kernel
theorem dX12_learn_235 : decode cX12_learn 235 = .ok (.iaload, 1) := by decide +kernel
theorem dX12_learn_236 : decode cX12_learn 236 = .ok (.iload 7, 2) := by decide +kernel
theorem dX12_learn_238 : decode cX12_learn 238 = .ok (.iload 9, 2) := by decide +kernel
theorem dX12_learn_240 : decode cX12_learn 240 = .ok (.invokevirtual 168, 3) := by decide +kernel
theorem dX12_learn_243 : decode cX12_learn 243 = .ok (.iastore, 1) := by decide +kernel
theorem dX12_learn_244 : decode cX12_learn 244 = .ok (.iinc 10 1, 3) := by decide +kernel
theorem dX12_learn_247 : decode cX12_learn 247 = .ok (.goto (-102), 3) := by decide +kernel
theorem dX12_learn_250 : decode cX12_learn 250 = .ok (.return_, 1) := by decide +kernel
theorem dX12_dives_0 : decode cX12_dives 0 = .ok (.bipush 8, 2) := by decide +kernel
theorem dX12_dives_2 : decode cX12_dives 2 = .ok (.aload_n 0, 1) := by decide +kernel
theorem dX12_dives_3 : decode cX12_dives 3 = .ok (.getfield 13, 3) := by decide +kernel
theorem dX12_dives_6 : decode cX12_dives 6 = .ok (.sipush 2178, 3) := by decide +kernel
theorem dX12_dives_9 : decode cX12_dives 9 = .ok (.iload_n 1, 1) := by decide +kernel
theorem dX12_dives_10 : decode cX12_dives 10 = .ok (.iadd, 1) := by decide +kernel
theorem dX12_dives_11 : decode cX12_dives 11 = .ok (.iaload, 1) := by decide +kernel
theorem dX12_dives_12 : decode cX12_dives 12 = .ok (.imul, 1) := by decide +kernel
theorem dX12_dives_13 : decode cX12_dives 13 = .ok (.aload_n 0, 1) := by decide +kernel
theorem dX12_dives_14 : decode cX12_dives 14 = .ok (.getfield 13, 3) := by decide +kernel
theorem dX12_dives_17 : decode cX12_dives 17 = .ok (.sipush 2186, 3) := by decide +kernel
theorem dX12_dives_20 : decode cX12_dives 20 = .ok (.iload_n 1, 1) := by decide +kernel
theorem dX12_dives_21 : decode cX12_dives 21 = .ok (.iadd, 1) := by decide +kernel
theorem dX12_dives_22 : decode cX12_dives 22 = .ok (.iaload, 1) := by decide +kernel
theorem dX12_dives_23 : decode cX12_dives 23 = .ok (.iadd, 1) := by decide +kernel
theorem dX12_dives_24 : decode cX12_dives 24 = .ok (.istore 5, 2) := by decide +kernel
theorem dX12_dives_26 : decode cX12_dives 26 = .ok (.aload_n 0, 1) := by decide +kernel
theorem dX12_dives_27 : decode cX12_dives 27 = .ok (.getfield 13, 3) := by decide +kernel
theorem dX12_dives_30 : decode cX12_dives 30 = .ok (.sipush 2194, 3) := by decide +kernel
theorem dX12_dives_33 : decode cX12_dives 33 = .ok (.iload_n 1, 1) := by decide +kernel
theorem dX12_dives_34 : decode cX12_dives 34 = .ok (.iadd, 1) := by decide +kernel
theorem dX12_dives_35 : decode cX12_dives 35 = .ok (.dup2, 1) := by decide +kernel
theorem dX12_dives_36 : decode cX12_dives 36 = .ok (.iaload, 1) := by decide +kernel
theorem dX12_dives_37 : decode cX12_dives 37 = .ok (.aload_n 0, 1) := by decide +kernel
theorem dX12_dives_38 : decode cX12_dives 38 = .ok (.iload_n 1, 1) := by decide +kernel
theorem dX12_dives_39 : decode cX12_dives 39 = .ok (.iload_n 2, 1) := by decide +kernel
theorem dX12_dives_40 : decode cX12_dives 40 = .ok (.invokevirtual 149, 3) := by decide +kernel
theorem dX12_dives_43 : decode cX12_dives 43 = .ok (.isub, 1) := by decide +kernel
theorem dX12_dives_44 : decode cX12_dives 44 = .ok (.iastore, 1) := by decide +kernel
theorem dX12_dives_45 : decode cX12_dives 45 = .ok (.aload_n 0, 1) := by decide +kernel
theorem dX12_dives_46 : decode cX12_dives 46 = .ok (.getfield 13, 3) := by decide +kernel
theorem dX12_dives_49 : decode cX12_dives 49 = .ok (.sipush 2242, 3) := by decide +kernel
theorem dX12_dives_52 : decode cX12_dives 52 = .ok (.iload_n 1, 1) := by decide +kernel
theorem dX12_dives_53 : decode cX12_dives 53 = .ok (.iadd, 1) := by decide +kernel
theorem dX12_dives_54 : decode cX12_dives 54 = .ok (.dup2, 1) := by decide +kernel
theorem dX12_dives_55 : decode cX12_dives 55 = .ok (.iaload, 1) := by decide +kernel
theorem dX12_dives_56 : decode cX12_dives 56 = .ok (.iconst 1, 1) := by decide +kernel
theorem dX12_dives_57 : decode cX12_dives 57 = .ok (.iadd, 1) := by decide +kernel
theorem dX12_dives_58 : decode cX12_dives 58 = .ok (.iastore, 1) := by decide +kernel
theorem dX12_dives_59 : decode cX12_dives 59 = .ok (.aload_n 0, 1) := by decide +kernel
theorem dX12_dives_60 : decode cX12_dives 60 = .ok (.aload_n 0, 1) := by decide +kernel
theorem dX12_dives_61 : decode cX12_dives 61 = .ok (.getfield 13, 3) := by decide +kernel
theorem dX12_dives_64 : decode cX12_dives 64 = .ok (.sipush 2178, 3) := by decide +kernel
theorem dX12_dives_67 : decode cX12_dives 67 = .ok (.iload_n 1, 1) := by decide +kernel
theorem dX12_dives_68 : decode cX12_dives 68 = .ok (.iadd, 1) := by decide +kernel
theorem dX12_dives_69 : decode cX12_dives 69 = .ok (.iaload, 1) := by decide +kernel
theorem dX12_dives_70 : decode cX12_dives 70 = .ok (.putfield 24, 3) := by decide +kernel
theorem dX12_dives_73 : decode cX12_dives 73 = .ok (.aload_n 0, 1) := by decide +kernel
theorem dX12_dives_74 : decode cX12_dives 74 = .ok (.aload_n 0, 1) := by decide +kernel
theorem dX12_dives_75 : decode cX12_dives 75 = .ok (.getfield 13, 3) := by decide +kernel
theorem dX12_dives_78 : decode cX12_dives 78 = .ok (.sipush 2186, 3) := by decide +kernel
theorem dX12_dives_81 : decode cX12_dives 81 = .ok (.iload_n 1, 1) := by decide +kernel
theorem dX12_dives_82 : decode cX12_dives 82 = .ok (.iadd, 1) := by decide +kernel
theorem dX12_dives_83 : decode cX12_dives 83 = .ok (.iaload, 1) := by decide +kernel
theorem dX12_dives_84 : decode cX12_dives 84 = .ok (.putfield 27, 3) := by decide +kernel
theorem dX12_dives_87 : decode cX12_dives 87 = .ok (.aload_n 0, 1) := by decide +kernel
theorem dX12_dives_88 : decode cX12_dives 88 = .ok (.iload_n 2, 1) := by decide +kernel
theorem dX12_dives_89 : decode cX12_dives 89 = .ok (.iconst 0, 1) := by decide +kernel
theorem dX12_dives_90 : decode cX12_dives 90 = .ok (.invokevirtual 172, 3) := by decide +kernel
theorem dX12_dives_93 : decode cX12_dives 93 = .ok (.aload_n 0, 1) := by decide +kernel
theorem dX12_dives_94 : decode cX12_dives 94 = .ok (.getfield 33, 3) := by decide +kernel
theorem dX12_dives_97 : decode cX12_dives 97 = .ok (.ifCond .ne 15, 3) := by decide +kernel
theorem dX12_dives_100 : decode cX12_dives 100 = .ok (.aload_n 0, 1) := by decide +kernel
theorem dX12_dives_101 : decode cX12_dives 101 = .ok (.iload_n 3, 1) := by decide +kernel
theorem dX12_dives_102 : decode cX12_dives 102 = .ok (.iload 4, 2) := by decide +kernel
theorem dX12_dives_104 : decode cX12_dives 104 = .ok (.invokevirtual 159, 3) := by decide +kernel
theorem dX12_dives_107 : decode cX12_dives 107 = .ok (.aload_n 0, 1) := by decide +kernel
theorem dX12_dives_108 : decode cX12_dives 108 = .ok (.iload_n 1, 1) := by decide +kernel
theorem dX12_dives_109 : decode cX12_dives 109 = .ok (.invokevirtual 176, 3) := by decide +kernel
theorem dX12_dives_112 : decode cX12_dives 112 = .ok (.aload_n 0, 1) := by decide +kernel
theorem dX12_dives_113 : decode cX12_dives 113 = .ok (.getfield 13, 3) := by decide +kernel
theorem dX12_dives_116 : decode cX12_dives 116 = .ok (.sipush 2178, 3) := by decide +kernel
theorem dX12_dives_119 : decode cX12_dives 119 = .ok (.iload_n 1, 1) := by decide +kernel
theorem dX12_dives_120 : decode cX12_dives 120 = .ok (.iadd, 1) := by decide +kernel
theorem dX12_dives_121 : decode cX12_dives 121 = .ok (.aload_n 0, 1) := by decide +kernel
theorem dX12_dives_122 : decode cX12_dives 122 = .ok (.getfield 24, 3) := by decide +kernel
theorem dX12_dives_125 : decode cX12_dives 125 = .ok (.iastore, 1) := by decide +kernel
theorem dX12_dives_126 : decode cX12_dives 126 = .ok (.aload_n 0, 1) := by decide +kernel
theorem dX12_dives_127 : decode cX12_dives 127 = .ok (.getfield 13, 3) := by decide +kernel
theorem dX12_dives_130 : decode cX12_dives 130 = .ok (.sipush 2186, 3) := by decide +kernel
theorem dX12_dives_133 : decode cX12_dives 133 = .ok (.iload_n 1, 1) := by decide +kernel
theorem dX12_dives_134 : decode cX12_dives 134 = .ok (.iadd, 1) := by decide +kernel
theorem dX12_dives_135 : decode cX12_dives 135 = .ok (.aload_n 0, 1) := by decide +kernel
theorem dX12_dives_136 : decode cX12_dives 136 = .ok (.getfield 27, 3) := by decide +kernel
theorem dX12_dives_139 : decode cX12_dives 139 = .ok (.iastore, 1) := by decide +kernel
theorem dX12_dives_140 : decode cX12_dives 140 = .ok (.aload_n 0, 1) := by decide +kernel
theorem dX12_dives_141 : decode cX12_dives 141 = .ok (.getfield 33, 3) := by decide +kernel
theorem dX12_dives_144 : decode cX12_dives 144 = .ok (.ifCond .eq 17, 3) := by decide +kernel
theorem dX12_dives_147 : decode cX12_dives 147 = .ok (.aload_n 0, 1) := by decide +kernel
theorem dX12_dives_148 : decode cX12_dives 148 = .ok (.getfield 13, 3) := by decide +kernel
theorem dX12_dives_151 : decode cX12_dives 151 = .ok (.sipush 2202, 3) := by decide +kernel
theorem dX12_dives_154 : decode cX12_dives 154 = .ok (.iload_n 1, 1) := by decide +kernel
theorem dX12_dives_155 : decode cX12_dives 155 = .ok (.iadd, 1) := by decide +kernel
theorem dX12_dives_156 : decode cX12_dives 156 = .ok (.iconst 2, 1) := by decide +kernel
theorem dX12_dives_157 : decode cX12_dives 157 = .ok (.iastore, 1) := by decide +kernel
theorem dX12_dives_158 : decode cX12_dives 158 = .ok (.bipush (-5), 2) := by decide +kernel
theorem dX12_dives_160 : decode cX12_dives 160 = .ok (.ireturn, 1) := by decide +kernel
theorem dX12_dives_161 : decode cX12_dives 161 = .ok (.aload_n 0, 1) := by decide +kernel
theorem dX12_dives_162 : decode cX12_dives 162 = .ok (.getfield 13, 3) := by decide +kernel
theorem dX12_dives_165 : decode cX12_dives 165 = .ok (.bipush 90, 2) := by decide +kernel
theorem dX12_dives_167 : decode cX12_dives 167 = .ok (.bipush 8, 2) := by decide +kernel
theorem dX12_dives_169 : decode cX12_dives 169 = .ok (.aload_n 0, 1) := by decide +kernel
theorem dX12_dives_170 : decode cX12_dives 170 = .ok (.getfield 24, 3) := by decide +kernel
theorem dX12_dives_173 : decode cX12_dives 173 = .ok (.imul, 1) := by decide +kernel
theorem dX12_dives_174 : decode cX12_dives 174 = .ok (.iadd, 1) := by decide +kernel
theorem dX12_dives_175 : decode cX12_dives 175 = .ok (.aload_n 0, 1) := by decide +kernel
theorem dX12_dives_176 : decode cX12_dives 176 = .ok (.getfield 27, 3) := by decide +kernel
theorem dX12_dives_179 : decode cX12_dives 179 = .ok (.iadd, 1) := by decide +kernel
theorem dX12_dives_180 : decode cX12_dives 180 = .ok (.iaload, 1) := by decide +kernel
theorem dX12_dives_181 : decode cX12_dives 181 = .ok (.iconst 1, 1) := by decide +kernel
theorem dX12_dives_182 : decode cX12_dives 182 = .ok (.if_icmp .ne 43, 3) := by decide +kernel
theorem dX12_dives_185 : decode cX12_dives 185 = .ok (.aload_n 0, 1) := by decide +kernel
theorem dX12_dives_186 : decode cX12_dives 186 = .ok (.getfield 13, 3) := by decide +kernel
theorem dX12_dives_189 : decode cX12_dives 189 = .ok (.sipush 2194, 3) := by decide +kernel
theorem dX12_dives_192 : decode cX12_dives 192 = .ok (.iload_n 1, 1) := by decide +kernel
theorem dX12_dives_193 : decode cX12_dives 193 = .ok (.iadd, 1) := by decide +kernel
theorem dX12_dives_194 : decode cX12_dives 194 = .ok (.aload_n 0, 1) := by decide +kernel
theorem dX12_dives_195 : decode cX12_dives 195 = .ok (.getfield 13, 3) := by decide +kernel
theorem dX12_dives_198 : decode cX12_dives 198 = .ok (.sipush 2194, 3) := by decide +kernel
theorem dX12_dives_201 : decode cX12_dives 201 = .ok (.iload_n 1, 1) := by decide +kernel
theorem dX12_dives_202 : decode cX12_dives 202 = .ok (.iadd, 1) := by decide +kernel
theorem dX12_dives_203 : decode cX12_dives 203 = .ok (.iaload, 1) := by decide +kernel
theorem dX12_dives_204 : decode cX12_dives 204 = .ok (.iconst 5, 1) := by decide +kernel
theorem dX12_dives_205 : decode cX12_dives 205 = .ok (.if_icmp .le 18, 3) := by decide +kernel
theorem dX12_dives_208 : decode cX12_dives 208 = .ok (.aload_n 0, 1) := by decide +kernel
theorem dX12_dives_209 : decode cX12_dives 209 = .ok (.getfield 13, 3) := by decide +kernel
theorem dX12_dives_212 : decode cX12_dives 212 = .ok (.sipush 2194, 3) := by decide +kernel
theorem dX12_dives_215 : decode cX12_dives 215 = .ok (.iload_n 1, 1) := by decide +kernel
theorem dX12_dives_216 : decode cX12_dives 216 = .ok (.iadd, 1) := by decide +kernel
theorem dX12_dives_217 : decode cX12_dives 217 = .ok (.iaload, 1) := by decide +kernel
theorem dX12_dives_218 : decode cX12_dives 218 = .ok (.iconst 5, 1) := by decide +kernel
theorem dX12_dives_219 : decode cX12_dives 219 = .ok (.isub, 1) := by decide +kernel
theorem dX12_dives_220 : decode cX12_dives 220 = .ok (.goto 4, 3) := by decide +kernel
theorem dX12_dives_223 : decode cX12_dives 223 = .ok (.iconst 0, 1) := by decide +kernel
theorem dX12_dives_224 : decode cX12_dives 224 = .ok (.iastore, 1) := by decide +kernel
theorem dX12_dives_225 : decode cX12_dives 225 = .ok (.aload_n 0, 1) := by decide +kernel
theorem dX12_dives_226 : decode cX12_dives 226 = .ok (.iload 5, 2) := by decide +kernel
theorem dX12_dives_228 : decode cX12_dives 228 = .ok (.iload_n 3, 1) := by decide +kernel
theorem dX12_dives_229 : decode cX12_dives 229 = .ok (.iload 4, 2) := by decide +kernel
theorem dX12_dives_231 : decode cX12_dives 231 = .ok (.invokevirtual 180, 3) := by decide +kernel
theorem dX12_dives_234 : decode cX12_dives 234 = .ok (.bipush 8, 2) := by decide +kernel
theorem dX12_dives_236 : decode cX12_dives 236 = .ok (.aload_n 0, 1) := by decide +kernel
theorem dX12_dives_237 : decode cX12_dives 237 = .ok (.getfield 24, 3) := by decide +kernel
theorem dX12_dives_240 : decode cX12_dives 240 = .ok (.imul, 1) := by decide +kernel
theorem dX12_dives_241 : decode cX12_dives 241 = .ok (.aload_n 0, 1) := by decide +kernel
theorem dX12_dives_242 : decode cX12_dives 242 = .ok (.getfield 27, 3) := by decide +kernel
theorem dX12_dives_245 : decode cX12_dives 245 = .ok (.iadd, 1) := by decide +kernel
theorem dX12_dives_246 : decode cX12_dives 246 = .ok (.ireturn, 1) := by decide +kernel
theorem dX12_dive_0 : decode cX12_dive 0 = .ok (.aload_n 0, 1) := by decide +kernel
theorem dX12_dive_1 : decode cX12_dive 1 = .ok (.iload_n 1, 1) := by decide +kernel
theorem dX12_dive_2 : decode cX12_dive 2 = .ok (.invokevirtual 142, 3) := by decide +kernel
theorem dX12_dive_5 : decode cX12_dive 5 = .ok (.ifCond .eq 28, 3) := by decide +kernel
theorem dX12_dive_8 : decode cX12_dive 8 = .ok (.aload_n 0, 1) := by decide +kernel
theorem dX12_dive_9 : decode cX12_dive 9 = .ok (.iload_n 2, 1) := by decide +kernel
theorem dX12_dive_10 : decode cX12_dive 10 = .ok (.iconst 0, 1) := by decide +kernel
theorem dX12_dive_11 : decode cX12_dive 11 = .ok (.aload_n 0, 1) := by decide +kernel
theorem dX12_dive_12 : decode cX12_dive 12 = .ok (.iload_n 1, 1) := by decide +kernel
theorem dX12_dive_13 : decode cX12_dive 13 = .ok (.invokevirtual 135, 3) := by decide +kernel
theorem dX12_dive_16 : decode cX12_dive 16 = .ok (.invokevirtual 123, 3) := by decide +kernel
theorem dX12_dive_19 : decode cX12_dive 19 = .ok (.ifCond .eq 14, 3) := by decide +kernel
theorem dX12_dive_22 : decode cX12_dive 22 = .ok (.aload_n 0, 1) := by decide +kernel
theorem dX12_dive_23 : decode cX12_dive 23 = .ok (.iload_n 1, 1) := by decide +kernel
theorem dX12_dive_24 : decode cX12_dive 24 = .ok (.iload_n 3, 1) := by decide +kernel
theorem dX12_dive_25 : decode cX12_dive 25 = .ok (.iload 4, 2) := by decide +kernel
theorem dX12_dive_27 : decode cX12_dive 27 = .ok (.invokevirtual 184, 3) := by decide +kernel
theorem dX12_dive_30 : decode cX12_dive 30 = .ok (.ifCond .ne 5, 3) := by decide +kernel
theorem dX12_dive_33 : decode cX12_dive 33 = .ok (.iconst (-1), 1) := by decide +kernel
theorem dX12_dive_34 : decode cX12_dive 34 = .ok (.ireturn, 1) := by decide +kernel
theorem dX12_dive_35 : decode cX12_dive 35 = .ok (.aload_n 0, 1) := by decide +kernel
theorem dX12_dive_36 : decode cX12_dive 36 = .ok (.iload_n 1, 1) := by decide +kernel
theorem dX12_dive_37 : decode cX12_dive 37 = .ok (.invokevirtual 187, 3) := by decide +kernel
theorem dX12_dive_40 : decode cX12_dive 40 = .ok (.ifCond .eq 22, 3) := by decide +kernel
theorem dX12_dive_43 : decode cX12_dive 43 = .ok (.aload_n 0, 1) := by decide +kernel
theorem dX12_dive_44 : decode cX12_dive 44 = .ok (.getfield 13, 3) := by decide +kernel
theorem dX12_dive_47 : decode cX12_dive 47 = .ok (.sipush 2194, 3) := by decide +kernel
theorem dX12_dive_50 : decode cX12_dive 50 = .ok (.iload_n 1, 1) := by decide +kernel
theorem dX12_dive_51 : decode cX12_dive 51 = .ok (.iadd, 1) := by decide +kernel
theorem dX12_dive_52 : decode cX12_dive 52 = .ok (.iaload, 1) := by decide +kernel
theorem dX12_dive_53 : decode cX12_dive 53 = .ok (.aload_n 0, 1) := by decide +kernel
theorem dX12_dive_54 : decode cX12_dive 54 = .ok (.iload_n 1, 1) := by decide +kernel
theorem dX12_dive_55 : decode cX12_dive 55 = .ok (.iload_n 2, 1) := by decide +kernel
theorem dX12_dive_56 : decode cX12_dive 56 = .ok (.invokevirtual 149, 3) := by decide +kernel
theorem dX12_dive_59 : decode cX12_dive 59 = .ok (.if_icmp .ge 6, 3) := by decide +kernel
theorem dX12_dive_62 : decode cX12_dive 62 = .ok (.bipush (-3), 2) := by decide +kernel
theorem dX12_dive_64 : decode cX12_dive 64 = .ok (.ireturn, 1) := by decide +kernel
theorem dX12_dive_65 : decode cX12_dive 65 = .ok (.aload_n 0, 1) := by decide +kernel
theorem dX12_dive_66 : decode cX12_dive 66 = .ok (.iload_n 1, 1) := by decide +kernel
theorem dX12_dive_67 : decode cX12_dive 67 = .ok (.iload_n 2, 1) := by decide +kernel
theorem dX12_dive_68 : decode cX12_dive 68 = .ok (.iload_n 3, 1) := by decide +kernel
theorem dX12_dive_69 : decode cX12_dive 69 = .ok (.iload 4, 2) := by decide +kernel
theorem dX12_dive_71 : decode cX12_dive 71 = .ok (.invokevirtual 190, 3) := by decide +kernel
theorem dX12_dive_74 : decode cX12_dive 74 = .ok (.ireturn, 1) := by decide +kernel
theorem dX12_at_0 : decode cX12_at 0 = .ok (.aload_n 0, 1) := by decide +kernel
theorem dX12_at_1 : decode cX12_at 1 = .ok (.getfield 48, 3) := by decide +kernel
theorem dX12_at_4 : decode cX12_at 4 = .ok (.aload_n 0, 1) := by decide +kernel
theorem dX12_at_5 : decode cX12_at 5 = .ok (.getfield 45, 3) := by decide +kernel
theorem dX12_at_8 : decode cX12_at 8 = .ok (.if_icmp .lt 7, 3) := by decide +kernel
theorem dX12_at_11 : decode cX12_at 11 = .ok (.iconst (-1), 1) := by decide +kernel
theorem dX12_at_12 : decode cX12_at 12 = .ok (.goto 36, 3) := by decide +kernel
theorem dX12_at_15 : decode cX12_at 15 = .ok (.aload_n 0, 1) := by decide +kernel
theorem dX12_at_16 : decode cX12_at 16 = .ok (.getfield 51, 3) := by decide +kernel
theorem dX12_at_19 : decode cX12_at 19 = .ok (.ifCond .eq 15, 3) := by decide +kernel
theorem dX12_at_22 : decode cX12_at 22 = .ok (.aload_n 0, 1) := by decide +kernel
theorem dX12_at_23 : decode cX12_at 23 = .ok (.getfield 36, 3) := by decide +kernel
theorem dX12_at_26 : decode cX12_at 26 = .ok (.aload_n 0, 1) := by decide +kernel
theorem dX12_at_27 : decode cX12_at 27 = .ok (.getfield 48, 3) := by decide +kernel
theorem dX12_at_30 : decode cX12_at 30 = .ok (.iaload, 1) := by decide +kernel
theorem dX12_at_31 : decode cX12_at 31 = .ok (.goto 17, 3) := by decide +kernel
theorem dX12_at_34 : decode cX12_at 34 = .ok (.aload_n 0, 1) := by decide +kernel
theorem dX12_at_35 : decode cX12_at 35 = .ok (.getfield 13, 3) := by decide +kernel
theorem dX12_at_38 : decode cX12_at 38 = .ok (.aload_n 0, 1) := by decide +kernel
theorem dX12_at_39 : decode cX12_at 39 = .ok (.getfield 42, 3) := by decide +kernel
theorem dX12_at_42 : decode cX12_at 42 = .ok (.aload_n 0, 1) := by decide +kernel
theorem dX12_at_43 : decode cX12_at 43 = .ok (.getfield 48, 3) := by decide +kernel
theorem dX12_at_46 : decode cX12_at 46 = .ok (.iadd, 1) := by decide +kernel
theorem dX12_at_47 : decode cX12_at 47 = .ok (.iaload, 1) := by decide +kernel
theorem dX12_at_48 : decode cX12_at 48 = .ok (.ireturn, 1) := by decide +kernel
theorem dX12_takes_0 : decode cX12_takes 0 = .ok (.aload_n 0, 1) := by decide +kernel
theorem dX12_takes_1 : decode cX12_takes 1 = .ok (.aload_n 0, 1) := by decide +kernel
theorem dX12_takes_2 : decode cX12_takes 2 = .ok (.invokevirtual 194, 3) := by decide +kernel
theorem dX12_takes_5 : decode cX12_takes 5 = .ok (.bipush 48, 2) := by decide +kernel
theorem dX12_takes_7 : decode cX12_takes 7 = .ok (.iload_n 1, 1) := by decide +kernel
theorem dX12_takes_8 : decode cX12_takes 8 = .ok (.iadd, 1) := by decide +kernel
theorem dX12_takes_9 : decode cX12_takes 9 = .ok (.bipush 48, 2) := by decide +kernel
theorem dX12_takes_11 : decode cX12_takes 11 = .ok (.iload_n 2, 1) := by decide +kernel
theorem dX12_takes_12 : decode cX12_takes 12 = .ok (.iadd, 1) := by decide +kernel
theorem dX12_takes_13 : decode cX12_takes 13 = .ok (.invokevirtual 123, 3) := by decide +kernel
theorem dX12_takes_16 : decode cX12_takes 16 = .ok (.ifCond .ne 5, 3) := by decide +kernel
theorem dX12_takes_19 : decode cX12_takes 19 = .ok (.iconst 0, 1) := by decide +kernel
theorem dX12_takes_20 : decode cX12_takes 20 = .ok (.ireturn, 1) := by decide +kernel
theorem dX12_takes_21 : decode cX12_takes 21 = .ok (.aload_n 0, 1) := by decide +kernel
theorem dX12_takes_22 : decode cX12_takes 22 = .ok (.aload_n 0, 1) := by decide +kernel
theorem dX12_takes_23 : decode cX12_takes 23 = .ok (.invokevirtual 194, 3) := by decide +kernel
theorem dX12_takes_26 : decode cX12_takes 26 = .ok (.bipush 48, 2) := by decide +kernel
theorem dX12_takes_28 : decode cX12_takes 28 = .ok (.isub, 1) := by decide +kernel
theorem dX12_takes_29 : decode cX12_takes 29 = .ok (.putfield 54, 3) := by decide +kernel
theorem dX12_takes_32 : decode cX12_takes 32 = .ok (.aload_n 0, 1) := by decide +kernel
theorem dX12_takes_33 : decode cX12_takes 33 = .ok (.dup, 1) := by decide +kernel
theorem dX12_takes_34 : decode cX12_takes 34 = .ok (.getfield 48, 3) := by decide +kernel
theorem dX12_takes_37 : decode cX12_takes 37 = .ok (.iconst 1, 1) := by decide +kernel
theorem dX12_takes_38 : decode cX12_takes 38 = .ok (.iadd, 1) := by decide +kernel
theorem dX12_takes_39 : decode cX12_takes 39 = .ok (.putfield 48, 3) := by decide +kernel
theorem dX12_takes_42 : decode cX12_takes 42 = .ok (.iconst 1, 1) := by decide +kernel
theorem dX12_takes_43 : decode cX12_takes 43 = .ok (.ireturn, 1) := by decide +kernel
theorem dX12_isField_0 : decode cX12_isField 0 = .ok (.iload_n 1, 1) := by decide +kernel
theorem dX12_isField_1 : decode cX12_isField 1 = .ok (.bipush 112, 2) := by decide +kernel
theorem dX12_isField_3 : decode cX12_isField 3 = .ok (.if_icmp .eq 51, 3) := by decide +kernel
theorem dX12_isField_6 : decode cX12_isField 6 = .ok (.iload_n 1, 1) := by decide +kernel
theorem dX12_isField_7 : decode cX12_isField 7 = .ok (.bipush 120, 2) := by decide +kernel
theorem dX12_isField_9 : decode cX12_isField 9 = .ok (.if_icmp .eq 45, 3) := by decide +kernel
theorem dX12_isField_12 : decode cX12_isField 12 = .ok (.iload_n 1, 1) := by decide +kernel
theorem dX12_isField_13 : decode cX12_isField 13 = .ok (.bipush 121, 2) := by decide +kernel
theorem dX12_isField_15 : decode cX12_isField 15 = .ok (.if_icmp .eq 39, 3) := by decide +kernel
theorem dX12_isField_18 : decode cX12_isField 18 = .ok (.iload_n 1, 1) := by decide +kernel
theorem dX12_isField_19 : decode cX12_isField 19 = .ok (.bipush 108, 2) := by decide +kernel
theorem dX12_isField_21 : decode cX12_isField 21 = .ok (.if_icmp .eq 33, 3) := by decide +kernel
theorem dX12_isField_24 : decode cX12_isField 24 = .ok (.iload_n 1, 1) := by decide +kernel
theorem dX12_isField_25 : decode cX12_isField 25 = .ok (.bipush 102, 2) := by decide +kernel
theorem dX12_isField_27 : decode cX12_isField 27 = .ok (.if_icmp .eq 27, 3) := by decide +kernel
theorem dX12_isField_30 : decode cX12_isField 30 = .ok (.iload_n 1, 1) := by decide +kernel
theorem dX12_isField_31 : decode cX12_isField 31 = .ok (.bipush 104, 2) := by decide +kernel
theorem dX12_isField_33 : decode cX12_isField 33 = .ok (.if_icmp .eq 21, 3) := by decide +kernel
theorem dX12_isField_36 : decode cX12_isField 36 = .ok (.iload_n 1, 1) := by decide +kernel
theorem dX12_isField_37 : decode cX12_isField 37 = .ok (.bipush 116, 2) := by decide +kernel
theorem dX12_isField_39 : decode cX12_isField 39 = .ok (.if_icmp .eq 15, 3) := by decide +kernel
theorem dX12_isField_42 : decode cX12_isField 42 = .ok (.iload_n 1, 1) := by decide +kernel
theorem dX12_isField_43 : decode cX12_isField 43 = .ok (.bipush 115, 2) := by decide +kernel
theorem dX12_isField_45 : decode cX12_isField 45 = .ok (.if_icmp .eq 9, 3) := by decide +kernel
theorem dX12_isField_48 : decode cX12_isField 48 = .ok (.iload_n 1, 1) := by decide +kernel
theorem dX12_isField_49 : decode cX12_isField 49 = .ok (.bipush 100, 2) := by decide +kernel
theorem dX12_isField_51 : decode cX12_isField 51 = .ok (.if_icmp .ne 7, 3) := by decide +kernel
theorem dX12_isField_54 : decode cX12_isField 54 = .ok (.iconst 1, 1) := by decide +kernel
theorem dX12_isField_55 : decode cX12_isField 55 = .ok (.goto 4, 3) := by decide +kernel
theorem dX12_isField_58 : decode cX12_isField 58 = .ok (.iconst 0, 1) := by decide +kernel
theorem dX12_isField_59 : decode cX12_isField 59 = .ok (.ireturn, 1) := by decide +kernel
theorem dX12_fieldOf_0 : decode cX12_fieldOf 0 = .ok (.iload_n 2, 1) := by decide +kernel
theorem dX12_fieldOf_1 : decode cX12_fieldOf 1 = .ok (.ifCond .ge 5, 3) := by decide +kernel
theorem dX12_fieldOf_4 : decode cX12_fieldOf 4 = .ok (.iconst 0, 1) := by decide +kernel
theorem dX12_fieldOf_5 : decode cX12_fieldOf 5 = .ok (.ireturn, 1) := by decide +kernel
theorem dX12_fieldOf_6 : decode cX12_fieldOf 6 = .ok (.iload_n 1, 1) := by decide +kernel
theorem dX12_fieldOf_7 : decode cX12_fieldOf 7 = .ok (.tableswitch 226 102 121 #[137, 226, 148, 226, 226, 226, 126, 226, 226, 226, 93, 226, 226, 198, 188, 226, 226, 226, 104, 115], 93) := by decide +kernel
theorem dX12_fieldOf_100 : decode cX12_fieldOf 100 = .ok (.aload_n 0, 1) := by decide +kernel
theorem dX12_fieldOf_101 : decode cX12_fieldOf 101 = .ok (.getfield 13, 3) := by decide +kernel
theorem dX12_fieldOf_104 : decode cX12_fieldOf 104 = .ok (.sipush 2194, 3) := by decide +kernel
theorem dX12_fieldOf_107 : decode cX12_fieldOf 107 = .ok (.iload_n 2, 1) := by decide +kernel
theorem dX12_fieldOf_108 : decode cX12_fieldOf 108 = .ok (.iadd, 1) := by decide +kernel
theorem dX12_fieldOf_109 : decode cX12_fieldOf 109 = .ok (.iaload, 1) := by decide +kernel
theorem dX12_fieldOf_110 : decode cX12_fieldOf 110 = .ok (.ireturn, 1) := by decide +kernel
theorem dX12_fieldOf_111 : decode cX12_fieldOf 111 = .ok (.aload_n 0, 1) := by decide +kernel
theorem dX12_fieldOf_112 : decode cX12_fieldOf 112 = .ok (.getfield 13, 3) := by decide +kernel
theorem dX12_fieldOf_115 : decode cX12_fieldOf 115 = .ok (.sipush 2178, 3) := by decide +kernel
theorem dX12_fieldOf_118 : decode cX12_fieldOf 118 = .ok (.iload_n 2, 1) := by decide +kernel
theorem dX12_fieldOf_119 : decode cX12_fieldOf 119 = .ok (.iadd, 1) := by decide +kernel
theorem dX12_fieldOf_120 : decode cX12_fieldOf 120 = .ok (.iaload, 1) := by decide +kernel
theorem dX12_fieldOf_121 : decode cX12_fieldOf 121 = .ok (.ireturn, 1) := by decide +kernel
theorem dX12_fieldOf_122 : decode cX12_fieldOf 122 = .ok (.aload_n 0, 1) := by decide +kernel
theorem dX12_fieldOf_123 : decode cX12_fieldOf 123 = .ok (.getfield 13, 3) := by decide +kernel
theorem dX12_fieldOf_126 : decode cX12_fieldOf 126 = .ok (.sipush 2186, 3) := by decide +kernel
theorem dX12_fieldOf_129 : decode cX12_fieldOf 129 = .ok (.iload_n 2, 1) := by decide +kernel
theorem dX12_fieldOf_130 : decode cX12_fieldOf 130 = .ok (.iadd, 1) := by decide +kernel
theorem dX12_fieldOf_131 : decode cX12_fieldOf 131 = .ok (.iaload, 1) := by decide +kernel
theorem dX12_fieldOf_132 : decode cX12_fieldOf 132 = .ok (.ireturn, 1) := by decide +kernel
theorem dX12_fieldOf_133 : decode cX12_fieldOf 133 = .ok (.aload_n 0, 1) := by decide +kernel
theorem dX12_fieldOf_134 : decode cX12_fieldOf 134 = .ok (.getfield 13, 3) := by decide +kernel
theorem dX12_fieldOf_137 : decode cX12_fieldOf 137 = .ok (.sipush 2210, 3) := by decide +kernel
theorem dX12_fieldOf_140 : decode cX12_fieldOf 140 = .ok (.iload_n 2, 1) := by decide +kernel
theorem dX12_fieldOf_141 : decode cX12_fieldOf 141 = .ok (.iadd, 1) := by decide +kernel
theorem dX12_fieldOf_142 : decode cX12_fieldOf 142 = .ok (.iaload, 1) := by decide +kernel
theorem dX12_fieldOf_143 : decode cX12_fieldOf 143 = .ok (.ireturn, 1) := by decide +kernel
theorem dX12_fieldOf_144 : decode cX12_fieldOf 144 = .ok (.aload_n 0, 1) := by decide +kernel
theorem dX12_fieldOf_145 : decode cX12_fieldOf 145 = .ok (.getfield 13, 3) := by decide +kernel
theorem dX12_fieldOf_148 : decode cX12_fieldOf 148 = .ok (.sipush 2218, 3) := by decide +kernel
theorem dX12_fieldOf_151 : decode cX12_fieldOf 151 = .ok (.iload_n 2, 1) := by decide +kernel
theorem dX12_fieldOf_152 : decode cX12_fieldOf 152 = .ok (.iadd, 1) := by decide +kernel
theorem dX12_fieldOf_153 : decode cX12_fieldOf 153 = .ok (.iaload, 1) := by decide +kernel
theorem dX12_fieldOf_154 : decode cX12_fieldOf 154 = .ok (.ireturn, 1) := by decide +kernel
theorem dX12_fieldOf_155 : decode cX12_fieldOf 155 = .ok (.aload_n 0, 1) := by decide +kernel
theorem dX12_fieldOf_156 : decode cX12_fieldOf 156 = .ok (.getfield 13, 3) := by decide +kernel
theorem dX12_fieldOf_159 : decode cX12_fieldOf 159 = .ok (.sipush 2234, 3) := by decide +kernel
theorem dX12_fieldOf_162 : decode cX12_fieldOf 162 = .ok (.iload_n 2, 1) := by decide +kernel
theorem dX12_fieldOf_163 : decode cX12_fieldOf 163 = .ok (.iadd, 1) := by decide +kernel
theorem dX12_fieldOf_164 : decode cX12_fieldOf 164 = .ok (.iaload, 1) := by decide +kernel
theorem dX12_fieldOf_165 : decode cX12_fieldOf 165 = .ok (.ifCond .ge 12, 3) := by decide +kernel
theorem dX12_fieldOf_168 : decode cX12_fieldOf 168 = .ok (.aload_n 0, 1) := by decide +kernel
theorem dX12_fieldOf_169 : decode cX12_fieldOf 169 = .ok (.getfield 13, 3) := by decide +kernel
theorem dX12_fieldOf_172 : decode cX12_fieldOf 172 = .ok (.iconst 1, 1) := by decide +kernel
theorem dX12_fieldOf_173 : decode cX12_fieldOf 173 = .ok (.iaload, 1) := by decide +kernel
theorem dX12_fieldOf_174 : decode cX12_fieldOf 174 = .ok (.goto 20, 3) := by decide +kernel
theorem dX12_fieldOf_177 : decode cX12_fieldOf 177 = .ok (.aload_n 0, 1) := by decide +kernel
theorem dX12_fieldOf_178 : decode cX12_fieldOf 178 = .ok (.getfield 13, 3) := by decide +kernel
theorem dX12_fieldOf_181 : decode cX12_fieldOf 181 = .ok (.iconst 1, 1) := by decide +kernel
theorem dX12_fieldOf_182 : decode cX12_fieldOf 182 = .ok (.iaload, 1) := by decide +kernel
theorem dX12_fieldOf_183 : decode cX12_fieldOf 183 = .ok (.aload_n 0, 1) := by decide +kernel
theorem dX12_fieldOf_184 : decode cX12_fieldOf 184 = .ok (.getfield 13, 3) := by decide +kernel
theorem dX12_fieldOf_187 : decode cX12_fieldOf 187 = .ok (.sipush 2234, 3) := by decide +kernel
theorem dX12_fieldOf_190 : decode cX12_fieldOf 190 = .ok (.iload_n 2, 1) := by decide +kernel
theorem dX12_fieldOf_191 : decode cX12_fieldOf 191 = .ok (.iadd, 1) := by decide +kernel
theorem dX12_fieldOf_192 : decode cX12_fieldOf 192 = .ok (.iaload, 1) := by decide +kernel
theorem dX12_fieldOf_193 : decode cX12_fieldOf 193 = .ok (.isub, 1) := by decide +kernel
theorem dX12_fieldOf_194 : decode cX12_fieldOf 194 = .ok (.ireturn, 1) := by decide +kernel
theorem dX12_fieldOf_195 : decode cX12_fieldOf 195 = .ok (.aload_n 0, 1) := by decide +kernel
theorem dX12_fieldOf_196 : decode cX12_fieldOf 196 = .ok (.getfield 13, 3) := by decide +kernel
theorem dX12_fieldOf_199 : decode cX12_fieldOf 199 = .ok (.iconst 1, 1) := by decide +kernel
theorem dX12_fieldOf_200 : decode cX12_fieldOf 200 = .ok (.iaload, 1) := by decide +kernel
theorem dX12_fieldOf_201 : decode cX12_fieldOf 201 = .ok (.bipush 10, 2) := by decide +kernel
theorem dX12_fieldOf_203 : decode cX12_fieldOf 203 = .ok (.irem, 1) := by decide +kernel
theorem dX12_fieldOf_204 : decode cX12_fieldOf 204 = .ok (.ireturn, 1) := by decide +kernel
theorem dX12_fieldOf_205 : decode cX12_fieldOf 205 = .ok (.aload_n 0, 1) := by decide +kernel
theorem dX12_fieldOf_206 : decode cX12_fieldOf 206 = .ok (.getfield 13, 3) := by decide +kernel
theorem dX12_fieldOf_209 : decode cX12_fieldOf 209 = .ok (.sipush 2250, 3) := by decide +kernel
theorem dX12_fieldOf_212 : decode cX12_fieldOf 212 = .ok (.iload_n 2, 1) := by decide +kernel
theorem dX12_fieldOf_213 : decode cX12_fieldOf 213 = .ok (.iadd, 1) := by decide +kernel
theorem dX12_fieldOf_214 : decode cX12_fieldOf 214 = .ok (.iaload, 1) := by decide +kernel
theorem dX12_fieldOf_215 : decode cX12_fieldOf 215 = .ok (.ifCond .ge 7, 3) := by decide +kernel
theorem dX12_fieldOf_218 : decode cX12_fieldOf 218 = .ok (.iconst 0, 1) := by decide +kernel
theorem dX12_fieldOf_219 : decode cX12_fieldOf 219 = .ok (.goto 13, 3) := by decide +kernel
theorem dX12_fieldOf_222 : decode cX12_fieldOf 222 = .ok (.aload_n 0, 1) := by decide +kernel
theorem dX12_fieldOf_223 : decode cX12_fieldOf 223 = .ok (.getfield 13, 3) := by decide +kernel
theorem dX12_fieldOf_226 : decode cX12_fieldOf 226 = .ok (.sipush 2250, 3) := by decide +kernel
theorem dX12_fieldOf_229 : decode cX12_fieldOf 229 = .ok (.iload_n 2, 1) := by decide +kernel
theorem dX12_fieldOf_230 : decode cX12_fieldOf 230 = .ok (.iadd, 1) := by decide +kernel
theorem dX12_fieldOf_231 : decode cX12_fieldOf 231 = .ok (.iaload, 1) := by decide +kernel
theorem dX12_fieldOf_232 : decode cX12_fieldOf 232 = .ok (.ireturn, 1) := by decide +kernel
theorem dX12_fieldOf_233 : decode cX12_fieldOf 233 = .ok (.aload_n 0, 1) := by decide +kernel
theorem dX12_fieldOf_234 : decode cX12_fieldOf 234 = .ok (.getfield 13, 3) := by decide +kernel
theorem dX12_fieldOf_237 : decode cX12_fieldOf 237 = .ok (.bipush 10, 2) := by decide +kernel
theorem dX12_fieldOf_239 : decode cX12_fieldOf 239 = .ok (.bipush 8, 2) := by decide +kernel
theorem dX12_fieldOf_241 : decode cX12_fieldOf 241 = .ok (.aload_n 0, 1) := by decide +kernel
theorem dX12_fieldOf_242 : decode cX12_fieldOf 242 = .ok (.getfield 13, 3) := by decide +kernel
theorem dX12_fieldOf_245 : decode cX12_fieldOf 245 = .ok (.sipush 2178, 3) := by decide +kernel
theorem dX12_fieldOf_248 : decode cX12_fieldOf 248 = .ok (.iload_n 2, 1) := by decide +kernel
theorem dX12_fieldOf_249 : decode cX12_fieldOf 249 = .ok (.iadd, 1) := by decide +kernel
theorem dX12_fieldOf_250 : decode cX12_fieldOf 250 = .ok (.iaload, 1) := by decide +kernel
theorem dX12_fieldOf_251 : decode cX12_fieldOf 251 = .ok (.imul, 1) := by decide +kernel
theorem dX12_fieldOf_252 : decode cX12_fieldOf 252 = .ok (.iadd, 1) := by decide +kernel
theorem dX12_fieldOf_253 : decode cX12_fieldOf 253 = .ok (.aload_n 0, 1) := by decide +kernel
theorem dX12_fieldOf_254 : decode cX12_fieldOf 254 = .ok (.getfield 13, 3) := by decide +kernel
theorem dX12_fieldOf_257 : decode cX12_fieldOf 257 = .ok (.sipush 2186, 3) := by decide +kernel
theorem dX12_fieldOf_260 : decode cX12_fieldOf 260 = .ok (.iload_n 2, 1) := by decide +kernel
theorem dX12_fieldOf_261 : decode cX12_fieldOf 261 = .ok (.iadd, 1) := by decide +kernel
theorem dX12_fieldOf_262 : decode cX12_fieldOf 262 = .ok (.iaload, 1) := by decide +kernel
theorem dX12_fieldOf_263 : decode cX12_fieldOf 263 = .ok (.iadd, 1) := by decide +kernel
theorem dX12_fieldOf_264 : decode cX12_fieldOf 264 = .ok (.iaload, 1) := by decide +kernel
theorem dX12_fieldOf_265 : decode cX12_fieldOf 265 = .ok (.ireturn, 1) := by decide +kernel
theorem dX12_takesCheck_0 : decode cX12_takesCheck 0 = .ok (.iconst 0, 1) := by decide +kernel
theorem dX12_takesCheck_1 : decode cX12_takesCheck 1 = .ok (.istore_n 2, 1) := by decide +kernel
theorem dX12_takesCheck_2 : decode cX12_takesCheck 2 = .ok (.aload_n 0, 1) := by decide +kernel
theorem dX12_takesCheck_3 : decode cX12_takesCheck 3 = .ok (.invokevirtual 194, 3) := by decide +kernel
theorem dX12_takesCheck_6 : decode cX12_takesCheck 6 = .ok (.bipush 33, 2) := by decide +kernel
theorem dX12_takesCheck_8 : decode cX12_takesCheck 8 = .ok (.if_icmp .ne 26, 3) := by decide +kernel
theorem dX12_takesCheck_11 : decode cX12_takesCheck 11 = .ok (.iload_n 2, 1) := by decide +kernel
theorem dX12_takesCheck_12 : decode cX12_takesCheck 12 = .ok (.ifCond .ne 7, 3) := by decide +kernel
theorem dX12_takesCheck_15 : decode cX12_takesCheck 15 = .ok (.iconst 1, 1) := by decide +kernel
theorem dX12_takesCheck_16 : decode cX12_takesCheck 16 = .ok (.goto 4, 3) := by decide +kernel
theorem dX12_takesCheck_19 : decode cX12_takesCheck 19 = .ok (.iconst 0, 1) := by decide +kernel
theorem dX12_takesCheck_20 : decode cX12_takesCheck 20 = .ok (.istore_n 2, 1) := by decide +kernel
theorem dX12_takesCheck_21 : decode cX12_takesCheck 21 = .ok (.aload_n 0, 1) := by decide +kernel
theorem dX12_takesCheck_22 : decode cX12_takesCheck 22 = .ok (.dup, 1) := by decide +kernel
theorem dX12_takesCheck_23 : decode cX12_takesCheck 23 = .ok (.getfield 48, 3) := by decide +kernel
theorem dX12_takesCheck_26 : decode cX12_takesCheck 26 = .ok (.iconst 1, 1) := by decide +kernel
theorem dX12_takesCheck_27 : decode cX12_takesCheck 27 = .ok (.iadd, 1) := by decide +kernel
theorem dX12_takesCheck_28 : decode cX12_takesCheck 28 = .ok (.putfield 48, 3) := by decide +kernel
theorem dX12_takesCheck_31 : decode cX12_takesCheck 31 = .ok (.goto (-29), 3) := by decide +kernel
theorem dX12_takesCheck_34 : decode cX12_takesCheck 34 = .ok (.aload_n 0, 1) := by decide +kernel
theorem dX12_takesCheck_35 : decode cX12_takesCheck 35 = .ok (.invokevirtual 194, 3) := by decide +kernel
theorem dX12_takesCheck_38 : decode cX12_takesCheck 38 = .ok (.istore_n 3, 1) := by decide +kernel
theorem dX12_takesCheck_39 : decode cX12_takesCheck 39 = .ok (.aload_n 0, 1) := by decide +kernel
theorem dX12_takesCheck_40 : decode cX12_takesCheck 40 = .ok (.iload_n 3, 1) := by decide +kernel
theorem dX12_takesCheck_41 : decode cX12_takesCheck 41 = .ok (.invokevirtual 198, 3) := by decide +kernel
theorem dX12_takesCheck_44 : decode cX12_takesCheck 44 = .ok (.ifCond .ne 5, 3) := by decide +kernel
theorem dX12_takesCheck_47 : decode cX12_takesCheck 47 = .ok (.iconst 0, 1) := by decide +kernel
theorem dX12_takesCheck_48 : decode cX12_takesCheck 48 = .ok (.ireturn, 1) := by decide +kernel
theorem dX12_takesCheck_49 : decode cX12_takesCheck 49 = .ok (.aload_n 0, 1) := by decide +kernel
theorem dX12_takesCheck_50 : decode cX12_takesCheck 50 = .ok (.iload_n 3, 1) := by decide +kernel
theorem dX12_takesCheck_51 : decode cX12_takesCheck 51 = .ok (.iload_n 1, 1) := by decide +kernel
theorem dX12_takesCheck_52 : decode cX12_takesCheck 52 = .ok (.invokevirtual 201, 3) := by decide +kernel
theorem dX12_takesCheck_55 : decode cX12_takesCheck 55 = .ok (.istore 4, 2) := by decide +kernel
theorem dX12_takesCheck_57 : decode cX12_takesCheck 57 = .ok (.aload_n 0, 1) := by decide +kernel
theorem dX12_takesCheck_58 : decode cX12_takesCheck 58 = .ok (.dup, 1) := by decide +kernel
theorem dX12_takesCheck_59 : decode cX12_takesCheck 59 = .ok (.getfield 48, 3) := by decide +kernel
theorem dX12_takesCheck_62 : decode cX12_takesCheck 62 = .ok (.iconst 1, 1) := by decide +kernel
theorem dX12_takesCheck_63 : decode cX12_takesCheck 63 = .ok (.iadd, 1) := by decide +kernel
theorem dX12_takesCheck_64 : decode cX12_takesCheck 64 = .ok (.putfield 48, 3) := by decide +kernel
theorem dX12_takesCheck_67 : decode cX12_takesCheck 67 = .ok (.aload_n 0, 1) := by decide +kernel
theorem dX12_takesCheck_68 : decode cX12_takesCheck 68 = .ok (.invokevirtual 194, 3) := by decide +kernel
theorem dX12_takesCheck_71 : decode cX12_takesCheck 71 = .ok (.istore 5, 2) := by decide +kernel
theorem dX12_takesCheck_73 : decode cX12_takesCheck 73 = .ok (.iload 5, 2) := by decide +kernel
theorem dX12_takesCheck_75 : decode cX12_takesCheck 75 = .ok (.bipush 60, 2) := by decide +kernel
theorem dX12_takesCheck_77 : decode cX12_takesCheck 77 = .ok (.if_icmp .eq 19, 3) := by decide +kernel
theorem dX12_takesCheck_80 : decode cX12_takesCheck 80 = .ok (.iload 5, 2) := by decide +kernel
theorem dX12_takesCheck_82 : decode cX12_takesCheck 82 = .ok (.bipush 61, 2) := by decide +kernel
theorem dX12_takesCheck_84 : decode cX12_takesCheck 84 = .ok (.if_icmp .eq 12, 3) := by decide +kernel
theorem dX12_takesCheck_87 : decode cX12_takesCheck 87 = .ok (.iload 5, 2) := by decide +kernel
theorem dX12_takesCheck_89 : decode cX12_takesCheck 89 = .ok (.bipush 62, 2) := by decide +kernel
theorem dX12_takesCheck_91 : decode cX12_takesCheck 91 = .ok (.if_icmp .eq 5, 3) := by decide +kernel
theorem dX12_takesCheck_94 : decode cX12_takesCheck 94 = .ok (.iconst 0, 1) := by decide +kernel
theorem dX12_takesCheck_95 : decode cX12_takesCheck 95 = .ok (.ireturn, 1) := by decide +kernel
theorem dX12_takesCheck_96 : decode cX12_takesCheck 96 = .ok (.aload_n 0, 1) := by decide +kernel
theorem dX12_takesCheck_97 : decode cX12_takesCheck 97 = .ok (.dup, 1) := by decide +kernel
theorem dX12_takesCheck_98 : decode cX12_takesCheck 98 = .ok (.getfield 48, 3) := by decide +kernel
theorem dX12_takesCheck_101 : decode cX12_takesCheck 101 = .ok (.iconst 1, 1) := by decide +kernel
theorem dX12_takesCheck_102 : decode cX12_takesCheck 102 = .ok (.iadd, 1) := by decide +kernel
theorem dX12_takesCheck_103 : decode cX12_takesCheck 103 = .ok (.putfield 48, 3) := by decide +kernel
theorem dX12_takesCheck_106 : decode cX12_takesCheck 106 = .ok (.aload_n 0, 1) := by decide +kernel
theorem dX12_takesCheck_107 : decode cX12_takesCheck 107 = .ok (.iconst 0, 1) := by decide +kernel
theorem dX12_takesCheck_108 : decode cX12_takesCheck 108 = .ok (.bipush 9, 2) := by decide +kernel
theorem dX12_takesCheck_110 : decode cX12_takesCheck 110 = .ok (.invokevirtual 204, 3) := by decide +kernel
theorem dX12_takesCheck_113 : decode cX12_takesCheck 113 = .ok (.ifCond .ne 5, 3) := by decide +kernel
theorem dX12_takesCheck_116 : decode cX12_takesCheck 116 = .ok (.iconst 0, 1) := by decide +kernel
theorem dX12_takesCheck_117 : decode cX12_takesCheck 117 = .ok (.ireturn, 1) := by decide +kernel
theorem dX12_takesCheck_118 : decode cX12_takesCheck 118 = .ok (.aload_n 0, 1) := by decide +kernel
theorem dX12_takesCheck_119 : decode cX12_takesCheck 119 = .ok (.getfield 54, 3) := by decide +kernel
theorem dX12_takesCheck_122 : decode cX12_takesCheck 122 = .ok (.istore 6, 2) := by decide +kernel
theorem dX12_takesCheck_124 : decode cX12_takesCheck 124 = .ok (.iconst 1, 1) := by decide +kernel
theorem dX12_takesCheck_125 : decode cX12_takesCheck 125 = .ok (.istore 7, 2) := by decide +kernel
theorem dX12_takesCheck_127 : decode cX12_takesCheck 127 = .ok (.iload 7, 2) := by decide +kernel
theorem dX12_takesCheck_129 : decode cX12_takesCheck 129 = .ok (.iconst 3, 1) := by decide +kernel
theorem dX12_takesCheck_130 : decode cX12_takesCheck 130 = .ok (.if_icmp .ge 54, 3) := by decide +kernel
theorem dX12_takesCheck_133 : decode cX12_takesCheck 133 = .ok (.iload 6, 2) := by decide +kernel
theorem dX12_takesCheck_135 : decode cX12_takesCheck 135 = .ok (.ifCond .le 49, 3) := by decide +kernel
theorem dX12_takesCheck_138 : decode cX12_takesCheck 138 = .ok (.aload_n 0, 1) := by decide +kernel
theorem dX12_takesCheck_139 : decode cX12_takesCheck 139 = .ok (.aload_n 0, 1) := by decide +kernel
theorem dX12_takesCheck_140 : decode cX12_takesCheck 140 = .ok (.invokevirtual 194, 3) := by decide +kernel
theorem dX12_takesCheck_143 : decode cX12_takesCheck 143 = .ok (.bipush 48, 2) := by decide +kernel
theorem dX12_takesCheck_145 : decode cX12_takesCheck 145 = .ok (.bipush 57, 2) := by decide +kernel
theorem dX12_takesCheck_147 : decode cX12_takesCheck 147 = .ok (.invokevirtual 123, 3) := by decide +kernel
theorem dX12_takesCheck_150 : decode cX12_takesCheck 150 = .ok (.ifCond .eq 34, 3) := by decide +kernel
theorem dX12_takesCheck_153 : decode cX12_takesCheck 153 = .ok (.bipush 10, 2) := by decide +kernel
theorem dX12_takesCheck_155 : decode cX12_takesCheck 155 = .ok (.iload 6, 2) := by decide +kernel
theorem dX12_takesCheck_157 : decode cX12_takesCheck 157 = .ok (.imul, 1) := by decide +kernel
theorem dX12_takesCheck_158 : decode cX12_takesCheck 158 = .ok (.aload_n 0, 1) := by decide +kernel
theorem dX12_takesCheck_159 : decode cX12_takesCheck 159 = .ok (.invokevirtual 194, 3) := by decide +kernel
theorem dX12_takesCheck_162 : decode cX12_takesCheck 162 = .ok (.iadd, 1) := by decide +kernel
theorem dX12_takesCheck_163 : decode cX12_takesCheck 163 = .ok (.bipush 48, 2) := by decide +kernel
theorem dX12_takesCheck_165 : decode cX12_takesCheck 165 = .ok (.isub, 1) := by decide +kernel
theorem dX12_takesCheck_166 : decode cX12_takesCheck 166 = .ok (.istore 6, 2) := by decide +kernel
theorem dX12_takesCheck_168 : decode cX12_takesCheck 168 = .ok (.aload_n 0, 1) := by decide +kernel
theorem dX12_takesCheck_169 : decode cX12_takesCheck 169 = .ok (.dup, 1) := by decide +kernel
theorem dX12_takesCheck_170 : decode cX12_takesCheck 170 = .ok (.getfield 48, 3) := by decide +kernel
theorem dX12_takesCheck_173 : decode cX12_takesCheck 173 = .ok (.iconst 1, 1) := by decide +kernel
theorem dX12_takesCheck_174 : decode cX12_takesCheck 174 = .ok (.iadd, 1) := by decide +kernel
theorem dX12_takesCheck_175 : decode cX12_takesCheck 175 = .ok (.putfield 48, 3) := by decide +kernel
theorem dX12_takesCheck_178 : decode cX12_takesCheck 178 = .ok (.iinc 7 1, 3) := by decide +kernel
theorem dX12_takesCheck_181 : decode cX12_takesCheck 181 = .ok (.goto (-54), 3) := by decide +kernel
theorem dX12_takesCheck_184 : decode cX12_takesCheck 184 = .ok (.iload 5, 2) := by decide +kernel
theorem dX12_takesCheck_186 : decode cX12_takesCheck 186 = .ok (.bipush 60, 2) := by decide +kernel
theorem dX12_takesCheck_188 : decode cX12_takesCheck 188 = .ok (.if_icmp .ne 18, 3) := by decide +kernel
theorem dX12_takesCheck_191 : decode cX12_takesCheck 191 = .ok (.iload 4, 2) := by decide +kernel
theorem dX12_takesCheck_193 : decode cX12_takesCheck 193 = .ok (.iload 6, 2) := by decide +kernel
theorem dX12_takesCheck_195 : decode cX12_takesCheck 195 = .ok (.if_icmp .ge 7, 3) := by decide +kernel
theorem dX12_takesCheck_198 : decode cX12_takesCheck 198 = .ok (.iconst 1, 1) := by decide +kernel
theorem dX12_takesCheck_199 : decode cX12_takesCheck 199 = .ok (.goto 41, 3) := by decide +kernel
theorem dX12_takesCheck_202 : decode cX12_takesCheck 202 = .ok (.iconst 0, 1) := by decide +kernel
theorem dX12_takesCheck_203 : decode cX12_takesCheck 203 = .ok (.goto 37, 3) := by decide +kernel
theorem dX12_takesCheck_206 : decode cX12_takesCheck 206 = .ok (.iload 5, 2) := by decide +kernel
theorem dX12_takesCheck_208 : decode cX12_takesCheck 208 = .ok (.bipush 61, 2) := by decide +kernel
theorem dX12_takesCheck_210 : decode cX12_takesCheck 210 = .ok (.if_icmp .ne 18, 3) := by decide +kernel
theorem dX12_takesCheck_213 : decode cX12_takesCheck 213 = .ok (.iload 4, 2) := by decide +kernel
theorem dX12_takesCheck_215 : decode cX12_takesCheck 215 = .ok (.iload 6, 2) := by decide +kernel
theorem dX12_takesCheck_217 : decode cX12_takesCheck 217 = .ok (.if_icmp .ne 7, 3) := by decide +kernel
theorem dX12_takesCheck_220 : decode cX12_takesCheck 220 = .ok (.iconst 1, 1) := by decide +kernel
theorem dX12_takesCheck_221 : decode cX12_takesCheck 221 = .ok (.goto 19, 3) := by decide +kernel
theorem dX12_takesCheck_224 : decode cX12_takesCheck 224 = .ok (.iconst 0, 1) := by decide +kernel
theorem dX12_takesCheck_225 : decode cX12_takesCheck 225 = .ok (.goto 15, 3) := by decide +kernel
theorem dX12_takesCheck_228 : decode cX12_takesCheck 228 = .ok (.iload 4, 2) := by decide +kernel
theorem dX12_takesCheck_230 : decode cX12_takesCheck 230 = .ok (.iload 6, 2) := by decide +kernel
theorem dX12_takesCheck_232 : decode cX12_takesCheck 232 = .ok (.if_icmp .le 7, 3) := by decide +kernel
theorem dX12_takesCheck_235 : decode cX12_takesCheck 235 = .ok (.iconst 1, 1) := by decide +kernel
theorem dX12_takesCheck_236 : decode cX12_takesCheck 236 = .ok (.goto 4, 3) := by decide +kernel
theorem dX12_takesCheck_239 : decode cX12_takesCheck 239 = .ok (.iconst 0, 1) := by decide +kernel
theorem dX12_takesCheck_240 : decode cX12_takesCheck 240 = .ok (.istore 7, 2) := by decide +kernel
theorem dX12_takesCheck_242 : decode cX12_takesCheck 242 = .ok (.aload_n 0, 1) := by decide +kernel
theorem dX12_takesCheck_243 : decode cX12_takesCheck 243 = .ok (.aload_n 0, 1) := by decide +kernel
theorem dX12_takesCheck_244 : decode cX12_takesCheck 244 = .ok (.getfield 57, 3) := by decide +kernel
theorem dX12_takesCheck_247 : decode cX12_takesCheck 247 = .ok (.ifCond .eq 13, 3) := by decide +kernel
theorem dX12_takesCheck_250 : decode cX12_takesCheck 250 = .ok (.iload 7, 2) := by decide +kernel
theorem dX12_takesCheck_252 : decode cX12_takesCheck 252 = .ok (.iload_n 2, 1) := by decide +kernel
theorem dX12_takesCheck_253 : decode cX12_takesCheck 253 = .ok (.if_icmp .eq 7, 3) := by decide +kernel
theorem dX12_takesCheck_256 : decode cX12_takesCheck 256 = .ok (.iconst 1, 1) := by decide +kernel
theorem dX12_takesCheck_257 : decode cX12_takesCheck 257 = .ok (.goto 4, 3) := by decide +kernel
theorem dX12_takesCheck_260 : decode cX12_takesCheck 260 = .ok (.iconst 0, 1) := by decide +kernel
theorem dX12_takesCheck_261 : decode cX12_takesCheck 261 = .ok (.putfield 57, 3) := by decide +kernel
theorem dX12_takesCheck_264 : decode cX12_takesCheck 264 = .ok (.iconst 1, 1) := by decide +kernel
theorem dX12_takesCheck_265 : decode cX12_takesCheck 265 = .ok (.ireturn, 1) := by decide +kernel
theorem dX12_takesTest_0 : decode cX12_takesTest 0 = .ok (.aload_n 0, 1) := by decide +kernel
theorem dX12_takesTest_1 : decode cX12_takesTest 1 = .ok (.iconst 1, 1) := by decide +kernel
theorem dX12_takesTest_2 : decode cX12_takesTest 2 = .ok (.putfield 57, 3) := by decide +kernel
theorem dX12_takesTest_5 : decode cX12_takesTest 5 = .ok (.aload_n 0, 1) := by decide +kernel
theorem dX12_takesTest_6 : decode cX12_takesTest 6 = .ok (.iload_n 1, 1) := by decide +kernel
theorem dX12_takesTest_7 : decode cX12_takesTest 7 = .ok (.invokevirtual 207, 3) := by decide +kernel
theorem dX12_takesTest_10 : decode cX12_takesTest 10 = .ok (.ifCond .ne 5, 3) := by decide +kernel
theorem dX12_takesTest_13 : decode cX12_takesTest 13 = .ok (.iconst 0, 1) := by decide +kernel
theorem dX12_takesTest_14 : decode cX12_takesTest 14 = .ok (.ireturn, 1) := by decide +kernel
theorem dX12_takesTest_15 : decode cX12_takesTest 15 = .ok (.aload_n 0, 1) := by decide +kernel
theorem dX12_takesTest_16 : decode cX12_takesTest 16 = .ok (.invokevirtual 194, 3) := by decide +kernel
theorem dX12_takesTest_19 : decode cX12_takesTest 19 = .ok (.bipush 38, 2) := by decide +kernel
theorem dX12_takesTest_21 : decode cX12_takesTest 21 = .ok (.if_icmp .ne 23, 3) := by decide +kernel
theorem dX12_takesTest_24 : decode cX12_takesTest 24 = .ok (.aload_n 0, 1) := by decide +kernel
theorem dX12_takesTest_25 : decode cX12_takesTest 25 = .ok (.dup, 1) := by decide +kernel
theorem dX12_takesTest_26 : decode cX12_takesTest 26 = .ok (.getfield 48, 3) := by decide +kernel
theorem dX12_takesTest_29 : decode cX12_takesTest 29 = .ok (.iconst 1, 1) := by decide +kernel
theorem dX12_takesTest_30 : decode cX12_takesTest 30 = .ok (.iadd, 1) := by decide +kernel
theorem dX12_takesTest_31 : decode cX12_takesTest 31 = .ok (.putfield 48, 3) := by decide +kernel
theorem dX12_takesTest_34 : decode cX12_takesTest 34 = .ok (.aload_n 0, 1) := by decide +kernel
theorem dX12_takesTest_35 : decode cX12_takesTest 35 = .ok (.iload_n 1, 1) := by decide +kernel
theorem dX12_takesTest_36 : decode cX12_takesTest 36 = .ok (.invokevirtual 207, 3) := by decide +kernel
theorem dX12_takesTest_39 : decode cX12_takesTest 39 = .ok (.ifCond .ne (-24), 3) := by decide +kernel
theorem dX12_takesTest_42 : decode cX12_takesTest 42 = .ok (.iconst 0, 1) := by decide +kernel
theorem dX12_takesTest_43 : decode cX12_takesTest 43 = .ok (.ireturn, 1) := by decide +kernel
theorem dX12_takesTest_44 : decode cX12_takesTest 44 = .ok (.iconst 1, 1) := by decide +kernel
theorem dX12_takesTest_45 : decode cX12_takesTest 45 = .ok (.ireturn, 1) := by decide +kernel
theorem dX12_takesAct_0 : decode cX12_takesAct 0 = .ok (.aload_n 0, 1) := by decide +kernel
theorem dX12_takesAct_1 : decode cX12_takesAct 1 = .ok (.invokevirtual 194, 3) := by decide +kernel
theorem dX12_takesAct_4 : decode cX12_takesAct 4 = .ok (.istore_n 2, 1) := by decide +kernel
theorem dX12_takesAct_5 : decode cX12_takesAct 5 = .ok (.iload_n 2, 1) := by decide +kernel
theorem dX12_takesAct_6 : decode cX12_takesAct 6 = .ok (.bipush 115, 2) := by decide +kernel
theorem dX12_takesAct_8 : decode cX12_takesAct 8 = .ok (.if_icmp .eq 17, 3) := by decide +kernel
theorem dX12_takesAct_11 : decode cX12_takesAct 11 = .ok (.iload_n 2, 1) := by decide +kernel
theorem dX12_takesAct_12 : decode cX12_takesAct 12 = .ok (.bipush 103, 2) := by decide +kernel
theorem dX12_takesAct_14 : decode cX12_takesAct 14 = .ok (.if_icmp .eq 11, 3) := by decide +kernel
theorem dX12_takesAct_17 : decode cX12_takesAct 17 = .ok (.iload_n 2, 1) := by decide +kernel
theorem dX12_takesAct_18 : decode cX12_takesAct 18 = .ok (.bipush 117, 2) := by decide +kernel
theorem dX12_takesAct_20 : decode cX12_takesAct 20 = .ok (.if_icmp .eq 5, 3) := by decide +kernel
theorem dX12_takesAct_23 : decode cX12_takesAct 23 = .ok (.iconst 0, 1) := by decide +kernel
theorem dX12_takesAct_24 : decode cX12_takesAct 24 = .ok (.ireturn, 1) := by decide +kernel
theorem dX12_takesAct_25 : decode cX12_takesAct 25 = .ok (.aload_n 0, 1) := by decide +kernel
theorem dX12_takesAct_26 : decode cX12_takesAct 26 = .ok (.dup, 1) := by decide +kernel
theorem dX12_takesAct_27 : decode cX12_takesAct 27 = .ok (.getfield 48, 3) := by decide +kernel
theorem dX12_takesAct_30 : decode cX12_takesAct 30 = .ok (.iconst 1, 1) := by decide +kernel
theorem dX12_takesAct_31 : decode cX12_takesAct 31 = .ok (.iadd, 1) := by decide +kernel
theorem dX12_takesAct_32 : decode cX12_takesAct 32 = .ok (.putfield 48, 3) := by decide +kernel
theorem dX12_takesAct_35 : decode cX12_takesAct 35 = .ok (.iconst 0, 1) := by decide +kernel
theorem dX12_takesAct_36 : decode cX12_takesAct 36 = .ok (.istore_n 3, 1) := by decide +kernel
theorem dX12_takesAct_37 : decode cX12_takesAct 37 = .ok (.iconst 0, 1) := by decide +kernel
theorem dX12_takesAct_38 : decode cX12_takesAct 38 = .ok (.istore 4, 2) := by decide +kernel
theorem dX12_takesAct_40 : decode cX12_takesAct 40 = .ok (.iconst 0, 1) := by decide +kernel
theorem dX12_takesAct_41 : decode cX12_takesAct 41 = .ok (.istore 5, 2) := by decide +kernel
theorem dX12_takesAct_43 : decode cX12_takesAct 43 = .ok (.iload_n 2, 1) := by decide +kernel
theorem dX12_takesAct_44 : decode cX12_takesAct 44 = .ok (.bipush 103, 2) := by decide +kernel
theorem dX12_takesAct_46 : decode cX12_takesAct 46 = .ok (.if_icmp .ne 38, 3) := by decide +kernel
theorem dX12_takesAct_49 : decode cX12_takesAct 49 = .ok (.aload_n 0, 1) := by decide +kernel
theorem dX12_takesAct_50 : decode cX12_takesAct 50 = .ok (.iconst 0, 1) := by decide +kernel
theorem dX12_takesAct_51 : decode cX12_takesAct 51 = .ok (.bipush 9, 2) := by decide +kernel
theorem dX12_takesAct_53 : decode cX12_takesAct 53 = .ok (.invokevirtual 204, 3) := by decide +kernel
theorem dX12_takesAct_56 : decode cX12_takesAct 56 = .ok (.ifCond .ne 5, 3) := by decide +kernel
theorem dX12_takesAct_59 : decode cX12_takesAct 59 = .ok (.iconst 0, 1) := by decide +kernel
theorem dX12_takesAct_60 : decode cX12_takesAct 60 = .ok (.ireturn, 1) := by decide +kernel
theorem dX12_takesAct_61 : decode cX12_takesAct 61 = .ok (.aload_n 0, 1) := by decide +kernel
theorem dX12_takesAct_62 : decode cX12_takesAct 62 = .ok (.getfield 54, 3) := by decide +kernel
theorem dX12_takesAct_65 : decode cX12_takesAct 65 = .ok (.istore_n 3, 1) := by decide +kernel
theorem dX12_takesAct_66 : decode cX12_takesAct 66 = .ok (.aload_n 0, 1) := by decide +kernel
theorem dX12_takesAct_67 : decode cX12_takesAct 67 = .ok (.iconst 0, 1) := by decide +kernel
theorem dX12_takesAct_68 : decode cX12_takesAct 68 = .ok (.bipush 7, 2) := by decide +kernel
theorem dX12_takesAct_70 : decode cX12_takesAct 70 = .ok (.invokevirtual 204, 3) := by decide +kernel
theorem dX12_takesAct_73 : decode cX12_takesAct 73 = .ok (.ifCond .ne 5, 3) := by decide +kernel
theorem dX12_takesAct_76 : decode cX12_takesAct 76 = .ok (.iconst 0, 1) := by decide +kernel
theorem dX12_takesAct_77 : decode cX12_takesAct 77 = .ok (.ireturn, 1) := by decide +kernel
theorem dX12_takesAct_78 : decode cX12_takesAct 78 = .ok (.aload_n 0, 1) := by decide +kernel
theorem dX12_takesAct_79 : decode cX12_takesAct 79 = .ok (.getfield 54, 3) := by decide +kernel
theorem dX12_takesAct_82 : decode cX12_takesAct 82 = .ok (.istore 4, 2) := by decide +kernel
theorem dX12_takesAct_84 : decode cX12_takesAct 84 = .ok (.iload_n 2, 1) := by decide +kernel
theorem dX12_takesAct_85 : decode cX12_takesAct 85 = .ok (.bipush 117, 2) := by decide +kernel
theorem dX12_takesAct_87 : decode cX12_takesAct 87 = .ok (.if_icmp .eq 20, 3) := by decide +kernel
theorem dX12_takesAct_90 : decode cX12_takesAct 90 = .ok (.aload_n 0, 1) := by decide +kernel
theorem dX12_takesAct_91 : decode cX12_takesAct 91 = .ok (.iconst 0, 1) := by decide +kernel
theorem dX12_takesAct_92 : decode cX12_takesAct 92 = .ok (.iconst 3, 1) := by decide +kernel
theorem dX12_takesAct_93 : decode cX12_takesAct 93 = .ok (.invokevirtual 204, 3) := by decide +kernel
theorem dX12_takesAct_96 : decode cX12_takesAct 96 = .ok (.ifCond .ne 5, 3) := by decide +kernel
theorem dX12_takesAct_99 : decode cX12_takesAct 99 = .ok (.iconst 0, 1) := by decide +kernel
theorem dX12_takesAct_100 : decode cX12_takesAct 100 = .ok (.ireturn, 1) := by decide +kernel
theorem dX12_takesAct_101 : decode cX12_takesAct 101 = .ok (.aload_n 0, 1) := by decide +kernel
theorem dX12_takesAct_102 : decode cX12_takesAct 102 = .ok (.getfield 54, 3) := by decide +kernel
theorem dX12_takesAct_105 : decode cX12_takesAct 105 = .ok (.istore 5, 2) := by decide +kernel
theorem dX12_takesAct_107 : decode cX12_takesAct 107 = .ok (.aload_n 0, 1) := by decide +kernel
theorem dX12_takesAct_108 : decode cX12_takesAct 108 = .ok (.getfield 57, 3) := by decide +kernel
theorem dX12_takesAct_111 : decode cX12_takesAct 111 = .ok (.ifCond .eq 10, 3) := by decide +kernel
theorem dX12_takesAct_114 : decode cX12_takesAct 114 = .ok (.aload_n 0, 1) := by decide +kernel
theorem dX12_takesAct_115 : decode cX12_takesAct 115 = .ok (.getfield 60, 3) := by decide +kernel
theorem dX12_takesAct_118 : decode cX12_takesAct 118 = .ok (.ifCond .lt 5, 3) := by decide +kernel
theorem dX12_takesAct_121 : decode cX12_takesAct 121 = .ok (.iconst 1, 1) := by decide +kernel
theorem dX12_takesAct_122 : decode cX12_takesAct 122 = .ok (.ireturn, 1) := by decide +kernel
theorem dX12_takesAct_123 : decode cX12_takesAct 123 = .ok (.aload_n 0, 1) := by decide +kernel
theorem dX12_takesAct_124 : decode cX12_takesAct 124 = .ok (.iload_n 1, 1) := by decide +kernel
theorem dX12_takesAct_125 : decode cX12_takesAct 125 = .ok (.putfield 60, 3) := by decide +kernel
theorem dX12_takesAct_128 : decode cX12_takesAct 128 = .ok (.aload_n 0, 1) := by decide +kernel
theorem dX12_takesAct_129 : decode cX12_takesAct 129 = .ok (.iload_n 2, 1) := by decide +kernel
theorem dX12_takesAct_130 : decode cX12_takesAct 130 = .ok (.putfield 63, 3) := by decide +kernel
theorem dX12_takesAct_133 : decode cX12_takesAct 133 = .ok (.aload_n 0, 1) := by decide +kernel
theorem dX12_takesAct_134 : decode cX12_takesAct 134 = .ok (.iload_n 3, 1) := by decide +kernel
theorem dX12_takesAct_135 : decode cX12_takesAct 135 = .ok (.putfield 66, 3) := by decide +kernel
theorem dX12_takesAct_138 : decode cX12_takesAct 138 = .ok (.aload_n 0, 1) := by decide +kernel
theorem dX12_takesAct_139 : decode cX12_takesAct 139 = .ok (.iload 4, 2) := by decide +kernel
theorem dX12_takesAct_141 : decode cX12_takesAct 141 = .ok (.putfield 69, 3) := by decide +kernel
theorem dX12_takesAct_144 : decode cX12_takesAct 144 = .ok (.aload_n 0, 1) := by decide +kernel
theorem dX12_takesAct_145 : decode cX12_takesAct 145 = .ok (.iload 5, 2) := by decide +kernel
theorem dX12_takesAct_147 : decode cX12_takesAct 147 = .ok (.putfield 72, 3) := by decide +kernel
theorem dX12_takesAct_150 : decode cX12_takesAct 150 = .ok (.iconst 1, 1) := by decide +kernel
theorem dX12_takesAct_151 : decode cX12_takesAct 151 = .ok (.ireturn, 1) := by decide +kernel
theorem dX12_goesOrder_0 : decode cX12_goesOrder 0 = .ok (.aload_n 0, 1) := by decide +kernel
theorem dX12_goesOrder_1 : decode cX12_goesOrder 1 = .ok (.iload_n 1, 1) := by decide +kernel
theorem dX12_goesOrder_2 : decode cX12_goesOrder 2 = .ok (.ifCond .ge 7, 3) := by decide +kernel
theorem dX12_goesOrder_5 : decode cX12_goesOrder 5 = .ok (.iconst 1, 1) := by decide +kernel
theorem dX12_goesOrder_6 : decode cX12_goesOrder 6 = .ok (.goto 4, 3) := by decide +kernel
theorem dX12_goesOrder_9 : decode cX12_goesOrder 9 = .ok (.iconst 0, 1) := by decide +kernel
theorem dX12_goesOrder_10 : decode cX12_goesOrder 10 = .ok (.putfield 51, 3) := by decide +kernel
theorem dX12_goesOrder_13 : decode cX12_goesOrder 13 = .ok (.aload_n 0, 1) := by decide +kernel
theorem dX12_goesOrder_14 : decode cX12_goesOrder 14 = .ok (.aload_n 0, 1) := by decide +kernel
theorem dX12_goesOrder_15 : decode cX12_goesOrder 15 = .ok (.getfield 51, 3) := by decide +kernel
theorem dX12_goesOrder_18 : decode cX12_goesOrder 18 = .ok (.ifCond .eq 7, 3) := by decide +kernel
theorem dX12_goesOrder_21 : decode cX12_goesOrder 21 = .ok (.iconst 0, 1) := by decide +kernel
theorem dX12_goesOrder_22 : decode cX12_goesOrder 22 = .ok (.goto 11, 3) := by decide +kernel
theorem dX12_goesOrder_25 : decode cX12_goesOrder 25 = .ok (.sipush 7559, 3) := by decide +kernel
theorem dX12_goesOrder_28 : decode cX12_goesOrder 28 = .ok (.bipush 80, 2) := by decide +kernel
theorem dX12_goesOrder_30 : decode cX12_goesOrder 30 = .ok (.iload_n 1, 1) := by decide +kernel
theorem dX12_goesOrder_31 : decode cX12_goesOrder 31 = .ok (.imul, 1) := by decide +kernel
theorem dX12_goesOrder_32 : decode cX12_goesOrder 32 = .ok (.iadd, 1) := by decide +kernel
theorem dX12_goesOrder_33 : decode cX12_goesOrder 33 = .ok (.putfield 42, 3) := by decide +kernel
theorem dX12_goesOrder_36 : decode cX12_goesOrder 36 = .ok (.aload_n 0, 1) := by decide +kernel
theorem dX12_goesOrder_37 : decode cX12_goesOrder 37 = .ok (.aload_n 0, 1) := by decide +kernel
theorem dX12_goesOrder_38 : decode cX12_goesOrder 38 = .ok (.getfield 51, 3) := by decide +kernel
theorem dX12_goesOrder_41 : decode cX12_goesOrder 41 = .ok (.ifCond .eq 10, 3) := by decide +kernel
theorem dX12_goesOrder_44 : decode cX12_goesOrder 44 = .ok (.aload_n 0, 1) := by decide +kernel
theorem dX12_goesOrder_45 : decode cX12_goesOrder 45 = .ok (.getfield 39, 3) := by decide +kernel
theorem dX12_goesOrder_48 : decode cX12_goesOrder 48 = .ok (.goto 13, 3) := by decide +kernel
theorem dX12_goesOrder_51 : decode cX12_goesOrder 51 = .ok (.aload_n 0, 1) := by decide +kernel
theorem dX12_goesOrder_52 : decode cX12_goesOrder 52 = .ok (.getfield 13, 3) := by decide +kernel
theorem dX12_goesOrder_55 : decode cX12_goesOrder 55 = .ok (.sipush 8359, 3) := by decide +kernel
theorem dX12_goesOrder_58 : decode cX12_goesOrder 58 = .ok (.iload_n 1, 1) := by decide +kernel
theorem dX12_goesOrder_59 : decode cX12_goesOrder 59 = .ok (.iadd, 1) := by decide +kernel
theorem dX12_goesOrder_60 : decode cX12_goesOrder 60 = .ok (.iaload, 1) := by decide +kernel
theorem dX12_goesOrder_61 : decode cX12_goesOrder 61 = .ok (.putfield 45, 3) := by decide +kernel
theorem dX12_goesOrder_64 : decode cX12_goesOrder 64 = .ok (.aload_n 0, 1) := by decide +kernel
theorem dX12_goesOrder_65 : decode cX12_goesOrder 65 = .ok (.iconst 0, 1) := by decide +kernel
theorem dX12_goesOrder_66 : decode cX12_goesOrder 66 = .ok (.putfield 48, 3) := by decide +kernel
theorem dX12_goesOrder_69 : decode cX12_goesOrder 69 = .ok (.aload_n 0, 1) := by decide +kernel
theorem dX12_goesOrder_70 : decode cX12_goesOrder 70 = .ok (.bipush (-4), 2) := by decide +kernel
theorem dX12_goesOrder_72 : decode cX12_goesOrder 72 = .ok (.putfield 60, 3) := by decide +kernel
theorem dX12_goesOrder_75 : decode cX12_goesOrder 75 = .ok (.iconst 0, 1) := by decide +kernel
theorem dX12_goesOrder_76 : decode cX12_goesOrder 76 = .ok (.istore_n 3, 1) := by decide +kernel
theorem dX12_goesOrder_77 : decode cX12_goesOrder 77 = .ok (.aload_n 0, 1) := by decide +kernel
theorem dX12_goesOrder_78 : decode cX12_goesOrder 78 = .ok (.getfield 48, 3) := by decide +kernel
theorem dX12_goesOrder_81 : decode cX12_goesOrder 81 = .ok (.aload_n 0, 1) := by decide +kernel
theorem dX12_goesOrder_82 : decode cX12_goesOrder 82 = .ok (.getfield 45, 3) := by decide +kernel
theorem dX12_goesOrder_85 : decode cX12_goesOrder 85 = .ok (.if_icmp .ge 73, 3) := by decide +kernel
theorem dX12_goesOrder_88 : decode cX12_goesOrder 88 = .ok (.iload_n 3, 1) := by decide +kernel
theorem dX12_goesOrder_89 : decode cX12_goesOrder 89 = .ok (.bipush 6, 2) := by decide +kernel
theorem dX12_goesOrder_91 : decode cX12_goesOrder 91 = .ok (.if_icmp .eq 20, 3) := by decide +kernel
theorem dX12_goesOrder_94 : decode cX12_goesOrder 94 = .ok (.aload_n 0, 1) := by decide +kernel
theorem dX12_goesOrder_95 : decode cX12_goesOrder 95 = .ok (.iload_n 2, 1) := by decide +kernel
theorem dX12_goesOrder_96 : decode cX12_goesOrder 96 = .ok (.invokevirtual 210, 3) := by decide +kernel
theorem dX12_goesOrder_99 : decode cX12_goesOrder 99 = .ok (.ifCond .eq 12, 3) := by decide +kernel
theorem dX12_goesOrder_102 : decode cX12_goesOrder 102 = .ok (.aload_n 0, 1) := by decide +kernel
theorem dX12_goesOrder_103 : decode cX12_goesOrder 103 = .ok (.invokevirtual 194, 3) := by decide +kernel
theorem dX12_goesOrder_106 : decode cX12_goesOrder 106 = .ok (.bipush 63, 2) := by decide +kernel
theorem dX12_goesOrder_108 : decode cX12_goesOrder 108 = .ok (.if_icmp .eq 5, 3) := by decide +kernel
theorem dX12_goesOrder_111 : decode cX12_goesOrder 111 = .ok (.iconst 0, 1) := by decide +kernel
theorem dX12_goesOrder_112 : decode cX12_goesOrder 112 = .ok (.ireturn, 1) := by decide +kernel
theorem dX12_goesOrder_113 : decode cX12_goesOrder 113 = .ok (.aload_n 0, 1) := by decide +kernel
theorem dX12_goesOrder_114 : decode cX12_goesOrder 114 = .ok (.dup, 1) := by decide +kernel
theorem dX12_goesOrder_115 : decode cX12_goesOrder 115 = .ok (.getfield 48, 3) := by decide +kernel
theorem dX12_goesOrder_118 : decode cX12_goesOrder 118 = .ok (.iconst 1, 1) := by decide +kernel
theorem dX12_goesOrder_119 : decode cX12_goesOrder 119 = .ok (.iadd, 1) := by decide +kernel
theorem dX12_goesOrder_120 : decode cX12_goesOrder 120 = .ok (.putfield 48, 3) := by decide +kernel
theorem dX12_goesOrder_123 : decode cX12_goesOrder 123 = .ok (.aload_n 0, 1) := by decide +kernel
theorem dX12_goesOrder_124 : decode cX12_goesOrder 124 = .ok (.iload_n 3, 1) := by decide +kernel
theorem dX12_goesOrder_125 : decode cX12_goesOrder 125 = .ok (.invokevirtual 213, 3) := by decide +kernel
theorem dX12_goesOrder_128 : decode cX12_goesOrder 128 = .ok (.ifCond .eq 12, 3) := by decide +kernel
theorem dX12_goesOrder_131 : decode cX12_goesOrder 131 = .ok (.aload_n 0, 1) := by decide +kernel
theorem dX12_goesOrder_132 : decode cX12_goesOrder 132 = .ok (.invokevirtual 194, 3) := by decide +kernel
theorem dX12_goesOrder_135 : decode cX12_goesOrder 135 = .ok (.bipush 59, 2) := by decide +kernel
theorem dX12_goesOrder_137 : decode cX12_goesOrder 137 = .ok (.if_icmp .eq 5, 3) := by decide +kernel
theorem dX12_goesOrder_140 : decode cX12_goesOrder 140 = .ok (.iconst 0, 1) := by decide +kernel
theorem dX12_goesOrder_141 : decode cX12_goesOrder 141 = .ok (.ireturn, 1) := by decide +kernel
theorem dX12_goesOrder_142 : decode cX12_goesOrder 142 = .ok (.aload_n 0, 1) := by decide +kernel
theorem dX12_goesOrder_143 : decode cX12_goesOrder 143 = .ok (.dup, 1) := by decide +kernel
theorem dX12_goesOrder_144 : decode cX12_goesOrder 144 = .ok (.getfield 48, 3) := by decide +kernel
theorem dX12_goesOrder_147 : decode cX12_goesOrder 147 = .ok (.iconst 1, 1) := by decide +kernel
theorem dX12_goesOrder_148 : decode cX12_goesOrder 148 = .ok (.iadd, 1) := by decide +kernel
theorem dX12_goesOrder_149 : decode cX12_goesOrder 149 = .ok (.putfield 48, 3) := by decide +kernel
theorem dX12_goesOrder_152 : decode cX12_goesOrder 152 = .ok (.iinc 3 1, 3) := by decide +kernel
theorem dX12_goesOrder_155 : decode cX12_goesOrder 155 = .ok (.goto (-78), 3) := by decide +kernel
theorem dX12_goesOrder_158 : decode cX12_goesOrder 158 = .ok (.iload_n 3, 1) := by decide +kernel
theorem dX12_goesOrder_159 : decode cX12_goesOrder 159 = .ok (.ifCond .le 7, 3) := by decide +kernel
theorem dX12_goesOrder_162 : decode cX12_goesOrder 162 = .ok (.iconst 1, 1) := by decide +kernel
theorem dX12_goesOrder_163 : decode cX12_goesOrder 163 = .ok (.goto 4, 3) := by decide +kernel
theorem dX12_goesOrder_166 : decode cX12_goesOrder 166 = .ok (.iconst 0, 1) := by decide +kernel
theorem dX12_goesOrder_167 : decode cX12_goesOrder 167 = .ok (.ireturn, 1) := by decide +kernel
theorem dX12_lacksText_0 : decode cX12_lacksText 0 = .ok (.aload_n 0, 1) := by decide +kernel
theorem dX12_lacksText_1 : decode cX12_lacksText 1 = .ok (.iload_n 1, 1) := by decide +kernel
theorem dX12_lacksText_2 : decode cX12_lacksText 2 = .ok (.iconst 0, 1) := by decide +kernel
theorem dX12_lacksText_3 : decode cX12_lacksText 3 = .ok (.bipush 7, 2) := by decide +kernel
theorem dX12_lacksText_5 : decode cX12_lacksText 5 = .ok (.invokevirtual 123, 3) := by decide +kernel
theorem dX12_lacksText_8 : decode cX12_lacksText 8 = .ok (.ifCond .ne 7, 3) := by decide +kernel
theorem dX12_lacksText_11 : decode cX12_lacksText 11 = .ok (.iconst (-1), 1) := by decide +kernel
theorem dX12_lacksText_12 : decode cX12_lacksText 12 = .ok (.goto 42, 3) := by decide +kernel
theorem dX12_lacksText_15 : decode cX12_lacksText 15 = .ok (.aload_n 0, 1) := by decide +kernel
theorem dX12_lacksText_16 : decode cX12_lacksText 16 = .ok (.getfield 96, 3) := by decide +kernel
theorem dX12_lacksText_19 : decode cX12_lacksText 19 = .ok (.iload_n 1, 1) := by decide +kernel
theorem dX12_lacksText_20 : decode cX12_lacksText 20 = .ok (.iaload, 1) := by decide +kernel
theorem dX12_lacksText_21 : decode cX12_lacksText 21 = .ok (.ifCond .ne 8, 3) := by decide +kernel
theorem dX12_lacksText_24 : decode cX12_lacksText 24 = .ok (.bipush (-11), 2) := by decide +kernel
theorem dX12_lacksText_26 : decode cX12_lacksText 26 = .ok (.goto 28, 3) := by decide +kernel
theorem dX12_lacksText_29 : decode cX12_lacksText 29 = .ok (.aload_n 0, 1) := by decide +kernel
theorem dX12_lacksText_30 : decode cX12_lacksText 30 = .ok (.getfield 96, 3) := by decide +kernel
theorem dX12_lacksText_33 : decode cX12_lacksText 33 = .ok (.iload_n 1, 1) := by decide +kernel
theorem dX12_lacksText_34 : decode cX12_lacksText 34 = .ok (.iaload, 1) := by decide +kernel
theorem dX12_lacksText_35 : decode cX12_lacksText 35 = .ok (.iconst 2, 1) := by decide +kernel
theorem dX12_lacksText_36 : decode cX12_lacksText 36 = .ok (.if_icmp .ne 12, 3) := by decide +kernel
theorem dX12_lacksText_39 : decode cX12_lacksText 39 = .ok (.aload_n 0, 1) := by decide +kernel
theorem dX12_lacksText_40 : decode cX12_lacksText 40 = .ok (.getfield 111, 3) := by decide +kernel
theorem dX12_lacksText_43 : decode cX12_lacksText 43 = .ok (.iload_n 1, 1) := by decide +kernel
theorem dX12_lacksText_44 : decode cX12_lacksText 44 = .ok (.iaload, 1) := by decide +kernel
theorem dX12_lacksText_45 : decode cX12_lacksText 45 = .ok (.ifCond .eq 8, 3) := by decide +kernel
theorem dX12_lacksText_48 : decode cX12_lacksText 48 = .ok (.bipush (-12), 2) := by decide +kernel
theorem dX12_lacksText_50 : decode cX12_lacksText 50 = .ok (.goto 4, 3) := by decide +kernel
theorem dX12_lacksText_53 : decode cX12_lacksText 53 = .ok (.iconst 0, 1) := by decide +kernel
theorem dX12_lacksText_54 : decode cX12_lacksText 54 = .ok (.ireturn, 1) := by decide +kernel
theorem dX12_bring_0 : decode cX12_bring 0 = .ok (.aload_n 0, 1) := by decide +kernel
theorem dX12_bring_1 : decode cX12_bring 1 = .ok (.aload_n 0, 1) := by decide +kernel
theorem dX12_bring_2 : decode cX12_bring 2 = .ok (.getfield 114, 3) := by decide +kernel
theorem dX12_bring_5 : decode cX12_bring 5 = .ok (.iload_n 1, 1) := by decide +kernel
theorem dX12_bring_6 : decode cX12_bring 6 = .ok (.iaload, 1) := by decide +kernel
theorem dX12_bring_7 : decode cX12_bring 7 = .ok (.putfield 39, 3) := by decide +kernel
theorem dX12_bring_10 : decode cX12_bring 10 = .ok (.iconst 0, 1) := by decide +kernel
theorem dX12_bring_11 : decode cX12_bring 11 = .ok (.istore_n 2, 1) := by decide +kernel
theorem dX12_bring_12 : decode cX12_bring 12 = .ok (.iload_n 2, 1) := by decide +kernel
theorem dX12_bring_13 : decode cX12_bring 13 = .ok (.aload_n 0, 1) := by decide +kernel
theorem dX12_bring_14 : decode cX12_bring 14 = .ok (.getfield 114, 3) := by decide +kernel
theorem dX12_bring_17 : decode cX12_bring 17 = .ok (.iload_n 1, 1) := by decide +kernel
theorem dX12_bring_18 : decode cX12_bring 18 = .ok (.iaload, 1) := by decide +kernel
theorem dX12_bring_19 : decode cX12_bring 19 = .ok (.if_icmp .ge 26, 3) := by decide +kernel
theorem dX12_bring_22 : decode cX12_bring 22 = .ok (.aload_n 0, 1) := by decide +kernel
theorem dX12_bring_23 : decode cX12_bring 23 = .ok (.getfield 36, 3) := by decide +kernel
theorem dX12_bring_26 : decode cX12_bring 26 = .ok (.iload_n 2, 1) := by decide +kernel
theorem dX12_bring_27 : decode cX12_bring 27 = .ok (.aload_n 0, 1) := by decide +kernel
theorem dX12_bring_28 : decode cX12_bring 28 = .ok (.getfield 117, 3) := by decide +kernel
theorem dX12_bring_31 : decode cX12_bring 31 = .ok (.bipush 80, 2) := by decide +kernel
theorem dX12_bring_33 : decode cX12_bring 33 = .ok (.iload_n 1, 1) := by decide +kernel
theorem dX12_bring_34 : decode cX12_bring 34 = .ok (.imul, 1) := by decide +kernel
theorem dX12_bring_35 : decode cX12_bring 35 = .ok (.iload_n 2, 1) := by decide +kernel
theorem dX12_bring_36 : decode cX12_bring 36 = .ok (.iadd, 1) := by decide +kernel
theorem dX12_bring_37 : decode cX12_bring 37 = .ok (.iaload, 1) := by decide +kernel
theorem dX12_bring_38 : decode cX12_bring 38 = .ok (.iastore, 1) := by decide +kernel
theorem dX12_bring_39 : decode cX12_bring 39 = .ok (.iinc 2 1, 3) := by decide +kernel
theorem dX12_bring_42 : decode cX12_bring 42 = .ok (.goto (-30), 3) := by decide +kernel
theorem dX12_bring_45 : decode cX12_bring 45 = .ok (.return_, 1) := by decide +kernel
theorem dX12_fault_0 : decode cX12_fault 0 = .ok (.aload_n 0, 1) := by decide +kernel
theorem dX12_fault_1 : decode cX12_fault 1 = .ok (.iload_n 1, 1) := by decide +kernel
theorem dX12_fault_2 : decode cX12_fault 2 = .ok (.invokevirtual 216, 3) := by decide +kernel
theorem dX12_fault_5 : decode cX12_fault 5 = .ok (.ifCond .eq 9, 3) := by decide +kernel
theorem dX12_fault_8 : decode cX12_fault 8 = .ok (.aload_n 0, 1) := by decide +kernel
theorem dX12_fault_9 : decode cX12_fault 9 = .ok (.iload_n 1, 1) := by decide +kernel
theorem dX12_fault_10 : decode cX12_fault 10 = .ok (.invokevirtual 216, 3) := by decide +kernel
theorem dX12_fault_13 : decode cX12_fault 13 = .ok (.ireturn, 1) := by decide +kernel
theorem dX12_fault_14 : decode cX12_fault 14 = .ok (.aload_n 0, 1) := by decide +kernel
theorem dX12_fault_15 : decode cX12_fault 15 = .ok (.iload_n 1, 1) := by decide +kernel
theorem dX12_fault_16 : decode cX12_fault 16 = .ok (.invokevirtual 219, 3) := by decide +kernel
theorem dX12_fault_19 : decode cX12_fault 19 = .ok (.aload_n 0, 1) := by decide +kernel
theorem dX12_fault_20 : decode cX12_fault 20 = .ok (.iconst (-1), 1) := by decide +kernel
theorem dX12_fault_21 : decode cX12_fault 21 = .ok (.iconst (-1), 1) := by decide +kernel
theorem dX12_fault_22 : decode cX12_fault 22 = .ok (.invokevirtual 222, 3) := by decide +kernel
theorem dX12_fault_25 : decode cX12_fault 25 = .ok (.ifCond .eq 8, 3) := by decide +kernel
theorem dX12_fault_28 : decode cX12_fault 28 = .ok (.bipush (-4), 2) := by decide +kernel
theorem dX12_fault_30 : decode cX12_fault 30 = .ok (.goto 7, 3) := by decide +kernel
theorem dX12_fault_33 : decode cX12_fault 33 = .ok (.aload_n 0, 1) := by decide +kernel
theorem dX12_fault_34 : decode cX12_fault 34 = .ok (.getfield 48, 3) := by decide +kernel
theorem dX12_fault_37 : decode cX12_fault 37 = .ok (.ireturn, 1) := by decide +kernel
theorem dX12_order_0 : decode cX12_order 0 = .ok (.aload_n 0, 1) := by decide +kernel
theorem dX12_order_1 : decode cX12_order 1 = .ok (.iload_n 1, 1) := by decide +kernel
theorem dX12_order_2 : decode cX12_order 2 = .ok (.iconst 0, 1) := by decide +kernel
theorem dX12_order_3 : decode cX12_order 3 = .ok (.bipush 7, 2) := by decide +kernel
theorem dX12_order_5 : decode cX12_order 5 = .ok (.invokevirtual 123, 3) := by decide +kernel
theorem dX12_order_8 : decode cX12_order 8 = .ok (.ifCond .ne 5, 3) := by decide +kernel
theorem dX12_order_11 : decode cX12_order 11 = .ok (.iconst (-1), 1) := by decide +kernel
theorem dX12_order_12 : decode cX12_order 12 = .ok (.ireturn, 1) := by decide +kernel
theorem dX12_order_13 : decode cX12_order 13 = .ok (.aload_n 0, 1) := by decide +kernel
theorem dX12_order_14 : decode cX12_order 14 = .ok (.getfield 13, 3) := by decide +kernel
theorem dX12_order_17 : decode cX12_order 17 = .ok (.iconst 4, 1) := by decide +kernel
theorem dX12_order_18 : decode cX12_order 18 = .ok (.iaload, 1) := by decide +kernel
theorem dX12_order_19 : decode cX12_order 19 = .ok (.istore_n 2, 1) := by decide +kernel
theorem dX12_order_20 : decode cX12_order 20 = .ok (.iload_n 2, 1) := by decide +kernel
theorem dX12_order_21 : decode cX12_order 21 = .ok (.bipush 10, 2) := by decide +kernel
theorem dX12_order_23 : decode cX12_order 23 = .ok (.if_icmp .ne 6, 3) := by decide +kernel
theorem dX12_order_26 : decode cX12_order 26 = .ok (.bipush (-2), 2) := by decide +kernel
theorem dX12_order_28 : decode cX12_order 28 = .ok (.ireturn, 1) := by decide +kernel
theorem dX12_order_29 : decode cX12_order 29 = .ok (.aload_n 0, 1) := by decide +kernel
theorem dX12_order_30 : decode cX12_order 30 = .ok (.iload_n 1, 1) := by decide +kernel
theorem dX12_order_31 : decode cX12_order 31 = .ok (.invokevirtual 216, 3) := by decide +kernel
theorem dX12_order_34 : decode cX12_order 34 = .ok (.ifCond .eq 9, 3) := by decide +kernel
theorem dX12_order_37 : decode cX12_order 37 = .ok (.aload_n 0, 1) := by decide +kernel
theorem dX12_order_38 : decode cX12_order 38 = .ok (.iload_n 1, 1) := by decide +kernel
theorem dX12_order_39 : decode cX12_order 39 = .ok (.invokevirtual 216, 3) := by decide +kernel
theorem dX12_order_42 : decode cX12_order 42 = .ok (.ireturn, 1) := by decide +kernel
theorem dX12_order_43 : decode cX12_order 43 = .ok (.aload_n 0, 1) := by decide +kernel
theorem dX12_order_44 : decode cX12_order 44 = .ok (.iload_n 1, 1) := by decide +kernel
theorem dX12_order_45 : decode cX12_order 45 = .ok (.invokevirtual 219, 3) := by decide +kernel
theorem dX12_order_48 : decode cX12_order 48 = .ok (.aload_n 0, 1) := by decide +kernel
theorem dX12_order_49 : decode cX12_order 49 = .ok (.iconst (-1), 1) := by decide +kernel
theorem dX12_order_50 : decode cX12_order 50 = .ok (.iconst (-1), 1) := by decide +kernel
theorem dX12_order_51 : decode cX12_order 51 = .ok (.invokevirtual 222, 3) := by decide +kernel
theorem dX12_order_54 : decode cX12_order 54 = .ok (.ifCond .ne 11, 3) := by decide +kernel
theorem dX12_order_57 : decode cX12_order 57 = .ok (.bipush (-100), 2) := by decide +kernel
theorem dX12_order_59 : decode cX12_order 59 = .ok (.aload_n 0, 1) := by decide +kernel
theorem dX12_order_60 : decode cX12_order 60 = .ok (.getfield 48, 3) := by decide +kernel
theorem dX12_order_63 : decode cX12_order 63 = .ok (.isub, 1) := by decide +kernel
theorem dX12_order_64 : decode cX12_order 64 = .ok (.ireturn, 1) := by decide +kernel
theorem dX12_order_65 : decode cX12_order 65 = .ok (.aload_n 0, 1) := by decide +kernel
theorem dX12_order_66 : decode cX12_order 66 = .ok (.getfield 13, 3) := by decide +kernel
theorem dX12_order_69 : decode cX12_order 69 = .ok (.sipush 8359, 3) := by decide +kernel
theorem dX12_order_72 : decode cX12_order 72 = .ok (.iload_n 2, 1) := by decide +kernel
theorem dX12_order_73 : decode cX12_order 73 = .ok (.iadd, 1) := by decide +kernel
theorem dX12_order_74 : decode cX12_order 74 = .ok (.aload_n 0, 1) := by decide +kernel
theorem dX12_order_75 : decode cX12_order 75 = .ok (.getfield 39, 3) := by decide +kernel
theorem dX12_order_78 : decode cX12_order 78 = .ok (.iastore, 1) := by decide +kernel
theorem dX12_order_79 : decode cX12_order 79 = .ok (.iconst 0, 1) := by decide +kernel
theorem dX12_order_80 : decode cX12_order 80 = .ok (.istore_n 3, 1) := by decide +kernel
theorem dX12_order_81 : decode cX12_order 81 = .ok (.iload_n 3, 1) := by decide +kernel
theorem dX12_order_82 : decode cX12_order 82 = .ok (.aload_n 0, 1) := by decide +kernel
theorem dX12_order_83 : decode cX12_order 83 = .ok (.getfield 39, 3) := by decide +kernel
theorem dX12_order_86 : decode cX12_order 86 = .ok (.if_icmp .ge 30, 3) := by decide +kernel
theorem dX12_order_89 : decode cX12_order 89 = .ok (.aload_n 0, 1) := by decide +kernel
theorem dX12_order_90 : decode cX12_order 90 = .ok (.getfield 13, 3) := by decide +kernel
theorem dX12_order_93 : decode cX12_order 93 = .ok (.sipush 7559, 3) := by decide +kernel
theorem dX12_order_96 : decode cX12_order 96 = .ok (.bipush 80, 2) := by decide +kernel
theorem dX12_order_98 : decode cX12_order 98 = .ok (.iload_n 2, 1) := by decide +kernel
theorem dX12_order_99 : decode cX12_order 99 = .ok (.imul, 1) := by decide +kernel
theorem dX12_order_100 : decode cX12_order 100 = .ok (.iadd, 1) := by decide +kernel
theorem dX12_order_101 : decode cX12_order 101 = .ok (.iload_n 3, 1) := by decide +kernel
theorem dX12_order_102 : decode cX12_order 102 = .ok (.iadd, 1) := by decide +kernel
theorem dX12_order_103 : decode cX12_order 103 = .ok (.aload_n 0, 1) := by decide +kernel
theorem dX12_order_104 : decode cX12_order 104 = .ok (.getfield 36, 3) := by decide +kernel
theorem dX12_order_107 : decode cX12_order 107 = .ok (.iload_n 3, 1) := by decide +kernel
theorem dX12_order_108 : decode cX12_order 108 = .ok (.iaload, 1) := by decide +kernel
theorem dX12_order_109 : decode cX12_order 109 = .ok (.iastore, 1) := by decide +kernel
theorem dX12_order_110 : decode cX12_order 110 = .ok (.iinc 3 1, 3) := by decide +kernel
theorem dX12_order_113 : decode cX12_order 113 = .ok (.goto (-32), 3) := by decide +kernel
theorem dX12_order_116 : decode cX12_order 116 = .ok (.aload_n 0, 1) := by decide +kernel
theorem dX12_order_117 : decode cX12_order 117 = .ok (.getfield 13, 3) := by decide +kernel
theorem dX12_order_120 : decode cX12_order 120 = .ok (.iconst 4, 1) := by decide +kernel
theorem dX12_order_121 : decode cX12_order 121 = .ok (.dup2, 1) := by decide +kernel
theorem dX12_order_122 : decode cX12_order 122 = .ok (.iaload, 1) := by decide +kernel
theorem dX12_order_123 : decode cX12_order 123 = .ok (.iconst 1, 1) := by decide +kernel
theorem dX12_order_124 : decode cX12_order 124 = .ok (.iadd, 1) := by decide +kernel
theorem dX12_order_125 : decode cX12_order 125 = .ok (.iastore, 1) := by decide +kernel
theorem dX12_order_126 : decode cX12_order 126 = .ok (.iload_n 2, 1) := by decide +kernel
theorem dX12_order_127 : decode cX12_order 127 = .ok (.ireturn, 1) := by decide +kernel
theorem dX12_letter_0 : decode cX12_letter 0 = .ok (.aload_n 0, 1) := by decide +kernel
theorem dX12_letter_1 : decode cX12_letter 1 = .ok (.iload_n 1, 1) := by decide +kernel
theorem dX12_letter_2 : decode cX12_letter 2 = .ok (.invokevirtual 142, 3) := by decide +kernel
theorem dX12_letter_5 : decode cX12_letter 5 = .ok (.ifCond .eq 20, 3) := by decide +kernel
theorem dX12_letter_8 : decode cX12_letter 8 = .ok (.aload_n 0, 1) := by decide +kernel
theorem dX12_letter_9 : decode cX12_letter 9 = .ok (.iload_n 2, 1) := by decide +kernel
theorem dX12_letter_10 : decode cX12_letter 10 = .ok (.iconst 0, 1) := by decide +kernel
theorem dX12_letter_11 : decode cX12_letter 11 = .ok (.aload_n 0, 1) := by decide +kernel
theorem dX12_letter_12 : decode cX12_letter 12 = .ok (.getfield 13, 3) := by decide +kernel
theorem dX12_letter_15 : decode cX12_letter 15 = .ok (.iconst 4, 1) := by decide +kernel
theorem dX12_letter_16 : decode cX12_letter 16 = .ok (.iaload, 1) := by decide +kernel
theorem dX12_letter_17 : decode cX12_letter 17 = .ok (.iconst 1, 1) := by decide +kernel
theorem dX12_letter_18 : decode cX12_letter 18 = .ok (.isub, 1) := by decide +kernel
theorem dX12_letter_19 : decode cX12_letter 19 = .ok (.invokevirtual 123, 3) := by decide +kernel
theorem dX12_letter_22 : decode cX12_letter 22 = .ok (.ifCond .ne 5, 3) := by decide +kernel
theorem dX12_letter_25 : decode cX12_letter 25 = .ok (.iconst (-1), 1) := by decide +kernel
theorem dX12_letter_26 : decode cX12_letter 26 = .ok (.ireturn, 1) := by decide +kernel
theorem dX12_letter_27 : decode cX12_letter 27 = .ok (.aload_n 0, 1) := by decide +kernel
theorem dX12_letter_28 : decode cX12_letter 28 = .ok (.getfield 13, 3) := by decide +kernel
theorem dX12_letter_31 : decode cX12_letter 31 = .ok (.iconst 3, 1) := by decide +kernel
theorem dX12_letter_32 : decode cX12_letter 32 = .ok (.iaload, 1) := by decide +kernel
theorem dX12_letter_33 : decode cX12_letter 33 = .ok (.istore_n 3, 1) := by decide +kernel
theorem dX12_letter_34 : decode cX12_letter 34 = .ok (.iload_n 3, 1) := by decide +kernel
theorem dX12_letter_35 : decode cX12_letter 35 = .ok (.bipush 60, 2) := by decide +kernel
theorem dX12_letter_37 : decode cX12_letter 37 = .ok (.if_icmp .ne 6, 3) := by decide +kernel
theorem dX12_letter_40 : decode cX12_letter 40 = .ok (.bipush (-2), 2) := by decide +kernel
theorem dX12_letter_42 : decode cX12_letter 42 = .ok (.ireturn, 1) := by decide +kernel
theorem dX12_letter_43 : decode cX12_letter 43 = .ok (.aload_n 0, 1) := by decide +kernel
theorem dX12_letter_44 : decode cX12_letter 44 = .ok (.getfield 13, 3) := by decide +kernel
theorem dX12_letter_47 : decode cX12_letter 47 = .ok (.sipush 3710, 3) := by decide +kernel
theorem dX12_letter_50 : decode cX12_letter 50 = .ok (.iload_n 3, 1) := by decide +kernel
theorem dX12_letter_51 : decode cX12_letter 51 = .ok (.iadd, 1) := by decide +kernel
theorem dX12_letter_52 : decode cX12_letter 52 = .ok (.iload_n 1, 1) := by decide +kernel
theorem dX12_letter_53 : decode cX12_letter 53 = .ok (.iastore, 1) := by decide +kernel
theorem dX12_letter_54 : decode cX12_letter 54 = .ok (.aload_n 0, 1) := by decide +kernel
theorem dX12_letter_55 : decode cX12_letter 55 = .ok (.getfield 13, 3) := by decide +kernel
theorem dX12_letter_58 : decode cX12_letter 58 = .ok (.sipush 3770, 3) := by decide +kernel
theorem dX12_letter_61 : decode cX12_letter 61 = .ok (.iload_n 3, 1) := by decide +kernel
theorem dX12_letter_62 : decode cX12_letter 62 = .ok (.iadd, 1) := by decide +kernel
theorem dX12_letter_63 : decode cX12_letter 63 = .ok (.iload_n 2, 1) := by decide +kernel
theorem dX12_letter_64 : decode cX12_letter 64 = .ok (.iastore, 1) := by decide +kernel
theorem dX12_letter_65 : decode cX12_letter 65 = .ok (.aload_n 0, 1) := by decide +kernel
theorem dX12_letter_66 : decode cX12_letter 66 = .ok (.getfield 13, 3) := by decide +kernel
theorem dX12_letter_69 : decode cX12_letter 69 = .ok (.sipush 3830, 3) := by decide +kernel
theorem dX12_letter_72 : decode cX12_letter 72 = .ok (.iload_n 3, 1) := by decide +kernel
theorem dX12_letter_73 : decode cX12_letter 73 = .ok (.iadd, 1) := by decide +kernel
theorem dX12_letter_74 : decode cX12_letter 74 = .ok (.aload_n 0, 1) := by decide +kernel
theorem dX12_letter_75 : decode cX12_letter 75 = .ok (.getfield 13, 3) := by decide +kernel
theorem dX12_letter_78 : decode cX12_letter 78 = .ok (.iconst 1, 1) := by decide +kernel
theorem dX12_letter_79 : decode cX12_letter 79 = .ok (.iaload, 1) := by decide +kernel
theorem dX12_letter_80 : decode cX12_letter 80 = .ok (.iastore, 1) := by decide +kernel
theorem dX12_letter_81 : decode cX12_letter 81 = .ok (.aload_n 0, 1) := by decide +kernel
theorem dX12_letter_82 : decode cX12_letter 82 = .ok (.getfield 13, 3) := by decide +kernel
theorem dX12_letter_85 : decode cX12_letter 85 = .ok (.sipush 3890, 3) := by decide +kernel
theorem dX12_letter_88 : decode cX12_letter 88 = .ok (.iload_n 3, 1) := by decide +kernel
theorem dX12_letter_89 : decode cX12_letter 89 = .ok (.iadd, 1) := by decide +kernel
theorem dX12_letter_90 : decode cX12_letter 90 = .ok (.iconst 0, 1) := by decide +kernel
theorem dX12_letter_91 : decode cX12_letter 91 = .ok (.iastore, 1) := by decide +kernel
theorem dX12_letter_92 : decode cX12_letter 92 = .ok (.aload_n 0, 1) := by decide +kernel
theorem dX12_letter_93 : decode cX12_letter 93 = .ok (.getfield 13, 3) := by decide +kernel
theorem dX12_letter_96 : decode cX12_letter 96 = .ok (.iconst 3, 1) := by decide +kernel
theorem dX12_letter_97 : decode cX12_letter 97 = .ok (.dup2, 1) := by decide +kernel
theorem dX12_letter_98 : decode cX12_letter 98 = .ok (.iaload, 1) := by decide +kernel
theorem dX12_letter_99 : decode cX12_letter 99 = .ok (.iconst 1, 1) := by decide +kernel
theorem dX12_letter_100 : decode cX12_letter 100 = .ok (.iadd, 1) := by decide +kernel
theorem dX12_letter_101 : decode cX12_letter 101 = .ok (.iastore, 1) := by decide +kernel
theorem dX12_letter_102 : decode cX12_letter 102 = .ok (.aload_n 0, 1) := by decide +kernel
theorem dX12_letter_103 : decode cX12_letter 103 = .ok (.getfield 13, 3) := by decide +kernel
theorem dX12_letter_106 : decode cX12_letter 106 = .ok (.iconst 3, 1) := by decide +kernel
theorem dX12_letter_107 : decode cX12_letter 107 = .ok (.iaload, 1) := by decide +kernel
theorem dX12_letter_108 : decode cX12_letter 108 = .ok (.ireturn, 1) := by decide +kernel
theorem dX12_waiting_0 : decode cX12_waiting 0 = .ok (.aload_n 0, 1) := by decide +kernel
theorem dX12_waiting_1 : decode cX12_waiting 1 = .ok (.iload_n 1, 1) := by decide +kernel
theorem dX12_waiting_2 : decode cX12_waiting 2 = .ok (.invokevirtual 142, 3) := by decide +kernel
theorem dX12_waiting_5 : decode cX12_waiting 5 = .ok (.ifCond .ne 5, 3) := by decide +kernel
theorem dX12_waiting_8 : decode cX12_waiting 8 = .ok (.iconst (-1), 1) := by decide +kernel
theorem dX12_waiting_9 : decode cX12_waiting 9 = .ok (.ireturn, 1) := by decide +kernel
theorem dX12_waiting_10 : decode cX12_waiting 10 = .ok (.iconst 0, 1) := by decide +kernel
theorem dX12_waiting_11 : decode cX12_waiting 11 = .ok (.istore_n 2, 1) := by decide +kernel
theorem dX12_waiting_12 : decode cX12_waiting 12 = .ok (.iconst 0, 1) := by decide +kernel
theorem dX12_waiting_13 : decode cX12_waiting 13 = .ok (.istore_n 3, 1) := by decide +kernel
theorem dX12_waiting_14 : decode cX12_waiting 14 = .ok (.iload_n 3, 1) := by decide +kernel
theorem dX12_waiting_15 : decode cX12_waiting 15 = .ok (.aload_n 0, 1) := by decide +kernel
theorem dX12_waiting_16 : decode cX12_waiting 16 = .ok (.getfield 13, 3) := by decide +kernel
theorem dX12_waiting_19 : decode cX12_waiting 19 = .ok (.iconst 3, 1) := by decide +kernel
theorem dX12_waiting_20 : decode cX12_waiting 20 = .ok (.iaload, 1) := by decide +kernel
theorem dX12_waiting_21 : decode cX12_waiting 21 = .ok (.if_icmp .ge 44, 3) := by decide +kernel
theorem dX12_waiting_24 : decode cX12_waiting 24 = .ok (.iload_n 2, 1) := by decide +kernel
theorem dX12_waiting_25 : decode cX12_waiting 25 = .ok (.aload_n 0, 1) := by decide +kernel
theorem dX12_waiting_26 : decode cX12_waiting 26 = .ok (.getfield 13, 3) := by decide +kernel
theorem dX12_waiting_29 : decode cX12_waiting 29 = .ok (.sipush 3710, 3) := by decide +kernel
theorem dX12_waiting_32 : decode cX12_waiting 32 = .ok (.iload_n 3, 1) := by decide +kernel
theorem dX12_waiting_33 : decode cX12_waiting 33 = .ok (.iadd, 1) := by decide +kernel
theorem dX12_waiting_34 : decode cX12_waiting 34 = .ok (.iaload, 1) := by decide +kernel
theorem dX12_waiting_35 : decode cX12_waiting 35 = .ok (.iload_n 1, 1) := by decide +kernel
theorem dX12_waiting_36 : decode cX12_waiting 36 = .ok (.if_icmp .ne 20, 3) := by decide +kernel
theorem dX12_waiting_39 : decode cX12_waiting 39 = .ok (.aload_n 0, 1) := by decide +kernel
theorem dX12_waiting_40 : decode cX12_waiting 40 = .ok (.getfield 13, 3) := by decide +kernel
theorem dX12_waiting_43 : decode cX12_waiting 43 = .ok (.sipush 3890, 3) := by decide +kernel
theorem dX12_waiting_46 : decode cX12_waiting 46 = .ok (.iload_n 3, 1) := by decide +kernel
theorem dX12_waiting_47 : decode cX12_waiting 47 = .ok (.iadd, 1) := by decide +kernel
theorem dX12_waiting_48 : decode cX12_waiting 48 = .ok (.iaload, 1) := by decide +kernel
theorem dX12_waiting_49 : decode cX12_waiting 49 = .ok (.ifCond .ne 7, 3) := by decide +kernel
theorem dX12_waiting_52 : decode cX12_waiting 52 = .ok (.iconst 1, 1) := by decide +kernel
theorem dX12_waiting_53 : decode cX12_waiting 53 = .ok (.goto 4, 3) := by decide +kernel
theorem dX12_waiting_56 : decode cX12_waiting 56 = .ok (.iconst 0, 1) := by decide +kernel
theorem dX12_waiting_57 : decode cX12_waiting 57 = .ok (.iadd, 1) := by decide +kernel
theorem dX12_waiting_58 : decode cX12_waiting 58 = .ok (.istore_n 2, 1) := by decide +kernel
theorem dX12_waiting_59 : decode cX12_waiting 59 = .ok (.iinc 3 1, 3) := by decide +kernel
theorem dX12_waiting_62 : decode cX12_waiting 62 = .ok (.goto (-48), 3) := by decide +kernel
theorem dX12_waiting_65 : decode cX12_waiting 65 = .ok (.iload_n 2, 1) := by decide +kernel
theorem dX12_waiting_66 : decode cX12_waiting 66 = .ok (.ireturn, 1) := by decide +kernel
theorem dX12_deaf_0 : decode cX12_deaf 0 = .ok (.aload_n 0, 1) := by decide +kernel
theorem dX12_deaf_1 : decode cX12_deaf 1 = .ok (.iload_n 1, 1) := by decide +kernel
theorem dX12_deaf_2 : decode cX12_deaf 2 = .ok (.iconst 0, 1) := by decide +kernel
theorem dX12_deaf_3 : decode cX12_deaf 3 = .ok (.sipush 400, 3) := by decide +kernel
theorem dX12_deaf_6 : decode cX12_deaf 6 = .ok (.invokevirtual 123, 3) := by decide +kernel
theorem dX12_deaf_9 : decode cX12_deaf 9 = .ok (.ifCond .ne 5, 3) := by decide +kernel
theorem dX12_deaf_12 : decode cX12_deaf 12 = .ok (.iconst (-1), 1) := by decide +kernel
theorem dX12_deaf_13 : decode cX12_deaf 13 = .ok (.ireturn, 1) := by decide +kernel
theorem dX12_deaf_14 : decode cX12_deaf 14 = .ok (.aload_n 0, 1) := by decide +kernel
theorem dX12_deaf_15 : decode cX12_deaf 15 = .ok (.getfield 13, 3) := by decide +kernel
theorem dX12_deaf_18 : decode cX12_deaf 18 = .ok (.sipush 3950, 3) := by decide +kernel
theorem dX12_deaf_21 : decode cX12_deaf 21 = .ok (.iload_n 1, 1) := by decide +kernel
theorem dX12_deaf_22 : decode cX12_deaf 22 = .ok (.iadd, 1) := by decide +kernel
theorem dX12_deaf_23 : decode cX12_deaf 23 = .ok (.iaload, 1) := by decide +kernel
theorem dX12_deaf_24 : decode cX12_deaf 24 = .ok (.istore_n 3, 1) := by decide +kernel
theorem dX12_deaf_25 : decode cX12_deaf 25 = .ok (.aload_n 0, 1) := by decide +kernel
theorem dX12_deaf_26 : decode cX12_deaf 26 = .ok (.getfield 13, 3) := by decide +kernel
theorem dX12_deaf_29 : decode cX12_deaf 29 = .ok (.sipush 3950, 3) := by decide +kernel
theorem dX12_deaf_32 : decode cX12_deaf 32 = .ok (.iload_n 1, 1) := by decide +kernel
theorem dX12_deaf_33 : decode cX12_deaf 33 = .ok (.iadd, 1) := by decide +kernel
theorem dX12_deaf_34 : decode cX12_deaf 34 = .ok (.iload_n 2, 1) := by decide +kernel
theorem dX12_deaf_35 : decode cX12_deaf 35 = .ok (.ifCond .eq 7, 3) := by decide +kernel
theorem dX12_deaf_38 : decode cX12_deaf 38 = .ok (.iconst 1, 1) := by decide +kernel
theorem dX12_deaf_39 : decode cX12_deaf 39 = .ok (.goto 4, 3) := by decide +kernel
theorem dX12_deaf_42 : decode cX12_deaf 42 = .ok (.iconst 0, 1) := by decide +kernel
theorem dX12_deaf_43 : decode cX12_deaf 43 = .ok (.iastore, 1) := by decide +kernel
theorem dX12_deaf_44 : decode cX12_deaf 44 = .ok (.iload_n 3, 1) := by decide +kernel
theorem dX12_deaf_45 : decode cX12_deaf 45 = .ok (.aload_n 0, 1) := by decide +kernel
theorem dX12_deaf_46 : decode cX12_deaf 46 = .ok (.getfield 13, 3) := by decide +kernel
theorem dX12_deaf_49 : decode cX12_deaf 49 = .ok (.sipush 3950, 3) := by decide +kernel
theorem dX12_deaf_52 : decode cX12_deaf 52 = .ok (.iload_n 1, 1) := by decide +kernel
theorem dX12_deaf_53 : decode cX12_deaf 53 = .ok (.iadd, 1) := by decide +kernel
theorem dX12_deaf_54 : decode cX12_deaf 54 = .ok (.iaload, 1) := by decide +kernel
theorem dX12_deaf_55 : decode cX12_deaf 55 = .ok (.if_icmp .ne 7, 3) := by decide +kernel
theorem dX12_deaf_58 : decode cX12_deaf 58 = .ok (.iconst 0, 1) := by decide +kernel
theorem dX12_deaf_59 : decode cX12_deaf 59 = .ok (.goto 4, 3) := by decide +kernel
theorem dX12_deaf_62 : decode cX12_deaf 62 = .ok (.iconst 1, 1) := by decide +kernel
theorem dX12_deaf_63 : decode cX12_deaf 63 = .ok (.ireturn, 1) := by decide +kernel
theorem dX12_rule_0 : decode cX12_rule 0 = .ok (.aload_n 0, 1) := by decide +kernel
theorem dX12_rule_1 : decode cX12_rule 1 = .ok (.iload_n 1, 1) := by decide +kernel
theorem dX12_rule_2 : decode cX12_rule 2 = .ok (.invokevirtual 142, 3) := by decide +kernel
theorem dX12_rule_5 : decode cX12_rule 5 = .ok (.ifCond .ne 5, 3) := by decide +kernel
theorem dX12_rule_8 : decode cX12_rule 8 = .ok (.iconst (-1), 1) := by decide +kernel
theorem dX12_rule_9 : decode cX12_rule 9 = .ok (.ireturn, 1) := by decide +kernel
theorem dX12_rule_10 : decode cX12_rule 10 = .ok (.aload_n 0, 1) := by decide +kernel
theorem dX12_rule_11 : decode cX12_rule 11 = .ok (.iload_n 1, 1) := by decide +kernel
theorem dX12_rule_12 : decode cX12_rule 12 = .ok (.invokevirtual 187, 3) := by decide +kernel
theorem dX12_rule_15 : decode cX12_rule 15 = .ok (.ifCond .eq 16, 3) := by decide +kernel
theorem dX12_rule_18 : decode cX12_rule 18 = .ok (.aload_n 0, 1) := by decide +kernel
theorem dX12_rule_19 : decode cX12_rule 19 = .ok (.getfield 13, 3) := by decide +kernel
theorem dX12_rule_22 : decode cX12_rule 22 = .ok (.sipush 2226, 3) := by decide +kernel
theorem dX12_rule_25 : decode cX12_rule 25 = .ok (.iload_n 1, 1) := by decide +kernel
theorem dX12_rule_26 : decode cX12_rule 26 = .ok (.iadd, 1) := by decide +kernel
theorem dX12_rule_27 : decode cX12_rule 27 = .ok (.iaload, 1) := by decide +kernel
theorem dX12_rule_28 : decode cX12_rule 28 = .ok (.ifCond .ge 6, 3) := by decide +kernel
theorem dX12_rule_31 : decode cX12_rule 31 = .ok (.bipush (-3), 2) := by decide +kernel
theorem dX12_rule_33 : decode cX12_rule 33 = .ok (.ireturn, 1) := by decide +kernel
theorem dX12_rule_34 : decode cX12_rule 34 = .ok (.aload_n 0, 1) := by decide +kernel
theorem dX12_rule_35 : decode cX12_rule 35 = .ok (.aload_n 0, 1) := by decide +kernel
theorem dX12_rule_36 : decode cX12_rule 36 = .ok (.getfield 13, 3) := by decide +kernel
theorem dX12_rule_39 : decode cX12_rule 39 = .ok (.sipush 2226, 3) := by decide +kernel
theorem dX12_rule_42 : decode cX12_rule 42 = .ok (.iload_n 1, 1) := by decide +kernel
theorem dX12_rule_43 : decode cX12_rule 43 = .ok (.iadd, 1) := by decide +kernel
theorem dX12_rule_44 : decode cX12_rule 44 = .ok (.iaload, 1) := by decide +kernel
theorem dX12_rule_45 : decode cX12_rule 45 = .ok (.iload_n 1, 1) := by decide +kernel
theorem dX12_rule_46 : decode cX12_rule 46 = .ok (.invokevirtual 222, 3) := by decide +kernel
theorem dX12_rule_49 : decode cX12_rule 49 = .ok (.ifCond .eq 10, 3) := by decide +kernel
theorem dX12_rule_52 : decode cX12_rule 52 = .ok (.aload_n 0, 1) := by decide +kernel
theorem dX12_rule_53 : decode cX12_rule 53 = .ok (.getfield 60, 3) := by decide +kernel
theorem dX12_rule_56 : decode cX12_rule 56 = .ok (.goto 5, 3) := by decide +kernel
theorem dX12_rule_59 : decode cX12_rule 59 = .ok (.bipush (-4), 2) := by decide +kernel
theorem dX12_rule_61 : decode cX12_rule 61 = .ok (.ireturn, 1) := by decide +kernel
theorem dX12_hears_0 : decode cX12_hears 0 = .ok (.aload_n 0, 1) := by decide +kernel
theorem dX12_hears_1 : decode cX12_hears 1 = .ok (.getfield 13, 3) := by decide +kernel
theorem dX12_hears_4 : decode cX12_hears 4 = .ok (.sipush 2234, 3) := by decide +kernel
theorem dX12_hears_7 : decode cX12_hears 7 = .ok (.iload_n 1, 1) := by decide +kernel
theorem dX12_hears_8 : decode cX12_hears 8 = .ok (.iadd, 1) := by decide +kernel
theorem dX12_hears_9 : decode cX12_hears 9 = .ok (.aload_n 0, 1) := by decide +kernel
theorem dX12_hears_10 : decode cX12_hears 10 = .ok (.getfield 13, 3) := by decide +kernel
theorem dX12_hears_13 : decode cX12_hears 13 = .ok (.iconst 1, 1) := by decide +kernel
theorem dX12_hears_14 : decode cX12_hears 14 = .ok (.iaload, 1) := by decide +kernel
theorem dX12_hears_15 : decode cX12_hears 15 = .ok (.iastore, 1) := by decide +kernel
theorem dX12_hears_16 : decode cX12_hears 16 = .ok (.aload_n 0, 1) := by decide +kernel
theorem dX12_hears_17 : decode cX12_hears 17 = .ok (.getfield 13, 3) := by decide +kernel
theorem dX12_hears_20 : decode cX12_hears 20 = .ok (.sipush 4351, 3) := by decide +kernel
theorem dX12_hears_23 : decode cX12_hears 23 = .ok (.sipush 401, 3) := by decide +kernel
theorem dX12_hears_26 : decode cX12_hears 26 = .ok (.iload_n 1, 1) := by decide +kernel
theorem dX12_hears_27 : decode cX12_hears 27 = .ok (.imul, 1) := by decide +kernel
theorem dX12_hears_28 : decode cX12_hears 28 = .ok (.iadd, 1) := by decide +kernel
theorem dX12_hears_29 : decode cX12_hears 29 = .ok (.aload_n 0, 1) := by decide +kernel
theorem dX12_hears_30 : decode cX12_hears 30 = .ok (.getfield 13, 3) := by decide +kernel
theorem dX12_hears_33 : decode cX12_hears 33 = .ok (.iconst 1, 1) := by decide +kernel
theorem dX12_hears_34 : decode cX12_hears 34 = .ok (.iaload, 1) := by decide +kernel
theorem dX12_hears_35 : decode cX12_hears 35 = .ok (.iadd, 1) := by decide +kernel
theorem dX12_hears_36 : decode cX12_hears 36 = .ok (.bipush 8, 2) := by decide +kernel
theorem dX12_hears_38 : decode cX12_hears 38 = .ok (.aload_n 0, 1) := by decide +kernel
theorem dX12_hears_39 : decode cX12_hears 39 = .ok (.getfield 13, 3) := by decide +kernel
theorem dX12_hears_42 : decode cX12_hears 42 = .ok (.sipush 2178, 3) := by decide +kernel
theorem dX12_hears_45 : decode cX12_hears 45 = .ok (.iload_n 1, 1) := by decide +kernel
theorem dX12_hears_46 : decode cX12_hears 46 = .ok (.iadd, 1) := by decide +kernel
theorem dX12_hears_47 : decode cX12_hears 47 = .ok (.iaload, 1) := by decide +kernel
theorem dX12_hears_48 : decode cX12_hears 48 = .ok (.imul, 1) := by decide +kernel
theorem dX12_hears_49 : decode cX12_hears 49 = .ok (.aload_n 0, 1) := by decide +kernel
theorem dX12_hears_50 : decode cX12_hears 50 = .ok (.getfield 13, 3) := by decide +kernel
theorem dX12_hears_53 : decode cX12_hears 53 = .ok (.sipush 2186, 3) := by decide +kernel
theorem dX12_hears_56 : decode cX12_hears 56 = .ok (.iload_n 1, 1) := by decide +kernel
theorem dX12_hears_57 : decode cX12_hears 57 = .ok (.iadd, 1) := by decide +kernel
theorem dX12_hears_58 : decode cX12_hears 58 = .ok (.iaload, 1) := by decide +kernel
theorem dX12_hears_59 : decode cX12_hears 59 = .ok (.iadd, 1) := by decide +kernel
theorem dX12_hears_60 : decode cX12_hears 60 = .ok (.iastore, 1) := by decide +kernel
theorem dX12_hears_61 : decode cX12_hears 61 = .ok (.iconst 0, 1) := by decide +kernel
theorem dX12_hears_62 : decode cX12_hears 62 = .ok (.istore_n 2, 1) := by decide +kernel
theorem dX12_hears_63 : decode cX12_hears 63 = .ok (.iload_n 2, 1) := by decide +kernel
theorem dX12_hears_64 : decode cX12_hears 64 = .ok (.aload_n 0, 1) := by decide +kernel
theorem dX12_hears_65 : decode cX12_hears 65 = .ok (.getfield 13, 3) := by decide +kernel
theorem dX12_hears_68 : decode cX12_hears 68 = .ok (.iconst 3, 1) := by decide +kernel
theorem dX12_hears_69 : decode cX12_hears 69 = .ok (.iaload, 1) := by decide +kernel
theorem dX12_hears_70 : decode cX12_hears 70 = .ok (.if_icmp .ge 90, 3) := by decide +kernel
theorem dX12_hears_73 : decode cX12_hears 73 = .ok (.aload_n 0, 1) := by decide +kernel
theorem dX12_hears_74 : decode cX12_hears 74 = .ok (.getfield 13, 3) := by decide +kernel
theorem dX12_hears_77 : decode cX12_hears 77 = .ok (.sipush 3710, 3) := by decide +kernel
theorem dX12_hears_80 : decode cX12_hears 80 = .ok (.iload_n 2, 1) := by decide +kernel
theorem dX12_hears_81 : decode cX12_hears 81 = .ok (.iadd, 1) := by decide +kernel
theorem dX12_hears_82 : decode cX12_hears 82 = .ok (.iaload, 1) := by decide +kernel
theorem dX12_hears_83 : decode cX12_hears 83 = .ok (.iload_n 1, 1) := by decide +kernel
theorem dX12_hears_84 : decode cX12_hears 84 = .ok (.if_icmp .ne 70, 3) := by decide +kernel
theorem dX12_hears_87 : decode cX12_hears 87 = .ok (.aload_n 0, 1) := by decide +kernel
theorem dX12_hears_88 : decode cX12_hears 88 = .ok (.getfield 13, 3) := by decide +kernel
theorem dX12_hears_91 : decode cX12_hears 91 = .ok (.sipush 3890, 3) := by decide +kernel
theorem dX12_hears_94 : decode cX12_hears 94 = .ok (.iload_n 2, 1) := by decide +kernel
theorem dX12_hears_95 : decode cX12_hears 95 = .ok (.iadd, 1) := by decide +kernel
theorem dX12_hears_96 : decode cX12_hears 96 = .ok (.iaload, 1) := by decide +kernel
theorem dX12_hears_97 : decode cX12_hears 97 = .ok (.iconst 1, 1) := by decide +kernel
theorem dX12_hears_98 : decode cX12_hears 98 = .ok (.if_icmp .eq 56, 3) := by decide +kernel
theorem dX12_hears_101 : decode cX12_hears 101 = .ok (.aload_n 0, 1) := by decide +kernel
theorem dX12_hears_102 : decode cX12_hears 102 = .ok (.getfield 13, 3) := by decide +kernel
theorem dX12_hears_105 : decode cX12_hears 105 = .ok (.sipush 3830, 3) := by decide +kernel
theorem dX12_hears_108 : decode cX12_hears 108 = .ok (.iload_n 2, 1) := by decide +kernel
theorem dX12_hears_109 : decode cX12_hears 109 = .ok (.iadd, 1) := by decide +kernel
theorem dX12_hears_110 : decode cX12_hears 110 = .ok (.iaload, 1) := by decide +kernel
theorem dX12_hears_111 : decode cX12_hears 111 = .ok (.aload_n 0, 1) := by decide +kernel
theorem dX12_hears_112 : decode cX12_hears 112 = .ok (.getfield 13, 3) := by decide +kernel
theorem dX12_hears_115 : decode cX12_hears 115 = .ok (.iconst 1, 1) := by decide +kernel
theorem dX12_hears_116 : decode cX12_hears 116 = .ok (.iaload, 1) := by decide +kernel
theorem dX12_hears_117 : decode cX12_hears 117 = .ok (.if_icmp .lt 6, 3) := by decide +kernel
theorem dX12_hears_120 : decode cX12_hears 120 = .ok (.goto 34, 3) := by decide +kernel
theorem dX12_hears_123 : decode cX12_hears 123 = .ok (.aload_n 0, 1) := by decide +kernel
theorem dX12_hears_124 : decode cX12_hears 124 = .ok (.getfield 13, 3) := by decide +kernel
theorem dX12_hears_127 : decode cX12_hears 127 = .ok (.sipush 3890, 3) := by decide +kernel
theorem dX12_hears_130 : decode cX12_hears 130 = .ok (.iload_n 2, 1) := by decide +kernel
theorem dX12_hears_131 : decode cX12_hears 131 = .ok (.iadd, 1) := by decide +kernel
theorem dX12_hears_132 : decode cX12_hears 132 = .ok (.iconst 1, 1) := by decide +kernel
theorem dX12_hears_133 : decode cX12_hears 133 = .ok (.iastore, 1) := by decide +kernel
theorem dX12_hears_134 : decode cX12_hears 134 = .ok (.aload_n 0, 1) := by decide +kernel
theorem dX12_hears_135 : decode cX12_hears 135 = .ok (.getfield 13, 3) := by decide +kernel
theorem dX12_hears_138 : decode cX12_hears 138 = .ok (.sipush 2226, 3) := by decide +kernel
theorem dX12_hears_141 : decode cX12_hears 141 = .ok (.iload_n 1, 1) := by decide +kernel
theorem dX12_hears_142 : decode cX12_hears 142 = .ok (.iadd, 1) := by decide +kernel
theorem dX12_hears_143 : decode cX12_hears 143 = .ok (.aload_n 0, 1) := by decide +kernel
theorem dX12_hears_144 : decode cX12_hears 144 = .ok (.getfield 13, 3) := by decide +kernel
theorem dX12_hears_147 : decode cX12_hears 147 = .ok (.sipush 3770, 3) := by decide +kernel
theorem dX12_hears_150 : decode cX12_hears 150 = .ok (.iload_n 2, 1) := by decide +kernel
theorem dX12_hears_151 : decode cX12_hears 151 = .ok (.iadd, 1) := by decide +kernel
theorem dX12_hears_152 : decode cX12_hears 152 = .ok (.iaload, 1) := by decide +kernel
theorem dX12_hears_153 : decode cX12_hears 153 = .ok (.iastore, 1) := by decide +kernel
theorem dX12_hears_154 : decode cX12_hears 154 = .ok (.iinc 2 1, 3) := by decide +kernel
theorem dX12_hears_157 : decode cX12_hears 157 = .ok (.goto (-94), 3) := by decide +kernel
theorem dX12_hears_160 : decode cX12_hears 160 = .ok (.return_, 1) := by decide +kernel
theorem dX12_cut_0 : decode cX12_cut 0 = .ok (.iload_n 1, 1) := by decide +kernel
theorem dX12_cut_1 : decode cX12_cut 1 = .ok (.iload_n 2, 1) := by decide +kernel
theorem dX12_cut_2 : decode cX12_cut 2 = .ok (.if_icmp .le 7, 3) := by decide +kernel
theorem dX12_cut_5 : decode cX12_cut 5 = .ok (.iload_n 2, 1) := by decide +kernel
theorem dX12_cut_6 : decode cX12_cut 6 = .ok (.goto 15, 3) := by decide +kernel
theorem dX12_cut_9 : decode cX12_cut 9 = .ok (.iload_n 1, 1) := by decide +kernel
theorem dX12_cut_10 : decode cX12_cut 10 = .ok (.iload_n 2, 1) := by decide +kernel
theorem dX12_cut_11 : decode cX12_cut 11 = .ok (.ineg, 1) := by decide +kernel
theorem dX12_cut_12 : decode cX12_cut 12 = .ok (.if_icmp .ge 8, 3) := by decide +kernel
theorem dX12_cut_15 : decode cX12_cut 15 = .ok (.iload_n 2, 1) := by decide +kernel
theorem dX12_cut_16 : decode cX12_cut 16 = .ok (.ineg, 1) := by decide +kernel
theorem dX12_cut_17 : decode cX12_cut 17 = .ok (.goto 4, 3) := by decide +kernel
theorem dX12_cut_20 : decode cX12_cut 20 = .ok (.iload_n 1, 1) := by decide +kernel
theorem dX12_cut_21 : decode cX12_cut 21 = .ok (.ireturn, 1) := by decide +kernel
theorem dX12_acts_0 : decode cX12_acts 0 = .ok (.aload_n 0, 1) := by decide +kernel
theorem dX12_acts_1 : decode cX12_acts 1 = .ok (.getfield 13, 3) := by decide +kernel
theorem dX12_acts_4 : decode cX12_acts 4 = .ok (.sipush 2226, 3) := by decide +kernel
theorem dX12_acts_7 : decode cX12_acts 7 = .ok (.iload_n 1, 1) := by decide +kernel
theorem dX12_acts_8 : decode cX12_acts 8 = .ok (.iadd, 1) := by decide +kernel
theorem dX12_acts_9 : decode cX12_acts 9 = .ok (.iaload, 1) := by decide +kernel
theorem dX12_acts_10 : decode cX12_acts 10 = .ok (.ifCond .lt 37, 3) := by decide +kernel
theorem dX12_acts_13 : decode cX12_acts 13 = .ok (.aload_n 0, 1) := by decide +kernel
theorem dX12_acts_14 : decode cX12_acts 14 = .ok (.aload_n 0, 1) := by decide +kernel
theorem dX12_acts_15 : decode cX12_acts 15 = .ok (.getfield 13, 3) := by decide +kernel
theorem dX12_acts_18 : decode cX12_acts 18 = .ok (.sipush 2226, 3) := by decide +kernel
theorem dX12_acts_21 : decode cX12_acts 21 = .ok (.iload_n 1, 1) := by decide +kernel
theorem dX12_acts_22 : decode cX12_acts 22 = .ok (.iadd, 1) := by decide +kernel
theorem dX12_acts_23 : decode cX12_acts 23 = .ok (.iaload, 1) := by decide +kernel
theorem dX12_acts_24 : decode cX12_acts 24 = .ok (.iload_n 1, 1) := by decide +kernel
theorem dX12_acts_25 : decode cX12_acts 25 = .ok (.invokevirtual 222, 3) := by decide +kernel
theorem dX12_acts_28 : decode cX12_acts 28 = .ok (.ifCond .eq 19, 3) := by decide +kernel
theorem dX12_acts_31 : decode cX12_acts 31 = .ok (.aload_n 0, 1) := by decide +kernel
theorem dX12_acts_32 : decode cX12_acts 32 = .ok (.getfield 60, 3) := by decide +kernel
theorem dX12_acts_35 : decode cX12_acts 35 = .ok (.ifCond .lt 12, 3) := by decide +kernel
theorem dX12_acts_38 : decode cX12_acts 38 = .ok (.aload_n 0, 1) := by decide +kernel
theorem dX12_acts_39 : decode cX12_acts 39 = .ok (.getfield 63, 3) := by decide +kernel
theorem dX12_acts_42 : decode cX12_acts 42 = .ok (.bipush 117, 2) := by decide +kernel
theorem dX12_acts_44 : decode cX12_acts 44 = .ok (.if_icmp .ne 5, 3) := by decide +kernel
theorem dX12_acts_47 : decode cX12_acts 47 = .ok (.iconst 0, 1) := by decide +kernel
theorem dX12_acts_48 : decode cX12_acts 48 = .ok (.ireturn, 1) := by decide +kernel
theorem dX12_acts_49 : decode cX12_acts 49 = .ok (.aload_n 0, 1) := by decide +kernel
theorem dX12_acts_50 : decode cX12_acts 50 = .ok (.iload_n 1, 1) := by decide +kernel
theorem dX12_acts_51 : decode cX12_acts 51 = .ok (.aload_n 0, 1) := by decide +kernel
theorem dX12_acts_52 : decode cX12_acts 52 = .ok (.getfield 72, 3) := by decide +kernel
theorem dX12_acts_55 : decode cX12_acts 55 = .ok (.invokevirtual 225, 3) := by decide +kernel
theorem dX12_acts_58 : decode cX12_acts 58 = .ok (.istore_n 2, 1) := by decide +kernel
theorem dX12_acts_59 : decode cX12_acts 59 = .ok (.aload_n 0, 1) := by decide +kernel
theorem dX12_acts_60 : decode cX12_acts 60 = .ok (.getfield 13, 3) := by decide +kernel
theorem dX12_acts_63 : decode cX12_acts 63 = .ok (.sipush 2194, 3) := by decide +kernel
theorem dX12_acts_66 : decode cX12_acts 66 = .ok (.iload_n 1, 1) := by decide +kernel
theorem dX12_acts_67 : decode cX12_acts 67 = .ok (.iadd, 1) := by decide +kernel
theorem dX12_acts_68 : decode cX12_acts 68 = .ok (.iaload, 1) := by decide +kernel
theorem dX12_acts_69 : decode cX12_acts 69 = .ok (.aload_n 0, 1) := by decide +kernel
theorem dX12_acts_70 : decode cX12_acts 70 = .ok (.iload_n 1, 1) := by decide +kernel
theorem dX12_acts_71 : decode cX12_acts 71 = .ok (.iload_n 2, 1) := by decide +kernel
theorem dX12_acts_72 : decode cX12_acts 72 = .ok (.invokevirtual 149, 3) := by decide +kernel
theorem dX12_acts_75 : decode cX12_acts 75 = .ok (.if_icmp .ge 5, 3) := by decide +kernel
theorem dX12_acts_78 : decode cX12_acts 78 = .ok (.iconst 0, 1) := by decide +kernel
theorem dX12_acts_79 : decode cX12_acts 79 = .ok (.ireturn, 1) := by decide +kernel
theorem dX12_acts_80 : decode cX12_acts 80 = .ok (.aload_n 0, 1) := by decide +kernel
theorem dX12_acts_81 : decode cX12_acts 81 = .ok (.getfield 63, 3) := by decide +kernel
theorem dX12_acts_84 : decode cX12_acts 84 = .ok (.bipush 115, 2) := by decide +kernel
theorem dX12_acts_86 : decode cX12_acts 86 = .ok (.if_icmp .ne 7, 3) := by decide +kernel
theorem dX12_acts_89 : decode cX12_acts 89 = .ok (.iconst 0, 1) := by decide +kernel
theorem dX12_acts_90 : decode cX12_acts 90 = .ok (.goto 27, 3) := by decide +kernel
theorem dX12_acts_93 : decode cX12_acts 93 = .ok (.aload_n 0, 1) := by decide +kernel
theorem dX12_acts_94 : decode cX12_acts 94 = .ok (.aload_n 0, 1) := by decide +kernel
theorem dX12_acts_95 : decode cX12_acts 95 = .ok (.getfield 66, 3) := by decide +kernel
theorem dX12_acts_98 : decode cX12_acts 98 = .ok (.aload_n 0, 1) := by decide +kernel
theorem dX12_acts_99 : decode cX12_acts 99 = .ok (.getfield 13, 3) := by decide +kernel
theorem dX12_acts_102 : decode cX12_acts 102 = .ok (.sipush 2178, 3) := by decide +kernel
theorem dX12_acts_105 : decode cX12_acts 105 = .ok (.iload_n 1, 1) := by decide +kernel
theorem dX12_acts_106 : decode cX12_acts 106 = .ok (.iadd, 1) := by decide +kernel
theorem dX12_acts_107 : decode cX12_acts 107 = .ok (.iaload, 1) := by decide +kernel
theorem dX12_acts_108 : decode cX12_acts 108 = .ok (.isub, 1) := by decide +kernel
theorem dX12_acts_109 : decode cX12_acts 109 = .ok (.aload_n 0, 1) := by decide +kernel
theorem dX12_acts_110 : decode cX12_acts 110 = .ok (.iload_n 1, 1) := by decide +kernel
theorem dX12_acts_111 : decode cX12_acts 111 = .ok (.invokevirtual 146, 3) := by decide +kernel
theorem dX12_acts_114 : decode cX12_acts 114 = .ok (.invokevirtual 228, 3) := by decide +kernel
theorem dX12_acts_117 : decode cX12_acts 117 = .ok (.istore_n 3, 1) := by decide +kernel
theorem dX12_acts_118 : decode cX12_acts 118 = .ok (.aload_n 0, 1) := by decide +kernel
theorem dX12_acts_119 : decode cX12_acts 119 = .ok (.getfield 63, 3) := by decide +kernel
theorem dX12_acts_122 : decode cX12_acts 122 = .ok (.bipush 115, 2) := by decide +kernel
theorem dX12_acts_124 : decode cX12_acts 124 = .ok (.if_icmp .ne 7, 3) := by decide +kernel
theorem dX12_acts_127 : decode cX12_acts 127 = .ok (.iconst 0, 1) := by decide +kernel
theorem dX12_acts_128 : decode cX12_acts 128 = .ok (.goto 33, 3) := by decide +kernel
theorem dX12_acts_131 : decode cX12_acts 131 = .ok (.aload_n 0, 1) := by decide +kernel
theorem dX12_acts_132 : decode cX12_acts 132 = .ok (.aload_n 0, 1) := by decide +kernel
theorem dX12_acts_133 : decode cX12_acts 133 = .ok (.getfield 69, 3) := by decide +kernel
theorem dX12_acts_136 : decode cX12_acts 136 = .ok (.aload_n 0, 1) := by decide +kernel
theorem dX12_acts_137 : decode cX12_acts 137 = .ok (.getfield 13, 3) := by decide +kernel
theorem dX12_acts_140 : decode cX12_acts 140 = .ok (.sipush 2186, 3) := by decide +kernel
theorem dX12_acts_143 : decode cX12_acts 143 = .ok (.iload_n 1, 1) := by decide +kernel
theorem dX12_acts_144 : decode cX12_acts 144 = .ok (.iadd, 1) := by decide +kernel
theorem dX12_acts_145 : decode cX12_acts 145 = .ok (.iaload, 1) := by decide +kernel
theorem dX12_acts_146 : decode cX12_acts 146 = .ok (.isub, 1) := by decide +kernel
theorem dX12_acts_147 : decode cX12_acts 147 = .ok (.aload_n 0, 1) := by decide +kernel
theorem dX12_acts_148 : decode cX12_acts 148 = .ok (.iload_n 1, 1) := by decide +kernel
theorem dX12_acts_149 : decode cX12_acts 149 = .ok (.invokevirtual 146, 3) := by decide +kernel
theorem dX12_acts_152 : decode cX12_acts 152 = .ok (.aload_n 0, 1) := by decide +kernel
theorem dX12_acts_153 : decode cX12_acts 153 = .ok (.iload_n 3, 1) := by decide +kernel
theorem dX12_acts_154 : decode cX12_acts 154 = .ok (.invokevirtual 152, 3) := by decide +kernel
theorem dX12_acts_157 : decode cX12_acts 157 = .ok (.isub, 1) := by decide +kernel
theorem dX12_acts_158 : decode cX12_acts 158 = .ok (.invokevirtual 228, 3) := by decide +kernel
theorem dX12_acts_161 : decode cX12_acts 161 = .ok (.istore 4, 2) := by decide +kernel
theorem dX12_acts_163 : decode cX12_acts 163 = .ok (.aload_n 0, 1) := by decide +kernel
theorem dX12_acts_164 : decode cX12_acts 164 = .ok (.iload_n 1, 1) := by decide +kernel
theorem dX12_acts_165 : decode cX12_acts 165 = .ok (.iload_n 2, 1) := by decide +kernel
theorem dX12_acts_166 : decode cX12_acts 166 = .ok (.iload_n 3, 1) := by decide +kernel
theorem dX12_acts_167 : decode cX12_acts 167 = .ok (.iload 4, 2) := by decide +kernel
theorem dX12_acts_169 : decode cX12_acts 169 = .ok (.invokevirtual 190, 3) := by decide +kernel
theorem dX12_acts_172 : decode cX12_acts 172 = .ok (.pop, 1) := by decide +kernel
theorem dX12_acts_173 : decode cX12_acts 173 = .ok (.iconst 1, 1) := by decide +kernel
theorem dX12_acts_174 : decode cX12_acts 174 = .ok (.ireturn, 1) := by decide +kernel
theorem dX12_goTime_0 : decode cX12_goTime 0 = .ok (.iconst 0, 1) := by decide +kernel
theorem dX12_goTime_1 : decode cX12_goTime 1 = .ok (.istore_n 1, 1) := by decide +kernel
theorem dX12_goTime_2 : decode cX12_goTime 2 = .ok (.iconst 0, 1) := by decide +kernel
theorem dX12_goTime_3 : decode cX12_goTime 3 = .ok (.istore_n 2, 1) := by decide +kernel
theorem dX12_goTime_4 : decode cX12_goTime 4 = .ok (.iload_n 2, 1) := by decide +kernel
theorem dX12_goTime_5 : decode cX12_goTime 5 = .ok (.aload_n 0, 1) := by decide +kernel
theorem dX12_goTime_6 : decode cX12_goTime 6 = .ok (.getfield 13, 3) := by decide +kernel
theorem dX12_goTime_9 : decode cX12_goTime 9 = .ok (.iconst 0, 1) := by decide +kernel
theorem dX12_goTime_10 : decode cX12_goTime 10 = .ok (.iaload, 1) := by decide +kernel
theorem dX12_goTime_11 : decode cX12_goTime 11 = .ok (.if_icmp .ge 40, 3) := by decide +kernel
theorem dX12_goTime_14 : decode cX12_goTime 14 = .ok (.aload_n 0, 1) := by decide +kernel
theorem dX12_goTime_15 : decode cX12_goTime 15 = .ok (.iload_n 2, 1) := by decide +kernel
theorem dX12_goTime_16 : decode cX12_goTime 16 = .ok (.invokevirtual 187, 3) := by decide +kernel
theorem dX12_goTime_19 : decode cX12_goTime 19 = .ok (.ifCond .eq 26, 3) := by decide +kernel
theorem dX12_goTime_22 : decode cX12_goTime 22 = .ok (.aload_n 0, 1) := by decide +kernel
theorem dX12_goTime_23 : decode cX12_goTime 23 = .ok (.getfield 13, 3) := by decide +kernel
theorem dX12_goTime_26 : decode cX12_goTime 26 = .ok (.sipush 3950, 3) := by decide +kernel
theorem dX12_goTime_29 : decode cX12_goTime 29 = .ok (.aload_n 0, 1) := by decide +kernel
theorem dX12_goTime_30 : decode cX12_goTime 30 = .ok (.getfield 13, 3) := by decide +kernel
theorem dX12_goTime_33 : decode cX12_goTime 33 = .ok (.iconst 1, 1) := by decide +kernel
theorem dX12_goTime_34 : decode cX12_goTime 34 = .ok (.iaload, 1) := by decide +kernel
theorem dX12_goTime_35 : decode cX12_goTime 35 = .ok (.iadd, 1) := by decide +kernel
theorem dX12_goTime_36 : decode cX12_goTime 36 = .ok (.iaload, 1) := by decide +kernel
theorem dX12_goTime_37 : decode cX12_goTime 37 = .ok (.ifCond .ne 8, 3) := by decide +kernel
theorem dX12_goTime_40 : decode cX12_goTime 40 = .ok (.aload_n 0, 1) := by decide +kernel
theorem dX12_goTime_41 : decode cX12_goTime 41 = .ok (.iload_n 2, 1) := by decide +kernel
theorem dX12_goTime_42 : decode cX12_goTime 42 = .ok (.invokevirtual 231, 3) := by decide +kernel
theorem dX12_goTime_45 : decode cX12_goTime 45 = .ok (.iinc 2 1, 3) := by decide +kernel
theorem dX12_goTime_48 : decode cX12_goTime 48 = .ok (.goto (-44), 3) := by decide +kernel
theorem dX12_goTime_51 : decode cX12_goTime 51 = .ok (.iconst 0, 1) := by decide +kernel
theorem dX12_goTime_52 : decode cX12_goTime 52 = .ok (.istore_n 2, 1) := by decide +kernel
theorem dX12_goTime_53 : decode cX12_goTime 53 = .ok (.iload_n 2, 1) := by decide +kernel
theorem dX12_goTime_54 : decode cX12_goTime 54 = .ok (.aload_n 0, 1) := by decide +kernel
theorem dX12_goTime_55 : decode cX12_goTime 55 = .ok (.getfield 13, 3) := by decide +kernel
theorem dX12_goTime_58 : decode cX12_goTime 58 = .ok (.iconst 0, 1) := by decide +kernel
theorem dX12_goTime_59 : decode cX12_goTime 59 = .ok (.iaload, 1) := by decide +kernel
theorem dX12_goTime_60 : decode cX12_goTime 60 = .ok (.if_icmp .ge 33, 3) := by decide +kernel
theorem dX12_goTime_63 : decode cX12_goTime 63 = .ok (.iload_n 1, 1) := by decide +kernel
theorem dX12_goTime_64 : decode cX12_goTime 64 = .ok (.aload_n 0, 1) := by decide +kernel
theorem dX12_goTime_65 : decode cX12_goTime 65 = .ok (.iload_n 2, 1) := by decide +kernel
theorem dX12_goTime_66 : decode cX12_goTime 66 = .ok (.invokevirtual 187, 3) := by decide +kernel
theorem dX12_goTime_69 : decode cX12_goTime 69 = .ok (.ifCond .eq 15, 3) := by decide +kernel
theorem dX12_goTime_72 : decode cX12_goTime 72 = .ok (.aload_n 0, 1) := by decide +kernel
theorem dX12_goTime_73 : decode cX12_goTime 73 = .ok (.iload_n 2, 1) := by decide +kernel
theorem dX12_goTime_74 : decode cX12_goTime 74 = .ok (.invokevirtual 234, 3) := by decide +kernel
theorem dX12_goTime_77 : decode cX12_goTime 77 = .ok (.ifCond .eq 7, 3) := by decide +kernel
theorem dX12_goTime_80 : decode cX12_goTime 80 = .ok (.iconst 1, 1) := by decide +kernel
theorem dX12_goTime_81 : decode cX12_goTime 81 = .ok (.goto 4, 3) := by decide +kernel
theorem dX12_goTime_84 : decode cX12_goTime 84 = .ok (.iconst 0, 1) := by decide +kernel
theorem dX12_goTime_85 : decode cX12_goTime 85 = .ok (.iadd, 1) := by decide +kernel
theorem dX12_goTime_86 : decode cX12_goTime 86 = .ok (.istore_n 1, 1) := by decide +kernel
theorem dX12_goTime_87 : decode cX12_goTime 87 = .ok (.iinc 2 1, 3) := by decide +kernel
theorem dX12_goTime_90 : decode cX12_goTime 90 = .ok (.goto (-37), 3) := by decide +kernel
theorem dX12_goTime_93 : decode cX12_goTime 93 = .ok (.iconst 0, 1) := by decide +kernel
theorem dX12_goTime_94 : decode cX12_goTime 94 = .ok (.istore_n 2, 1) := by decide +kernel
theorem dX12_goTime_95 : decode cX12_goTime 95 = .ok (.iload_n 2, 1) := by decide +kernel
theorem dX12_goTime_96 : decode cX12_goTime 96 = .ok (.bipush 80, 2) := by decide +kernel
theorem dX12_goTime_98 : decode cX12_goTime 98 = .ok (.if_icmp .ge 50, 3) := by decide +kernel
theorem dX12_goTime_101 : decode cX12_goTime 101 = .ok (.aload_n 0, 1) := by decide +kernel
theorem dX12_goTime_102 : decode cX12_goTime 102 = .ok (.getfield 13, 3) := by decide +kernel
theorem dX12_goTime_105 : decode cX12_goTime 105 = .ok (.bipush 10, 2) := by decide +kernel
theorem dX12_goTime_107 : decode cX12_goTime 107 = .ok (.iload_n 2, 1) := by decide +kernel
theorem dX12_goTime_108 : decode cX12_goTime 108 = .ok (.iadd, 1) := by decide +kernel
theorem dX12_goTime_109 : decode cX12_goTime 109 = .ok (.iaload, 1) := by decide +kernel
theorem dX12_goTime_110 : decode cX12_goTime 110 = .ok (.ifCond .le 32, 3) := by decide +kernel
theorem dX12_goTime_113 : decode cX12_goTime 113 = .ok (.aload_n 0, 1) := by decide +kernel
theorem dX12_goTime_114 : decode cX12_goTime 114 = .ok (.getfield 13, 3) := by decide +kernel
theorem dX12_goTime_117 : decode cX12_goTime 117 = .ok (.sipush 170, 3) := by decide +kernel
theorem dX12_goTime_120 : decode cX12_goTime 120 = .ok (.iload_n 2, 1) := by decide +kernel
theorem dX12_goTime_121 : decode cX12_goTime 121 = .ok (.iadd, 1) := by decide +kernel
theorem dX12_goTime_122 : decode cX12_goTime 122 = .ok (.iaload, 1) := by decide +kernel
theorem dX12_goTime_123 : decode cX12_goTime 123 = .ok (.bipush 99, 2) := by decide +kernel
theorem dX12_goTime_125 : decode cX12_goTime 125 = .ok (.if_icmp .ge 17, 3) := by decide +kernel
theorem dX12_goTime_128 : decode cX12_goTime 128 = .ok (.aload_n 0, 1) := by decide +kernel
theorem dX12_goTime_129 : decode cX12_goTime 129 = .ok (.getfield 13, 3) := by decide +kernel
theorem dX12_goTime_132 : decode cX12_goTime 132 = .ok (.sipush 170, 3) := by decide +kernel
theorem dX12_goTime_135 : decode cX12_goTime 135 = .ok (.iload_n 2, 1) := by decide +kernel
theorem dX12_goTime_136 : decode cX12_goTime 136 = .ok (.iadd, 1) := by decide +kernel
theorem dX12_goTime_137 : decode cX12_goTime 137 = .ok (.dup2, 1) := by decide +kernel
theorem dX12_goTime_138 : decode cX12_goTime 138 = .ok (.iaload, 1) := by decide +kernel
theorem dX12_goTime_139 : decode cX12_goTime 139 = .ok (.iconst 1, 1) := by decide +kernel
theorem dX12_goTime_140 : decode cX12_goTime 140 = .ok (.iadd, 1) := by decide +kernel
theorem dX12_goTime_141 : decode cX12_goTime 141 = .ok (.iastore, 1) := by decide +kernel
theorem dX12_goTime_142 : decode cX12_goTime 142 = .ok (.iinc 2 1, 3) := by decide +kernel
theorem dX12_goTime_145 : decode cX12_goTime 145 = .ok (.goto (-50), 3) := by decide +kernel
theorem dX12_goTime_148 : decode cX12_goTime 148 = .ok (.aload_n 0, 1) := by decide +kernel
theorem dX12_goTime_149 : decode cX12_goTime 149 = .ok (.getfield 13, 3) := by decide +kernel
theorem dX12_goTime_152 : decode cX12_goTime 152 = .ok (.iconst 1, 1) := by decide +kernel
theorem dX12_goTime_153 : decode cX12_goTime 153 = .ok (.dup2, 1) := by decide +kernel
theorem dX12_goTime_154 : decode cX12_goTime 154 = .ok (.iaload, 1) := by decide +kernel
theorem dX12_goTime_155 : decode cX12_goTime 155 = .ok (.iconst 1, 1) := by decide +kernel
theorem dX12_goTime_156 : decode cX12_goTime 156 = .ok (.iadd, 1) := by decide +kernel
theorem dX12_goTime_157 : decode cX12_goTime 157 = .ok (.iastore, 1) := by decide +kernel
theorem dX12_goTime_158 : decode cX12_goTime 158 = .ok (.iload_n 1, 1) := by decide +kernel
theorem dX12_goTime_159 : decode cX12_goTime 159 = .ok (.ireturn, 1) := by decide +kernel
theorem dX12_times_0 : decode cX12_times 0 = .ok (.aload_n 0, 1) := by decide +kernel
theorem dX12_times_1 : decode cX12_times 1 = .ok (.iload_n 1, 1) := by decide +kernel
theorem dX12_times_2 : decode cX12_times 2 = .ok (.iconst 1, 1) := by decide +kernel
theorem dX12_times_3 : decode cX12_times 3 = .ok (.bipush 40, 2) := by decide +kernel
theorem dX12_times_5 : decode cX12_times 5 = .ok (.invokevirtual 123, 3) := by decide +kernel
theorem dX12_times_8 : decode cX12_times 8 = .ok (.ifCond .ne 5, 3) := by decide +kernel
theorem dX12_times_11 : decode cX12_times 11 = .ok (.iconst (-1), 1) := by decide +kernel
theorem dX12_times_12 : decode cX12_times 12 = .ok (.ireturn, 1) := by decide +kernel
theorem dX12_times_13 : decode cX12_times 13 = .ok (.aload_n 0, 1) := by decide +kernel
theorem dX12_times_14 : decode cX12_times 14 = .ok (.getfield 13, 3) := by decide +kernel
theorem dX12_times_17 : decode cX12_times 17 = .ok (.iconst 1, 1) := by decide +kernel
theorem dX12_times_18 : decode cX12_times 18 = .ok (.iaload, 1) := by decide +kernel
theorem dX12_times_19 : decode cX12_times 19 = .ok (.iload_n 1, 1) := by decide +kernel
theorem dX12_times_20 : decode cX12_times 20 = .ok (.iadd, 1) := by decide +kernel
theorem dX12_times_21 : decode cX12_times 21 = .ok (.sipush 400, 3) := by decide +kernel
theorem dX12_times_24 : decode cX12_times 24 = .ok (.if_icmp .le 6, 3) := by decide +kernel
theorem dX12_times_27 : decode cX12_times 27 = .ok (.bipush (-2), 2) := by decide +kernel
theorem dX12_times_29 : decode cX12_times 29 = .ok (.ireturn, 1) := by decide +kernel
theorem dX12_times_30 : decode cX12_times 30 = .ok (.iconst 0, 1) := by decide +kernel
theorem dX12_times_31 : decode cX12_times 31 = .ok (.istore_n 2, 1) := by decide +kernel
theorem dX12_times_32 : decode cX12_times 32 = .ok (.iconst 0, 1) := by decide +kernel
theorem dX12_times_33 : decode cX12_times 33 = .ok (.istore_n 3, 1) := by decide +kernel
theorem dX12_times_34 : decode cX12_times 34 = .ok (.iload_n 3, 1) := by decide +kernel
theorem dX12_times_35 : decode cX12_times 35 = .ok (.iload_n 1, 1) := by decide +kernel
theorem dX12_times_36 : decode cX12_times 36 = .ok (.if_icmp .ge 16, 3) := by decide +kernel
theorem dX12_times_39 : decode cX12_times 39 = .ok (.iload_n 2, 1) := by decide +kernel
theorem dX12_times_40 : decode cX12_times 40 = .ok (.aload_n 0, 1) := by decide +kernel
theorem dX12_times_41 : decode cX12_times 41 = .ok (.invokevirtual 237, 3) := by decide +kernel
theorem dX12_times_44 : decode cX12_times 44 = .ok (.iadd, 1) := by decide +kernel
theorem dX12_times_45 : decode cX12_times 45 = .ok (.istore_n 2, 1) := by decide +kernel
theorem dX12_times_46 : decode cX12_times 46 = .ok (.iinc 3 1, 3) := by decide +kernel
theorem dX12_times_49 : decode cX12_times 49 = .ok (.goto (-15), 3) := by decide +kernel
theorem dX12_times_52 : decode cX12_times 52 = .ok (.iload_n 2, 1) := by decide +kernel
theorem dX12_times_53 : decode cX12_times 53 = .ok (.ireturn, 1) := by decide +kernel
theorem dX12_known_0 : decode cX12_known 0 = .ok (.aload_n 0, 1) := by decide +kernel
theorem dX12_known_1 : decode cX12_known 1 = .ok (.iload_n 1, 1) := by decide +kernel
theorem dX12_known_2 : decode cX12_known 2 = .ok (.invokevirtual 142, 3) := by decide +kernel
theorem dX12_known_5 : decode cX12_known 5 = .ok (.ifCond .eq 15, 3) := by decide +kernel
theorem dX12_known_8 : decode cX12_known 8 = .ok (.aload_n 0, 1) := by decide +kernel
theorem dX12_known_9 : decode cX12_known 9 = .ok (.iload_n 2, 1) := by decide +kernel
theorem dX12_known_10 : decode cX12_known 10 = .ok (.iconst 0, 1) := by decide +kernel
theorem dX12_known_11 : decode cX12_known 11 = .ok (.sipush 400, 3) := by decide +kernel
theorem dX12_known_14 : decode cX12_known 14 = .ok (.invokevirtual 123, 3) := by decide +kernel
theorem dX12_known_17 : decode cX12_known 17 = .ok (.ifCond .ne 5, 3) := by decide +kernel
theorem dX12_known_20 : decode cX12_known 20 = .ok (.iconst (-1), 1) := by decide +kernel
theorem dX12_known_21 : decode cX12_known 21 = .ok (.ireturn, 1) := by decide +kernel
theorem dX12_known_22 : decode cX12_known 22 = .ok (.iload_n 2, 1) := by decide +kernel
theorem dX12_known_23 : decode cX12_known 23 = .ok (.istore_n 3, 1) := by decide +kernel
theorem dX12_known_24 : decode cX12_known 24 = .ok (.iload_n 3, 1) := by decide +kernel
theorem dX12_known_25 : decode cX12_known 25 = .ok (.ifCond .lt 45, 3) := by decide +kernel
theorem dX12_known_28 : decode cX12_known 28 = .ok (.aload_n 0, 1) := by decide +kernel
theorem dX12_known_29 : decode cX12_known 29 = .ok (.getfield 13, 3) := by decide +kernel
theorem dX12_known_32 : decode cX12_known 32 = .ok (.sipush 4351, 3) := by decide +kernel
theorem dX12_known_35 : decode cX12_known 35 = .ok (.sipush 401, 3) := by decide +kernel
theorem dX12_known_38 : decode cX12_known 38 = .ok (.iload_n 1, 1) := by decide +kernel
theorem dX12_known_39 : decode cX12_known 39 = .ok (.imul, 1) := by decide +kernel
theorem dX12_known_40 : decode cX12_known 40 = .ok (.iadd, 1) := by decide +kernel
theorem dX12_known_41 : decode cX12_known 41 = .ok (.iload_n 3, 1) := by decide +kernel
theorem dX12_known_42 : decode cX12_known 42 = .ok (.iadd, 1) := by decide +kernel
theorem dX12_known_43 : decode cX12_known 43 = .ok (.iaload, 1) := by decide +kernel
theorem dX12_known_44 : decode cX12_known 44 = .ok (.ifCond .lt 20, 3) := by decide +kernel
theorem dX12_known_47 : decode cX12_known 47 = .ok (.aload_n 0, 1) := by decide +kernel
theorem dX12_known_48 : decode cX12_known 48 = .ok (.getfield 13, 3) := by decide +kernel
theorem dX12_known_51 : decode cX12_known 51 = .ok (.sipush 4351, 3) := by decide +kernel
theorem dX12_known_54 : decode cX12_known 54 = .ok (.sipush 401, 3) := by decide +kernel
theorem dX12_known_57 : decode cX12_known 57 = .ok (.iload_n 1, 1) := by decide +kernel
theorem dX12_known_58 : decode cX12_known 58 = .ok (.imul, 1) := by decide +kernel
theorem dX12_known_59 : decode cX12_known 59 = .ok (.iadd, 1) := by decide +kernel
theorem dX12_known_60 : decode cX12_known 60 = .ok (.iload_n 3, 1) := by decide +kernel
theorem dX12_known_61 : decode cX12_known 61 = .ok (.iadd, 1) := by decide +kernel
theorem dX12_known_62 : decode cX12_known 62 = .ok (.iaload, 1) := by decide +kernel
theorem dX12_known_63 : decode cX12_known 63 = .ok (.ireturn, 1) := by decide +kernel
theorem dX12_known_64 : decode cX12_known 64 = .ok (.iinc 3 (-1), 3) := by decide +kernel
theorem dX12_known_67 : decode cX12_known 67 = .ok (.goto (-43), 3) := by decide +kernel
theorem dX12_known_70 : decode cX12_known 70 = .ok (.bipush (-4), 2) := by decide +kernel
theorem dX12_known_72 : decode cX12_known 72 = .ok (.ireturn, 1) := by decide +kernel
theorem dX12_clean_0 : decode cX12_clean 0 = .ok (.aload_n 0, 1) := by decide +kernel
theorem dX12_clean_1 : decode cX12_clean 1 = .ok (.iload_n 1, 1) := by decide +kernel
theorem dX12_clean_2 : decode cX12_clean 2 = .ok (.invokevirtual 142, 3) := by decide +kernel
theorem dX12_clean_5 : decode cX12_clean 5 = .ok (.ifCond .eq 17, 3) := by decide +kernel
theorem dX12_clean_8 : decode cX12_clean 8 = .ok (.aload_n 0, 1) := by decide +kernel
theorem dX12_clean_9 : decode cX12_clean 9 = .ok (.iload_n 2, 1) := by decide +kernel
theorem dX12_clean_10 : decode cX12_clean 10 = .ok (.sipush (-2000), 3) := by decide +kernel
theorem dX12_clean_13 : decode cX12_clean 13 = .ok (.sipush 2000, 3) := by decide +kernel
theorem dX12_clean_16 : decode cX12_clean 16 = .ok (.invokevirtual 123, 3) := by decide +kernel
theorem dX12_clean_19 : decode cX12_clean 19 = .ok (.ifCond .ne 5, 3) := by decide +kernel
theorem dX12_clean_22 : decode cX12_clean 22 = .ok (.iconst (-1), 1) := by decide +kernel
theorem dX12_clean_23 : decode cX12_clean 23 = .ok (.ireturn, 1) := by decide +kernel
theorem dX12_clean_24 : decode cX12_clean 24 = .ok (.aload_n 0, 1) := by decide +kernel
theorem dX12_clean_25 : decode cX12_clean 25 = .ok (.getfield 13, 3) := by decide +kernel
theorem dX12_clean_28 : decode cX12_clean 28 = .ok (.iconst 5, 1) := by decide +kernel
theorem dX12_clean_29 : decode cX12_clean 29 = .ok (.iaload, 1) := by decide +kernel
theorem dX12_clean_30 : decode cX12_clean 30 = .ok (.istore_n 3, 1) := by decide +kernel
theorem dX12_clean_31 : decode cX12_clean 31 = .ok (.iload_n 3, 1) := by decide +kernel
theorem dX12_clean_32 : decode cX12_clean 32 = .ok (.bipush 60, 2) := by decide +kernel
theorem dX12_clean_34 : decode cX12_clean 34 = .ok (.if_icmp .ne 6, 3) := by decide +kernel
theorem dX12_clean_37 : decode cX12_clean 37 = .ok (.bipush (-2), 2) := by decide +kernel
theorem dX12_clean_39 : decode cX12_clean 39 = .ok (.ireturn, 1) := by decide +kernel
theorem dX12_clean_40 : decode cX12_clean 40 = .ok (.aload_n 0, 1) := by decide +kernel
theorem dX12_clean_41 : decode cX12_clean 41 = .ok (.getfield 13, 3) := by decide +kernel
theorem dX12_clean_44 : decode cX12_clean 44 = .ok (.sipush 3470, 3) := by decide +kernel
theorem dX12_clean_47 : decode cX12_clean 47 = .ok (.iload_n 3, 1) := by decide +kernel
theorem dX12_clean_48 : decode cX12_clean 48 = .ok (.iadd, 1) := by decide +kernel
theorem dX12_clean_49 : decode cX12_clean 49 = .ok (.iload_n 1, 1) := by decide +kernel
theorem dX12_clean_50 : decode cX12_clean 50 = .ok (.iastore, 1) := by decide +kernel
theorem dX12_clean_51 : decode cX12_clean 51 = .ok (.aload_n 0, 1) := by decide +kernel
theorem dX12_clean_52 : decode cX12_clean 52 = .ok (.getfield 13, 3) := by decide +kernel
theorem dX12_clean_55 : decode cX12_clean 55 = .ok (.sipush 3530, 3) := by decide +kernel
theorem dX12_clean_58 : decode cX12_clean 58 = .ok (.iload_n 3, 1) := by decide +kernel
theorem dX12_clean_59 : decode cX12_clean 59 = .ok (.iadd, 1) := by decide +kernel
theorem dX12_clean_60 : decode cX12_clean 60 = .ok (.iload_n 2, 1) := by decide +kernel
theorem dX12_clean_61 : decode cX12_clean 61 = .ok (.iastore, 1) := by decide +kernel
theorem dX12_clean_62 : decode cX12_clean 62 = .ok (.aload_n 0, 1) := by decide +kernel
theorem dX12_clean_63 : decode cX12_clean 63 = .ok (.getfield 13, 3) := by decide +kernel
theorem dX12_clean_66 : decode cX12_clean 66 = .ok (.sipush 3590, 3) := by decide +kernel
theorem dX12_clean_69 : decode cX12_clean 69 = .ok (.iload_n 3, 1) := by decide +kernel
theorem dX12_clean_70 : decode cX12_clean 70 = .ok (.iadd, 1) := by decide +kernel
theorem dX12_clean_71 : decode cX12_clean 71 = .ok (.aload_n 0, 1) := by decide +kernel
theorem dX12_clean_72 : decode cX12_clean 72 = .ok (.getfield 13, 3) := by decide +kernel
theorem dX12_clean_75 : decode cX12_clean 75 = .ok (.sipush 2218, 3) := by decide +kernel
theorem dX12_clean_78 : decode cX12_clean 78 = .ok (.iload_n 1, 1) := by decide +kernel
theorem dX12_clean_79 : decode cX12_clean 79 = .ok (.iadd, 1) := by decide +kernel
theorem dX12_clean_80 : decode cX12_clean 80 = .ok (.iaload, 1) := by decide +kernel
theorem dX12_clean_81 : decode cX12_clean 81 = .ok (.iastore, 1) := by decide +kernel
theorem dX12_clean_82 : decode cX12_clean 82 = .ok (.aload_n 0, 1) := by decide +kernel
theorem dX12_clean_83 : decode cX12_clean 83 = .ok (.getfield 13, 3) := by decide +kernel
theorem dX12_clean_86 : decode cX12_clean 86 = .ok (.sipush 3650, 3) := by decide +kernel
theorem dX12_clean_89 : decode cX12_clean 89 = .ok (.iload_n 3, 1) := by decide +kernel
theorem dX12_clean_90 : decode cX12_clean 90 = .ok (.iadd, 1) := by decide +kernel
theorem dX12_clean_91 : decode cX12_clean 91 = .ok (.aload_n 0, 1) := by decide +kernel
theorem dX12_clean_92 : decode cX12_clean 92 = .ok (.getfield 13, 3) := by decide +kernel
theorem dX12_clean_95 : decode cX12_clean 95 = .ok (.iconst 2, 1) := by decide +kernel
theorem dX12_clean_96 : decode cX12_clean 96 = .ok (.iaload, 1) := by decide +kernel
theorem dX12_clean_97 : decode cX12_clean 97 = .ok (.iastore, 1) := by decide +kernel
theorem dX12_clean_98 : decode cX12_clean 98 = .ok (.aload_n 0, 1) := by decide +kernel
theorem dX12_clean_99 : decode cX12_clean 99 = .ok (.getfield 13, 3) := by decide +kernel
theorem dX12_clean_102 : decode cX12_clean 102 = .ok (.sipush 2218, 3) := by decide +kernel
theorem dX12_clean_105 : decode cX12_clean 105 = .ok (.iload_n 1, 1) := by decide +kernel
theorem dX12_clean_106 : decode cX12_clean 106 = .ok (.iadd, 1) := by decide +kernel
theorem dX12_clean_107 : decode cX12_clean 107 = .ok (.iconst 0, 1) := by decide +kernel
theorem dX12_clean_108 : decode cX12_clean 108 = .ok (.iastore, 1) := by decide +kernel
theorem dX12_clean_109 : decode cX12_clean 109 = .ok (.aload_n 0, 1) := by decide +kernel
theorem dX12_clean_110 : decode cX12_clean 110 = .ok (.getfield 13, 3) := by decide +kernel
theorem dX12_clean_113 : decode cX12_clean 113 = .ok (.iconst 5, 1) := by decide +kernel
theorem dX12_clean_114 : decode cX12_clean 114 = .ok (.dup2, 1) := by decide +kernel
theorem dX12_clean_115 : decode cX12_clean 115 = .ok (.iaload, 1) := by decide +kernel
theorem dX12_clean_116 : decode cX12_clean 116 = .ok (.iconst 1, 1) := by decide +kernel
theorem dX12_clean_117 : decode cX12_clean 117 = .ok (.iadd, 1) := by decide +kernel
theorem dX12_clean_118 : decode cX12_clean 118 = .ok (.iastore, 1) := by decide +kernel
theorem dX12_clean_119 : decode cX12_clean 119 = .ok (.aload_n 0, 1) := by decide +kernel
theorem dX12_clean_120 : decode cX12_clean 120 = .ok (.getfield 13, 3) := by decide +kernel
theorem dX12_clean_123 : decode cX12_clean 123 = .ok (.iconst 5, 1) := by decide +kernel
theorem dX12_clean_124 : decode cX12_clean 124 = .ok (.iaload, 1) := by decide +kernel
theorem dX12_clean_125 : decode cX12_clean 125 = .ok (.ireturn, 1) := by decide +kernel
theorem dX12_isReading_0 : decode cX12_isReading 0 = .ok (.aload_n 0, 1) := by decide +kernel
theorem dX12_isReading_1 : decode cX12_isReading 1 = .ok (.iload_n 1, 1) := by decide +kernel
theorem dX12_isReading_2 : decode cX12_isReading 2 = .ok (.iconst 0, 1) := by decide +kernel
theorem dX12_isReading_3 : decode cX12_isReading 3 = .ok (.aload_n 0, 1) := by decide +kernel
theorem dX12_isReading_4 : decode cX12_isReading 4 = .ok (.getfield 13, 3) := by decide +kernel
theorem dX12_isReading_7 : decode cX12_isReading 7 = .ok (.iconst 2, 1) := by decide +kernel
theorem dX12_isReading_8 : decode cX12_isReading 8 = .ok (.iaload, 1) := by decide +kernel
theorem dX12_isReading_9 : decode cX12_isReading 9 = .ok (.iconst 1, 1) := by decide +kernel
theorem dX12_isReading_10 : decode cX12_isReading 10 = .ok (.isub, 1) := by decide +kernel
theorem dX12_isReading_11 : decode cX12_isReading 11 = .ok (.invokevirtual 123, 3) := by decide +kernel
theorem dX12_isReading_14 : decode cX12_isReading 14 = .ok (.ireturn, 1) := by decide +kernel
theorem dX12_reading_0 : decode cX12_reading 0 = .ok (.aload_n 0, 1) := by decide +kernel
theorem dX12_reading_1 : decode cX12_reading 1 = .ok (.iload_n 1, 1) := by decide +kernel
theorem dX12_reading_2 : decode cX12_reading 2 = .ok (.invokevirtual 240, 3) := by decide +kernel
theorem dX12_reading_5 : decode cX12_reading 5 = .ok (.ifCond .eq 13, 3) := by decide +kernel
theorem dX12_reading_8 : decode cX12_reading 8 = .ok (.aload_n 0, 1) := by decide +kernel
theorem dX12_reading_9 : decode cX12_reading 9 = .ok (.iload_n 2, 1) := by decide +kernel
theorem dX12_reading_10 : decode cX12_reading 10 = .ok (.iconst 0, 1) := by decide +kernel
theorem dX12_reading_11 : decode cX12_reading 11 = .ok (.iconst 4, 1) := by decide +kernel
theorem dX12_reading_12 : decode cX12_reading 12 = .ok (.invokevirtual 123, 3) := by decide +kernel
theorem dX12_reading_15 : decode cX12_reading 15 = .ok (.ifCond .ne 5, 3) := by decide +kernel
theorem dX12_reading_18 : decode cX12_reading 18 = .ok (.iconst (-1), 1) := by decide +kernel
theorem dX12_reading_19 : decode cX12_reading 19 = .ok (.ireturn, 1) := by decide +kernel
theorem dX12_reading_20 : decode cX12_reading 20 = .ok (.iload_n 2, 1) := by decide +kernel
theorem dX12_reading_21 : decode cX12_reading 21 = .ok (.ifCond .ne 16, 3) := by decide +kernel
theorem dX12_reading_24 : decode cX12_reading 24 = .ok (.aload_n 0, 1) := by decide +kernel
theorem dX12_reading_25 : decode cX12_reading 25 = .ok (.getfield 13, 3) := by decide +kernel
theorem dX12_reading_28 : decode cX12_reading 28 = .ok (.sipush 2270, 3) := by decide +kernel
theorem dX12_reading_31 : decode cX12_reading 31 = .ok (.iload_n 1, 1) := by decide +kernel
theorem dX12_reading_32 : decode cX12_reading 32 = .ok (.iadd, 1) := by decide +kernel
theorem dX12_reading_33 : decode cX12_reading 33 = .ok (.iaload, 1) := by decide +kernel
theorem dX12_reading_34 : decode cX12_reading 34 = .ok (.goto 67, 3) := by decide +kernel
theorem dX12_reading_37 : decode cX12_reading 37 = .ok (.iload_n 2, 1) := by decide +kernel
theorem dX12_reading_38 : decode cX12_reading 38 = .ok (.iconst 1, 1) := by decide +kernel
theorem dX12_reading_39 : decode cX12_reading 39 = .ok (.if_icmp .ne 16, 3) := by decide +kernel
theorem dX12_reading_42 : decode cX12_reading 42 = .ok (.aload_n 0, 1) := by decide +kernel
theorem dX12_reading_43 : decode cX12_reading 43 = .ok (.getfield 13, 3) := by decide +kernel
theorem dX12_reading_46 : decode cX12_reading 46 = .ok (.sipush 2470, 3) := by decide +kernel
theorem dX12_reading_49 : decode cX12_reading 49 = .ok (.iload_n 1, 1) := by decide +kernel
theorem dX12_reading_50 : decode cX12_reading 50 = .ok (.iadd, 1) := by decide +kernel
theorem dX12_reading_51 : decode cX12_reading 51 = .ok (.iaload, 1) := by decide +kernel
theorem dX12_reading_52 : decode cX12_reading 52 = .ok (.goto 49, 3) := by decide +kernel
theorem dX12_reading_55 : decode cX12_reading 55 = .ok (.iload_n 2, 1) := by decide +kernel
theorem dX12_reading_56 : decode cX12_reading 56 = .ok (.iconst 2, 1) := by decide +kernel
theorem dX12_reading_57 : decode cX12_reading 57 = .ok (.if_icmp .ne 16, 3) := by decide +kernel
theorem dX12_reading_60 : decode cX12_reading 60 = .ok (.aload_n 0, 1) := by decide +kernel
theorem dX12_reading_61 : decode cX12_reading 61 = .ok (.getfield 13, 3) := by decide +kernel
theorem dX12_reading_64 : decode cX12_reading 64 = .ok (.sipush 2670, 3) := by decide +kernel
theorem dX12_reading_67 : decode cX12_reading 67 = .ok (.iload_n 1, 1) := by decide +kernel
theorem dX12_reading_68 : decode cX12_reading 68 = .ok (.iadd, 1) := by decide +kernel
theorem dX12_reading_69 : decode cX12_reading 69 = .ok (.iaload, 1) := by decide +kernel
theorem dX12_reading_70 : decode cX12_reading 70 = .ok (.goto 31, 3) := by decide +kernel
theorem dX12_reading_73 : decode cX12_reading 73 = .ok (.iload_n 2, 1) := by decide +kernel
theorem dX12_reading_74 : decode cX12_reading 74 = .ok (.iconst 3, 1) := by decide +kernel
theorem dX12_reading_75 : decode cX12_reading 75 = .ok (.if_icmp .ne 16, 3) := by decide +kernel
theorem dX12_reading_78 : decode cX12_reading 78 = .ok (.aload_n 0, 1) := by decide +kernel
theorem dX12_reading_79 : decode cX12_reading 79 = .ok (.getfield 13, 3) := by decide +kernel
theorem dX12_reading_82 : decode cX12_reading 82 = .ok (.sipush 2870, 3) := by decide +kernel
theorem dX12_reading_85 : decode cX12_reading 85 = .ok (.iload_n 1, 1) := by decide +kernel
theorem dX12_reading_86 : decode cX12_reading 86 = .ok (.iadd, 1) := by decide +kernel
theorem dX12_reading_87 : decode cX12_reading 87 = .ok (.iaload, 1) := by decide +kernel
theorem dX12_reading_88 : decode cX12_reading 88 = .ok (.goto 13, 3) := by decide +kernel
theorem dX12_reading_91 : decode cX12_reading 91 = .ok (.aload_n 0, 1) := by decide +kernel
theorem dX12_reading_92 : decode cX12_reading 92 = .ok (.getfield 13, 3) := by decide +kernel
theorem dX12_reading_95 : decode cX12_reading 95 = .ok (.sipush 3070, 3) := by decide +kernel
theorem dX12_reading_98 : decode cX12_reading 98 = .ok (.iload_n 1, 1) := by decide +kernel
theorem dX12_reading_99 : decode cX12_reading 99 = .ok (.iadd, 1) := by decide +kernel
theorem dX12_reading_100 : decode cX12_reading 100 = .ok (.iaload, 1) := by decide +kernel
theorem dX12_reading_101 : decode cX12_reading 101 = .ok (.ireturn, 1) := by decide +kernel
theorem dX12_rightOf_0 : decode cX12_rightOf 0 = .ok (.iconst 0, 1) := by decide +kernel
theorem dX12_rightOf_1 : decode cX12_rightOf 1 = .ok (.istore_n 2, 1) := by decide +kernel
theorem dX12_rightOf_2 : decode cX12_rightOf 2 = .ok (.iload_n 2, 1) := by decide +kernel
theorem dX12_rightOf_3 : decode cX12_rightOf 3 = .ok (.aload_n 0, 1) := by decide +kernel
theorem dX12_rightOf_4 : decode cX12_rightOf 4 = .ok (.getfield 13, 3) := by decide +kernel
theorem dX12_rightOf_7 : decode cX12_rightOf 7 = .ok (.iconst 5, 1) := by decide +kernel
theorem dX12_rightOf_8 : decode cX12_rightOf 8 = .ok (.iaload, 1) := by decide +kernel
theorem dX12_rightOf_9 : decode cX12_rightOf 9 = .ok (.if_icmp .ge 92, 3) := by decide +kernel
theorem dX12_rightOf_12 : decode cX12_rightOf 12 = .ok (.aload_n 0, 1) := by decide +kernel
theorem dX12_rightOf_13 : decode cX12_rightOf 13 = .ok (.getfield 13, 3) := by decide +kernel
theorem dX12_rightOf_16 : decode cX12_rightOf 16 = .ok (.sipush 3470, 3) := by decide +kernel
theorem dX12_rightOf_19 : decode cX12_rightOf 19 = .ok (.iload_n 2, 1) := by decide +kernel
theorem dX12_rightOf_20 : decode cX12_rightOf 20 = .ok (.iadd, 1) := by decide +kernel
theorem dX12_rightOf_21 : decode cX12_rightOf 21 = .ok (.iaload, 1) := by decide +kernel
theorem dX12_rightOf_22 : decode cX12_rightOf 22 = .ok (.aload_n 0, 1) := by decide +kernel
theorem dX12_rightOf_23 : decode cX12_rightOf 23 = .ok (.getfield 13, 3) := by decide +kernel
theorem dX12_rightOf_26 : decode cX12_rightOf 26 = .ok (.sipush 2270, 3) := by decide +kernel
theorem dX12_rightOf_29 : decode cX12_rightOf 29 = .ok (.iload_n 1, 1) := by decide +kernel
theorem dX12_rightOf_30 : decode cX12_rightOf 30 = .ok (.iadd, 1) := by decide +kernel
theorem dX12_rightOf_31 : decode cX12_rightOf 31 = .ok (.iaload, 1) := by decide +kernel
theorem dX12_rightOf_32 : decode cX12_rightOf 32 = .ok (.if_icmp .ne 63, 3) := by decide +kernel
theorem dX12_rightOf_35 : decode cX12_rightOf 35 = .ok (.aload_n 0, 1) := by decide +kernel
theorem dX12_rightOf_36 : decode cX12_rightOf 36 = .ok (.getfield 13, 3) := by decide +kernel
theorem dX12_rightOf_39 : decode cX12_rightOf 39 = .ok (.sipush 3650, 3) := by decide +kernel
theorem dX12_rightOf_42 : decode cX12_rightOf 42 = .ok (.iload_n 2, 1) := by decide +kernel
theorem dX12_rightOf_43 : decode cX12_rightOf 43 = .ok (.iadd, 1) := by decide +kernel
theorem dX12_rightOf_44 : decode cX12_rightOf 44 = .ok (.iaload, 1) := by decide +kernel
theorem dX12_rightOf_45 : decode cX12_rightOf 45 = .ok (.iload_n 1, 1) := by decide +kernel
theorem dX12_rightOf_46 : decode cX12_rightOf 46 = .ok (.if_icmp .le 49, 3) := by decide +kernel
theorem dX12_rightOf_49 : decode cX12_rightOf 49 = .ok (.aload_n 0, 1) := by decide +kernel
theorem dX12_rightOf_50 : decode cX12_rightOf 50 = .ok (.getfield 13, 3) := by decide +kernel
theorem dX12_rightOf_53 : decode cX12_rightOf 53 = .ok (.sipush 3270, 3) := by decide +kernel
theorem dX12_rightOf_56 : decode cX12_rightOf 56 = .ok (.iload_n 1, 1) := by decide +kernel
theorem dX12_rightOf_57 : decode cX12_rightOf 57 = .ok (.iadd, 1) := by decide +kernel
theorem dX12_rightOf_58 : decode cX12_rightOf 58 = .ok (.iaload, 1) := by decide +kernel
theorem dX12_rightOf_59 : decode cX12_rightOf 59 = .ok (.aload_n 0, 1) := by decide +kernel
theorem dX12_rightOf_60 : decode cX12_rightOf 60 = .ok (.getfield 13, 3) := by decide +kernel
theorem dX12_rightOf_63 : decode cX12_rightOf 63 = .ok (.sipush 3530, 3) := by decide +kernel
theorem dX12_rightOf_66 : decode cX12_rightOf 66 = .ok (.iload_n 2, 1) := by decide +kernel
theorem dX12_rightOf_67 : decode cX12_rightOf 67 = .ok (.iadd, 1) := by decide +kernel
theorem dX12_rightOf_68 : decode cX12_rightOf 68 = .ok (.iaload, 1) := by decide +kernel
theorem dX12_rightOf_69 : decode cX12_rightOf 69 = .ok (.aload_n 0, 1) := by decide +kernel
theorem dX12_rightOf_70 : decode cX12_rightOf 70 = .ok (.getfield 13, 3) := by decide +kernel
theorem dX12_rightOf_73 : decode cX12_rightOf 73 = .ok (.sipush 3070, 3) := by decide +kernel
theorem dX12_rightOf_76 : decode cX12_rightOf 76 = .ok (.iload_n 1, 1) := by decide +kernel
theorem dX12_rightOf_77 : decode cX12_rightOf 77 = .ok (.iadd, 1) := by decide +kernel
theorem dX12_rightOf_78 : decode cX12_rightOf 78 = .ok (.iaload, 1) := by decide +kernel
theorem dX12_rightOf_79 : decode cX12_rightOf 79 = .ok (.iconst 1, 1) := by decide +kernel
theorem dX12_rightOf_80 : decode cX12_rightOf 80 = .ok (.iadd, 1) := by decide +kernel
theorem dX12_rightOf_81 : decode cX12_rightOf 81 = .ok (.imul, 1) := by decide +kernel
theorem dX12_rightOf_82 : decode cX12_rightOf 82 = .ok (.aload_n 0, 1) := by decide +kernel
theorem dX12_rightOf_83 : decode cX12_rightOf 83 = .ok (.getfield 13, 3) := by decide +kernel
theorem dX12_rightOf_86 : decode cX12_rightOf 86 = .ok (.sipush 3590, 3) := by decide +kernel
theorem dX12_rightOf_89 : decode cX12_rightOf 89 = .ok (.iload_n 2, 1) := by decide +kernel
theorem dX12_rightOf_90 : decode cX12_rightOf 90 = .ok (.iadd, 1) := by decide +kernel
theorem dX12_rightOf_91 : decode cX12_rightOf 91 = .ok (.iaload, 1) := by decide +kernel
theorem dX12_rightOf_92 : decode cX12_rightOf 92 = .ok (.idiv, 1) := by decide +kernel
theorem dX12_rightOf_93 : decode cX12_rightOf 93 = .ok (.isub, 1) := by decide +kernel
theorem dX12_rightOf_94 : decode cX12_rightOf 94 = .ok (.ireturn, 1) := by decide +kernel
theorem dX12_rightOf_95 : decode cX12_rightOf 95 = .ok (.iinc 2 1, 3) := by decide +kernel
theorem dX12_rightOf_98 : decode cX12_rightOf 98 = .ok (.goto (-96), 3) := by decide +kernel
theorem dX12_rightOf_101 : decode cX12_rightOf 101 = .ok (.aload_n 0, 1) := by decide +kernel
theorem dX12_rightOf_102 : decode cX12_rightOf 102 = .ok (.getfield 13, 3) := by decide +kernel
theorem dX12_rightOf_105 : decode cX12_rightOf 105 = .ok (.sipush 3270, 3) := by decide +kernel
theorem dX12_rightOf_108 : decode cX12_rightOf 108 = .ok (.iload_n 1, 1) := by decide +kernel
theorem dX12_rightOf_109 : decode cX12_rightOf 109 = .ok (.iadd, 1) := by decide +kernel
theorem dX12_rightOf_110 : decode cX12_rightOf 110 = .ok (.iaload, 1) := by decide +kernel
theorem dX12_rightOf_111 : decode cX12_rightOf 111 = .ok (.iconst 3, 1) := by decide +kernel
theorem dX12_rightOf_112 : decode cX12_rightOf 112 = .ok (.aload_n 0, 1) := by decide +kernel
theorem dX12_rightOf_113 : decode cX12_rightOf 113 = .ok (.getfield 13, 3) := by decide +kernel
theorem dX12_rightOf_116 : decode cX12_rightOf 116 = .ok (.sipush 3070, 3) := by decide +kernel
theorem dX12_rightOf_119 : decode cX12_rightOf 119 = .ok (.iload_n 1, 1) := by decide +kernel
theorem dX12_rightOf_120 : decode cX12_rightOf 120 = .ok (.iadd, 1) := by decide +kernel
theorem dX12_rightOf_121 : decode cX12_rightOf 121 = .ok (.iaload, 1) := by decide +kernel
theorem dX12_rightOf_122 : decode cX12_rightOf 122 = .ok (.imul, 1) := by decide +kernel
theorem dX12_rightOf_123 : decode cX12_rightOf 123 = .ok (.isub, 1) := by decide +kernel
theorem dX12_rightOf_124 : decode cX12_rightOf 124 = .ok (.ireturn, 1) := by decide +kernel
theorem dX12_read_0 : decode cX12_read 0 = .ok (.aload_n 0, 1) := by decide +kernel
theorem dX12_read_1 : decode cX12_read 1 = .ok (.aload_n 0, 1) := by decide +kernel
theorem dX12_read_2 : decode cX12_read 2 = .ok (.iload_n 1, 1) := by decide +kernel
theorem dX12_read_3 : decode cX12_read 3 = .ok (.invokevirtual 240, 3) := by decide +kernel
theorem dX12_read_6 : decode cX12_read 6 = .ok (.ifCond .eq 7, 3) := by decide +kernel
theorem dX12_read_9 : decode cX12_read 9 = .ok (.iconst 0, 1) := by decide +kernel
theorem dX12_read_10 : decode cX12_read 10 = .ok (.goto 4, 3) := by decide +kernel
theorem dX12_read_13 : decode cX12_read 13 = .ok (.iconst 1, 1) := by decide +kernel
theorem dX12_read_14 : decode cX12_read 14 = .ok (.putfield 1, 3) := by decide +kernel
theorem dX12_read_17 : decode cX12_read 17 = .ok (.aload_n 0, 1) := by decide +kernel
theorem dX12_read_18 : decode cX12_read 18 = .ok (.getfield 1, 3) := by decide +kernel
theorem dX12_read_21 : decode cX12_read 21 = .ok (.ifCond .le 7, 3) := by decide +kernel
theorem dX12_read_24 : decode cX12_read 24 = .ok (.lconst 0, 1) := by decide +kernel
theorem dX12_read_25 : decode cX12_read 25 = .ok (.goto 27, 3) := by decide +kernel
theorem dX12_read_28 : decode cX12_read 28 = .ok (.iload_n 2, 1) := by decide +kernel
theorem dX12_read_29 : decode cX12_read 29 = .ok (.ifCond .eq 12, 3) := by decide +kernel
theorem dX12_read_32 : decode cX12_read 32 = .ok (.aload_n 0, 1) := by decide +kernel
theorem dX12_read_33 : decode cX12_read 33 = .ok (.iload_n 1, 1) := by decide +kernel
theorem dX12_read_34 : decode cX12_read 34 = .ok (.invokevirtual 243, 3) := by decide +kernel
theorem dX12_read_37 : decode cX12_read 37 = .ok (.i2l, 1) := by decide +kernel
theorem dX12_read_38 : decode cX12_read 38 = .ok (.goto 14, 3) := by decide +kernel
theorem dX12_read_41 : decode cX12_read 41 = .ok (.aload_n 0, 1) := by decide +kernel
theorem dX12_read_42 : decode cX12_read 42 = .ok (.getfield 13, 3) := by decide +kernel
theorem dX12_read_45 : decode cX12_read 45 = .ok (.sipush 3270, 3) := by decide +kernel
theorem dX12_read_48 : decode cX12_read 48 = .ok (.iload_n 1, 1) := by decide +kernel
theorem dX12_read_49 : decode cX12_read 49 = .ok (.iadd, 1) := by decide +kernel
theorem dX12_read_50 : decode cX12_read 50 = .ok (.iaload, 1) := by decide +kernel
theorem dX12_read_51 : decode cX12_read 51 = .ok (.i2l, 1) := by decide +kernel
theorem dX12_read_52 : decode cX12_read 52 = .ok (.lreturn, 1) := by decide +kernel
theorem dX12_endBy_0 : decode cX12_endBy 0 = .ok (.aload_n 0, 1) := by decide +kernel
theorem dX12_endBy_1 : decode cX12_endBy 1 = .ok (.aload_n 0, 1) := by decide +kernel
theorem dX12_endBy_2 : decode cX12_endBy 2 = .ok (.getfield 13, 3) := by decide +kernel
theorem dX12_endBy_5 : decode cX12_endBy 5 = .ok (.sipush 2178, 3) := by decide +kernel
theorem dX12_endBy_8 : decode cX12_endBy 8 = .ok (.iload_n 1, 1) := by decide +kernel
theorem dX12_endBy_9 : decode cX12_endBy 9 = .ok (.iadd, 1) := by decide +kernel
theorem dX12_endBy_10 : decode cX12_endBy 10 = .ok (.iaload, 1) := by decide +kernel
theorem dX12_endBy_11 : decode cX12_endBy 11 = .ok (.putfield 24, 3) := by decide +kernel
theorem dX12_endBy_14 : decode cX12_endBy 14 = .ok (.aload_n 0, 1) := by decide +kernel
theorem dX12_endBy_15 : decode cX12_endBy 15 = .ok (.aload_n 0, 1) := by decide +kernel
theorem dX12_endBy_16 : decode cX12_endBy 16 = .ok (.getfield 13, 3) := by decide +kernel
theorem dX12_endBy_19 : decode cX12_endBy 19 = .ok (.sipush 2186, 3) := by decide +kernel
theorem dX12_endBy_22 : decode cX12_endBy 22 = .ok (.iload_n 1, 1) := by decide +kernel
theorem dX12_endBy_23 : decode cX12_endBy 23 = .ok (.iadd, 1) := by decide +kernel
theorem dX12_endBy_24 : decode cX12_endBy 24 = .ok (.iaload, 1) := by decide +kernel
theorem dX12_endBy_25 : decode cX12_endBy 25 = .ok (.putfield 27, 3) := by decide +kernel
theorem dX12_endBy_28 : decode cX12_endBy 28 = .ok (.aload_n 0, 1) := by decide +kernel
theorem dX12_endBy_29 : decode cX12_endBy 29 = .ok (.iload_n 2, 1) := by decide +kernel
theorem dX12_endBy_30 : decode cX12_endBy 30 = .ok (.iconst 1, 1) := by decide +kernel
theorem dX12_endBy_31 : decode cX12_endBy 31 = .ok (.invokevirtual 172, 3) := by decide +kernel
theorem dX12_endBy_34 : decode cX12_endBy 34 = .ok (.aload_n 0, 1) := by decide +kernel
theorem dX12_endBy_35 : decode cX12_endBy 35 = .ok (.iload_n 3, 1) := by decide +kernel
theorem dX12_endBy_36 : decode cX12_endBy 36 = .ok (.iload 4, 2) := by decide +kernel
theorem dX12_endBy_38 : decode cX12_endBy 38 = .ok (.invokevirtual 159, 3) := by decide +kernel
theorem dX12_endBy_41 : decode cX12_endBy 41 = .ok (.return_, 1) := by decide +kernel
theorem dX12_findEnds_0 : decode cX12_findEnds 0 = .ok (.aload_n 0, 1) := by decide +kernel
theorem dX12_findEnds_1 : decode cX12_findEnds 1 = .ok (.iconst 0, 1) := by decide +kernel
theorem dX12_findEnds_2 : decode cX12_findEnds 2 = .ok (.putfield 90, 3) := by decide +kernel
theorem dX12_findEnds_5 : decode cX12_findEnds 5 = .ok (.iconst 0, 1) := by decide +kernel
theorem dX12_findEnds_6 : decode cX12_findEnds 6 = .ok (.istore_n 2, 1) := by decide +kernel
theorem dX12_findEnds_7 : decode cX12_findEnds 7 = .ok (.iload_n 2, 1) := by decide +kernel
theorem dX12_findEnds_8 : decode cX12_findEnds 8 = .ok (.aload_n 0, 1) := by decide +kernel
theorem dX12_findEnds_9 : decode cX12_findEnds 9 = .ok (.getfield 13, 3) := by decide +kernel
theorem dX12_findEnds_12 : decode cX12_findEnds 12 = .ok (.iconst 0, 1) := by decide +kernel
theorem dX12_findEnds_13 : decode cX12_findEnds 13 = .ok (.iaload, 1) := by decide +kernel
theorem dX12_findEnds_14 : decode cX12_findEnds 14 = .ok (.if_icmp .ge 173, 3) := by decide +kernel
theorem dX12_findEnds_17 : decode cX12_findEnds 17 = .ok (.aload_n 0, 1) := by decide +kernel
theorem dX12_findEnds_18 : decode cX12_findEnds 18 = .ok (.getfield 90, 3) := by decide +kernel
theorem dX12_findEnds_21 : decode cX12_findEnds 21 = .ok (.iconst 3, 1) := by decide +kernel
theorem dX12_findEnds_22 : decode cX12_findEnds 22 = .ok (.if_icmp .ge 165, 3) := by decide +kernel
theorem dX12_findEnds_25 : decode cX12_findEnds 25 = .ok (.aload_n 0, 1) := by decide +kernel
theorem dX12_findEnds_26 : decode cX12_findEnds 26 = .ok (.iload_n 2, 1) := by decide +kernel
theorem dX12_findEnds_27 : decode cX12_findEnds 27 = .ok (.invokevirtual 187, 3) := by decide +kernel
theorem dX12_findEnds_30 : decode cX12_findEnds 30 = .ok (.ifCond .eq 151, 3) := by decide +kernel
theorem dX12_findEnds_33 : decode cX12_findEnds 33 = .ok (.aload_n 0, 1) := by decide +kernel
theorem dX12_findEnds_34 : decode cX12_findEnds 34 = .ok (.getfield 13, 3) := by decide +kernel
theorem dX12_findEnds_37 : decode cX12_findEnds 37 = .ok (.sipush 2194, 3) := by decide +kernel
theorem dX12_findEnds_40 : decode cX12_findEnds 40 = .ok (.iload_n 2, 1) := by decide +kernel
theorem dX12_findEnds_41 : decode cX12_findEnds 41 = .ok (.iadd, 1) := by decide +kernel
theorem dX12_findEnds_42 : decode cX12_findEnds 42 = .ok (.iaload, 1) := by decide +kernel
theorem dX12_findEnds_43 : decode cX12_findEnds 43 = .ok (.aload_n 0, 1) := by decide +kernel
theorem dX12_findEnds_44 : decode cX12_findEnds 44 = .ok (.iload_n 2, 1) := by decide +kernel
theorem dX12_findEnds_45 : decode cX12_findEnds 45 = .ok (.aload_n 0, 1) := by decide +kernel
theorem dX12_findEnds_46 : decode cX12_findEnds 46 = .ok (.iload_n 2, 1) := by decide +kernel
theorem dX12_findEnds_47 : decode cX12_findEnds 47 = .ok (.iload_n 1, 1) := by decide +kernel
theorem dX12_findEnds_48 : decode cX12_findEnds 48 = .ok (.invokevirtual 225, 3) := by decide +kernel
theorem dX12_findEnds_51 : decode cX12_findEnds 51 = .ok (.invokevirtual 149, 3) := by decide +kernel
theorem dX12_findEnds_54 : decode cX12_findEnds 54 = .ok (.if_icmp .ge 6, 3) := by decide +kernel
theorem dX12_findEnds_57 : decode cX12_findEnds 57 = .ok (.goto 124, 3) := by decide +kernel
theorem dX12_findEnds_60 : decode cX12_findEnds 60 = .ok (.aload_n 0, 1) := by decide +kernel
theorem dX12_findEnds_61 : decode cX12_findEnds 61 = .ok (.getfield 75, 3) := by decide +kernel
theorem dX12_findEnds_64 : decode cX12_findEnds 64 = .ok (.aload_n 0, 1) := by decide +kernel
theorem dX12_findEnds_65 : decode cX12_findEnds 65 = .ok (.getfield 90, 3) := by decide +kernel
theorem dX12_findEnds_68 : decode cX12_findEnds 68 = .ok (.iload_n 2, 1) := by decide +kernel
theorem dX12_findEnds_69 : decode cX12_findEnds 69 = .ok (.iastore, 1) := by decide +kernel
theorem dX12_findEnds_70 : decode cX12_findEnds 70 = .ok (.iconst 0, 1) := by decide +kernel
theorem dX12_findEnds_71 : decode cX12_findEnds 71 = .ok (.istore_n 3, 1) := by decide +kernel
theorem dX12_findEnds_72 : decode cX12_findEnds 72 = .ok (.iload_n 3, 1) := by decide +kernel
theorem dX12_findEnds_73 : decode cX12_findEnds 73 = .ok (.bipush 81, 2) := by decide +kernel
theorem dX12_findEnds_75 : decode cX12_findEnds 75 = .ok (.if_icmp .ge 96, 3) := by decide +kernel
theorem dX12_findEnds_78 : decode cX12_findEnds 78 = .ok (.aload_n 0, 1) := by decide +kernel
theorem dX12_findEnds_79 : decode cX12_findEnds 79 = .ok (.getfield 78, 3) := by decide +kernel
theorem dX12_findEnds_82 : decode cX12_findEnds 82 = .ok (.bipush 81, 2) := by decide +kernel
theorem dX12_findEnds_84 : decode cX12_findEnds 84 = .ok (.aload_n 0, 1) := by decide +kernel
theorem dX12_findEnds_85 : decode cX12_findEnds 85 = .ok (.getfield 90, 3) := by decide +kernel
theorem dX12_findEnds_88 : decode cX12_findEnds 88 = .ok (.imul, 1) := by decide +kernel
theorem dX12_findEnds_89 : decode cX12_findEnds 89 = .ok (.iload_n 3, 1) := by decide +kernel
theorem dX12_findEnds_90 : decode cX12_findEnds 90 = .ok (.iadd, 1) := by decide +kernel
theorem dX12_findEnds_91 : decode cX12_findEnds 91 = .ok (.iconst (-1), 1) := by decide +kernel
theorem dX12_findEnds_92 : decode cX12_findEnds 92 = .ok (.iastore, 1) := by decide +kernel
theorem dX12_findEnds_93 : decode cX12_findEnds 93 = .ok (.aload_n 0, 1) := by decide +kernel
theorem dX12_findEnds_94 : decode cX12_findEnds 94 = .ok (.iload_n 2, 1) := by decide +kernel
theorem dX12_findEnds_95 : decode cX12_findEnds 95 = .ok (.iload_n 3, 1) := by decide +kernel
theorem dX12_findEnds_96 : decode cX12_findEnds 96 = .ok (.bipush 9, 2) := by decide +kernel
theorem dX12_findEnds_98 : decode cX12_findEnds 98 = .ok (.idiv, 1) := by decide +kernel
theorem dX12_findEnds_99 : decode cX12_findEnds 99 = .ok (.iconst 4, 1) := by decide +kernel
theorem dX12_findEnds_100 : decode cX12_findEnds 100 = .ok (.isub, 1) := by decide +kernel
theorem dX12_findEnds_101 : decode cX12_findEnds 101 = .ok (.iload_n 3, 1) := by decide +kernel
theorem dX12_findEnds_102 : decode cX12_findEnds 102 = .ok (.bipush 9, 2) := by decide +kernel
theorem dX12_findEnds_104 : decode cX12_findEnds 104 = .ok (.irem, 1) := by decide +kernel
theorem dX12_findEnds_105 : decode cX12_findEnds 105 = .ok (.iconst 4, 1) := by decide +kernel
theorem dX12_findEnds_106 : decode cX12_findEnds 106 = .ok (.isub, 1) := by decide +kernel
theorem dX12_findEnds_107 : decode cX12_findEnds 107 = .ok (.invokevirtual 184, 3) := by decide +kernel
theorem dX12_findEnds_110 : decode cX12_findEnds 110 = .ok (.ifCond .ne 6, 3) := by decide +kernel
theorem dX12_findEnds_113 : decode cX12_findEnds 113 = .ok (.goto 52, 3) := by decide +kernel
theorem dX12_findEnds_116 : decode cX12_findEnds 116 = .ok (.aload_n 0, 1) := by decide +kernel
theorem dX12_findEnds_117 : decode cX12_findEnds 117 = .ok (.iload_n 2, 1) := by decide +kernel
theorem dX12_findEnds_118 : decode cX12_findEnds 118 = .ok (.aload_n 0, 1) := by decide +kernel
theorem dX12_findEnds_119 : decode cX12_findEnds 119 = .ok (.iload_n 2, 1) := by decide +kernel
theorem dX12_findEnds_120 : decode cX12_findEnds 120 = .ok (.iload_n 1, 1) := by decide +kernel
theorem dX12_findEnds_121 : decode cX12_findEnds 121 = .ok (.invokevirtual 225, 3) := by decide +kernel
theorem dX12_findEnds_124 : decode cX12_findEnds 124 = .ok (.iload_n 3, 1) := by decide +kernel
theorem dX12_findEnds_125 : decode cX12_findEnds 125 = .ok (.bipush 9, 2) := by decide +kernel
theorem dX12_findEnds_127 : decode cX12_findEnds 127 = .ok (.idiv, 1) := by decide +kernel
theorem dX12_findEnds_128 : decode cX12_findEnds 128 = .ok (.iconst 4, 1) := by decide +kernel
theorem dX12_findEnds_129 : decode cX12_findEnds 129 = .ok (.isub, 1) := by decide +kernel
theorem dX12_findEnds_130 : decode cX12_findEnds 130 = .ok (.iload_n 3, 1) := by decide +kernel
theorem dX12_findEnds_131 : decode cX12_findEnds 131 = .ok (.bipush 9, 2) := by decide +kernel
theorem dX12_findEnds_133 : decode cX12_findEnds 133 = .ok (.irem, 1) := by decide +kernel
theorem dX12_findEnds_134 : decode cX12_findEnds 134 = .ok (.iconst 4, 1) := by decide +kernel
theorem dX12_findEnds_135 : decode cX12_findEnds 135 = .ok (.isub, 1) := by decide +kernel
theorem dX12_findEnds_136 : decode cX12_findEnds 136 = .ok (.invokevirtual 246, 3) := by decide +kernel
theorem dX12_findEnds_139 : decode cX12_findEnds 139 = .ok (.aload_n 0, 1) := by decide +kernel
theorem dX12_findEnds_140 : decode cX12_findEnds 140 = .ok (.getfield 78, 3) := by decide +kernel
theorem dX12_findEnds_143 : decode cX12_findEnds 143 = .ok (.bipush 81, 2) := by decide +kernel
theorem dX12_findEnds_145 : decode cX12_findEnds 145 = .ok (.aload_n 0, 1) := by decide +kernel
