theorem dX12_findEnds_146 : decode cX12_findEnds 146 = .ok (.getfield 90, 3) := by decide +kernel
theorem dX12_findEnds_149 : decode cX12_findEnds 149 = .ok (.imul, 1) := by decide +kernel
theorem dX12_findEnds_150 : decode cX12_findEnds 150 = .ok (.iload_n 3, 1) := by decide +kernel
theorem dX12_findEnds_151 : decode cX12_findEnds 151 = .ok (.iadd, 1) := by decide +kernel
theorem dX12_findEnds_152 : decode cX12_findEnds 152 = .ok (.bipush 8, 2) := by decide +kernel
theorem dX12_findEnds_154 : decode cX12_findEnds 154 = .ok (.aload_n 0, 1) := by decide +kernel
theorem dX12_findEnds_155 : decode cX12_findEnds 155 = .ok (.getfield 24, 3) := by decide +kernel
theorem dX12_findEnds_158 : decode cX12_findEnds 158 = .ok (.imul, 1) := by decide +kernel
theorem dX12_findEnds_159 : decode cX12_findEnds 159 = .ok (.aload_n 0, 1) := by decide +kernel
theorem dX12_findEnds_160 : decode cX12_findEnds 160 = .ok (.getfield 27, 3) := by decide +kernel
theorem dX12_findEnds_163 : decode cX12_findEnds 163 = .ok (.iadd, 1) := by decide +kernel
theorem dX12_findEnds_164 : decode cX12_findEnds 164 = .ok (.iastore, 1) := by decide +kernel
theorem dX12_findEnds_165 : decode cX12_findEnds 165 = .ok (.iinc 3 1, 3) := by decide +kernel
theorem dX12_findEnds_168 : decode cX12_findEnds 168 = .ok (.goto (-96), 3) := by decide +kernel
theorem dX12_findEnds_171 : decode cX12_findEnds 171 = .ok (.aload_n 0, 1) := by decide +kernel
theorem dX12_findEnds_172 : decode cX12_findEnds 172 = .ok (.dup, 1) := by decide +kernel
theorem dX12_findEnds_173 : decode cX12_findEnds 173 = .ok (.getfield 90, 3) := by decide +kernel
theorem dX12_findEnds_176 : decode cX12_findEnds 176 = .ok (.iconst 1, 1) := by decide +kernel
theorem dX12_findEnds_177 : decode cX12_findEnds 177 = .ok (.iadd, 1) := by decide +kernel
theorem dX12_findEnds_178 : decode cX12_findEnds 178 = .ok (.putfield 90, 3) := by decide +kernel
theorem dX12_findEnds_181 : decode cX12_findEnds 181 = .ok (.iinc 2 1, 3) := by decide +kernel
theorem dX12_findEnds_184 : decode cX12_findEnds 184 = .ok (.goto (-177), 3) := by decide +kernel
theorem dX12_findEnds_187 : decode cX12_findEnds 187 = .ok (.return_, 1) := by decide +kernel
theorem dX12_gainOf_0 : decode cX12_gainOf 0 = .ok (.iconst 0, 1) := by decide +kernel
theorem dX12_gainOf_1 : decode cX12_gainOf 1 = .ok (.istore_n 1, 1) := by decide +kernel
theorem dX12_gainOf_2 : decode cX12_gainOf 2 = .ok (.iconst 0, 1) := by decide +kernel
theorem dX12_gainOf_3 : decode cX12_gainOf 3 = .ok (.istore_n 2, 1) := by decide +kernel
theorem dX12_gainOf_4 : decode cX12_gainOf 4 = .ok (.iload_n 2, 1) := by decide +kernel
theorem dX12_gainOf_5 : decode cX12_gainOf 5 = .ok (.aload_n 0, 1) := by decide +kernel
theorem dX12_gainOf_6 : decode cX12_gainOf 6 = .ok (.getfield 90, 3) := by decide +kernel
theorem dX12_gainOf_9 : decode cX12_gainOf 9 = .ok (.if_icmp .ge 32, 3) := by decide +kernel
theorem dX12_gainOf_12 : decode cX12_gainOf 12 = .ok (.iload_n 1, 1) := by decide +kernel
theorem dX12_gainOf_13 : decode cX12_gainOf 13 = .ok (.aload_n 0, 1) := by decide +kernel
theorem dX12_gainOf_14 : decode cX12_gainOf 14 = .ok (.aload_n 0, 1) := by decide +kernel
theorem dX12_gainOf_15 : decode cX12_gainOf 15 = .ok (.getfield 78, 3) := by decide +kernel
theorem dX12_gainOf_18 : decode cX12_gainOf 18 = .ok (.bipush 81, 2) := by decide +kernel
theorem dX12_gainOf_20 : decode cX12_gainOf 20 = .ok (.iload_n 2, 1) := by decide +kernel
theorem dX12_gainOf_21 : decode cX12_gainOf 21 = .ok (.imul, 1) := by decide +kernel
theorem dX12_gainOf_22 : decode cX12_gainOf 22 = .ok (.aload_n 0, 1) := by decide +kernel
theorem dX12_gainOf_23 : decode cX12_gainOf 23 = .ok (.getfield 81, 3) := by decide +kernel
theorem dX12_gainOf_26 : decode cX12_gainOf 26 = .ok (.iload_n 2, 1) := by decide +kernel
theorem dX12_gainOf_27 : decode cX12_gainOf 27 = .ok (.iaload, 1) := by decide +kernel
theorem dX12_gainOf_28 : decode cX12_gainOf 28 = .ok (.iadd, 1) := by decide +kernel
theorem dX12_gainOf_29 : decode cX12_gainOf 29 = .ok (.iaload, 1) := by decide +kernel
theorem dX12_gainOf_30 : decode cX12_gainOf 30 = .ok (.invokevirtual 250, 3) := by decide +kernel
theorem dX12_gainOf_33 : decode cX12_gainOf 33 = .ok (.iadd, 1) := by decide +kernel
theorem dX12_gainOf_34 : decode cX12_gainOf 34 = .ok (.istore_n 1, 1) := by decide +kernel
theorem dX12_gainOf_35 : decode cX12_gainOf 35 = .ok (.iinc 2 1, 3) := by decide +kernel
theorem dX12_gainOf_38 : decode cX12_gainOf 38 = .ok (.goto (-34), 3) := by decide +kernel
theorem dX12_gainOf_41 : decode cX12_gainOf 41 = .ok (.iconst 0, 1) := by decide +kernel
theorem dX12_gainOf_42 : decode cX12_gainOf 42 = .ok (.istore_n 2, 1) := by decide +kernel
theorem dX12_gainOf_43 : decode cX12_gainOf 43 = .ok (.iload_n 2, 1) := by decide +kernel
theorem dX12_gainOf_44 : decode cX12_gainOf 44 = .ok (.aload_n 0, 1) := by decide +kernel
theorem dX12_gainOf_45 : decode cX12_gainOf 45 = .ok (.getfield 90, 3) := by decide +kernel
theorem dX12_gainOf_48 : decode cX12_gainOf 48 = .ok (.if_icmp .ge 29, 3) := by decide +kernel
theorem dX12_gainOf_51 : decode cX12_gainOf 51 = .ok (.aload_n 0, 1) := by decide +kernel
theorem dX12_gainOf_52 : decode cX12_gainOf 52 = .ok (.aload_n 0, 1) := by decide +kernel
theorem dX12_gainOf_53 : decode cX12_gainOf 53 = .ok (.getfield 78, 3) := by decide +kernel
theorem dX12_gainOf_56 : decode cX12_gainOf 56 = .ok (.bipush 81, 2) := by decide +kernel
theorem dX12_gainOf_58 : decode cX12_gainOf 58 = .ok (.iload_n 2, 1) := by decide +kernel
theorem dX12_gainOf_59 : decode cX12_gainOf 59 = .ok (.imul, 1) := by decide +kernel
theorem dX12_gainOf_60 : decode cX12_gainOf 60 = .ok (.aload_n 0, 1) := by decide +kernel
theorem dX12_gainOf_61 : decode cX12_gainOf 61 = .ok (.getfield 81, 3) := by decide +kernel
theorem dX12_gainOf_64 : decode cX12_gainOf 64 = .ok (.iload_n 2, 1) := by decide +kernel
theorem dX12_gainOf_65 : decode cX12_gainOf 65 = .ok (.iaload, 1) := by decide +kernel
theorem dX12_gainOf_66 : decode cX12_gainOf 66 = .ok (.iadd, 1) := by decide +kernel
theorem dX12_gainOf_67 : decode cX12_gainOf 67 = .ok (.iaload, 1) := by decide +kernel
theorem dX12_gainOf_68 : decode cX12_gainOf 68 = .ok (.invokevirtual 253, 3) := by decide +kernel
theorem dX12_gainOf_71 : decode cX12_gainOf 71 = .ok (.iinc 2 1, 3) := by decide +kernel
theorem dX12_gainOf_74 : decode cX12_gainOf 74 = .ok (.goto (-31), 3) := by decide +kernel
theorem dX12_gainOf_77 : decode cX12_gainOf 77 = .ok (.iload_n 1, 1) := by decide +kernel
theorem dX12_gainOf_78 : decode cX12_gainOf 78 = .ok (.ireturn, 1) := by decide +kernel
theorem dX12_gainAt_0 : decode cX12_gainAt 0 = .ok (.aload_n 0, 1) := by decide +kernel
theorem dX12_gainAt_1 : decode cX12_gainAt 1 = .ok (.iload_n 1, 1) := by decide +kernel
theorem dX12_gainAt_2 : decode cX12_gainAt 2 = .ok (.aload_n 0, 1) := by decide +kernel
theorem dX12_gainAt_3 : decode cX12_gainAt 3 = .ok (.getfield 13, 3) := by decide +kernel
theorem dX12_gainAt_6 : decode cX12_gainAt 6 = .ok (.sipush 170, 3) := by decide +kernel
theorem dX12_gainAt_9 : decode cX12_gainAt 9 = .ok (.iload_n 1, 1) := by decide +kernel
theorem dX12_gainAt_10 : decode cX12_gainAt 10 = .ok (.iadd, 1) := by decide +kernel
theorem dX12_gainAt_11 : decode cX12_gainAt 11 = .ok (.iaload, 1) := by decide +kernel
theorem dX12_gainAt_12 : decode cX12_gainAt 12 = .ok (.invokevirtual 256, 3) := by decide +kernel
theorem dX12_gainAt_15 : decode cX12_gainAt 15 = .ok (.istore_n 2, 1) := by decide +kernel
theorem dX12_gainAt_16 : decode cX12_gainAt 16 = .ok (.iconst 0, 1) := by decide +kernel
theorem dX12_gainAt_17 : decode cX12_gainAt 17 = .ok (.istore_n 3, 1) := by decide +kernel
theorem dX12_gainAt_18 : decode cX12_gainAt 18 = .ok (.iload_n 3, 1) := by decide +kernel
theorem dX12_gainAt_19 : decode cX12_gainAt 19 = .ok (.iconst 4, 1) := by decide +kernel
theorem dX12_gainAt_20 : decode cX12_gainAt 20 = .ok (.if_icmp .ge 50, 3) := by decide +kernel
theorem dX12_gainAt_23 : decode cX12_gainAt 23 = .ok (.aload_n 0, 1) := by decide +kernel
theorem dX12_gainAt_24 : decode cX12_gainAt 24 = .ok (.iload_n 1, 1) := by decide +kernel
theorem dX12_gainAt_25 : decode cX12_gainAt 25 = .ok (.iload_n 3, 1) := by decide +kernel
theorem dX12_gainAt_26 : decode cX12_gainAt 26 = .ok (.invokevirtual 165, 3) := by decide +kernel
theorem dX12_gainAt_29 : decode cX12_gainAt 29 = .ok (.ifCond .lt 35, 3) := by decide +kernel
theorem dX12_gainAt_32 : decode cX12_gainAt 32 = .ok (.iload_n 2, 1) := by decide +kernel
theorem dX12_gainAt_33 : decode cX12_gainAt 33 = .ok (.aload_n 0, 1) := by decide +kernel
theorem dX12_gainAt_34 : decode cX12_gainAt 34 = .ok (.aload_n 0, 1) := by decide +kernel
theorem dX12_gainAt_35 : decode cX12_gainAt 35 = .ok (.iload_n 1, 1) := by decide +kernel
theorem dX12_gainAt_36 : decode cX12_gainAt 36 = .ok (.iload_n 3, 1) := by decide +kernel
theorem dX12_gainAt_37 : decode cX12_gainAt 37 = .ok (.invokevirtual 165, 3) := by decide +kernel
theorem dX12_gainAt_40 : decode cX12_gainAt 40 = .ok (.aload_n 0, 1) := by decide +kernel
theorem dX12_gainAt_41 : decode cX12_gainAt 41 = .ok (.getfield 13, 3) := by decide +kernel
theorem dX12_gainAt_44 : decode cX12_gainAt 44 = .ok (.sipush 170, 3) := by decide +kernel
theorem dX12_gainAt_47 : decode cX12_gainAt 47 = .ok (.aload_n 0, 1) := by decide +kernel
theorem dX12_gainAt_48 : decode cX12_gainAt 48 = .ok (.iload_n 1, 1) := by decide +kernel
theorem dX12_gainAt_49 : decode cX12_gainAt 49 = .ok (.iload_n 3, 1) := by decide +kernel
theorem dX12_gainAt_50 : decode cX12_gainAt 50 = .ok (.invokevirtual 165, 3) := by decide +kernel
theorem dX12_gainAt_53 : decode cX12_gainAt 53 = .ok (.iadd, 1) := by decide +kernel
theorem dX12_gainAt_54 : decode cX12_gainAt 54 = .ok (.iaload, 1) := by decide +kernel
theorem dX12_gainAt_55 : decode cX12_gainAt 55 = .ok (.iconst 1, 1) := by decide +kernel
theorem dX12_gainAt_56 : decode cX12_gainAt 56 = .ok (.iadd, 1) := by decide +kernel
theorem dX12_gainAt_57 : decode cX12_gainAt 57 = .ok (.iconst 2, 1) := by decide +kernel
theorem dX12_gainAt_58 : decode cX12_gainAt 58 = .ok (.idiv, 1) := by decide +kernel
theorem dX12_gainAt_59 : decode cX12_gainAt 59 = .ok (.invokevirtual 256, 3) := by decide +kernel
theorem dX12_gainAt_62 : decode cX12_gainAt 62 = .ok (.iadd, 1) := by decide +kernel
theorem dX12_gainAt_63 : decode cX12_gainAt 63 = .ok (.istore_n 2, 1) := by decide +kernel
theorem dX12_gainAt_64 : decode cX12_gainAt 64 = .ok (.iinc 3 1, 3) := by decide +kernel
theorem dX12_gainAt_67 : decode cX12_gainAt 67 = .ok (.goto (-49), 3) := by decide +kernel
theorem dX12_gainAt_70 : decode cX12_gainAt 70 = .ok (.iload_n 2, 1) := by decide +kernel
theorem dX12_gainAt_71 : decode cX12_gainAt 71 = .ok (.ireturn, 1) := by decide +kernel
theorem dX12_raise_0 : decode cX12_raise 0 = .ok (.iload_n 2, 1) := by decide +kernel
theorem dX12_raise_1 : decode cX12_raise 1 = .ok (.aload_n 0, 1) := by decide +kernel
theorem dX12_raise_2 : decode cX12_raise 2 = .ok (.getfield 87, 3) := by decide +kernel
theorem dX12_raise_5 : decode cX12_raise 5 = .ok (.iload_n 1, 1) := by decide +kernel
theorem dX12_raise_6 : decode cX12_raise 6 = .ok (.iaload, 1) := by decide +kernel
theorem dX12_raise_7 : decode cX12_raise 7 = .ok (.if_icmp .gt 5, 3) := by decide +kernel
theorem dX12_raise_10 : decode cX12_raise 10 = .ok (.iconst 0, 1) := by decide +kernel
theorem dX12_raise_11 : decode cX12_raise 11 = .ok (.ireturn, 1) := by decide +kernel
theorem dX12_raise_12 : decode cX12_raise 12 = .ok (.iload_n 2, 1) := by decide +kernel
theorem dX12_raise_13 : decode cX12_raise 13 = .ok (.aload_n 0, 1) := by decide +kernel
theorem dX12_raise_14 : decode cX12_raise 14 = .ok (.getfield 87, 3) := by decide +kernel
theorem dX12_raise_17 : decode cX12_raise 17 = .ok (.iload_n 1, 1) := by decide +kernel
theorem dX12_raise_18 : decode cX12_raise 18 = .ok (.iaload, 1) := by decide +kernel
theorem dX12_raise_19 : decode cX12_raise 19 = .ok (.isub, 1) := by decide +kernel
theorem dX12_raise_20 : decode cX12_raise 20 = .ok (.istore_n 3, 1) := by decide +kernel
theorem dX12_raise_21 : decode cX12_raise 21 = .ok (.aload_n 0, 1) := by decide +kernel
theorem dX12_raise_22 : decode cX12_raise 22 = .ok (.getfield 87, 3) := by decide +kernel
theorem dX12_raise_25 : decode cX12_raise 25 = .ok (.iload_n 1, 1) := by decide +kernel
theorem dX12_raise_26 : decode cX12_raise 26 = .ok (.iload_n 2, 1) := by decide +kernel
theorem dX12_raise_27 : decode cX12_raise 27 = .ok (.iastore, 1) := by decide +kernel
theorem dX12_raise_28 : decode cX12_raise 28 = .ok (.iload_n 3, 1) := by decide +kernel
theorem dX12_raise_29 : decode cX12_raise 29 = .ok (.ireturn, 1) := by decide +kernel
theorem dX12_clearAt_0 : decode cX12_clearAt 0 = .ok (.aload_n 0, 1) := by decide +kernel
theorem dX12_clearAt_1 : decode cX12_clearAt 1 = .ok (.getfield 87, 3) := by decide +kernel
theorem dX12_clearAt_4 : decode cX12_clearAt 4 = .ok (.iload_n 1, 1) := by decide +kernel
theorem dX12_clearAt_5 : decode cX12_clearAt 5 = .ok (.iconst 0, 1) := by decide +kernel
theorem dX12_clearAt_6 : decode cX12_clearAt 6 = .ok (.iastore, 1) := by decide +kernel
theorem dX12_clearAt_7 : decode cX12_clearAt 7 = .ok (.iconst 0, 1) := by decide +kernel
theorem dX12_clearAt_8 : decode cX12_clearAt 8 = .ok (.istore_n 2, 1) := by decide +kernel
theorem dX12_clearAt_9 : decode cX12_clearAt 9 = .ok (.iload_n 2, 1) := by decide +kernel
theorem dX12_clearAt_10 : decode cX12_clearAt 10 = .ok (.iconst 4, 1) := by decide +kernel
theorem dX12_clearAt_11 : decode cX12_clearAt 11 = .ok (.if_icmp .ge 30, 3) := by decide +kernel
theorem dX12_clearAt_14 : decode cX12_clearAt 14 = .ok (.aload_n 0, 1) := by decide +kernel
theorem dX12_clearAt_15 : decode cX12_clearAt 15 = .ok (.iload_n 1, 1) := by decide +kernel
theorem dX12_clearAt_16 : decode cX12_clearAt 16 = .ok (.iload_n 2, 1) := by decide +kernel
theorem dX12_clearAt_17 : decode cX12_clearAt 17 = .ok (.invokevirtual 165, 3) := by decide +kernel
theorem dX12_clearAt_20 : decode cX12_clearAt 20 = .ok (.ifCond .lt 15, 3) := by decide +kernel
theorem dX12_clearAt_23 : decode cX12_clearAt 23 = .ok (.aload_n 0, 1) := by decide +kernel
theorem dX12_clearAt_24 : decode cX12_clearAt 24 = .ok (.getfield 87, 3) := by decide +kernel
theorem dX12_clearAt_27 : decode cX12_clearAt 27 = .ok (.aload_n 0, 1) := by decide +kernel
theorem dX12_clearAt_28 : decode cX12_clearAt 28 = .ok (.iload_n 1, 1) := by decide +kernel
theorem dX12_clearAt_29 : decode cX12_clearAt 29 = .ok (.iload_n 2, 1) := by decide +kernel
theorem dX12_clearAt_30 : decode cX12_clearAt 30 = .ok (.invokevirtual 165, 3) := by decide +kernel
theorem dX12_clearAt_33 : decode cX12_clearAt 33 = .ok (.iconst 0, 1) := by decide +kernel
theorem dX12_clearAt_34 : decode cX12_clearAt 34 = .ok (.iastore, 1) := by decide +kernel
theorem dX12_clearAt_35 : decode cX12_clearAt 35 = .ok (.iinc 2 1, 3) := by decide +kernel
theorem dX12_clearAt_38 : decode cX12_clearAt 38 = .ok (.goto (-29), 3) := by decide +kernel
theorem dX12_clearAt_41 : decode cX12_clearAt 41 = .ok (.return_, 1) := by decide +kernel
theorem dX12_isApart_0 : decode cX12_isApart 0 = .ok (.aload_n 0, 1) := by decide +kernel
theorem dX12_isApart_1 : decode cX12_isApart 1 = .ok (.getfield 78, 3) := by decide +kernel
theorem dX12_isApart_4 : decode cX12_isApart 4 = .ok (.bipush 81, 2) := by decide +kernel
theorem dX12_isApart_6 : decode cX12_isApart 6 = .ok (.iload_n 1, 1) := by decide +kernel
theorem dX12_isApart_7 : decode cX12_isApart 7 = .ok (.imul, 1) := by decide +kernel
theorem dX12_isApart_8 : decode cX12_isApart 8 = .ok (.aload_n 0, 1) := by decide +kernel
theorem dX12_isApart_9 : decode cX12_isApart 9 = .ok (.getfield 81, 3) := by decide +kernel
theorem dX12_isApart_12 : decode cX12_isApart 12 = .ok (.iload_n 1, 1) := by decide +kernel
theorem dX12_isApart_13 : decode cX12_isApart 13 = .ok (.iaload, 1) := by decide +kernel
theorem dX12_isApart_14 : decode cX12_isApart 14 = .ok (.iadd, 1) := by decide +kernel
theorem dX12_isApart_15 : decode cX12_isApart 15 = .ok (.iaload, 1) := by decide +kernel
theorem dX12_isApart_16 : decode cX12_isApart 16 = .ok (.ifCond .lt 7, 3) := by decide +kernel
theorem dX12_isApart_19 : decode cX12_isApart 19 = .ok (.iconst 1, 1) := by decide +kernel
theorem dX12_isApart_20 : decode cX12_isApart 20 = .ok (.goto 4, 3) := by decide +kernel
theorem dX12_isApart_23 : decode cX12_isApart 23 = .ok (.iconst 0, 1) := by decide +kernel
theorem dX12_isApart_24 : decode cX12_isApart 24 = .ok (.istore_n 2, 1) := by decide +kernel
theorem dX12_isApart_25 : decode cX12_isApart 25 = .ok (.iconst 0, 1) := by decide +kernel
theorem dX12_isApart_26 : decode cX12_isApart 26 = .ok (.istore_n 3, 1) := by decide +kernel
theorem dX12_isApart_27 : decode cX12_isApart 27 = .ok (.iload_n 3, 1) := by decide +kernel
theorem dX12_isApart_28 : decode cX12_isApart 28 = .ok (.iload_n 1, 1) := by decide +kernel
theorem dX12_isApart_29 : decode cX12_isApart 29 = .ok (.if_icmp .ge 54, 3) := by decide +kernel
theorem dX12_isApart_32 : decode cX12_isApart 32 = .ok (.iload_n 2, 1) := by decide +kernel
theorem dX12_isApart_33 : decode cX12_isApart 33 = .ok (.ifCond .eq 42, 3) := by decide +kernel
theorem dX12_isApart_36 : decode cX12_isApart 36 = .ok (.aload_n 0, 1) := by decide +kernel
theorem dX12_isApart_37 : decode cX12_isApart 37 = .ok (.getfield 78, 3) := by decide +kernel
theorem dX12_isApart_40 : decode cX12_isApart 40 = .ok (.bipush 81, 2) := by decide +kernel
theorem dX12_isApart_42 : decode cX12_isApart 42 = .ok (.iload_n 3, 1) := by decide +kernel
theorem dX12_isApart_43 : decode cX12_isApart 43 = .ok (.imul, 1) := by decide +kernel
theorem dX12_isApart_44 : decode cX12_isApart 44 = .ok (.aload_n 0, 1) := by decide +kernel
theorem dX12_isApart_45 : decode cX12_isApart 45 = .ok (.getfield 81, 3) := by decide +kernel
theorem dX12_isApart_48 : decode cX12_isApart 48 = .ok (.iload_n 3, 1) := by decide +kernel
theorem dX12_isApart_49 : decode cX12_isApart 49 = .ok (.iaload, 1) := by decide +kernel
theorem dX12_isApart_50 : decode cX12_isApart 50 = .ok (.iadd, 1) := by decide +kernel
theorem dX12_isApart_51 : decode cX12_isApart 51 = .ok (.iaload, 1) := by decide +kernel
theorem dX12_isApart_52 : decode cX12_isApart 52 = .ok (.aload_n 0, 1) := by decide +kernel
theorem dX12_isApart_53 : decode cX12_isApart 53 = .ok (.getfield 78, 3) := by decide +kernel
theorem dX12_isApart_56 : decode cX12_isApart 56 = .ok (.bipush 81, 2) := by decide +kernel
theorem dX12_isApart_58 : decode cX12_isApart 58 = .ok (.iload_n 1, 1) := by decide +kernel
theorem dX12_isApart_59 : decode cX12_isApart 59 = .ok (.imul, 1) := by decide +kernel
theorem dX12_isApart_60 : decode cX12_isApart 60 = .ok (.aload_n 0, 1) := by decide +kernel
theorem dX12_isApart_61 : decode cX12_isApart 61 = .ok (.getfield 81, 3) := by decide +kernel
theorem dX12_isApart_64 : decode cX12_isApart 64 = .ok (.iload_n 1, 1) := by decide +kernel
theorem dX12_isApart_65 : decode cX12_isApart 65 = .ok (.iaload, 1) := by decide +kernel
theorem dX12_isApart_66 : decode cX12_isApart 66 = .ok (.iadd, 1) := by decide +kernel
theorem dX12_isApart_67 : decode cX12_isApart 67 = .ok (.iaload, 1) := by decide +kernel
theorem dX12_isApart_68 : decode cX12_isApart 68 = .ok (.if_icmp .eq 7, 3) := by decide +kernel
theorem dX12_isApart_71 : decode cX12_isApart 71 = .ok (.iconst 1, 1) := by decide +kernel
theorem dX12_isApart_72 : decode cX12_isApart 72 = .ok (.goto 4, 3) := by decide +kernel
theorem dX12_isApart_75 : decode cX12_isApart 75 = .ok (.iconst 0, 1) := by decide +kernel
theorem dX12_isApart_76 : decode cX12_isApart 76 = .ok (.istore_n 2, 1) := by decide +kernel
theorem dX12_isApart_77 : decode cX12_isApart 77 = .ok (.iinc 3 1, 3) := by decide +kernel
theorem dX12_isApart_80 : decode cX12_isApart 80 = .ok (.goto (-53), 3) := by decide +kernel
theorem dX12_isApart_83 : decode cX12_isApart 83 = .ok (.iload_n 2, 1) := by decide +kernel
theorem dX12_isApart_84 : decode cX12_isApart 84 = .ok (.ireturn, 1) := by decide +kernel
theorem dX12_findPlan_0 : decode cX12_findPlan 0 = .ok (.aload_n 0, 1) := by decide +kernel
theorem dX12_findPlan_1 : decode cX12_findPlan 1 = .ok (.iload_n 1, 1) := by decide +kernel
theorem dX12_findPlan_2 : decode cX12_findPlan 2 = .ok (.invokevirtual 259, 3) := by decide +kernel
theorem dX12_findPlan_5 : decode cX12_findPlan 5 = .ok (.aload_n 0, 1) := by decide +kernel
theorem dX12_findPlan_6 : decode cX12_findPlan 6 = .ok (.iconst (-1), 1) := by decide +kernel
theorem dX12_findPlan_7 : decode cX12_findPlan 7 = .ok (.putfield 93, 3) := by decide +kernel
theorem dX12_findPlan_10 : decode cX12_findPlan 10 = .ok (.aload_n 0, 1) := by decide +kernel
theorem dX12_findPlan_11 : decode cX12_findPlan 11 = .ok (.getfield 90, 3) := by decide +kernel
theorem dX12_findPlan_14 : decode cX12_findPlan 14 = .ok (.ifCond .ne 10, 3) := by decide +kernel
theorem dX12_findPlan_17 : decode cX12_findPlan 17 = .ok (.aload_n 0, 1) := by decide +kernel
theorem dX12_findPlan_18 : decode cX12_findPlan 18 = .ok (.iconst 0, 1) := by decide +kernel
theorem dX12_findPlan_19 : decode cX12_findPlan 19 = .ok (.putfield 93, 3) := by decide +kernel
theorem dX12_findPlan_22 : decode cX12_findPlan 22 = .ok (.iconst 1, 1) := by decide +kernel
theorem dX12_findPlan_23 : decode cX12_findPlan 23 = .ok (.ireturn, 1) := by decide +kernel
theorem dX12_findPlan_24 : decode cX12_findPlan 24 = .ok (.iconst 0, 1) := by decide +kernel
theorem dX12_findPlan_25 : decode cX12_findPlan 25 = .ok (.istore_n 2, 1) := by decide +kernel
theorem dX12_findPlan_26 : decode cX12_findPlan 26 = .ok (.aload_n 0, 1) := by decide +kernel
theorem dX12_findPlan_27 : decode cX12_findPlan 27 = .ok (.getfield 81, 3) := by decide +kernel
theorem dX12_findPlan_30 : decode cX12_findPlan 30 = .ok (.iconst 0, 1) := by decide +kernel
theorem dX12_findPlan_31 : decode cX12_findPlan 31 = .ok (.iconst (-1), 1) := by decide +kernel
theorem dX12_findPlan_32 : decode cX12_findPlan 32 = .ok (.iastore, 1) := by decide +kernel
theorem dX12_findPlan_33 : decode cX12_findPlan 33 = .ok (.iload_n 2, 1) := by decide +kernel
theorem dX12_findPlan_34 : decode cX12_findPlan 34 = .ok (.ifCond .lt 120, 3) := by decide +kernel
theorem dX12_findPlan_37 : decode cX12_findPlan 37 = .ok (.aload_n 0, 1) := by decide +kernel
theorem dX12_findPlan_38 : decode cX12_findPlan 38 = .ok (.getfield 81, 3) := by decide +kernel
theorem dX12_findPlan_41 : decode cX12_findPlan 41 = .ok (.iload_n 2, 1) := by decide +kernel
theorem dX12_findPlan_42 : decode cX12_findPlan 42 = .ok (.dup2, 1) := by decide +kernel
theorem dX12_findPlan_43 : decode cX12_findPlan 43 = .ok (.iaload, 1) := by decide +kernel
theorem dX12_findPlan_44 : decode cX12_findPlan 44 = .ok (.iconst 1, 1) := by decide +kernel
theorem dX12_findPlan_45 : decode cX12_findPlan 45 = .ok (.iadd, 1) := by decide +kernel
theorem dX12_findPlan_46 : decode cX12_findPlan 46 = .ok (.iastore, 1) := by decide +kernel
theorem dX12_findPlan_47 : decode cX12_findPlan 47 = .ok (.aload_n 0, 1) := by decide +kernel
theorem dX12_findPlan_48 : decode cX12_findPlan 48 = .ok (.getfield 81, 3) := by decide +kernel
theorem dX12_findPlan_51 : decode cX12_findPlan 51 = .ok (.iload_n 2, 1) := by decide +kernel
theorem dX12_findPlan_52 : decode cX12_findPlan 52 = .ok (.iaload, 1) := by decide +kernel
theorem dX12_findPlan_53 : decode cX12_findPlan 53 = .ok (.bipush 80, 2) := by decide +kernel
theorem dX12_findPlan_55 : decode cX12_findPlan 55 = .ok (.if_icmp .le 9, 3) := by decide +kernel
theorem dX12_findPlan_58 : decode cX12_findPlan 58 = .ok (.iinc 2 (-1), 3) := by decide +kernel
theorem dX12_findPlan_61 : decode cX12_findPlan 61 = .ok (.goto (-28), 3) := by decide +kernel
theorem dX12_findPlan_64 : decode cX12_findPlan 64 = .ok (.aload_n 0, 1) := by decide +kernel
theorem dX12_findPlan_65 : decode cX12_findPlan 65 = .ok (.iload_n 2, 1) := by decide +kernel
theorem dX12_findPlan_66 : decode cX12_findPlan 66 = .ok (.invokevirtual 262, 3) := by decide +kernel
theorem dX12_findPlan_69 : decode cX12_findPlan 69 = .ok (.ifCond .ne 6, 3) := by decide +kernel
theorem dX12_findPlan_72 : decode cX12_findPlan 72 = .ok (.goto (-39), 3) := by decide +kernel
theorem dX12_findPlan_75 : decode cX12_findPlan 75 = .ok (.iload_n 2, 1) := by decide +kernel
theorem dX12_findPlan_76 : decode cX12_findPlan 76 = .ok (.aload_n 0, 1) := by decide +kernel
theorem dX12_findPlan_77 : decode cX12_findPlan 77 = .ok (.getfield 90, 3) := by decide +kernel
theorem dX12_findPlan_80 : decode cX12_findPlan 80 = .ok (.iconst 1, 1) := by decide +kernel
theorem dX12_findPlan_81 : decode cX12_findPlan 81 = .ok (.isub, 1) := by decide +kernel
theorem dX12_findPlan_82 : decode cX12_findPlan 82 = .ok (.if_icmp .ge 16, 3) := by decide +kernel
theorem dX12_findPlan_85 : decode cX12_findPlan 85 = .ok (.iinc 2 1, 3) := by decide +kernel
theorem dX12_findPlan_88 : decode cX12_findPlan 88 = .ok (.aload_n 0, 1) := by decide +kernel
theorem dX12_findPlan_89 : decode cX12_findPlan 89 = .ok (.getfield 81, 3) := by decide +kernel
theorem dX12_findPlan_92 : decode cX12_findPlan 92 = .ok (.iload_n 2, 1) := by decide +kernel
theorem dX12_findPlan_93 : decode cX12_findPlan 93 = .ok (.iconst (-1), 1) := by decide +kernel
theorem dX12_findPlan_94 : decode cX12_findPlan 94 = .ok (.iastore, 1) := by decide +kernel
theorem dX12_findPlan_95 : decode cX12_findPlan 95 = .ok (.goto (-62), 3) := by decide +kernel
theorem dX12_findPlan_98 : decode cX12_findPlan 98 = .ok (.aload_n 0, 1) := by decide +kernel
theorem dX12_findPlan_99 : decode cX12_findPlan 99 = .ok (.invokevirtual 265, 3) := by decide +kernel
theorem dX12_findPlan_102 : decode cX12_findPlan 102 = .ok (.istore_n 3, 1) := by decide +kernel
theorem dX12_findPlan_103 : decode cX12_findPlan 103 = .ok (.iload_n 3, 1) := by decide +kernel
theorem dX12_findPlan_104 : decode cX12_findPlan 104 = .ok (.aload_n 0, 1) := by decide +kernel
theorem dX12_findPlan_105 : decode cX12_findPlan 105 = .ok (.getfield 93, 3) := by decide +kernel
theorem dX12_findPlan_108 : decode cX12_findPlan 108 = .ok (.if_icmp .gt 6, 3) := by decide +kernel
theorem dX12_findPlan_111 : decode cX12_findPlan 111 = .ok (.goto (-78), 3) := by decide +kernel
theorem dX12_findPlan_114 : decode cX12_findPlan 114 = .ok (.aload_n 0, 1) := by decide +kernel
theorem dX12_findPlan_115 : decode cX12_findPlan 115 = .ok (.iload_n 3, 1) := by decide +kernel
theorem dX12_findPlan_116 : decode cX12_findPlan 116 = .ok (.putfield 93, 3) := by decide +kernel
theorem dX12_findPlan_119 : decode cX12_findPlan 119 = .ok (.iconst 0, 1) := by decide +kernel
theorem dX12_findPlan_120 : decode cX12_findPlan 120 = .ok (.istore 4, 2) := by decide +kernel
theorem dX12_findPlan_122 : decode cX12_findPlan 122 = .ok (.iload 4, 2) := by decide +kernel
theorem dX12_findPlan_124 : decode cX12_findPlan 124 = .ok (.aload_n 0, 1) := by decide +kernel
theorem dX12_findPlan_125 : decode cX12_findPlan 125 = .ok (.getfield 90, 3) := by decide +kernel
theorem dX12_findPlan_128 : decode cX12_findPlan 128 = .ok (.if_icmp .ge 23, 3) := by decide +kernel
theorem dX12_findPlan_131 : decode cX12_findPlan 131 = .ok (.aload_n 0, 1) := by decide +kernel
theorem dX12_findPlan_132 : decode cX12_findPlan 132 = .ok (.getfield 84, 3) := by decide +kernel
theorem dX12_findPlan_135 : decode cX12_findPlan 135 = .ok (.iload 4, 2) := by decide +kernel
theorem dX12_findPlan_137 : decode cX12_findPlan 137 = .ok (.aload_n 0, 1) := by decide +kernel
theorem dX12_findPlan_138 : decode cX12_findPlan 138 = .ok (.getfield 81, 3) := by decide +kernel
theorem dX12_findPlan_141 : decode cX12_findPlan 141 = .ok (.iload 4, 2) := by decide +kernel
theorem dX12_findPlan_143 : decode cX12_findPlan 143 = .ok (.iaload, 1) := by decide +kernel
theorem dX12_findPlan_144 : decode cX12_findPlan 144 = .ok (.iastore, 1) := by decide +kernel
theorem dX12_findPlan_145 : decode cX12_findPlan 145 = .ok (.iinc 4 1, 3) := by decide +kernel
theorem dX12_findPlan_148 : decode cX12_findPlan 148 = .ok (.goto (-26), 3) := by decide +kernel
theorem dX12_findPlan_151 : decode cX12_findPlan 151 = .ok (.goto (-118), 3) := by decide +kernel
theorem dX12_findPlan_154 : decode cX12_findPlan 154 = .ok (.aload_n 0, 1) := by decide +kernel
theorem dX12_findPlan_155 : decode cX12_findPlan 155 = .ok (.getfield 93, 3) := by decide +kernel
theorem dX12_findPlan_158 : decode cX12_findPlan 158 = .ok (.ifCond .lt 7, 3) := by decide +kernel
theorem dX12_findPlan_161 : decode cX12_findPlan 161 = .ok (.iconst 1, 1) := by decide +kernel
theorem dX12_findPlan_162 : decode cX12_findPlan 162 = .ok (.goto 4, 3) := by decide +kernel
theorem dX12_findPlan_165 : decode cX12_findPlan 165 = .ok (.iconst 0, 1) := by decide +kernel
theorem dX12_findPlan_166 : decode cX12_findPlan 166 = .ok (.ireturn, 1) := by decide +kernel
theorem dX12_plan_0 : decode cX12_plan 0 = .ok (.aload_n 0, 1) := by decide +kernel
theorem dX12_plan_1 : decode cX12_plan 1 = .ok (.iload_n 1, 1) := by decide +kernel
theorem dX12_plan_2 : decode cX12_plan 2 = .ok (.iconst 0, 1) := by decide +kernel
theorem dX12_plan_3 : decode cX12_plan 3 = .ok (.iconst 3, 1) := by decide +kernel
theorem dX12_plan_4 : decode cX12_plan 4 = .ok (.invokevirtual 123, 3) := by decide +kernel
theorem dX12_plan_7 : decode cX12_plan 7 = .ok (.ifCond .ne 7, 3) := by decide +kernel
theorem dX12_plan_10 : decode cX12_plan 10 = .ok (.iconst (-1), 1) := by decide +kernel
theorem dX12_plan_11 : decode cX12_plan 11 = .ok (.goto 20, 3) := by decide +kernel
theorem dX12_plan_14 : decode cX12_plan 14 = .ok (.aload_n 0, 1) := by decide +kernel
theorem dX12_plan_15 : decode cX12_plan 15 = .ok (.iload_n 1, 1) := by decide +kernel
theorem dX12_plan_16 : decode cX12_plan 16 = .ok (.invokevirtual 268, 3) := by decide +kernel
theorem dX12_plan_19 : decode cX12_plan 19 = .ok (.ifCond .eq 10, 3) := by decide +kernel
theorem dX12_plan_22 : decode cX12_plan 22 = .ok (.aload_n 0, 1) := by decide +kernel
theorem dX12_plan_23 : decode cX12_plan 23 = .ok (.getfield 93, 3) := by decide +kernel
theorem dX12_plan_26 : decode cX12_plan 26 = .ok (.goto 5, 3) := by decide +kernel
theorem dX12_plan_29 : decode cX12_plan 29 = .ok (.bipush (-4), 2) := by decide +kernel
theorem dX12_plan_31 : decode cX12_plan 31 = .ok (.ireturn, 1) := by decide +kernel
theorem dX12_planned_0 : decode cX12_planned 0 = .ok (.aload_n 0, 1) := by decide +kernel
theorem dX12_planned_1 : decode cX12_planned 1 = .ok (.iload_n 1, 1) := by decide +kernel
theorem dX12_planned_2 : decode cX12_planned 2 = .ok (.iconst 0, 1) := by decide +kernel
theorem dX12_planned_3 : decode cX12_planned 3 = .ok (.iconst 3, 1) := by decide +kernel
theorem dX12_planned_4 : decode cX12_planned 4 = .ok (.invokevirtual 123, 3) := by decide +kernel
theorem dX12_planned_7 : decode cX12_planned 7 = .ok (.ifCond .eq 11, 3) := by decide +kernel
theorem dX12_planned_10 : decode cX12_planned 10 = .ok (.aload_n 0, 1) := by decide +kernel
theorem dX12_planned_11 : decode cX12_planned 11 = .ok (.iload_n 2, 1) := by decide +kernel
theorem dX12_planned_12 : decode cX12_planned 12 = .ok (.invokevirtual 142, 3) := by decide +kernel
theorem dX12_planned_15 : decode cX12_planned 15 = .ok (.ifCond .ne 5, 3) := by decide +kernel
theorem dX12_planned_18 : decode cX12_planned 18 = .ok (.iconst (-1), 1) := by decide +kernel
theorem dX12_planned_19 : decode cX12_planned 19 = .ok (.ireturn, 1) := by decide +kernel
theorem dX12_planned_20 : decode cX12_planned 20 = .ok (.aload_n 0, 1) := by decide +kernel
theorem dX12_planned_21 : decode cX12_planned 21 = .ok (.iload_n 1, 1) := by decide +kernel
theorem dX12_planned_22 : decode cX12_planned 22 = .ok (.invokevirtual 268, 3) := by decide +kernel
theorem dX12_planned_25 : decode cX12_planned 25 = .ok (.ifCond .ne 6, 3) := by decide +kernel
theorem dX12_planned_28 : decode cX12_planned 28 = .ok (.bipush (-4), 2) := by decide +kernel
theorem dX12_planned_30 : decode cX12_planned 30 = .ok (.ireturn, 1) := by decide +kernel
theorem dX12_planned_31 : decode cX12_planned 31 = .ok (.iconst 0, 1) := by decide +kernel
theorem dX12_planned_32 : decode cX12_planned 32 = .ok (.istore_n 3, 1) := by decide +kernel
theorem dX12_planned_33 : decode cX12_planned 33 = .ok (.iload_n 3, 1) := by decide +kernel
theorem dX12_planned_34 : decode cX12_planned 34 = .ok (.aload_n 0, 1) := by decide +kernel
theorem dX12_planned_35 : decode cX12_planned 35 = .ok (.getfield 90, 3) := by decide +kernel
theorem dX12_planned_38 : decode cX12_planned 38 = .ok (.if_icmp .ge 48, 3) := by decide +kernel
theorem dX12_planned_41 : decode cX12_planned 41 = .ok (.aload_n 0, 1) := by decide +kernel
theorem dX12_planned_42 : decode cX12_planned 42 = .ok (.getfield 75, 3) := by decide +kernel
theorem dX12_planned_45 : decode cX12_planned 45 = .ok (.iload_n 3, 1) := by decide +kernel
theorem dX12_planned_46 : decode cX12_planned 46 = .ok (.iaload, 1) := by decide +kernel
theorem dX12_planned_47 : decode cX12_planned 47 = .ok (.iload_n 2, 1) := by decide +kernel
theorem dX12_planned_48 : decode cX12_planned 48 = .ok (.if_icmp .ne 32, 3) := by decide +kernel
theorem dX12_planned_51 : decode cX12_planned 51 = .ok (.bipush 20, 2) := by decide +kernel
theorem dX12_planned_53 : decode cX12_planned 53 = .ok (.aload_n 0, 1) := by decide +kernel
theorem dX12_planned_54 : decode cX12_planned 54 = .ok (.getfield 84, 3) := by decide +kernel
theorem dX12_planned_57 : decode cX12_planned 57 = .ok (.iload_n 3, 1) := by decide +kernel
theorem dX12_planned_58 : decode cX12_planned 58 = .ok (.iaload, 1) := by decide +kernel
theorem dX12_planned_59 : decode cX12_planned 59 = .ok (.bipush 9, 2) := by decide +kernel
theorem dX12_planned_61 : decode cX12_planned 61 = .ok (.idiv, 1) := by decide +kernel
theorem dX12_planned_62 : decode cX12_planned 62 = .ok (.bipush 6, 2) := by decide +kernel
theorem dX12_planned_64 : decode cX12_planned 64 = .ok (.iadd, 1) := by decide +kernel
theorem dX12_planned_65 : decode cX12_planned 65 = .ok (.imul, 1) := by decide +kernel
theorem dX12_planned_66 : decode cX12_planned 66 = .ok (.aload_n 0, 1) := by decide +kernel
theorem dX12_planned_67 : decode cX12_planned 67 = .ok (.getfield 84, 3) := by decide +kernel
theorem dX12_planned_70 : decode cX12_planned 70 = .ok (.iload_n 3, 1) := by decide +kernel
theorem dX12_planned_71 : decode cX12_planned 71 = .ok (.iaload, 1) := by decide +kernel
theorem dX12_planned_72 : decode cX12_planned 72 = .ok (.bipush 9, 2) := by decide +kernel
theorem dX12_planned_74 : decode cX12_planned 74 = .ok (.irem, 1) := by decide +kernel
theorem dX12_planned_75 : decode cX12_planned 75 = .ok (.iadd, 1) := by decide +kernel
theorem dX12_planned_76 : decode cX12_planned 76 = .ok (.bipush 6, 2) := by decide +kernel
theorem dX12_planned_78 : decode cX12_planned 78 = .ok (.iadd, 1) := by decide +kernel
theorem dX12_planned_79 : decode cX12_planned 79 = .ok (.ireturn, 1) := by decide +kernel
theorem dX12_planned_80 : decode cX12_planned 80 = .ok (.iinc 3 1, 3) := by decide +kernel
theorem dX12_planned_83 : decode cX12_planned 83 = .ok (.goto (-50), 3) := by decide +kernel
theorem dX12_planned_86 : decode cX12_planned 86 = .ok (.bipush (-4), 2) := by decide +kernel
theorem dX12_planned_88 : decode cX12_planned 88 = .ok (.ireturn, 1) := by decide +kernel
theorem dX12_ends_0 : decode cX12_ends 0 = .ok (.aload_n 0, 1) := by decide +kernel
theorem dX12_ends_1 : decode cX12_ends 1 = .ok (.iload_n 1, 1) := by decide +kernel
theorem dX12_ends_2 : decode cX12_ends 2 = .ok (.invokevirtual 142, 3) := by decide +kernel
theorem dX12_ends_5 : decode cX12_ends 5 = .ok (.ifCond .eq 28, 3) := by decide +kernel
theorem dX12_ends_8 : decode cX12_ends 8 = .ok (.aload_n 0, 1) := by decide +kernel
theorem dX12_ends_9 : decode cX12_ends 9 = .ok (.iload_n 2, 1) := by decide +kernel
theorem dX12_ends_10 : decode cX12_ends 10 = .ok (.iconst 0, 1) := by decide +kernel
theorem dX12_ends_11 : decode cX12_ends 11 = .ok (.aload_n 0, 1) := by decide +kernel
theorem dX12_ends_12 : decode cX12_ends 12 = .ok (.iload_n 1, 1) := by decide +kernel
theorem dX12_ends_13 : decode cX12_ends 13 = .ok (.invokevirtual 135, 3) := by decide +kernel
theorem dX12_ends_16 : decode cX12_ends 16 = .ok (.invokevirtual 123, 3) := by decide +kernel
theorem dX12_ends_19 : decode cX12_ends 19 = .ok (.ifCond .eq 14, 3) := by decide +kernel
theorem dX12_ends_22 : decode cX12_ends 22 = .ok (.aload_n 0, 1) := by decide +kernel
theorem dX12_ends_23 : decode cX12_ends 23 = .ok (.iload_n 1, 1) := by decide +kernel
theorem dX12_ends_24 : decode cX12_ends 24 = .ok (.iload_n 3, 1) := by decide +kernel
theorem dX12_ends_25 : decode cX12_ends 25 = .ok (.iload 4, 2) := by decide +kernel
theorem dX12_ends_27 : decode cX12_ends 27 = .ok (.invokevirtual 184, 3) := by decide +kernel
theorem dX12_ends_30 : decode cX12_ends 30 = .ok (.ifCond .ne 5, 3) := by decide +kernel
theorem dX12_ends_33 : decode cX12_ends 33 = .ok (.iconst (-1), 1) := by decide +kernel
theorem dX12_ends_34 : decode cX12_ends 34 = .ok (.ireturn, 1) := by decide +kernel
theorem dX12_ends_35 : decode cX12_ends 35 = .ok (.aload_n 0, 1) := by decide +kernel
theorem dX12_ends_36 : decode cX12_ends 36 = .ok (.iload_n 1, 1) := by decide +kernel
theorem dX12_ends_37 : decode cX12_ends 37 = .ok (.invokevirtual 187, 3) := by decide +kernel
theorem dX12_ends_40 : decode cX12_ends 40 = .ok (.ifCond .ne 6, 3) := by decide +kernel
theorem dX12_ends_43 : decode cX12_ends 43 = .ok (.bipush (-3), 2) := by decide +kernel
theorem dX12_ends_45 : decode cX12_ends 45 = .ok (.ireturn, 1) := by decide +kernel
theorem dX12_ends_46 : decode cX12_ends 46 = .ok (.aload_n 0, 1) := by decide +kernel
theorem dX12_ends_47 : decode cX12_ends 47 = .ok (.iload_n 1, 1) := by decide +kernel
theorem dX12_ends_48 : decode cX12_ends 48 = .ok (.iload_n 2, 1) := by decide +kernel
theorem dX12_ends_49 : decode cX12_ends 49 = .ok (.iload_n 3, 1) := by decide +kernel
theorem dX12_ends_50 : decode cX12_ends 50 = .ok (.iload 4, 2) := by decide +kernel
theorem dX12_ends_52 : decode cX12_ends 52 = .ok (.invokevirtual 246, 3) := by decide +kernel
theorem dX12_ends_55 : decode cX12_ends 55 = .ok (.bipush 8, 2) := by decide +kernel
theorem dX12_ends_57 : decode cX12_ends 57 = .ok (.aload_n 0, 1) := by decide +kernel
theorem dX12_ends_58 : decode cX12_ends 58 = .ok (.getfield 24, 3) := by decide +kernel
theorem dX12_ends_61 : decode cX12_ends 61 = .ok (.imul, 1) := by decide +kernel
theorem dX12_ends_62 : decode cX12_ends 62 = .ok (.aload_n 0, 1) := by decide +kernel
theorem dX12_ends_63 : decode cX12_ends 63 = .ok (.getfield 27, 3) := by decide +kernel
theorem dX12_ends_66 : decode cX12_ends 66 = .ok (.iadd, 1) := by decide +kernel
theorem dX12_ends_67 : decode cX12_ends 67 = .ok (.ireturn, 1) := by decide +kernel
theorem dX12_comesTo_0 : decode cX12_comesTo 0 = .ok (.iconst 0, 1) := by decide +kernel
theorem dX12_comesTo_1 : decode cX12_comesTo 1 = .ok (.istore_n 3, 1) := by decide +kernel
theorem dX12_comesTo_2 : decode cX12_comesTo 2 = .ok (.iconst 0, 1) := by decide +kernel
theorem dX12_comesTo_3 : decode cX12_comesTo 3 = .ok (.istore 4, 2) := by decide +kernel
theorem dX12_comesTo_5 : decode cX12_comesTo 5 = .ok (.iload 4, 2) := by decide +kernel
theorem dX12_comesTo_7 : decode cX12_comesTo 7 = .ok (.iconst 4, 1) := by decide +kernel
theorem dX12_comesTo_8 : decode cX12_comesTo 8 = .ok (.if_icmp .ge 112, 3) := by decide +kernel
theorem dX12_comesTo_11 : decode cX12_comesTo 11 = .ok (.aload_n 0, 1) := by decide +kernel
theorem dX12_comesTo_12 : decode cX12_comesTo 12 = .ok (.iload_n 1, 1) := by decide +kernel
theorem dX12_comesTo_13 : decode cX12_comesTo 13 = .ok (.iload 4, 2) := by decide +kernel
theorem dX12_comesTo_15 : decode cX12_comesTo 15 = .ok (.invokevirtual 165, 3) := by decide +kernel
theorem dX12_comesTo_18 : decode cX12_comesTo 18 = .ok (.istore 5, 2) := by decide +kernel
theorem dX12_comesTo_20 : decode cX12_comesTo 20 = .ok (.iload 5, 2) := by decide +kernel
theorem dX12_comesTo_22 : decode cX12_comesTo 22 = .ok (.ifCond .lt 92, 3) := by decide +kernel
theorem dX12_comesTo_25 : decode cX12_comesTo 25 = .ok (.aload_n 0, 1) := by decide +kernel
theorem dX12_comesTo_26 : decode cX12_comesTo 26 = .ok (.getfield 13, 3) := by decide +kernel
theorem dX12_comesTo_29 : decode cX12_comesTo 29 = .ok (.bipush 10, 2) := by decide +kernel
theorem dX12_comesTo_31 : decode cX12_comesTo 31 = .ok (.iload 5, 2) := by decide +kernel
theorem dX12_comesTo_33 : decode cX12_comesTo 33 = .ok (.iadd, 1) := by decide +kernel
theorem dX12_comesTo_34 : decode cX12_comesTo 34 = .ok (.iaload, 1) := by decide +kernel
theorem dX12_comesTo_35 : decode cX12_comesTo 35 = .ok (.iload_n 2, 1) := by decide +kernel
theorem dX12_comesTo_36 : decode cX12_comesTo 36 = .ok (.if_icmp .gt 6, 3) := by decide +kernel
theorem dX12_comesTo_39 : decode cX12_comesTo 39 = .ok (.goto 75, 3) := by decide +kernel
theorem dX12_comesTo_42 : decode cX12_comesTo 42 = .ok (.iload 4, 2) := by decide +kernel
theorem dX12_comesTo_44 : decode cX12_comesTo 44 = .ok (.iconst 2, 1) := by decide +kernel
theorem dX12_comesTo_45 : decode cX12_comesTo 45 = .ok (.irem, 1) := by decide +kernel
theorem dX12_comesTo_46 : decode cX12_comesTo 46 = .ok (.ifCond .ne 21, 3) := by decide +kernel
theorem dX12_comesTo_49 : decode cX12_comesTo 49 = .ok (.aload_n 0, 1) := by decide +kernel
theorem dX12_comesTo_50 : decode cX12_comesTo 50 = .ok (.getfield 13, 3) := by decide +kernel
theorem dX12_comesTo_53 : decode cX12_comesTo 53 = .ok (.sipush 890, 3) := by decide +kernel
theorem dX12_comesTo_56 : decode cX12_comesTo 56 = .ok (.iconst 4, 1) := by decide +kernel
theorem dX12_comesTo_57 : decode cX12_comesTo 57 = .ok (.iload 5, 2) := by decide +kernel
theorem dX12_comesTo_59 : decode cX12_comesTo 59 = .ok (.imul, 1) := by decide +kernel
theorem dX12_comesTo_60 : decode cX12_comesTo 60 = .ok (.iadd, 1) := by decide +kernel
theorem dX12_comesTo_61 : decode cX12_comesTo 61 = .ok (.iload_n 2, 1) := by decide +kernel
theorem dX12_comesTo_62 : decode cX12_comesTo 62 = .ok (.iadd, 1) := by decide +kernel
theorem dX12_comesTo_63 : decode cX12_comesTo 63 = .ok (.iaload, 1) := by decide +kernel
theorem dX12_comesTo_64 : decode cX12_comesTo 64 = .ok (.goto 18, 3) := by decide +kernel
theorem dX12_comesTo_67 : decode cX12_comesTo 67 = .ok (.aload_n 0, 1) := by decide +kernel
theorem dX12_comesTo_68 : decode cX12_comesTo 68 = .ok (.getfield 13, 3) := by decide +kernel
theorem dX12_comesTo_71 : decode cX12_comesTo 71 = .ok (.sipush 1210, 3) := by decide +kernel
theorem dX12_comesTo_74 : decode cX12_comesTo 74 = .ok (.iconst 4, 1) := by decide +kernel
theorem dX12_comesTo_75 : decode cX12_comesTo 75 = .ok (.iload 5, 2) := by decide +kernel
theorem dX12_comesTo_77 : decode cX12_comesTo 77 = .ok (.imul, 1) := by decide +kernel
theorem dX12_comesTo_78 : decode cX12_comesTo 78 = .ok (.iadd, 1) := by decide +kernel
theorem dX12_comesTo_79 : decode cX12_comesTo 79 = .ok (.iload_n 2, 1) := by decide +kernel
theorem dX12_comesTo_80 : decode cX12_comesTo 80 = .ok (.iadd, 1) := by decide +kernel
theorem dX12_comesTo_81 : decode cX12_comesTo 81 = .ok (.iaload, 1) := by decide +kernel
theorem dX12_comesTo_82 : decode cX12_comesTo 82 = .ok (.istore 6, 2) := by decide +kernel
theorem dX12_comesTo_84 : decode cX12_comesTo 84 = .ok (.iload 4, 2) := by decide +kernel
theorem dX12_comesTo_86 : decode cX12_comesTo 86 = .ok (.iconst 2, 1) := by decide +kernel
theorem dX12_comesTo_87 : decode cX12_comesTo 87 = .ok (.if_icmp .ge 9, 3) := by decide +kernel
theorem dX12_comesTo_90 : decode cX12_comesTo 90 = .ok (.iload 6, 2) := by decide +kernel
theorem dX12_comesTo_92 : decode cX12_comesTo 92 = .ok (.ineg, 1) := by decide +kernel
theorem dX12_comesTo_93 : decode cX12_comesTo 93 = .ok (.goto 5, 3) := by decide +kernel
theorem dX12_comesTo_96 : decode cX12_comesTo 96 = .ok (.iload 6, 2) := by decide +kernel
theorem dX12_comesTo_98 : decode cX12_comesTo 98 = .ok (.istore 7, 2) := by decide +kernel
theorem dX12_comesTo_100 : decode cX12_comesTo 100 = .ok (.iload_n 3, 1) := by decide +kernel
theorem dX12_comesTo_101 : decode cX12_comesTo 101 = .ok (.iload 7, 2) := by decide +kernel
theorem dX12_comesTo_103 : decode cX12_comesTo 103 = .ok (.ifCond .le 8, 3) := by decide +kernel
theorem dX12_comesTo_106 : decode cX12_comesTo 106 = .ok (.iload 7, 2) := by decide +kernel
theorem dX12_comesTo_108 : decode cX12_comesTo 108 = .ok (.goto 4, 3) := by decide +kernel
theorem dX12_comesTo_111 : decode cX12_comesTo 111 = .ok (.iconst 0, 1) := by decide +kernel
theorem dX12_comesTo_112 : decode cX12_comesTo 112 = .ok (.iadd, 1) := by decide +kernel
theorem dX12_comesTo_113 : decode cX12_comesTo 113 = .ok (.istore_n 3, 1) := by decide +kernel
theorem dX12_comesTo_114 : decode cX12_comesTo 114 = .ok (.iinc 4 1, 3) := by decide +kernel
theorem dX12_comesTo_117 : decode cX12_comesTo 117 = .ok (.goto (-112), 3) := by decide +kernel
theorem dX12_comesTo_120 : decode cX12_comesTo 120 = .ok (.iload_n 3, 1) := by decide +kernel
theorem dX12_comesTo_121 : decode cX12_comesTo 121 = .ok (.ireturn, 1) := by decide +kernel
theorem dX12_whole_0 : decode cX12_whole 0 = .ok (.aload_n 0, 1) := by decide +kernel
theorem dX12_whole_1 : decode cX12_whole 1 = .ok (.iload_n 1, 1) := by decide +kernel
theorem dX12_whole_2 : decode cX12_whole 2 = .ok (.iconst 0, 1) := by decide +kernel
theorem dX12_whole_3 : decode cX12_whole 3 = .ok (.iconst 3, 1) := by decide +kernel
theorem dX12_whole_4 : decode cX12_whole 4 = .ok (.invokevirtual 123, 3) := by decide +kernel
theorem dX12_whole_7 : decode cX12_whole 7 = .ok (.ifCond .ne 5, 3) := by decide +kernel
theorem dX12_whole_10 : decode cX12_whole 10 = .ok (.iconst (-1), 1) := by decide +kernel
theorem dX12_whole_11 : decode cX12_whole 11 = .ok (.ireturn, 1) := by decide +kernel
theorem dX12_whole_12 : decode cX12_whole 12 = .ok (.iconst 0, 1) := by decide +kernel
theorem dX12_whole_13 : decode cX12_whole 13 = .ok (.istore_n 2, 1) := by decide +kernel
theorem dX12_whole_14 : decode cX12_whole 14 = .ok (.iconst 0, 1) := by decide +kernel
theorem dX12_whole_15 : decode cX12_whole 15 = .ok (.istore_n 3, 1) := by decide +kernel
theorem dX12_whole_16 : decode cX12_whole 16 = .ok (.iload_n 3, 1) := by decide +kernel
theorem dX12_whole_17 : decode cX12_whole 17 = .ok (.bipush 80, 2) := by decide +kernel
theorem dX12_whole_19 : decode cX12_whole 19 = .ok (.if_icmp .ge 71, 3) := by decide +kernel
theorem dX12_whole_22 : decode cX12_whole 22 = .ok (.aload_n 0, 1) := by decide +kernel
theorem dX12_whole_23 : decode cX12_whole 23 = .ok (.getfield 13, 3) := by decide +kernel
theorem dX12_whole_26 : decode cX12_whole 26 = .ok (.bipush 10, 2) := by decide +kernel
theorem dX12_whole_28 : decode cX12_whole 28 = .ok (.iload_n 3, 1) := by decide +kernel
theorem dX12_whole_29 : decode cX12_whole 29 = .ok (.iadd, 1) := by decide +kernel
theorem dX12_whole_30 : decode cX12_whole 30 = .ok (.iaload, 1) := by decide +kernel
theorem dX12_whole_31 : decode cX12_whole 31 = .ok (.iload_n 1, 1) := by decide +kernel
theorem dX12_whole_32 : decode cX12_whole 32 = .ok (.if_icmp .le 52, 3) := by decide +kernel
theorem dX12_whole_35 : decode cX12_whole 35 = .ok (.aload_n 0, 1) := by decide +kernel
theorem dX12_whole_36 : decode cX12_whole 36 = .ok (.aload_n 0, 1) := by decide +kernel
theorem dX12_whole_37 : decode cX12_whole 37 = .ok (.getfield 13, 3) := by decide +kernel
theorem dX12_whole_40 : decode cX12_whole 40 = .ok (.sipush 890, 3) := by decide +kernel
theorem dX12_whole_43 : decode cX12_whole 43 = .ok (.iconst 4, 1) := by decide +kernel
theorem dX12_whole_44 : decode cX12_whole 44 = .ok (.iload_n 3, 1) := by decide +kernel
theorem dX12_whole_45 : decode cX12_whole 45 = .ok (.imul, 1) := by decide +kernel
theorem dX12_whole_46 : decode cX12_whole 46 = .ok (.iadd, 1) := by decide +kernel
theorem dX12_whole_47 : decode cX12_whole 47 = .ok (.iload_n 1, 1) := by decide +kernel
theorem dX12_whole_48 : decode cX12_whole 48 = .ok (.iadd, 1) := by decide +kernel
theorem dX12_whole_49 : decode cX12_whole 49 = .ok (.iaload, 1) := by decide +kernel
theorem dX12_whole_50 : decode cX12_whole 50 = .ok (.invokevirtual 152, 3) := by decide +kernel
theorem dX12_whole_53 : decode cX12_whole 53 = .ok (.aload_n 0, 1) := by decide +kernel
theorem dX12_whole_54 : decode cX12_whole 54 = .ok (.aload_n 0, 1) := by decide +kernel
theorem dX12_whole_55 : decode cX12_whole 55 = .ok (.getfield 13, 3) := by decide +kernel
theorem dX12_whole_58 : decode cX12_whole 58 = .ok (.sipush 1210, 3) := by decide +kernel
theorem dX12_whole_61 : decode cX12_whole 61 = .ok (.iconst 4, 1) := by decide +kernel
theorem dX12_whole_62 : decode cX12_whole 62 = .ok (.iload_n 3, 1) := by decide +kernel
theorem dX12_whole_63 : decode cX12_whole 63 = .ok (.imul, 1) := by decide +kernel
theorem dX12_whole_64 : decode cX12_whole 64 = .ok (.iadd, 1) := by decide +kernel
theorem dX12_whole_65 : decode cX12_whole 65 = .ok (.iload_n 1, 1) := by decide +kernel
theorem dX12_whole_66 : decode cX12_whole 66 = .ok (.iadd, 1) := by decide +kernel
theorem dX12_whole_67 : decode cX12_whole 67 = .ok (.iaload, 1) := by decide +kernel
theorem dX12_whole_68 : decode cX12_whole 68 = .ok (.invokevirtual 152, 3) := by decide +kernel
theorem dX12_whole_71 : decode cX12_whole 71 = .ok (.iadd, 1) := by decide +kernel
theorem dX12_whole_72 : decode cX12_whole 72 = .ok (.aload_n 0, 1) := by decide +kernel
theorem dX12_whole_73 : decode cX12_whole 73 = .ok (.iload_n 3, 1) := by decide +kernel
theorem dX12_whole_74 : decode cX12_whole 74 = .ok (.iload_n 1, 1) := by decide +kernel
theorem dX12_whole_75 : decode cX12_whole 75 = .ok (.invokevirtual 271, 3) := by decide +kernel
theorem dX12_whole_78 : decode cX12_whole 78 = .ok (.if_icmp .ne 6, 3) := by decide +kernel
theorem dX12_whole_81 : decode cX12_whole 81 = .ok (.iinc 2 1, 3) := by decide +kernel
theorem dX12_whole_84 : decode cX12_whole 84 = .ok (.iinc 3 1, 3) := by decide +kernel
theorem dX12_whole_87 : decode cX12_whole 87 = .ok (.goto (-71), 3) := by decide +kernel
theorem dX12_whole_90 : decode cX12_whole 90 = .ok (.iload_n 2, 1) := by decide +kernel
theorem dX12_whole_91 : decode cX12_whole 91 = .ok (.ireturn, 1) := by decide +kernel
theorem dX12_ship_0 : decode cX12_ship 0 = .ok (.aload_n 0, 1) := by decide +kernel
theorem dX12_ship_1 : decode cX12_ship 1 = .ok (.iload_n 1, 1) := by decide +kernel
theorem dX12_ship_2 : decode cX12_ship 2 = .ok (.iload_n 2, 1) := by decide +kernel
theorem dX12_ship_3 : decode cX12_ship 3 = .ok (.invokevirtual 127, 3) := by decide +kernel
theorem dX12_ship_6 : decode cX12_ship 6 = .ok (.ifCond .ne 5, 3) := by decide +kernel
theorem dX12_ship_9 : decode cX12_ship 9 = .ok (.iconst (-1), 1) := by decide +kernel
theorem dX12_ship_10 : decode cX12_ship 10 = .ok (.ireturn, 1) := by decide +kernel
theorem dX12_ship_11 : decode cX12_ship 11 = .ok (.aload_n 0, 1) := by decide +kernel
theorem dX12_ship_12 : decode cX12_ship 12 = .ok (.iload_n 1, 1) := by decide +kernel
theorem dX12_ship_13 : decode cX12_ship 13 = .ok (.iload_n 2, 1) := by decide +kernel
theorem dX12_ship_14 : decode cX12_ship 14 = .ok (.invokevirtual 139, 3) := by decide +kernel
theorem dX12_ship_17 : decode cX12_ship 17 = .ok (.ifCond .ne 6, 3) := by decide +kernel
theorem dX12_ship_20 : decode cX12_ship 20 = .ok (.bipush (-3), 2) := by decide +kernel
theorem dX12_ship_22 : decode cX12_ship 22 = .ok (.ireturn, 1) := by decide +kernel
theorem dX12_ship_23 : decode cX12_ship 23 = .ok (.aload_n 0, 1) := by decide +kernel
theorem dX12_ship_24 : decode cX12_ship 24 = .ok (.getfield 13, 3) := by decide +kernel
theorem dX12_ship_27 : decode cX12_ship 27 = .ok (.bipush 6, 2) := by decide +kernel
theorem dX12_ship_29 : decode cX12_ship 29 = .ok (.iaload, 1) := by decide +kernel
theorem dX12_ship_30 : decode cX12_ship 30 = .ok (.istore_n 3, 1) := by decide +kernel
theorem dX12_ship_31 : decode cX12_ship 31 = .ok (.aload_n 0, 1) := by decide +kernel
theorem dX12_ship_32 : decode cX12_ship 32 = .ok (.getfield 13, 3) := by decide +kernel
theorem dX12_ship_35 : decode cX12_ship 35 = .ok (.bipush 6, 2) := by decide +kernel
theorem dX12_ship_37 : decode cX12_ship 37 = .ok (.bipush 8, 2) := by decide +kernel
theorem dX12_ship_39 : decode cX12_ship 39 = .ok (.iload_n 1, 1) := by decide +kernel
theorem dX12_ship_40 : decode cX12_ship 40 = .ok (.imul, 1) := by decide +kernel
theorem dX12_ship_41 : decode cX12_ship 41 = .ok (.iload_n 2, 1) := by decide +kernel
theorem dX12_ship_42 : decode cX12_ship 42 = .ok (.iadd, 1) := by decide +kernel
theorem dX12_ship_43 : decode cX12_ship 43 = .ok (.iastore, 1) := by decide +kernel
theorem dX12_ship_44 : decode cX12_ship 44 = .ok (.iload_n 3, 1) := by decide +kernel
theorem dX12_ship_45 : decode cX12_ship 45 = .ok (.ireturn, 1) := by decide +kernel
theorem dX12_leftOf_0 : decode cX12_leftOf 0 = .ok (.aload_n 0, 1) := by decide +kernel
theorem dX12_leftOf_1 : decode cX12_leftOf 1 = .ok (.getfield 13, 3) := by decide +kernel
theorem dX12_leftOf_4 : decode cX12_leftOf 4 = .ok (.sipush 2194, 3) := by decide +kernel
theorem dX12_leftOf_7 : decode cX12_leftOf 7 = .ok (.iload_n 1, 1) := by decide +kernel
theorem dX12_leftOf_8 : decode cX12_leftOf 8 = .ok (.iadd, 1) := by decide +kernel
theorem dX12_leftOf_9 : decode cX12_leftOf 9 = .ok (.iaload, 1) := by decide +kernel
theorem dX12_leftOf_10 : decode cX12_leftOf 10 = .ok (.aload_n 0, 1) := by decide +kernel
theorem dX12_leftOf_11 : decode cX12_leftOf 11 = .ok (.iload_n 1, 1) := by decide +kernel
theorem dX12_leftOf_12 : decode cX12_leftOf 12 = .ok (.iconst 1, 1) := by decide +kernel
theorem dX12_leftOf_13 : decode cX12_leftOf 13 = .ok (.invokevirtual 149, 3) := by decide +kernel
theorem dX12_leftOf_16 : decode cX12_leftOf 16 = .ok (.idiv, 1) := by decide +kernel
theorem dX12_leftOf_17 : decode cX12_leftOf 17 = .ok (.ireturn, 1) := by decide +kernel
theorem dX12_left_0 : decode cX12_left 0 = .ok (.aload_n 0, 1) := by decide +kernel
theorem dX12_left_1 : decode cX12_left 1 = .ok (.iload_n 1, 1) := by decide +kernel
theorem dX12_left_2 : decode cX12_left 2 = .ok (.invokevirtual 142, 3) := by decide +kernel
theorem dX12_left_5 : decode cX12_left 5 = .ok (.ifCond .ne 7, 3) := by decide +kernel
theorem dX12_left_8 : decode cX12_left 8 = .ok (.iconst (-1), 1) := by decide +kernel
theorem dX12_left_9 : decode cX12_left 9 = .ok (.goto 21, 3) := by decide +kernel
theorem dX12_left_12 : decode cX12_left 12 = .ok (.aload_n 0, 1) := by decide +kernel
theorem dX12_left_13 : decode cX12_left 13 = .ok (.iload_n 1, 1) := by decide +kernel
theorem dX12_left_14 : decode cX12_left 14 = .ok (.invokevirtual 187, 3) := by decide +kernel
theorem dX12_left_17 : decode cX12_left 17 = .ok (.ifCond .ne 8, 3) := by decide +kernel
theorem dX12_left_20 : decode cX12_left 20 = .ok (.bipush (-3), 2) := by decide +kernel
theorem dX12_left_22 : decode cX12_left 22 = .ok (.goto 8, 3) := by decide +kernel
theorem dX12_left_25 : decode cX12_left 25 = .ok (.aload_n 0, 1) := by decide +kernel
theorem dX12_left_26 : decode cX12_left 26 = .ok (.iload_n 1, 1) := by decide +kernel
theorem dX12_left_27 : decode cX12_left 27 = .ok (.invokevirtual 274, 3) := by decide +kernel
theorem dX12_left_30 : decode cX12_left 30 = .ok (.ireturn, 1) := by decide +kernel
theorem dX12_offShip_0 : decode cX12_offShip 0 = .ok (.aload_n 0, 1) := by decide +kernel
theorem dX12_offShip_1 : decode cX12_offShip 1 = .ok (.aload_n 0, 1) := by decide +kernel
theorem dX12_offShip_2 : decode cX12_offShip 2 = .ok (.getfield 13, 3) := by decide +kernel
theorem dX12_offShip_5 : decode cX12_offShip 5 = .ok (.sipush 2178, 3) := by decide +kernel
theorem dX12_offShip_8 : decode cX12_offShip 8 = .ok (.iload_n 1, 1) := by decide +kernel
theorem dX12_offShip_9 : decode cX12_offShip 9 = .ok (.iadd, 1) := by decide +kernel
theorem dX12_offShip_10 : decode cX12_offShip 10 = .ok (.iaload, 1) := by decide +kernel
theorem dX12_offShip_11 : decode cX12_offShip 11 = .ok (.aload_n 0, 1) := by decide +kernel
theorem dX12_offShip_12 : decode cX12_offShip 12 = .ok (.getfield 13, 3) := by decide +kernel
theorem dX12_offShip_15 : decode cX12_offShip 15 = .ok (.bipush 6, 2) := by decide +kernel
theorem dX12_offShip_17 : decode cX12_offShip 17 = .ok (.iaload, 1) := by decide +kernel
theorem dX12_offShip_18 : decode cX12_offShip 18 = .ok (.bipush 8, 2) := by decide +kernel
theorem dX12_offShip_20 : decode cX12_offShip 20 = .ok (.idiv, 1) := by decide +kernel
theorem dX12_offShip_21 : decode cX12_offShip 21 = .ok (.isub, 1) := by decide +kernel
theorem dX12_offShip_22 : decode cX12_offShip 22 = .ok (.invokevirtual 152, 3) := by decide +kernel
theorem dX12_offShip_25 : decode cX12_offShip 25 = .ok (.aload_n 0, 1) := by decide +kernel
theorem dX12_offShip_26 : decode cX12_offShip 26 = .ok (.aload_n 0, 1) := by decide +kernel
theorem dX12_offShip_27 : decode cX12_offShip 27 = .ok (.getfield 13, 3) := by decide +kernel
theorem dX12_offShip_30 : decode cX12_offShip 30 = .ok (.sipush 2186, 3) := by decide +kernel
theorem dX12_offShip_33 : decode cX12_offShip 33 = .ok (.iload_n 1, 1) := by decide +kernel
theorem dX12_offShip_34 : decode cX12_offShip 34 = .ok (.iadd, 1) := by decide +kernel
theorem dX12_offShip_35 : decode cX12_offShip 35 = .ok (.iaload, 1) := by decide +kernel
theorem dX12_offShip_36 : decode cX12_offShip 36 = .ok (.aload_n 0, 1) := by decide +kernel
theorem dX12_offShip_37 : decode cX12_offShip 37 = .ok (.getfield 13, 3) := by decide +kernel
theorem dX12_offShip_40 : decode cX12_offShip 40 = .ok (.bipush 6, 2) := by decide +kernel
theorem dX12_offShip_42 : decode cX12_offShip 42 = .ok (.iaload, 1) := by decide +kernel
theorem dX12_offShip_43 : decode cX12_offShip 43 = .ok (.bipush 8, 2) := by decide +kernel
theorem dX12_offShip_45 : decode cX12_offShip 45 = .ok (.irem, 1) := by decide +kernel
theorem dX12_offShip_46 : decode cX12_offShip 46 = .ok (.isub, 1) := by decide +kernel
theorem dX12_offShip_47 : decode cX12_offShip 47 = .ok (.invokevirtual 152, 3) := by decide +kernel
theorem dX12_offShip_50 : decode cX12_offShip 50 = .ok (.iadd, 1) := by decide +kernel
theorem dX12_offShip_51 : decode cX12_offShip 51 = .ok (.ireturn, 1) := by decide +kernel
theorem dX12_next_0 : decode cX12_next 0 = .ok (.bipush (-4), 2) := by decide +kernel
theorem dX12_next_2 : decode cX12_next 2 = .ok (.istore_n 1, 1) := by decide +kernel
theorem dX12_next_3 : decode cX12_next 3 = .ok (.iconst 0, 1) := by decide +kernel
theorem dX12_next_4 : decode cX12_next 4 = .ok (.istore_n 2, 1) := by decide +kernel
theorem dX12_next_5 : decode cX12_next 5 = .ok (.iload_n 2, 1) := by decide +kernel
theorem dX12_next_6 : decode cX12_next 6 = .ok (.aload_n 0, 1) := by decide +kernel
theorem dX12_next_7 : decode cX12_next 7 = .ok (.getfield 13, 3) := by decide +kernel
theorem dX12_next_10 : decode cX12_next 10 = .ok (.iconst 0, 1) := by decide +kernel
theorem dX12_next_11 : decode cX12_next 11 = .ok (.iaload, 1) := by decide +kernel
theorem dX12_next_12 : decode cX12_next 12 = .ok (.if_icmp .ge 65, 3) := by decide +kernel
theorem dX12_next_15 : decode cX12_next 15 = .ok (.aload_n 0, 1) := by decide +kernel
theorem dX12_next_16 : decode cX12_next 16 = .ok (.iload_n 2, 1) := by decide +kernel
theorem dX12_next_17 : decode cX12_next 17 = .ok (.invokevirtual 187, 3) := by decide +kernel
theorem dX12_next_20 : decode cX12_next 20 = .ok (.ifCond .ne 6, 3) := by decide +kernel
theorem dX12_next_23 : decode cX12_next 23 = .ok (.goto 48, 3) := by decide +kernel
theorem dX12_next_26 : decode cX12_next 26 = .ok (.iload_n 1, 1) := by decide +kernel
theorem dX12_next_27 : decode cX12_next 27 = .ok (.ifCond .lt 42, 3) := by decide +kernel
theorem dX12_next_30 : decode cX12_next 30 = .ok (.aload_n 0, 1) := by decide +kernel
theorem dX12_next_31 : decode cX12_next 31 = .ok (.iload_n 2, 1) := by decide +kernel
theorem dX12_next_32 : decode cX12_next 32 = .ok (.invokevirtual 274, 3) := by decide +kernel
theorem dX12_next_35 : decode cX12_next 35 = .ok (.aload_n 0, 1) := by decide +kernel
theorem dX12_next_36 : decode cX12_next 36 = .ok (.iload_n 1, 1) := by decide +kernel
theorem dX12_next_37 : decode cX12_next 37 = .ok (.invokevirtual 274, 3) := by decide +kernel
theorem dX12_next_40 : decode cX12_next 40 = .ok (.if_icmp .lt 29, 3) := by decide +kernel
theorem dX12_next_43 : decode cX12_next 43 = .ok (.aload_n 0, 1) := by decide +kernel
theorem dX12_next_44 : decode cX12_next 44 = .ok (.iload_n 2, 1) := by decide +kernel
theorem dX12_next_45 : decode cX12_next 45 = .ok (.invokevirtual 274, 3) := by decide +kernel
theorem dX12_next_48 : decode cX12_next 48 = .ok (.aload_n 0, 1) := by decide +kernel
theorem dX12_next_49 : decode cX12_next 49 = .ok (.iload_n 1, 1) := by decide +kernel
theorem dX12_next_50 : decode cX12_next 50 = .ok (.invokevirtual 274, 3) := by decide +kernel
theorem dX12_next_53 : decode cX12_next 53 = .ok (.if_icmp .ne 18, 3) := by decide +kernel
theorem dX12_next_56 : decode cX12_next 56 = .ok (.aload_n 0, 1) := by decide +kernel
theorem dX12_next_57 : decode cX12_next 57 = .ok (.iload_n 2, 1) := by decide +kernel
theorem dX12_next_58 : decode cX12_next 58 = .ok (.invokevirtual 277, 3) := by decide +kernel
theorem dX12_next_61 : decode cX12_next 61 = .ok (.aload_n 0, 1) := by decide +kernel
theorem dX12_next_62 : decode cX12_next 62 = .ok (.iload_n 1, 1) := by decide +kernel
theorem dX12_next_63 : decode cX12_next 63 = .ok (.invokevirtual 277, 3) := by decide +kernel
theorem dX12_next_66 : decode cX12_next 66 = .ok (.if_icmp .ge 5, 3) := by decide +kernel
theorem dX12_next_69 : decode cX12_next 69 = .ok (.iload_n 2, 1) := by decide +kernel
theorem dX12_next_70 : decode cX12_next 70 = .ok (.istore_n 1, 1) := by decide +kernel
theorem dX12_next_71 : decode cX12_next 71 = .ok (.iinc 2 1, 3) := by decide +kernel
theorem dX12_next_74 : decode cX12_next 74 = .ok (.goto (-69), 3) := by decide +kernel
theorem dX12_next_77 : decode cX12_next 77 = .ok (.iload_n 1, 1) := by decide +kernel
theorem dX12_next_78 : decode cX12_next 78 = .ok (.ireturn, 1) := by decide +kernel
theorem dX12_fetch_0 : decode cX12_fetch 0 = .ok (.aload_n 0, 1) := by decide +kernel
theorem dX12_fetch_1 : decode cX12_fetch 1 = .ok (.iload_n 1, 1) := by decide +kernel
theorem dX12_fetch_2 : decode cX12_fetch 2 = .ok (.invokevirtual 142, 3) := by decide +kernel
theorem dX12_fetch_5 : decode cX12_fetch 5 = .ok (.ifCond .ne 5, 3) := by decide +kernel
theorem dX12_fetch_8 : decode cX12_fetch 8 = .ok (.iconst (-1), 1) := by decide +kernel
theorem dX12_fetch_9 : decode cX12_fetch 9 = .ok (.ireturn, 1) := by decide +kernel
theorem dX12_fetch_10 : decode cX12_fetch 10 = .ok (.aload_n 0, 1) := by decide +kernel
theorem dX12_fetch_11 : decode cX12_fetch 11 = .ok (.iload_n 1, 1) := by decide +kernel
theorem dX12_fetch_12 : decode cX12_fetch 12 = .ok (.invokevirtual 187, 3) := by decide +kernel
theorem dX12_fetch_15 : decode cX12_fetch 15 = .ok (.ifCond .eq 12, 3) := by decide +kernel
theorem dX12_fetch_18 : decode cX12_fetch 18 = .ok (.aload_n 0, 1) := by decide +kernel
theorem dX12_fetch_19 : decode cX12_fetch 19 = .ok (.iload_n 1, 1) := by decide +kernel
theorem dX12_fetch_20 : decode cX12_fetch 20 = .ok (.invokevirtual 277, 3) := by decide +kernel
theorem dX12_fetch_23 : decode cX12_fetch 23 = .ok (.iconst 3, 1) := by decide +kernel
theorem dX12_fetch_24 : decode cX12_fetch 24 = .ok (.if_icmp .le 6, 3) := by decide +kernel
theorem dX12_fetch_27 : decode cX12_fetch 27 = .ok (.bipush (-3), 2) := by decide +kernel
theorem dX12_fetch_29 : decode cX12_fetch 29 = .ok (.ireturn, 1) := by decide +kernel
theorem dX12_fetch_30 : decode cX12_fetch 30 = .ok (.aload_n 0, 1) := by decide +kernel
theorem dX12_fetch_31 : decode cX12_fetch 31 = .ok (.getfield 13, 3) := by decide +kernel
theorem dX12_fetch_34 : decode cX12_fetch 34 = .ok (.sipush 2202, 3) := by decide +kernel
theorem dX12_fetch_37 : decode cX12_fetch 37 = .ok (.iload_n 1, 1) := by decide +kernel
theorem dX12_fetch_38 : decode cX12_fetch 38 = .ok (.iadd, 1) := by decide +kernel
theorem dX12_fetch_39 : decode cX12_fetch 39 = .ok (.iconst 1, 1) := by decide +kernel
theorem dX12_fetch_40 : decode cX12_fetch 40 = .ok (.iastore, 1) := by decide +kernel
theorem dX12_fetch_41 : decode cX12_fetch 41 = .ok (.aload_n 0, 1) := by decide +kernel
theorem dX12_fetch_42 : decode cX12_fetch 42 = .ok (.iload_n 1, 1) := by decide +kernel
theorem dX12_fetch_43 : decode cX12_fetch 43 = .ok (.invokevirtual 277, 3) := by decide +kernel
theorem dX12_fetch_46 : decode cX12_fetch 46 = .ok (.ireturn, 1) := by decide +kernel
theorem dX12_image_0 : decode cX12_image 0 = .ok (.iconst 0, 1) := by decide +kernel
theorem dX12_image_1 : decode cX12_image 1 = .ok (.istore_n 1, 1) := by decide +kernel
theorem dX12_image_2 : decode cX12_image 2 = .ok (.iload_n 1, 1) := by decide +kernel
theorem dX12_image_3 : decode cX12_image 3 = .ok (.sipush 8369, 3) := by decide +kernel
theorem dX12_image_6 : decode cX12_image 6 = .ok (.if_icmp .ge 21, 3) := by decide +kernel
theorem dX12_image_9 : decode cX12_image 9 = .ok (.aload_n 0, 1) := by decide +kernel
theorem dX12_image_10 : decode cX12_image 10 = .ok (.getfield 17, 3) := by decide +kernel
theorem dX12_image_13 : decode cX12_image 13 = .ok (.iload_n 1, 1) := by decide +kernel
theorem dX12_image_14 : decode cX12_image 14 = .ok (.aload_n 0, 1) := by decide +kernel
theorem dX12_image_15 : decode cX12_image 15 = .ok (.getfield 13, 3) := by decide +kernel
theorem dX12_image_18 : decode cX12_image 18 = .ok (.iload_n 1, 1) := by decide +kernel
theorem dX12_image_19 : decode cX12_image 19 = .ok (.iaload, 1) := by decide +kernel
theorem dX12_image_20 : decode cX12_image 20 = .ok (.iastore, 1) := by decide +kernel
theorem dX12_image_21 : decode cX12_image 21 = .ok (.iinc 1 1, 3) := by decide +kernel
theorem dX12_image_24 : decode cX12_image 24 = .ok (.goto (-22), 3) := by decide +kernel
theorem dX12_image_27 : decode cX12_image 27 = .ok (.aload_n 0, 1) := by decide +kernel
theorem dX12_image_28 : decode cX12_image 28 = .ok (.iconst 1, 1) := by decide +kernel
theorem dX12_image_29 : decode cX12_image 29 = .ok (.putfield 20, 3) := by decide +kernel
theorem dX12_image_32 : decode cX12_image 32 = .ok (.aload_n 0, 1) := by decide +kernel
theorem dX12_image_33 : decode cX12_image 33 = .ok (.getfield 13, 3) := by decide +kernel
theorem dX12_image_36 : decode cX12_image 36 = .ok (.iconst 1, 1) := by decide +kernel
theorem dX12_image_37 : decode cX12_image 37 = .ok (.iaload, 1) := by decide +kernel
theorem dX12_image_38 : decode cX12_image 38 = .ok (.ireturn, 1) := by decide +kernel
theorem dX12_restore_0 : decode cX12_restore 0 = .ok (.aload_n 0, 1) := by decide +kernel
theorem dX12_restore_1 : decode cX12_restore 1 = .ok (.getfield 20, 3) := by decide +kernel
theorem dX12_restore_4 : decode cX12_restore 4 = .ok (.ifCond .ne 6, 3) := by decide +kernel
theorem dX12_restore_7 : decode cX12_restore 7 = .ok (.bipush (-3), 2) := by decide +kernel
theorem dX12_restore_9 : decode cX12_restore 9 = .ok (.ireturn, 1) := by decide +kernel
theorem dX12_restore_10 : decode cX12_restore 10 = .ok (.iconst 0, 1) := by decide +kernel
theorem dX12_restore_11 : decode cX12_restore 11 = .ok (.istore_n 1, 1) := by decide +kernel
theorem dX12_restore_12 : decode cX12_restore 12 = .ok (.iload_n 1, 1) := by decide +kernel
theorem dX12_restore_13 : decode cX12_restore 13 = .ok (.sipush 8369, 3) := by decide +kernel
theorem dX12_restore_16 : decode cX12_restore 16 = .ok (.if_icmp .ge 21, 3) := by decide +kernel
theorem dX12_restore_19 : decode cX12_restore 19 = .ok (.aload_n 0, 1) := by decide +kernel
theorem dX12_restore_20 : decode cX12_restore 20 = .ok (.getfield 13, 3) := by decide +kernel
theorem dX12_restore_23 : decode cX12_restore 23 = .ok (.iload_n 1, 1) := by decide +kernel
theorem dX12_restore_24 : decode cX12_restore 24 = .ok (.aload_n 0, 1) := by decide +kernel
theorem dX12_restore_25 : decode cX12_restore 25 = .ok (.getfield 17, 3) := by decide +kernel
theorem dX12_restore_28 : decode cX12_restore 28 = .ok (.iload_n 1, 1) := by decide +kernel
theorem dX12_restore_29 : decode cX12_restore 29 = .ok (.iaload, 1) := by decide +kernel
theorem dX12_restore_30 : decode cX12_restore 30 = .ok (.iastore, 1) := by decide +kernel
theorem dX12_restore_31 : decode cX12_restore 31 = .ok (.iinc 1 1, 3) := by decide +kernel
theorem dX12_restore_34 : decode cX12_restore 34 = .ok (.goto (-22), 3) := by decide +kernel
theorem dX12_restore_37 : decode cX12_restore 37 = .ok (.aload_n 0, 1) := by decide +kernel
theorem dX12_restore_38 : decode cX12_restore 38 = .ok (.getfield 13, 3) := by decide +kernel
theorem dX12_restore_41 : decode cX12_restore 41 = .ok (.iconst 1, 1) := by decide +kernel
theorem dX12_restore_42 : decode cX12_restore 42 = .ok (.iaload, 1) := by decide +kernel
theorem dX12_restore_43 : decode cX12_restore 43 = .ok (.ireturn, 1) := by decide +kernel
theorem dX12_count_0 : decode cX12_count 0 = .ok (.iconst 0, 1) := by decide +kernel
theorem dX12_count_1 : decode cX12_count 1 = .ok (.istore_n 2, 1) := by decide +kernel
theorem dX12_count_2 : decode cX12_count 2 = .ok (.iload_n 1, 1) := by decide +kernel
theorem dX12_count_3 : decode cX12_count 3 = .ok (.tableswitch 205 0 10 #[57, 64, 64, 64, 108, 115, 122, 129, 136, 165, 172], 57) := by decide +kernel
theorem dX12_count_60 : decode cX12_count 60 = .ok (.aload_n 0, 1) := by decide +kernel
theorem dX12_count_61 : decode cX12_count 61 = .ok (.getfield 13, 3) := by decide +kernel
theorem dX12_count_64 : decode cX12_count 64 = .ok (.iconst 0, 1) := by decide +kernel
theorem dX12_count_65 : decode cX12_count 65 = .ok (.iaload, 1) := by decide +kernel
theorem dX12_count_66 : decode cX12_count 66 = .ok (.ireturn, 1) := by decide +kernel
theorem dX12_count_67 : decode cX12_count 67 = .ok (.iconst 0, 1) := by decide +kernel
theorem dX12_count_68 : decode cX12_count 68 = .ok (.istore_n 3, 1) := by decide +kernel
theorem dX12_count_69 : decode cX12_count 69 = .ok (.iload_n 3, 1) := by decide +kernel
theorem dX12_count_70 : decode cX12_count 70 = .ok (.aload_n 0, 1) := by decide +kernel
theorem dX12_count_71 : decode cX12_count 71 = .ok (.getfield 13, 3) := by decide +kernel
theorem dX12_count_74 : decode cX12_count 74 = .ok (.iconst 0, 1) := by decide +kernel
theorem dX12_count_75 : decode cX12_count 75 = .ok (.iaload, 1) := by decide +kernel
theorem dX12_count_76 : decode cX12_count 76 = .ok (.if_icmp .ge 33, 3) := by decide +kernel
theorem dX12_count_79 : decode cX12_count 79 = .ok (.iload_n 2, 1) := by decide +kernel
theorem dX12_count_80 : decode cX12_count 80 = .ok (.aload_n 0, 1) := by decide +kernel
theorem dX12_count_81 : decode cX12_count 81 = .ok (.getfield 13, 3) := by decide +kernel
theorem dX12_count_84 : decode cX12_count 84 = .ok (.sipush 2202, 3) := by decide +kernel
theorem dX12_count_87 : decode cX12_count 87 = .ok (.iload_n 3, 1) := by decide +kernel
theorem dX12_count_88 : decode cX12_count 88 = .ok (.iadd, 1) := by decide +kernel
theorem dX12_count_89 : decode cX12_count 89 = .ok (.iaload, 1) := by decide +kernel
theorem dX12_count_90 : decode cX12_count 90 = .ok (.iload_n 1, 1) := by decide +kernel
theorem dX12_count_91 : decode cX12_count 91 = .ok (.iconst 1, 1) := by decide +kernel
theorem dX12_count_92 : decode cX12_count 92 = .ok (.isub, 1) := by decide +kernel
theorem dX12_count_93 : decode cX12_count 93 = .ok (.if_icmp .ne 7, 3) := by decide +kernel
theorem dX12_count_96 : decode cX12_count 96 = .ok (.iconst 1, 1) := by decide +kernel
theorem dX12_count_97 : decode cX12_count 97 = .ok (.goto 4, 3) := by decide +kernel
theorem dX12_count_100 : decode cX12_count 100 = .ok (.iconst 0, 1) := by decide +kernel
theorem dX12_count_101 : decode cX12_count 101 = .ok (.iadd, 1) := by decide +kernel
theorem dX12_count_102 : decode cX12_count 102 = .ok (.istore_n 2, 1) := by decide +kernel
theorem dX12_count_103 : decode cX12_count 103 = .ok (.iinc 3 1, 3) := by decide +kernel
theorem dX12_count_106 : decode cX12_count 106 = .ok (.goto (-37), 3) := by decide +kernel
theorem dX12_count_109 : decode cX12_count 109 = .ok (.iload_n 2, 1) := by decide +kernel
theorem dX12_count_110 : decode cX12_count 110 = .ok (.ireturn, 1) := by decide +kernel
theorem dX12_count_111 : decode cX12_count 111 = .ok (.aload_n 0, 1) := by decide +kernel
theorem dX12_count_112 : decode cX12_count 112 = .ok (.getfield 13, 3) := by decide +kernel
theorem dX12_count_115 : decode cX12_count 115 = .ok (.iconst 1, 1) := by decide +kernel
theorem dX12_count_116 : decode cX12_count 116 = .ok (.iaload, 1) := by decide +kernel
theorem dX12_count_117 : decode cX12_count 117 = .ok (.ireturn, 1) := by decide +kernel
theorem dX12_count_118 : decode cX12_count 118 = .ok (.aload_n 0, 1) := by decide +kernel
theorem dX12_count_119 : decode cX12_count 119 = .ok (.getfield 13, 3) := by decide +kernel
theorem dX12_count_122 : decode cX12_count 122 = .ok (.iconst 2, 1) := by decide +kernel
theorem dX12_count_123 : decode cX12_count 123 = .ok (.iaload, 1) := by decide +kernel
theorem dX12_count_124 : decode cX12_count 124 = .ok (.ireturn, 1) := by decide +kernel
theorem dX12_count_125 : decode cX12_count 125 = .ok (.aload_n 0, 1) := by decide +kernel
theorem dX12_count_126 : decode cX12_count 126 = .ok (.getfield 13, 3) := by decide +kernel
theorem dX12_count_129 : decode cX12_count 129 = .ok (.iconst 3, 1) := by decide +kernel
theorem dX12_count_130 : decode cX12_count 130 = .ok (.iaload, 1) := by decide +kernel
theorem dX12_count_131 : decode cX12_count 131 = .ok (.ireturn, 1) := by decide +kernel
theorem dX12_count_132 : decode cX12_count 132 = .ok (.aload_n 0, 1) := by decide +kernel
theorem dX12_count_133 : decode cX12_count 133 = .ok (.getfield 13, 3) := by decide +kernel
theorem dX12_count_136 : decode cX12_count 136 = .ok (.iconst 4, 1) := by decide +kernel
theorem dX12_count_137 : decode cX12_count 137 = .ok (.iaload, 1) := by decide +kernel
theorem dX12_count_138 : decode cX12_count 138 = .ok (.ireturn, 1) := by decide +kernel
theorem dX12_count_139 : decode cX12_count 139 = .ok (.iconst 0, 1) := by decide +kernel
theorem dX12_count_140 : decode cX12_count 140 = .ok (.istore_n 3, 1) := by decide +kernel
theorem dX12_count_141 : decode cX12_count 141 = .ok (.iload_n 3, 1) := by decide +kernel
theorem dX12_count_142 : decode cX12_count 142 = .ok (.bipush 80, 2) := by decide +kernel
theorem dX12_count_144 : decode cX12_count 144 = .ok (.if_icmp .ge 22, 3) := by decide +kernel
theorem dX12_count_147 : decode cX12_count 147 = .ok (.iload_n 2, 1) := by decide +kernel
theorem dX12_count_148 : decode cX12_count 148 = .ok (.aload_n 0, 1) := by decide +kernel
theorem dX12_count_149 : decode cX12_count 149 = .ok (.getfield 13, 3) := by decide +kernel
theorem dX12_count_152 : decode cX12_count 152 = .ok (.sipush 170, 3) := by decide +kernel
theorem dX12_count_155 : decode cX12_count 155 = .ok (.iload_n 3, 1) := by decide +kernel
theorem dX12_count_156 : decode cX12_count 156 = .ok (.iadd, 1) := by decide +kernel
theorem dX12_count_157 : decode cX12_count 157 = .ok (.iaload, 1) := by decide +kernel
theorem dX12_count_158 : decode cX12_count 158 = .ok (.iadd, 1) := by decide +kernel
theorem dX12_count_159 : decode cX12_count 159 = .ok (.istore_n 2, 1) := by decide +kernel
theorem dX12_count_160 : decode cX12_count 160 = .ok (.iinc 3 1, 3) := by decide +kernel
theorem dX12_count_163 : decode cX12_count 163 = .ok (.goto (-22), 3) := by decide +kernel
theorem dX12_count_166 : decode cX12_count 166 = .ok (.iload_n 2, 1) := by decide +kernel
theorem dX12_count_167 : decode cX12_count 167 = .ok (.ireturn, 1) := by decide +kernel
theorem dX12_count_168 : decode cX12_count 168 = .ok (.aload_n 0, 1) := by decide +kernel
theorem dX12_count_169 : decode cX12_count 169 = .ok (.getfield 13, 3) := by decide +kernel
theorem dX12_count_172 : decode cX12_count 172 = .ok (.iconst 5, 1) := by decide +kernel
theorem dX12_count_173 : decode cX12_count 173 = .ok (.iaload, 1) := by decide +kernel
theorem dX12_count_174 : decode cX12_count 174 = .ok (.ireturn, 1) := by decide +kernel
theorem dX12_count_175 : decode cX12_count 175 = .ok (.iconst 0, 1) := by decide +kernel
theorem dX12_count_176 : decode cX12_count 176 = .ok (.istore_n 3, 1) := by decide +kernel
theorem dX12_count_177 : decode cX12_count 177 = .ok (.iload_n 3, 1) := by decide +kernel
theorem dX12_count_178 : decode cX12_count 178 = .ok (.aload_n 0, 1) := by decide +kernel
theorem dX12_count_179 : decode cX12_count 179 = .ok (.getfield 13, 3) := by decide +kernel
theorem dX12_count_182 : decode cX12_count 182 = .ok (.iconst 0, 1) := by decide +kernel
theorem dX12_count_183 : decode cX12_count 183 = .ok (.iaload, 1) := by decide +kernel
theorem dX12_count_184 : decode cX12_count 184 = .ok (.if_icmp .ge 22, 3) := by decide +kernel
theorem dX12_count_187 : decode cX12_count 187 = .ok (.iload_n 2, 1) := by decide +kernel
theorem dX12_count_188 : decode cX12_count 188 = .ok (.aload_n 0, 1) := by decide +kernel
theorem dX12_count_189 : decode cX12_count 189 = .ok (.getfield 13, 3) := by decide +kernel
theorem dX12_count_192 : decode cX12_count 192 = .ok (.sipush 2194, 3) := by decide +kernel
theorem dX12_count_195 : decode cX12_count 195 = .ok (.iload_n 3, 1) := by decide +kernel
theorem dX12_count_196 : decode cX12_count 196 = .ok (.iadd, 1) := by decide +kernel
theorem dX12_count_197 : decode cX12_count 197 = .ok (.iaload, 1) := by decide +kernel
theorem dX12_count_198 : decode cX12_count 198 = .ok (.iadd, 1) := by decide +kernel
theorem dX12_count_199 : decode cX12_count 199 = .ok (.istore_n 2, 1) := by decide +kernel
theorem dX12_count_200 : decode cX12_count 200 = .ok (.iinc 3 1, 3) := by decide +kernel
theorem dX12_count_203 : decode cX12_count 203 = .ok (.goto (-26), 3) := by decide +kernel
theorem dX12_count_206 : decode cX12_count 206 = .ok (.iload_n 2, 1) := by decide +kernel
theorem dX12_count_207 : decode cX12_count 207 = .ok (.ireturn, 1) := by decide +kernel
theorem dX12_count_208 : decode cX12_count 208 = .ok (.iconst (-1), 1) := by decide +kernel
theorem dX12_count_209 : decode cX12_count 209 = .ok (.ireturn, 1) := by decide +kernel
theorem dX12_isShelf_0 : decode cX12_isShelf 0 = .ok (.aload_n 0, 1) := by decide +kernel
theorem dX12_isShelf_1 : decode cX12_isShelf 1 = .ok (.iload_n 1, 1) := by decide +kernel
theorem dX12_isShelf_2 : decode cX12_isShelf 2 = .ok (.iconst 0, 1) := by decide +kernel
theorem dX12_isShelf_3 : decode cX12_isShelf 3 = .ok (.bipush 7, 2) := by decide +kernel
theorem dX12_isShelf_5 : decode cX12_isShelf 5 = .ok (.invokevirtual 123, 3) := by decide +kernel
theorem dX12_isShelf_8 : decode cX12_isShelf 8 = .ok (.ireturn, 1) := by decide +kernel
theorem dX12_keep_0 : decode cX12_keep 0 = .ok (.aload_n 0, 1) := by decide +kernel
theorem dX12_keep_1 : decode cX12_keep 1 = .ok (.iload_n 1, 1) := by decide +kernel
theorem dX12_keep_2 : decode cX12_keep 2 = .ok (.invokevirtual 280, 3) := by decide +kernel
theorem dX12_keep_5 : decode cX12_keep 5 = .ok (.ifCond .eq 26, 3) := by decide +kernel
theorem dX12_keep_8 : decode cX12_keep 8 = .ok (.aload_n 0, 1) := by decide +kernel
theorem dX12_keep_9 : decode cX12_keep 9 = .ok (.iload_n 2, 1) := by decide +kernel
theorem dX12_keep_10 : decode cX12_keep 10 = .ok (.iconst 0, 1) := by decide +kernel
theorem dX12_keep_11 : decode cX12_keep 11 = .ok (.iconst 1, 1) := by decide +kernel
theorem dX12_keep_12 : decode cX12_keep 12 = .ok (.invokevirtual 123, 3) := by decide +kernel
theorem dX12_keep_15 : decode cX12_keep 15 = .ok (.ifCond .eq 16, 3) := by decide +kernel
theorem dX12_keep_18 : decode cX12_keep 18 = .ok (.iload_n 2, 1) := by decide +kernel
theorem dX12_keep_19 : decode cX12_keep 19 = .ok (.iconst 1, 1) := by decide +kernel
theorem dX12_keep_20 : decode cX12_keep 20 = .ok (.if_icmp .ne 13, 3) := by decide +kernel
theorem dX12_keep_23 : decode cX12_keep 23 = .ok (.aload_n 0, 1) := by decide +kernel
theorem dX12_keep_24 : decode cX12_keep 24 = .ok (.iload_n 3, 1) := by decide +kernel
theorem dX12_keep_25 : decode cX12_keep 25 = .ok (.invokevirtual 142, 3) := by decide +kernel
theorem dX12_keep_28 : decode cX12_keep 28 = .ok (.ifCond .ne 5, 3) := by decide +kernel
theorem dX12_keep_31 : decode cX12_keep 31 = .ok (.iconst (-1), 1) := by decide +kernel
theorem dX12_keep_32 : decode cX12_keep 32 = .ok (.ireturn, 1) := by decide +kernel
theorem dX12_keep_33 : decode cX12_keep 33 = .ok (.aload_n 0, 1) := by decide +kernel
theorem dX12_keep_34 : decode cX12_keep 34 = .ok (.getfield 96, 3) := by decide +kernel
theorem dX12_keep_37 : decode cX12_keep 37 = .ok (.iload_n 1, 1) := by decide +kernel
theorem dX12_keep_38 : decode cX12_keep 38 = .ok (.iload_n 2, 1) := by decide +kernel
theorem dX12_keep_39 : decode cX12_keep 39 = .ok (.iastore, 1) := by decide +kernel
theorem dX12_keep_40 : decode cX12_keep 40 = .ok (.iload_n 2, 1) := by decide +kernel
theorem dX12_keep_41 : decode cX12_keep 41 = .ok (.iconst 1, 1) := by decide +kernel
theorem dX12_keep_42 : decode cX12_keep 42 = .ok (.if_icmp .ne 81, 3) := by decide +kernel
theorem dX12_keep_45 : decode cX12_keep 45 = .ok (.aload_n 0, 1) := by decide +kernel
theorem dX12_keep_46 : decode cX12_keep 46 = .ok (.getfield 99, 3) := by decide +kernel
theorem dX12_keep_49 : decode cX12_keep 49 = .ok (.iload_n 1, 1) := by decide +kernel
theorem dX12_keep_50 : decode cX12_keep 50 = .ok (.aload_n 0, 1) := by decide +kernel
theorem dX12_keep_51 : decode cX12_keep 51 = .ok (.getfield 13, 3) := by decide +kernel
theorem dX12_keep_54 : decode cX12_keep 54 = .ok (.sipush 2170, 3) := by decide +kernel
theorem dX12_keep_57 : decode cX12_keep 57 = .ok (.iload_n 3, 1) := by decide +kernel
theorem dX12_keep_58 : decode cX12_keep 58 = .ok (.iadd, 1) := by decide +kernel
theorem dX12_keep_59 : decode cX12_keep 59 = .ok (.iaload, 1) := by decide +kernel
theorem dX12_keep_60 : decode cX12_keep 60 = .ok (.iastore, 1) := by decide +kernel
theorem dX12_keep_61 : decode cX12_keep 61 = .ok (.aload_n 0, 1) := by decide +kernel
theorem dX12_keep_62 : decode cX12_keep 62 = .ok (.getfield 102, 3) := by decide +kernel
theorem dX12_keep_65 : decode cX12_keep 65 = .ok (.iload_n 1, 1) := by decide +kernel
theorem dX12_keep_66 : decode cX12_keep 66 = .ok (.bipush 8, 2) := by decide +kernel
theorem dX12_keep_68 : decode cX12_keep 68 = .ok (.aload_n 0, 1) := by decide +kernel
theorem dX12_keep_69 : decode cX12_keep 69 = .ok (.getfield 13, 3) := by decide +kernel
theorem dX12_keep_72 : decode cX12_keep 72 = .ok (.sipush 2178, 3) := by decide +kernel
theorem dX12_keep_75 : decode cX12_keep 75 = .ok (.iload_n 3, 1) := by decide +kernel
theorem dX12_keep_76 : decode cX12_keep 76 = .ok (.iadd, 1) := by decide +kernel
theorem dX12_keep_77 : decode cX12_keep 77 = .ok (.iaload, 1) := by decide +kernel
theorem dX12_keep_78 : decode cX12_keep 78 = .ok (.imul, 1) := by decide +kernel
theorem dX12_keep_79 : decode cX12_keep 79 = .ok (.aload_n 0, 1) := by decide +kernel
theorem dX12_keep_80 : decode cX12_keep 80 = .ok (.getfield 13, 3) := by decide +kernel
theorem dX12_keep_83 : decode cX12_keep 83 = .ok (.sipush 2186, 3) := by decide +kernel
theorem dX12_keep_86 : decode cX12_keep 86 = .ok (.iload_n 3, 1) := by decide +kernel
theorem dX12_keep_87 : decode cX12_keep 87 = .ok (.iadd, 1) := by decide +kernel
theorem dX12_keep_88 : decode cX12_keep 88 = .ok (.iaload, 1) := by decide +kernel
theorem dX12_keep_89 : decode cX12_keep 89 = .ok (.iadd, 1) := by decide +kernel
theorem dX12_keep_90 : decode cX12_keep 90 = .ok (.iastore, 1) := by decide +kernel
theorem dX12_keep_91 : decode cX12_keep 91 = .ok (.aload_n 0, 1) := by decide +kernel
theorem dX12_keep_92 : decode cX12_keep 92 = .ok (.getfield 105, 3) := by decide +kernel
theorem dX12_keep_95 : decode cX12_keep 95 = .ok (.iload_n 1, 1) := by decide +kernel
theorem dX12_keep_96 : decode cX12_keep 96 = .ok (.aload_n 0, 1) := by decide +kernel
theorem dX12_keep_97 : decode cX12_keep 97 = .ok (.getfield 13, 3) := by decide +kernel
theorem dX12_keep_100 : decode cX12_keep 100 = .ok (.sipush 2194, 3) := by decide +kernel
theorem dX12_keep_103 : decode cX12_keep 103 = .ok (.iload_n 3, 1) := by decide +kernel
theorem dX12_keep_104 : decode cX12_keep 104 = .ok (.iadd, 1) := by decide +kernel
theorem dX12_keep_105 : decode cX12_keep 105 = .ok (.iaload, 1) := by decide +kernel
theorem dX12_keep_106 : decode cX12_keep 106 = .ok (.iastore, 1) := by decide +kernel
theorem dX12_keep_107 : decode cX12_keep 107 = .ok (.aload_n 0, 1) := by decide +kernel
theorem dX12_keep_108 : decode cX12_keep 108 = .ok (.getfield 108, 3) := by decide +kernel
theorem dX12_keep_111 : decode cX12_keep 111 = .ok (.iload_n 1, 1) := by decide +kernel
theorem dX12_keep_112 : decode cX12_keep 112 = .ok (.aload_n 0, 1) := by decide +kernel
theorem dX12_keep_113 : decode cX12_keep 113 = .ok (.getfield 13, 3) := by decide +kernel
theorem dX12_keep_116 : decode cX12_keep 116 = .ok (.sipush 2202, 3) := by decide +kernel
theorem dX12_keep_119 : decode cX12_keep 119 = .ok (.iload_n 3, 1) := by decide +kernel
theorem dX12_keep_120 : decode cX12_keep 120 = .ok (.iadd, 1) := by decide +kernel
theorem dX12_keep_121 : decode cX12_keep 121 = .ok (.iaload, 1) := by decide +kernel
theorem dX12_keep_122 : decode cX12_keep 122 = .ok (.iastore, 1) := by decide +kernel
theorem dX12_keep_123 : decode cX12_keep 123 = .ok (.iconst 0, 1) := by decide +kernel
theorem dX12_keep_124 : decode cX12_keep 124 = .ok (.ireturn, 1) := by decide +kernel
theorem dX12_row_0 : decode cX12_row 0 = .ok (.aload_n 0, 1) := by decide +kernel
theorem dX12_row_1 : decode cX12_row 1 = .ok (.iload_n 1, 1) := by decide +kernel
theorem dX12_row_2 : decode cX12_row 2 = .ok (.invokevirtual 280, 3) := by decide +kernel
theorem dX12_row_5 : decode cX12_row 5 = .ok (.ifCond .eq 19, 3) := by decide +kernel
theorem dX12_row_8 : decode cX12_row 8 = .ok (.aload_n 0, 1) := by decide +kernel
theorem dX12_row_9 : decode cX12_row 9 = .ok (.iload_n 2, 1) := by decide +kernel
theorem dX12_row_10 : decode cX12_row 10 = .ok (.iconst 0, 1) := by decide +kernel
theorem dX12_row_11 : decode cX12_row 11 = .ok (.iconst 2, 1) := by decide +kernel
theorem dX12_row_12 : decode cX12_row 12 = .ok (.invokevirtual 123, 3) := by decide +kernel
theorem dX12_row_15 : decode cX12_row 15 = .ok (.ifCond .eq 9, 3) := by decide +kernel
theorem dX12_row_18 : decode cX12_row 18 = .ok (.iload_n 3, 1) := by decide +kernel
theorem dX12_row_19 : decode cX12_row 19 = .ok (.bipush 80, 2) := by decide +kernel
theorem dX12_row_21 : decode cX12_row 21 = .ok (.if_icmp .le 5, 3) := by decide +kernel
theorem dX12_row_24 : decode cX12_row 24 = .ok (.iconst (-1), 1) := by decide +kernel
theorem dX12_row_25 : decode cX12_row 25 = .ok (.ireturn, 1) := by decide +kernel
theorem dX12_row_26 : decode cX12_row 26 = .ok (.iload_n 3, 1) := by decide +kernel
theorem dX12_row_27 : decode cX12_row 27 = .ok (.ifCond .ge 6, 3) := by decide +kernel
theorem dX12_row_30 : decode cX12_row 30 = .ok (.bipush (-14), 2) := by decide +kernel
theorem dX12_row_32 : decode cX12_row 32 = .ok (.ireturn, 1) := by decide +kernel
theorem dX12_row_33 : decode cX12_row 33 = .ok (.aload_n 0, 1) := by decide +kernel
theorem dX12_row_34 : decode cX12_row 34 = .ok (.getfield 96, 3) := by decide +kernel
theorem dX12_row_37 : decode cX12_row 37 = .ok (.iload_n 1, 1) := by decide +kernel
theorem dX12_row_38 : decode cX12_row 38 = .ok (.iconst 2, 1) := by decide +kernel
theorem dX12_row_39 : decode cX12_row 39 = .ok (.iastore, 1) := by decide +kernel
theorem dX12_row_40 : decode cX12_row 40 = .ok (.aload_n 0, 1) := by decide +kernel
theorem dX12_row_41 : decode cX12_row 41 = .ok (.getfield 111, 3) := by decide +kernel
theorem dX12_row_44 : decode cX12_row 44 = .ok (.iload_n 1, 1) := by decide +kernel
theorem dX12_row_45 : decode cX12_row 45 = .ok (.iload_n 2, 1) := by decide +kernel
theorem dX12_row_46 : decode cX12_row 46 = .ok (.iastore, 1) := by decide +kernel
theorem dX12_row_47 : decode cX12_row 47 = .ok (.aload_n 0, 1) := by decide +kernel
theorem dX12_row_48 : decode cX12_row 48 = .ok (.getfield 114, 3) := by decide +kernel
theorem dX12_row_51 : decode cX12_row 51 = .ok (.iload_n 1, 1) := by decide +kernel
theorem dX12_row_52 : decode cX12_row 52 = .ok (.iload_n 3, 1) := by decide +kernel
theorem dX12_row_53 : decode cX12_row 53 = .ok (.iastore, 1) := by decide +kernel
theorem dX12_row_54 : decode cX12_row 54 = .ok (.iconst 0, 1) := by decide +kernel
theorem dX12_row_55 : decode cX12_row 55 = .ok (.istore 4, 2) := by decide +kernel
theorem dX12_row_57 : decode cX12_row 57 = .ok (.iload 4, 2) := by decide +kernel
theorem dX12_row_59 : decode cX12_row 59 = .ok (.bipush 80, 2) := by decide +kernel
theorem dX12_row_61 : decode cX12_row 61 = .ok (.if_icmp .ge 22, 3) := by decide +kernel
theorem dX12_row_64 : decode cX12_row 64 = .ok (.aload_n 0, 1) := by decide +kernel
theorem dX12_row_65 : decode cX12_row 65 = .ok (.getfield 117, 3) := by decide +kernel
theorem dX12_row_68 : decode cX12_row 68 = .ok (.bipush 80, 2) := by decide +kernel
theorem dX12_row_70 : decode cX12_row 70 = .ok (.iload_n 1, 1) := by decide +kernel
theorem dX12_row_71 : decode cX12_row 71 = .ok (.imul, 1) := by decide +kernel
theorem dX12_row_72 : decode cX12_row 72 = .ok (.iload 4, 2) := by decide +kernel
theorem dX12_row_74 : decode cX12_row 74 = .ok (.iadd, 1) := by decide +kernel
theorem dX12_row_75 : decode cX12_row 75 = .ok (.iconst 0, 1) := by decide +kernel
theorem dX12_row_76 : decode cX12_row 76 = .ok (.iastore, 1) := by decide +kernel
theorem dX12_row_77 : decode cX12_row 77 = .ok (.iinc 4 1, 3) := by decide +kernel
theorem dX12_row_80 : decode cX12_row 80 = .ok (.goto (-23), 3) := by decide +kernel
theorem dX12_row_83 : decode cX12_row 83 = .ok (.iconst 0, 1) := by decide +kernel
theorem dX12_row_84 : decode cX12_row 84 = .ok (.ireturn, 1) := by decide +kernel
theorem dX12_narrow_0 : decode cX12_narrow 0 = .ok (.iload_n 1, 1) := by decide +kernel
theorem dX12_narrow_1 : decode cX12_narrow 1 = .ok (.ifCond .ne 8, 3) := by decide +kernel
theorem dX12_narrow_4 : decode cX12_narrow 4 = .ok (.iload_n 2, 1) := by decide +kernel
theorem dX12_narrow_5 : decode cX12_narrow 5 = .ok (.i2b, 1) := by decide +kernel
theorem dX12_narrow_6 : decode cX12_narrow 6 = .ok (.goto 14, 3) := by decide +kernel
theorem dX12_narrow_9 : decode cX12_narrow 9 = .ok (.iload_n 1, 1) := by decide +kernel
theorem dX12_narrow_10 : decode cX12_narrow 10 = .ok (.iconst 1, 1) := by decide +kernel
theorem dX12_narrow_11 : decode cX12_narrow 11 = .ok (.if_icmp .ne 8, 3) := by decide +kernel
theorem dX12_narrow_14 : decode cX12_narrow 14 = .ok (.iload_n 2, 1) := by decide +kernel
theorem dX12_narrow_15 : decode cX12_narrow 15 = .ok (.i2s, 1) := by decide +kernel
theorem dX12_narrow_16 : decode cX12_narrow 16 = .ok (.goto 4, 3) := by decide +kernel
theorem dX12_narrow_19 : decode cX12_narrow 19 = .ok (.iload_n 2, 1) := by decide +kernel
theorem dX12_narrow_20 : decode cX12_narrow 20 = .ok (.ireturn, 1) := by decide +kernel
theorem dX12_put_0 : decode cX12_put 0 = .ok (.aload_n 0, 1) := by decide +kernel
theorem dX12_put_1 : decode cX12_put 1 = .ok (.iload_n 1, 1) := by decide +kernel
theorem dX12_put_2 : decode cX12_put 2 = .ok (.invokevirtual 280, 3) := by decide +kernel
theorem dX12_put_5 : decode cX12_put 5 = .ok (.ifCond .ne 5, 3) := by decide +kernel
theorem dX12_put_8 : decode cX12_put 8 = .ok (.iconst (-1), 1) := by decide +kernel
theorem dX12_put_9 : decode cX12_put 9 = .ok (.ireturn, 1) := by decide +kernel
theorem dX12_put_10 : decode cX12_put 10 = .ok (.aload_n 0, 1) := by decide +kernel
theorem dX12_put_11 : decode cX12_put 11 = .ok (.getfield 96, 3) := by decide +kernel
theorem dX12_put_14 : decode cX12_put 14 = .ok (.iload_n 1, 1) := by decide +kernel
theorem dX12_put_15 : decode cX12_put 15 = .ok (.iaload, 1) := by decide +kernel
theorem dX12_put_16 : decode cX12_put 16 = .ok (.ifCond .ne 6, 3) := by decide +kernel
theorem dX12_put_19 : decode cX12_put 19 = .ok (.bipush (-11), 2) := by decide +kernel
theorem dX12_put_21 : decode cX12_put 21 = .ok (.ireturn, 1) := by decide +kernel
theorem dX12_put_22 : decode cX12_put 22 = .ok (.aload_n 0, 1) := by decide +kernel
theorem dX12_put_23 : decode cX12_put 23 = .ok (.getfield 96, 3) := by decide +kernel
theorem dX12_put_26 : decode cX12_put 26 = .ok (.iload_n 1, 1) := by decide +kernel
theorem dX12_put_27 : decode cX12_put 27 = .ok (.iaload, 1) := by decide +kernel
theorem dX12_put_28 : decode cX12_put 28 = .ok (.iconst 2, 1) := by decide +kernel
theorem dX12_put_29 : decode cX12_put 29 = .ok (.if_icmp .eq 6, 3) := by decide +kernel
theorem dX12_put_32 : decode cX12_put 32 = .ok (.bipush (-12), 2) := by decide +kernel
theorem dX12_put_34 : decode cX12_put 34 = .ok (.ireturn, 1) := by decide +kernel
theorem dX12_put_35 : decode cX12_put 35 = .ok (.aload_n 0, 1) := by decide +kernel
theorem dX12_put_36 : decode cX12_put 36 = .ok (.iload_n 2, 1) := by decide +kernel
theorem dX12_put_37 : decode cX12_put 37 = .ok (.iconst 0, 1) := by decide +kernel
theorem dX12_put_38 : decode cX12_put 38 = .ok (.aload_n 0, 1) := by decide +kernel
theorem dX12_put_39 : decode cX12_put 39 = .ok (.getfield 114, 3) := by decide +kernel
theorem dX12_put_42 : decode cX12_put 42 = .ok (.iload_n 1, 1) := by decide +kernel
theorem dX12_put_43 : decode cX12_put 43 = .ok (.iaload, 1) := by decide +kernel
theorem dX12_put_44 : decode cX12_put 44 = .ok (.iconst 1, 1) := by decide +kernel
theorem dX12_put_45 : decode cX12_put 45 = .ok (.isub, 1) := by decide +kernel
theorem dX12_put_46 : decode cX12_put 46 = .ok (.invokevirtual 123, 3) := by decide +kernel
theorem dX12_put_49 : decode cX12_put 49 = .ok (.ifCond .ne 6, 3) := by decide +kernel
theorem dX12_put_52 : decode cX12_put 52 = .ok (.bipush (-13), 2) := by decide +kernel
theorem dX12_put_54 : decode cX12_put 54 = .ok (.ireturn, 1) := by decide +kernel
theorem dX12_put_55 : decode cX12_put 55 = .ok (.aload_n 0, 1) := by decide +kernel
theorem dX12_put_56 : decode cX12_put 56 = .ok (.getfield 117, 3) := by decide +kernel
theorem dX12_put_59 : decode cX12_put 59 = .ok (.bipush 80, 2) := by decide +kernel
theorem dX12_put_61 : decode cX12_put 61 = .ok (.iload_n 1, 1) := by decide +kernel
theorem dX12_put_62 : decode cX12_put 62 = .ok (.imul, 1) := by decide +kernel
theorem dX12_put_63 : decode cX12_put 63 = .ok (.iload_n 2, 1) := by decide +kernel
theorem dX12_put_64 : decode cX12_put 64 = .ok (.iadd, 1) := by decide +kernel
theorem dX12_put_65 : decode cX12_put 65 = .ok (.aload_n 0, 1) := by decide +kernel
theorem dX12_put_66 : decode cX12_put 66 = .ok (.aload_n 0, 1) := by decide +kernel
theorem dX12_put_67 : decode cX12_put 67 = .ok (.getfield 111, 3) := by decide +kernel
theorem dX12_put_70 : decode cX12_put 70 = .ok (.iload_n 1, 1) := by decide +kernel
theorem dX12_put_71 : decode cX12_put 71 = .ok (.iaload, 1) := by decide +kernel
theorem dX12_put_72 : decode cX12_put 72 = .ok (.iload_n 3, 1) := by decide +kernel
theorem dX12_put_73 : decode cX12_put 73 = .ok (.invokevirtual 283, 3) := by decide +kernel
theorem dX12_put_76 : decode cX12_put 76 = .ok (.iastore, 1) := by decide +kernel
theorem dX12_put_77 : decode cX12_put 77 = .ok (.iconst 0, 1) := by decide +kernel
theorem dX12_put_78 : decode cX12_put 78 = .ok (.ireturn, 1) := by decide +kernel
theorem dX12_element_0 : decode cX12_element 0 = .ok (.aload_n 0, 1) := by decide +kernel
theorem dX12_element_1 : decode cX12_element 1 = .ok (.aload_n 0, 1) := by decide +kernel
theorem dX12_element_2 : decode cX12_element 2 = .ok (.iload_n 1, 1) := by decide +kernel
theorem dX12_element_3 : decode cX12_element 3 = .ok (.invokevirtual 280, 3) := by decide +kernel
theorem dX12_element_6 : decode cX12_element 6 = .ok (.ifCond .ne 7, 3) := by decide +kernel
theorem dX12_element_9 : decode cX12_element 9 = .ok (.iconst 1, 1) := by decide +kernel
theorem dX12_element_10 : decode cX12_element 10 = .ok (.goto 35, 3) := by decide +kernel
theorem dX12_element_13 : decode cX12_element 13 = .ok (.aload_n 0, 1) := by decide +kernel
theorem dX12_element_14 : decode cX12_element 14 = .ok (.getfield 96, 3) := by decide +kernel
theorem dX12_element_17 : decode cX12_element 17 = .ok (.iload_n 1, 1) := by decide +kernel
theorem dX12_element_18 : decode cX12_element 18 = .ok (.iaload, 1) := by decide +kernel
theorem dX12_element_19 : decode cX12_element 19 = .ok (.iconst 2, 1) := by decide +kernel
theorem dX12_element_20 : decode cX12_element 20 = .ok (.if_icmp .ne 20, 3) := by decide +kernel
theorem dX12_element_23 : decode cX12_element 23 = .ok (.aload_n 0, 1) := by decide +kernel
theorem dX12_element_24 : decode cX12_element 24 = .ok (.iload_n 2, 1) := by decide +kernel
theorem dX12_element_25 : decode cX12_element 25 = .ok (.iconst 0, 1) := by decide +kernel
theorem dX12_element_26 : decode cX12_element 26 = .ok (.aload_n 0, 1) := by decide +kernel
theorem dX12_element_27 : decode cX12_element 27 = .ok (.getfield 114, 3) := by decide +kernel
theorem dX12_element_30 : decode cX12_element 30 = .ok (.iload_n 1, 1) := by decide +kernel
theorem dX12_element_31 : decode cX12_element 31 = .ok (.iaload, 1) := by decide +kernel
theorem dX12_element_32 : decode cX12_element 32 = .ok (.iconst 1, 1) := by decide +kernel
theorem dX12_element_33 : decode cX12_element 33 = .ok (.isub, 1) := by decide +kernel
theorem dX12_element_34 : decode cX12_element 34 = .ok (.invokevirtual 123, 3) := by decide +kernel
theorem dX12_element_37 : decode cX12_element 37 = .ok (.ifCond .ne 7, 3) := by decide +kernel
theorem dX12_element_40 : decode cX12_element 40 = .ok (.iconst 2, 1) := by decide +kernel
theorem dX12_element_41 : decode cX12_element 41 = .ok (.goto 4, 3) := by decide +kernel
theorem dX12_element_44 : decode cX12_element 44 = .ok (.iconst 0, 1) := by decide +kernel
theorem dX12_element_45 : decode cX12_element 45 = .ok (.putfield 1, 3) := by decide +kernel
theorem dX12_element_48 : decode cX12_element 48 = .ok (.aload_n 0, 1) := by decide +kernel
theorem dX12_element_49 : decode cX12_element 49 = .ok (.getfield 1, 3) := by decide +kernel
theorem dX12_element_52 : decode cX12_element 52 = .ok (.ifCond .le 7, 3) := by decide +kernel
theorem dX12_element_55 : decode cX12_element 55 = .ok (.lconst 0, 1) := by decide +kernel
theorem dX12_element_56 : decode cX12_element 56 = .ok (.goto 15, 3) := by decide +kernel
theorem dX12_element_59 : decode cX12_element 59 = .ok (.aload_n 0, 1) := by decide +kernel
theorem dX12_element_60 : decode cX12_element 60 = .ok (.getfield 117, 3) := by decide +kernel
theorem dX12_element_63 : decode cX12_element 63 = .ok (.bipush 80, 2) := by decide +kernel
theorem dX12_element_65 : decode cX12_element 65 = .ok (.iload_n 1, 1) := by decide +kernel
theorem dX12_element_66 : decode cX12_element 66 = .ok (.imul, 1) := by decide +kernel
theorem dX12_element_67 : decode cX12_element 67 = .ok (.iload_n 2, 1) := by decide +kernel
theorem dX12_element_68 : decode cX12_element 68 = .ok (.iadd, 1) := by decide +kernel
theorem dX12_element_69 : decode cX12_element 69 = .ok (.iaload, 1) := by decide +kernel
theorem dX12_element_70 : decode cX12_element 70 = .ok (.i2l, 1) := by decide +kernel
theorem dX12_element_71 : decode cX12_element 71 = .ok (.lreturn, 1) := by decide +kernel
theorem dX12_copy_0 : decode cX12_copy 0 = .ok (.aload_n 0, 1) := by decide +kernel
theorem dX12_copy_1 : decode cX12_copy 1 = .ok (.iload_n 1, 1) := by decide +kernel
theorem dX12_copy_2 : decode cX12_copy 2 = .ok (.invokevirtual 280, 3) := by decide +kernel
theorem dX12_copy_5 : decode cX12_copy 5 = .ok (.ifCond .eq 11, 3) := by decide +kernel
theorem dX12_copy_8 : decode cX12_copy 8 = .ok (.aload_n 0, 1) := by decide +kernel
theorem dX12_copy_9 : decode cX12_copy 9 = .ok (.iload_n 3, 1) := by decide +kernel
theorem dX12_copy_10 : decode cX12_copy 10 = .ok (.invokevirtual 280, 3) := by decide +kernel
theorem dX12_copy_13 : decode cX12_copy 13 = .ok (.ifCond .ne 5, 3) := by decide +kernel
theorem dX12_copy_16 : decode cX12_copy 16 = .ok (.iconst (-1), 1) := by decide +kernel
theorem dX12_copy_17 : decode cX12_copy 17 = .ok (.ireturn, 1) := by decide +kernel
theorem dX12_copy_18 : decode cX12_copy 18 = .ok (.aload_n 0, 1) := by decide +kernel
theorem dX12_copy_19 : decode cX12_copy 19 = .ok (.getfield 96, 3) := by decide +kernel
theorem dX12_copy_22 : decode cX12_copy 22 = .ok (.iload_n 1, 1) := by decide +kernel
theorem dX12_copy_23 : decode cX12_copy 23 = .ok (.iaload, 1) := by decide +kernel
theorem dX12_copy_24 : decode cX12_copy 24 = .ok (.ifCond .eq 12, 3) := by decide +kernel
theorem dX12_copy_27 : decode cX12_copy 27 = .ok (.aload_n 0, 1) := by decide +kernel
theorem dX12_copy_28 : decode cX12_copy 28 = .ok (.getfield 96, 3) := by decide +kernel
theorem dX12_copy_31 : decode cX12_copy 31 = .ok (.iload_n 3, 1) := by decide +kernel
theorem dX12_copy_32 : decode cX12_copy 32 = .ok (.iaload, 1) := by decide +kernel
theorem dX12_copy_33 : decode cX12_copy 33 = .ok (.ifCond .ne 6, 3) := by decide +kernel
theorem dX12_copy_36 : decode cX12_copy 36 = .ok (.bipush (-11), 2) := by decide +kernel
theorem dX12_copy_38 : decode cX12_copy 38 = .ok (.ireturn, 1) := by decide +kernel
theorem dX12_copy_39 : decode cX12_copy 39 = .ok (.aload_n 0, 1) := by decide +kernel
theorem dX12_copy_40 : decode cX12_copy 40 = .ok (.getfield 96, 3) := by decide +kernel
theorem dX12_copy_43 : decode cX12_copy 43 = .ok (.iload_n 1, 1) := by decide +kernel
theorem dX12_copy_44 : decode cX12_copy 44 = .ok (.iaload, 1) := by decide +kernel
theorem dX12_copy_45 : decode cX12_copy 45 = .ok (.iconst 2, 1) := by decide +kernel
theorem dX12_copy_46 : decode cX12_copy 46 = .ok (.if_icmp .ne 28, 3) := by decide +kernel
theorem dX12_copy_49 : decode cX12_copy 49 = .ok (.aload_n 0, 1) := by decide +kernel
theorem dX12_copy_50 : decode cX12_copy 50 = .ok (.getfield 96, 3) := by decide +kernel
theorem dX12_copy_53 : decode cX12_copy 53 = .ok (.iload_n 3, 1) := by decide +kernel
theorem dX12_copy_54 : decode cX12_copy 54 = .ok (.iaload, 1) := by decide +kernel
theorem dX12_copy_55 : decode cX12_copy 55 = .ok (.iconst 2, 1) := by decide +kernel
theorem dX12_copy_56 : decode cX12_copy 56 = .ok (.if_icmp .ne 18, 3) := by decide +kernel
theorem dX12_copy_59 : decode cX12_copy 59 = .ok (.aload_n 0, 1) := by decide +kernel
theorem dX12_copy_60 : decode cX12_copy 60 = .ok (.getfield 111, 3) := by decide +kernel
theorem dX12_copy_63 : decode cX12_copy 63 = .ok (.iload_n 1, 1) := by decide +kernel
theorem dX12_copy_64 : decode cX12_copy 64 = .ok (.iaload, 1) := by decide +kernel
theorem dX12_copy_65 : decode cX12_copy 65 = .ok (.aload_n 0, 1) := by decide +kernel
theorem dX12_copy_66 : decode cX12_copy 66 = .ok (.getfield 111, 3) := by decide +kernel
theorem dX12_copy_69 : decode cX12_copy 69 = .ok (.iload_n 3, 1) := by decide +kernel
theorem dX12_copy_70 : decode cX12_copy 70 = .ok (.iaload, 1) := by decide +kernel
theorem dX12_copy_71 : decode cX12_copy 71 = .ok (.if_icmp .eq 6, 3) := by decide +kernel
theorem dX12_copy_74 : decode cX12_copy 74 = .ok (.bipush (-12), 2) := by decide +kernel
theorem dX12_copy_76 : decode cX12_copy 76 = .ok (.ireturn, 1) := by decide +kernel
theorem dX12_copy_77 : decode cX12_copy 77 = .ok (.iload 5, 2) := by decide +kernel
theorem dX12_copy_79 : decode cX12_copy 79 = .ok (.ifCond .lt 39, 3) := by decide +kernel
theorem dX12_copy_82 : decode cX12_copy 82 = .ok (.iload_n 2, 1) := by decide +kernel
theorem dX12_copy_83 : decode cX12_copy 83 = .ok (.ifCond .lt 35, 3) := by decide +kernel
theorem dX12_copy_86 : decode cX12_copy 86 = .ok (.iload 4, 2) := by decide +kernel
theorem dX12_copy_88 : decode cX12_copy 88 = .ok (.ifCond .lt 30, 3) := by decide +kernel
theorem dX12_copy_91 : decode cX12_copy 91 = .ok (.iload_n 2, 1) := by decide +kernel
theorem dX12_copy_92 : decode cX12_copy 92 = .ok (.aload_n 0, 1) := by decide +kernel
theorem dX12_copy_93 : decode cX12_copy 93 = .ok (.getfield 114, 3) := by decide +kernel
theorem dX12_copy_96 : decode cX12_copy 96 = .ok (.iload_n 1, 1) := by decide +kernel
theorem dX12_copy_97 : decode cX12_copy 97 = .ok (.iaload, 1) := by decide +kernel
theorem dX12_copy_98 : decode cX12_copy 98 = .ok (.iload 5, 2) := by decide +kernel
theorem dX12_copy_100 : decode cX12_copy 100 = .ok (.isub, 1) := by decide +kernel
theorem dX12_copy_101 : decode cX12_copy 101 = .ok (.if_icmp .gt 17, 3) := by decide +kernel
theorem dX12_copy_104 : decode cX12_copy 104 = .ok (.iload 4, 2) := by decide +kernel
theorem dX12_copy_106 : decode cX12_copy 106 = .ok (.aload_n 0, 1) := by decide +kernel
theorem dX12_copy_107 : decode cX12_copy 107 = .ok (.getfield 114, 3) := by decide +kernel
theorem dX12_copy_110 : decode cX12_copy 110 = .ok (.iload_n 3, 1) := by decide +kernel
theorem dX12_copy_111 : decode cX12_copy 111 = .ok (.iaload, 1) := by decide +kernel
theorem dX12_copy_112 : decode cX12_copy 112 = .ok (.iload 5, 2) := by decide +kernel
theorem dX12_copy_114 : decode cX12_copy 114 = .ok (.isub, 1) := by decide +kernel
theorem dX12_copy_115 : decode cX12_copy 115 = .ok (.if_icmp .le 6, 3) := by decide +kernel
theorem dX12_copy_118 : decode cX12_copy 118 = .ok (.bipush (-13), 2) := by decide +kernel
theorem dX12_copy_120 : decode cX12_copy 120 = .ok (.ireturn, 1) := by decide +kernel
theorem dX12_copy_121 : decode cX12_copy 121 = .ok (.iconst 0, 1) := by decide +kernel
theorem dX12_copy_122 : decode cX12_copy 122 = .ok (.istore 6, 2) := by decide +kernel
theorem dX12_copy_124 : decode cX12_copy 124 = .ok (.iload 6, 2) := by decide +kernel
theorem dX12_copy_126 : decode cX12_copy 126 = .ok (.iload 5, 2) := by decide +kernel
theorem dX12_copy_128 : decode cX12_copy 128 = .ok (.if_icmp .ge 30, 3) := by decide +kernel
theorem dX12_copy_131 : decode cX12_copy 131 = .ok (.aload_n 0, 1) := by decide +kernel
theorem dX12_copy_132 : decode cX12_copy 132 = .ok (.getfield 120, 3) := by decide +kernel
theorem dX12_copy_135 : decode cX12_copy 135 = .ok (.iload 6, 2) := by decide +kernel
theorem dX12_copy_137 : decode cX12_copy 137 = .ok (.aload_n 0, 1) := by decide +kernel
theorem dX12_copy_138 : decode cX12_copy 138 = .ok (.getfield 117, 3) := by decide +kernel
theorem dX12_copy_141 : decode cX12_copy 141 = .ok (.bipush 80, 2) := by decide +kernel
theorem dX12_copy_143 : decode cX12_copy 143 = .ok (.iload_n 1, 1) := by decide +kernel
theorem dX12_copy_144 : decode cX12_copy 144 = .ok (.imul, 1) := by decide +kernel
theorem dX12_copy_145 : decode cX12_copy 145 = .ok (.iload_n 2, 1) := by decide +kernel
theorem dX12_copy_146 : decode cX12_copy 146 = .ok (.iadd, 1) := by decide +kernel
theorem dX12_copy_147 : decode cX12_copy 147 = .ok (.iload 6, 2) := by decide +kernel
theorem dX12_copy_149 : decode cX12_copy 149 = .ok (.iadd, 1) := by decide +kernel
theorem dX12_copy_150 : decode cX12_copy 150 = .ok (.iaload, 1) := by decide +kernel
theorem dX12_copy_151 : decode cX12_copy 151 = .ok (.iastore, 1) := by decide +kernel
theorem dX12_copy_152 : decode cX12_copy 152 = .ok (.iinc 6 1, 3) := by decide +kernel
theorem dX12_copy_155 : decode cX12_copy 155 = .ok (.goto (-31), 3) := by decide +kernel
theorem dX12_copy_158 : decode cX12_copy 158 = .ok (.iconst 0, 1) := by decide +kernel
theorem dX12_copy_159 : decode cX12_copy 159 = .ok (.istore 6, 2) := by decide +kernel
theorem dX12_copy_161 : decode cX12_copy 161 = .ok (.iload 6, 2) := by decide +kernel
theorem dX12_copy_163 : decode cX12_copy 163 = .ok (.iload 5, 2) := by decide +kernel
theorem dX12_copy_165 : decode cX12_copy 165 = .ok (.if_icmp .ge 31, 3) := by decide +kernel
theorem dX12_copy_168 : decode cX12_copy 168 = .ok (.aload_n 0, 1) := by decide +kernel
theorem dX12_copy_169 : decode cX12_copy 169 = .ok (.getfield 117, 3) := by decide +kernel
theorem dX12_copy_172 : decode cX12_copy 172 = .ok (.bipush 80, 2) := by decide +kernel
theorem dX12_copy_174 : decode cX12_copy 174 = .ok (.iload_n 3, 1) := by decide +kernel
theorem dX12_copy_175 : decode cX12_copy 175 = .ok (.imul, 1) := by decide +kernel
theorem dX12_copy_176 : decode cX12_copy 176 = .ok (.iload 4, 2) := by decide +kernel
theorem dX12_copy_178 : decode cX12_copy 178 = .ok (.iadd, 1) := by decide +kernel
theorem dX12_copy_179 : decode cX12_copy 179 = .ok (.iload 6, 2) := by decide +kernel
theorem dX12_copy_181 : decode cX12_copy 181 = .ok (.iadd, 1) := by decide +kernel
theorem dX12_copy_182 : decode cX12_copy 182 = .ok (.aload_n 0, 1) := by decide +kernel
theorem dX12_copy_183 : decode cX12_copy 183 = .ok (.getfield 120, 3) := by decide +kernel
theorem dX12_copy_186 : decode cX12_copy 186 = .ok (.iload 6, 2) := by decide +kernel
theorem dX12_copy_188 : decode cX12_copy 188 = .ok (.iaload, 1) := by decide +kernel
theorem dX12_copy_189 : decode cX12_copy 189 = .ok (.iastore, 1) := by decide +kernel
theorem dX12_copy_190 : decode cX12_copy 190 = .ok (.iinc 6 1, 3) := by decide +kernel
theorem dX12_copy_193 : decode cX12_copy 193 = .ok (.goto (-32), 3) := by decide +kernel
theorem dX12_copy_196 : decode cX12_copy 196 = .ok (.iload 5, 2) := by decide +kernel
theorem dX12_copy_198 : decode cX12_copy 198 = .ok (.ireturn, 1) := by decide +kernel
theorem dX12_lacksGlider_0 : decode cX12_lacksGlider 0 = .ok (.aload_n 0, 1) := by decide +kernel
theorem dX12_lacksGlider_1 : decode cX12_lacksGlider 1 = .ok (.iload_n 1, 1) := by decide +kernel
theorem dX12_lacksGlider_2 : decode cX12_lacksGlider 2 = .ok (.invokevirtual 280, 3) := by decide +kernel
theorem dX12_lacksGlider_5 : decode cX12_lacksGlider 5 = .ok (.ifCond .ne 7, 3) := by decide +kernel
theorem dX12_lacksGlider_8 : decode cX12_lacksGlider 8 = .ok (.iconst (-1), 1) := by decide +kernel
theorem dX12_lacksGlider_9 : decode cX12_lacksGlider 9 = .ok (.goto 33, 3) := by decide +kernel
theorem dX12_lacksGlider_12 : decode cX12_lacksGlider 12 = .ok (.aload_n 0, 1) := by decide +kernel
theorem dX12_lacksGlider_13 : decode cX12_lacksGlider 13 = .ok (.getfield 96, 3) := by decide +kernel
theorem dX12_lacksGlider_16 : decode cX12_lacksGlider 16 = .ok (.iload_n 1, 1) := by decide +kernel
theorem dX12_lacksGlider_17 : decode cX12_lacksGlider 17 = .ok (.iaload, 1) := by decide +kernel
theorem dX12_lacksGlider_18 : decode cX12_lacksGlider 18 = .ok (.ifCond .ne 8, 3) := by decide +kernel
theorem dX12_lacksGlider_21 : decode cX12_lacksGlider 21 = .ok (.bipush (-11), 2) := by decide +kernel
theorem dX12_lacksGlider_23 : decode cX12_lacksGlider 23 = .ok (.goto 19, 3) := by decide +kernel
theorem dX12_lacksGlider_26 : decode cX12_lacksGlider 26 = .ok (.aload_n 0, 1) := by decide +kernel
theorem dX12_lacksGlider_27 : decode cX12_lacksGlider 27 = .ok (.getfield 96, 3) := by decide +kernel
theorem dX12_lacksGlider_30 : decode cX12_lacksGlider 30 = .ok (.iload_n 1, 1) := by decide +kernel
theorem dX12_lacksGlider_31 : decode cX12_lacksGlider 31 = .ok (.iaload, 1) := by decide +kernel
theorem dX12_lacksGlider_32 : decode cX12_lacksGlider 32 = .ok (.iconst 2, 1) := by decide +kernel
theorem dX12_lacksGlider_33 : decode cX12_lacksGlider 33 = .ok (.if_icmp .ne 8, 3) := by decide +kernel
theorem dX12_lacksGlider_36 : decode cX12_lacksGlider 36 = .ok (.bipush (-12), 2) := by decide +kernel
theorem dX12_lacksGlider_38 : decode cX12_lacksGlider 38 = .ok (.goto 4, 3) := by decide +kernel
theorem dX12_lacksGlider_41 : decode cX12_lacksGlider 41 = .ok (.iconst 0, 1) := by decide +kernel
theorem dX12_lacksGlider_42 : decode cX12_lacksGlider 42 = .ok (.ireturn, 1) := by decide +kernel
theorem dX12_sum_0 : decode cX12_sum 0 = .ok (.aload_n 0, 1) := by decide +kernel
theorem dX12_sum_1 : decode cX12_sum 1 = .ok (.iload_n 1, 1) := by decide +kernel
theorem dX12_sum_2 : decode cX12_sum 2 = .ok (.invokevirtual 286, 3) := by decide +kernel
theorem dX12_sum_5 : decode cX12_sum 5 = .ok (.ifCond .eq 9, 3) := by decide +kernel
theorem dX12_sum_8 : decode cX12_sum 8 = .ok (.aload_n 0, 1) := by decide +kernel
theorem dX12_sum_9 : decode cX12_sum 9 = .ok (.iload_n 1, 1) := by decide +kernel
theorem dX12_sum_10 : decode cX12_sum 10 = .ok (.invokevirtual 286, 3) := by decide +kernel
theorem dX12_sum_13 : decode cX12_sum 13 = .ok (.ireturn, 1) := by decide +kernel
theorem dX12_sum_14 : decode cX12_sum 14 = .ok (.aload_n 0, 1) := by decide +kernel
theorem dX12_sum_15 : decode cX12_sum 15 = .ok (.getfield 99, 3) := by decide +kernel
theorem dX12_sum_18 : decode cX12_sum 18 = .ok (.iload_n 1, 1) := by decide +kernel
theorem dX12_sum_19 : decode cX12_sum 19 = .ok (.iaload, 1) := by decide +kernel
theorem dX12_sum_20 : decode cX12_sum 20 = .ok (.istore_n 2, 1) := by decide +kernel
theorem dX12_sum_21 : decode cX12_sum 21 = .ok (.bipush 100, 2) := by decide +kernel
theorem dX12_sum_23 : decode cX12_sum 23 = .ok (.bipush 10, 2) := by decide +kernel
theorem dX12_sum_25 : decode cX12_sum 25 = .ok (.iload_n 2, 1) := by decide +kernel
theorem dX12_sum_26 : decode cX12_sum 26 = .ok (.ifCond .ne 7, 3) := by decide +kernel
theorem dX12_sum_29 : decode cX12_sum 29 = .ok (.iconst 2, 1) := by decide +kernel
theorem dX12_sum_30 : decode cX12_sum 30 = .ok (.goto 13, 3) := by decide +kernel
theorem dX12_sum_33 : decode cX12_sum 33 = .ok (.iload_n 2, 1) := by decide +kernel
theorem dX12_sum_34 : decode cX12_sum 34 = .ok (.iconst 2, 1) := by decide +kernel
theorem dX12_sum_35 : decode cX12_sum 35 = .ok (.if_icmp .ne 7, 3) := by decide +kernel
theorem dX12_sum_38 : decode cX12_sum 38 = .ok (.iconst 3, 1) := by decide +kernel
theorem dX12_sum_39 : decode cX12_sum 39 = .ok (.goto 4, 3) := by decide +kernel
theorem dX12_sum_42 : decode cX12_sum 42 = .ok (.iconst 1, 1) := by decide +kernel
theorem dX12_sum_43 : decode cX12_sum 43 = .ok (.imul, 1) := by decide +kernel
theorem dX12_sum_44 : decode cX12_sum 44 = .ok (.iadd, 1) := by decide +kernel
theorem dX12_sum_45 : decode cX12_sum 45 = .ok (.iload_n 2, 1) := by decide +kernel
theorem dX12_sum_46 : decode cX12_sum 46 = .ok (.ifCond .ne 7, 3) := by decide +kernel
theorem dX12_sum_49 : decode cX12_sum 49 = .ok (.iconst 2, 1) := by decide +kernel
theorem dX12_sum_50 : decode cX12_sum 50 = .ok (.goto 22, 3) := by decide +kernel
theorem dX12_sum_53 : decode cX12_sum 53 = .ok (.iload_n 2, 1) := by decide +kernel
theorem dX12_sum_54 : decode cX12_sum 54 = .ok (.iconst 1, 1) := by decide +kernel
theorem dX12_sum_55 : decode cX12_sum 55 = .ok (.if_icmp .ne 7, 3) := by decide +kernel
theorem dX12_sum_58 : decode cX12_sum 58 = .ok (.iconst 3, 1) := by decide +kernel
theorem dX12_sum_59 : decode cX12_sum 59 = .ok (.goto 13, 3) := by decide +kernel
theorem dX12_sum_62 : decode cX12_sum 62 = .ok (.iload_n 2, 1) := by decide +kernel
theorem dX12_sum_63 : decode cX12_sum 63 = .ok (.iconst 2, 1) := by decide +kernel
theorem dX12_sum_64 : decode cX12_sum 64 = .ok (.if_icmp .ne 7, 3) := by decide +kernel
theorem dX12_sum_67 : decode cX12_sum 67 = .ok (.iconst 1, 1) := by decide +kernel
theorem dX12_sum_68 : decode cX12_sum 68 = .ok (.goto 4, 3) := by decide +kernel
theorem dX12_sum_71 : decode cX12_sum 71 = .ok (.iconst 4, 1) := by decide +kernel
theorem dX12_sum_72 : decode cX12_sum 72 = .ok (.iadd, 1) := by decide +kernel
theorem dX12_sum_73 : decode cX12_sum 73 = .ok (.istore_n 3, 1) := by decide +kernel
theorem dX12_sum_74 : decode cX12_sum 74 = .ok (.iload_n 3, 1) := by decide +kernel
theorem dX12_sum_75 : decode cX12_sum 75 = .ok (.iload_n 2, 1) := by decide +kernel
theorem dX12_sum_76 : decode cX12_sum 76 = .ok (.iconst 1, 1) := by decide +kernel
theorem dX12_sum_77 : decode cX12_sum 77 = .ok (.if_icmp .eq 8, 3) := by decide +kernel
theorem dX12_sum_80 : decode cX12_sum 80 = .ok (.iload_n 2, 1) := by decide +kernel
theorem dX12_sum_81 : decode cX12_sum 81 = .ok (.iconst 3, 1) := by decide +kernel
theorem dX12_sum_82 : decode cX12_sum 82 = .ok (.if_icmp .ne 12, 3) := by decide +kernel
theorem dX12_sum_85 : decode cX12_sum 85 = .ok (.aload_n 0, 1) := by decide +kernel
theorem dX12_sum_86 : decode cX12_sum 86 = .ok (.iload_n 2, 1) := by decide +kernel
theorem dX12_sum_87 : decode cX12_sum 87 = .ok (.iconst 0, 1) := by decide +kernel
theorem dX12_sum_88 : decode cX12_sum 88 = .ok (.invokevirtual 131, 3) := by decide +kernel
theorem dX12_sum_91 : decode cX12_sum 91 = .ok (.goto 18, 3) := by decide +kernel
theorem dX12_sum_94 : decode cX12_sum 94 = .ok (.iload_n 2, 1) := by decide +kernel
theorem dX12_sum_95 : decode cX12_sum 95 = .ok (.iconst 2, 1) := by decide +kernel
theorem dX12_sum_96 : decode cX12_sum 96 = .ok (.if_icmp .ne 12, 3) := by decide +kernel
theorem dX12_sum_99 : decode cX12_sum 99 = .ok (.aload_n 0, 1) := by decide +kernel
theorem dX12_sum_100 : decode cX12_sum 100 = .ok (.getfield 105, 3) := by decide +kernel
theorem dX12_sum_103 : decode cX12_sum 103 = .ok (.iload_n 1, 1) := by decide +kernel
theorem dX12_sum_104 : decode cX12_sum 104 = .ok (.iaload, 1) := by decide +kernel
theorem dX12_sum_105 : decode cX12_sum 105 = .ok (.goto 4, 3) := by decide +kernel
theorem dX12_sum_108 : decode cX12_sum 108 = .ok (.iconst 0, 1) := by decide +kernel
theorem dX12_sum_109 : decode cX12_sum 109 = .ok (.iadd, 1) := by decide +kernel
theorem dX12_sum_110 : decode cX12_sum 110 = .ok (.istore_n 3, 1) := by decide +kernel
theorem dX12_sum_111 : decode cX12_sum 111 = .ok (.iload_n 2, 1) := by decide +kernel
theorem dX12_sum_112 : decode cX12_sum 112 = .ok (.iconst 3, 1) := by decide +kernel
theorem dX12_sum_113 : decode cX12_sum 113 = .ok (.if_icmp .ne 9, 3) := by decide +kernel
theorem dX12_sum_116 : decode cX12_sum 116 = .ok (.iconst 2, 1) := by decide +kernel
theorem dX12_sum_117 : decode cX12_sum 117 = .ok (.iload_n 3, 1) := by decide +kernel
theorem dX12_sum_118 : decode cX12_sum 118 = .ok (.imul, 1) := by decide +kernel
theorem dX12_sum_119 : decode cX12_sum 119 = .ok (.goto 4, 3) := by decide +kernel
theorem dX12_sum_122 : decode cX12_sum 122 = .ok (.iload_n 3, 1) := by decide +kernel
theorem dX12_sum_123 : decode cX12_sum 123 = .ok (.ireturn, 1) := by decide +kernel
theorem dX12_toss_0 : decode cX12_toss 0 = .ok (.aload_n 0, 1) := by decide +kernel
theorem dX12_toss_1 : decode cX12_toss 1 = .ok (.iload_n 1, 1) := by decide +kernel
theorem dX12_toss_2 : decode cX12_toss 2 = .ok (.invokevirtual 286, 3) := by decide +kernel
theorem dX12_toss_5 : decode cX12_toss 5 = .ok (.ifCond .eq 9, 3) := by decide +kernel
theorem dX12_toss_8 : decode cX12_toss 8 = .ok (.aload_n 0, 1) := by decide +kernel
theorem dX12_toss_9 : decode cX12_toss 9 = .ok (.iload_n 1, 1) := by decide +kernel
theorem dX12_toss_10 : decode cX12_toss 10 = .ok (.invokevirtual 286, 3) := by decide +kernel
theorem dX12_toss_13 : decode cX12_toss 13 = .ok (.ireturn, 1) := by decide +kernel
theorem dX12_toss_14 : decode cX12_toss 14 = .ok (.aload_n 0, 1) := by decide +kernel
theorem dX12_toss_15 : decode cX12_toss 15 = .ok (.getfield 99, 3) := by decide +kernel
theorem dX12_toss_18 : decode cX12_toss 18 = .ok (.iload_n 1, 1) := by decide +kernel
theorem dX12_toss_19 : decode cX12_toss 19 = .ok (.iaload, 1) := by decide +kernel
theorem dX12_toss_20 : decode cX12_toss 20 = .ok (.ifCond .eq 12, 3) := by decide +kernel
theorem dX12_toss_23 : decode cX12_toss 23 = .ok (.aload_n 0, 1) := by decide +kernel
theorem dX12_toss_24 : decode cX12_toss 24 = .ok (.getfield 108, 3) := by decide +kernel
theorem dX12_toss_27 : decode cX12_toss 27 = .ok (.iload_n 1, 1) := by decide +kernel
theorem dX12_toss_28 : decode cX12_toss 28 = .ok (.iaload, 1) := by decide +kernel
theorem dX12_toss_29 : decode cX12_toss 29 = .ok (.ifCond .eq 6, 3) := by decide +kernel
theorem dX12_toss_32 : decode cX12_toss 32 = .ok (.bipush (-15), 2) := by decide +kernel
theorem dX12_toss_34 : decode cX12_toss 34 = .ok (.ireturn, 1) := by decide +kernel
theorem dX12_toss_35 : decode cX12_toss 35 = .ok (.aload_n 0, 1) := by decide +kernel
theorem dX12_toss_36 : decode cX12_toss 36 = .ok (.getfield 102, 3) := by decide +kernel
theorem dX12_toss_39 : decode cX12_toss 39 = .ok (.iload_n 1, 1) := by decide +kernel
theorem dX12_toss_40 : decode cX12_toss 40 = .ok (.iaload, 1) := by decide +kernel
theorem dX12_toss_41 : decode cX12_toss 41 = .ok (.aload_n 0, 1) := by decide +kernel
theorem dX12_toss_42 : decode cX12_toss 42 = .ok (.getfield 99, 3) := by decide +kernel
theorem dX12_toss_45 : decode cX12_toss 45 = .ok (.iload_n 1, 1) := by decide +kernel
theorem dX12_toss_46 : decode cX12_toss 46 = .ok (.iaload, 1) := by decide +kernel
theorem dX12_toss_47 : decode cX12_toss 47 = .ok (.iconst 3, 1) := by decide +kernel
theorem dX12_toss_48 : decode cX12_toss 48 = .ok (.if_icmp .ne 8, 3) := by decide +kernel
theorem dX12_toss_51 : decode cX12_toss 51 = .ok (.bipush 100, 2) := by decide +kernel
theorem dX12_toss_53 : decode cX12_toss 53 = .ok (.goto 4, 3) := by decide +kernel
theorem dX12_toss_56 : decode cX12_toss 56 = .ok (.iconst 0, 1) := by decide +kernel
theorem dX12_toss_57 : decode cX12_toss 57 = .ok (.iadd, 1) := by decide +kernel
theorem dX12_toss_58 : decode cX12_toss 58 = .ok (.ireturn, 1) := by decide +kernel
theorem dJ9_abs_0f7a4_0 : decode cJ9_abs_0f7a4 0 = .ok (.iload_n 0, 1) := by decide +kernel
theorem dJ9_abs_0f7a4_1 : decode cJ9_abs_0f7a4 1 = .ok (.ifCond .ge 8, 3) := by decide +kernel
theorem dJ9_abs_0f7a4_4 : decode cJ9_abs_0f7a4 4 = .ok (.iload_n 0, 1) := by decide +kernel
theorem dJ9_abs_0f7a4_5 : decode cJ9_abs_0f7a4 5 = .ok (.ineg, 1) := by decide +kernel
theorem dJ9_abs_0f7a4_6 : decode cJ9_abs_0f7a4 6 = .ok (.goto 4, 3) := by decide +kernel
theorem dJ9_abs_0f7a4_9 : decode cJ9_abs_0f7a4 9 = .ok (.iload_n 0, 1) := by decide +kernel
theorem dJ9_abs_0f7a4_10 : decode cJ9_abs_0f7a4 10 = .ok (.ireturn, 1) := by decide +kernel
theorem dJ9_max_7cf53_0 : decode cJ9_max_7cf53 0 = .ok (.iload_n 0, 1) := by decide +kernel
theorem dJ9_max_7cf53_1 : decode cJ9_max_7cf53 1 = .ok (.iload_n 1, 1) := by decide +kernel
theorem dJ9_max_7cf53_2 : decode cJ9_max_7cf53 2 = .ok (.if_icmp .lt 7, 3) := by decide +kernel
theorem dJ9_max_7cf53_5 : decode cJ9_max_7cf53 5 = .ok (.iload_n 0, 1) := by decide +kernel
theorem dJ9_max_7cf53_6 : decode cJ9_max_7cf53 6 = .ok (.goto 4, 3) := by decide +kernel
theorem dJ9_max_7cf53_9 : decode cJ9_max_7cf53 9 = .ok (.iload_n 1, 1) := by decide +kernel
theorem dJ9_max_7cf53_10 : decode cJ9_max_7cf53 10 = .ok (.ireturn, 1) := by decide +kernel
theorem dJ9_min_7cf53_0 : decode cJ9_min_7cf53 0 = .ok (.iload_n 0, 1) := by decide +kernel
theorem dJ9_min_7cf53_1 : decode cJ9_min_7cf53 1 = .ok (.iload_n 1, 1) := by decide +kernel
theorem dJ9_min_7cf53_2 : decode cJ9_min_7cf53 2 = .ok (.if_icmp .gt 7, 3) := by decide +kernel
theorem dJ9_min_7cf53_5 : decode cJ9_min_7cf53 5 = .ok (.iload_n 0, 1) := by decide +kernel
theorem dJ9_min_7cf53_6 : decode cJ9_min_7cf53 6 = .ok (.goto 4, 3) := by decide +kernel
theorem dJ9_min_7cf53_9 : decode cJ9_min_7cf53 9 = .ok (.iload_n 1, 1) := by decide +kernel
theorem dJ9_min_7cf53_10 : decode cJ9_min_7cf53 10 = .ok (.ireturn, 1) := by decide +kernel
theorem dJ0_length_8abf5_0 : decode cJ0_length_8abf5 0 = .ok (.aload_n 0, 1) := by decide +kernel
theorem dJ0_length_8abf5_1 : decode cJ0_length_8abf5 1 = .ok (.getfield 9, 3) := by decide +kernel
theorem dJ0_length_8abf5_4 : decode cJ0_length_8abf5 4 = .ok (.arraylength, 1) := by decide +kernel
theorem dJ0_length_8abf5_5 : decode cJ0_length_8abf5 5 = .ok (.aload_n 0, 1) := by decide +kernel
theorem dJ0_length_8abf5_6 : decode cJ0_length_8abf5 6 = .ok (.invokevirtual 335, 3) := by decide +kernel
theorem dJ0_length_8abf5_9 : decode cJ0_length_8abf5 9 = .ok (.ishr, 1) := by decide +kernel
theorem dJ0_length_8abf5_10 : decode cJ0_length_8abf5 10 = .ok (.ireturn, 1) := by decide +kernel
theorem dJ0_charAt_5068e_0 : decode cJ0_charAt_5068e 0 = .ok (.aload_n 0, 1) := by decide +kernel
theorem dJ0_charAt_5068e_1 : decode cJ0_charAt_5068e 1 = .ok (.invokevirtual 492, 3) := by decide +kernel
theorem dJ0_charAt_5068e_4 : decode cJ0_charAt_5068e 4 = .ok (.ifCond .eq 12, 3) := by decide +kernel
theorem dJ0_charAt_5068e_7 : decode cJ0_charAt_5068e 7 = .ok (.aload_n 0, 1) := by decide +kernel
theorem dJ0_charAt_5068e_8 : decode cJ0_charAt_5068e 8 = .ok (.getfield 9, 3) := by decide +kernel
theorem dJ0_charAt_5068e_11 : decode cJ0_charAt_5068e 11 = .ok (.iload_n 1, 1) := by decide +kernel
theorem dJ0_charAt_5068e_12 : decode cJ0_charAt_5068e 12 = .ok (.invokestatic 495, 3) := by decide +kernel
theorem dJ0_charAt_5068e_15 : decode cJ0_charAt_5068e 15 = .ok (.ireturn, 1) := by decide +kernel
theorem dJ0_charAt_5068e_16 : decode cJ0_charAt_5068e 16 = .ok (.aload_n 0, 1) := by decide +kernel
theorem dJ0_charAt_5068e_17 : decode cJ0_charAt_5068e 17 = .ok (.getfield 9, 3) := by decide +kernel
theorem dJ0_charAt_5068e_20 : decode cJ0_charAt_5068e 20 = .ok (.iload_n 1, 1) := by decide +kernel
theorem dJ0_charAt_5068e_21 : decode cJ0_charAt_5068e 21 = .ok (.invokestatic 498, 3) := by decide +kernel
theorem dJ0_charAt_5068e_24 : decode cJ0_charAt_5068e 24 = .ok (.ireturn, 1) := by decide +kernel
theorem dJ0_coder_7d493_0 : decode cJ0_coder_7d493 0 = .ok (.getstatic 38, 3) := by decide +kernel
theorem dJ0_coder_7d493_3 : decode cJ0_coder_7d493 3 = .ok (.ifCond .eq 10, 3) := by decide +kernel
theorem dJ0_coder_7d493_6 : decode cJ0_coder_7d493 6 = .ok (.aload_n 0, 1) := by decide +kernel
theorem dJ0_coder_7d493_7 : decode cJ0_coder_7d493 7 = .ok (.getfield 15, 3) := by decide +kernel
theorem dJ0_coder_7d493_10 : decode cJ0_coder_7d493 10 = .ok (.goto 4, 3) := by decide +kernel
theorem dJ0_coder_7d493_13 : decode cJ0_coder_7d493 13 = .ok (.iconst 1, 1) := by decide +kernel
theorem dJ0_coder_7d493_14 : decode cJ0_coder_7d493 14 = .ok (.ireturn, 1) := by decide +kernel
theorem dJ0_isLatin1_aae02_0 : decode cJ0_isLatin1_aae02 0 = .ok (.getstatic 38, 3) := by decide +kernel
theorem dJ0_isLatin1_aae02_3 : decode cJ0_isLatin1_aae02 3 = .ok (.ifCond .eq 14, 3) := by decide +kernel
theorem dJ0_isLatin1_aae02_6 : decode cJ0_isLatin1_aae02 6 = .ok (.aload_n 0, 1) := by decide +kernel
theorem dJ0_isLatin1_aae02_7 : decode cJ0_isLatin1_aae02 7 = .ok (.getfield 15, 3) := by decide +kernel
theorem dJ0_isLatin1_aae02_10 : decode cJ0_isLatin1_aae02 10 = .ok (.ifCond .ne 7, 3) := by decide +kernel
theorem dJ0_isLatin1_aae02_13 : decode cJ0_isLatin1_aae02 13 = .ok (.iconst 1, 1) := by decide +kernel
theorem dJ0_isLatin1_aae02_14 : decode cJ0_isLatin1_aae02 14 = .ok (.goto 4, 3) := by decide +kernel
theorem dJ0_isLatin1_aae02_17 : decode cJ0_isLatin1_aae02 17 = .ok (.iconst 0, 1) := by decide +kernel
theorem dJ0_isLatin1_aae02_18 : decode cJ0_isLatin1_aae02 18 = .ok (.ireturn, 1) := by decide +kernel
theorem dJ0_checkIndex_df160_0 : decode cJ0_checkIndex_df160 0 = .ok (.iload_n 0, 1) := by decide +kernel
theorem dJ0_checkIndex_df160_1 : decode cJ0_checkIndex_df160 1 = .ok (.iload_n 1, 1) := by decide +kernel
theorem dJ0_checkIndex_df160_2 : decode cJ0_checkIndex_df160 2 = .ok (.getstatic 1053, 3) := by decide +kernel
theorem dJ0_checkIndex_df160_5 : decode cJ0_checkIndex_df160 5 = .ok (.invokestatic 1059, 3) := by decide +kernel
theorem dJ0_checkIndex_df160_8 : decode cJ0_checkIndex_df160 8 = .ok (.pop, 1) := by decide +kernel
theorem dJ0_checkIndex_df160_9 : decode cJ0_checkIndex_df160 9 = .ok (.return_, 1) := by decide +kernel
theorem dJ1_charAt_3b067_0 : decode cJ1_charAt_3b067 0 = .ok (.iload_n 1, 1) := by decide +kernel
theorem dJ1_charAt_3b067_1 : decode cJ1_charAt_3b067 1 = .ok (.aload_n 0, 1) := by decide +kernel
theorem dJ1_charAt_3b067_2 : decode cJ1_charAt_3b067 2 = .ok (.arraylength, 1) := by decide +kernel
theorem dJ1_charAt_3b067_3 : decode cJ1_charAt_3b067 3 = .ok (.invokestatic 9, 3) := by decide +kernel
theorem dJ1_charAt_3b067_6 : decode cJ1_charAt_3b067 6 = .ok (.aload_n 0, 1) := by decide +kernel
theorem dJ1_charAt_3b067_7 : decode cJ1_charAt_3b067 7 = .ok (.iload_n 1, 1) := by decide +kernel
theorem dJ1_charAt_3b067_8 : decode cJ1_charAt_3b067 8 = .ok (.baload, 1) := by decide +kernel
theorem dJ1_charAt_3b067_9 : decode cJ1_charAt_3b067 9 = .ok (.sipush 255, 3) := by decide +kernel
theorem dJ1_charAt_3b067_12 : decode cJ1_charAt_3b067 12 = .ok (.iand, 1) := by decide +kernel
theorem dJ1_charAt_3b067_13 : decode cJ1_charAt_3b067 13 = .ok (.i2c, 1) := by decide +kernel
theorem dJ1_charAt_3b067_14 : decode cJ1_charAt_3b067 14 = .ok (.ireturn, 1) := by decide +kernel
theorem dJ2_getChar_3b067_0 : decode cJ2_getChar_3b067 0 = .ok (.getstatic 44, 3) := by decide +kernel
theorem dJ2_getChar_3b067_3 : decode cJ2_getChar_3b067 3 = .ok (.ifCond .ne 25, 3) := by decide +kernel
theorem dJ2_getChar_3b067_6 : decode cJ2_getChar_3b067 6 = .ok (.iload_n 1, 1) := by decide +kernel
theorem dJ2_getChar_3b067_7 : decode cJ2_getChar_3b067 7 = .ok (.ifCond .lt 11, 3) := by decide +kernel
theorem dJ2_getChar_3b067_10 : decode cJ2_getChar_3b067 10 = .ok (.iload_n 1, 1) := by decide +kernel
theorem dJ2_getChar_3b067_11 : decode cJ2_getChar_3b067 11 = .ok (.aload_n 0, 1) := by decide +kernel
theorem dJ2_getChar_3b067_12 : decode cJ2_getChar_3b067 12 = .ok (.invokestatic 48, 3) := by decide +kernel
theorem dJ2_getChar_3b067_15 : decode cJ2_getChar_3b067 15 = .ok (.if_icmp .lt 13, 3) := by decide +kernel
theorem dJ2_getChar_3b067_18 : decode cJ2_getChar_3b067 18 = .ok (.new 52, 3) := by decide +kernel
theorem dJ2_getChar_3b067_21 : decode cJ2_getChar_3b067 21 = .ok (.dup, 1) := by decide +kernel
theorem dJ2_getChar_3b067_22 : decode cJ2_getChar_3b067 22 = .ok (.ldc 54, 2) := by decide +kernel
theorem dJ2_getChar_3b067_24 : decode cJ2_getChar_3b067 24 = .ok (.invokespecial 56, 3) := by decide +kernel
theorem dJ2_getChar_3b067_27 : decode cJ2_getChar_3b067 27 = .ok (.athrow, 1) := by decide +kernel
theorem dJ2_getChar_3b067_28 : decode cJ2_getChar_3b067 28 = .ok (.iload_n 1, 1) := by decide +kernel
theorem dJ2_getChar_3b067_29 : decode cJ2_getChar_3b067 29 = .ok (.iconst 1, 1) := by decide +kernel
theorem dJ2_getChar_3b067_30 : decode cJ2_getChar_3b067 30 = .ok (.ishl, 1) := by decide +kernel
theorem dJ2_getChar_3b067_31 : decode cJ2_getChar_3b067 31 = .ok (.istore_n 1, 1) := by decide +kernel
theorem dJ2_getChar_3b067_32 : decode cJ2_getChar_3b067 32 = .ok (.aload_n 0, 1) := by decide +kernel
theorem dJ2_getChar_3b067_33 : decode cJ2_getChar_3b067 33 = .ok (.iload_n 1, 1) := by decide +kernel
theorem dJ2_getChar_3b067_34 : decode cJ2_getChar_3b067 34 = .ok (.iinc 1 1, 3) := by decide +kernel
theorem dJ2_getChar_3b067_37 : decode cJ2_getChar_3b067 37 = .ok (.baload, 1) := by decide +kernel
theorem dJ2_getChar_3b067_38 : decode cJ2_getChar_3b067 38 = .ok (.sipush 255, 3) := by decide +kernel
theorem dJ2_getChar_3b067_41 : decode cJ2_getChar_3b067 41 = .ok (.iand, 1) := by decide +kernel
theorem dJ2_getChar_3b067_42 : decode cJ2_getChar_3b067 42 = .ok (.getstatic 59, 3) := by decide +kernel
theorem dJ2_getChar_3b067_45 : decode cJ2_getChar_3b067 45 = .ok (.ishl, 1) := by decide +kernel
theorem dJ2_getChar_3b067_46 : decode cJ2_getChar_3b067 46 = .ok (.aload_n 0, 1) := by decide +kernel
theorem dJ2_getChar_3b067_47 : decode cJ2_getChar_3b067 47 = .ok (.iload_n 1, 1) := by decide +kernel
theorem dJ2_getChar_3b067_48 : decode cJ2_getChar_3b067 48 = .ok (.baload, 1) := by decide +kernel
theorem dJ2_getChar_3b067_49 : decode cJ2_getChar_3b067 49 = .ok (.sipush 255, 3) := by decide +kernel
theorem dJ2_getChar_3b067_52 : decode cJ2_getChar_3b067 52 = .ok (.iand, 1) := by decide +kernel
theorem dJ2_getChar_3b067_53 : decode cJ2_getChar_3b067 53 = .ok (.getstatic 63, 3) := by decide +kernel
theorem dJ2_getChar_3b067_56 : decode cJ2_getChar_3b067 56 = .ok (.ishl, 1) := by decide +kernel
theorem dJ2_getChar_3b067_57 : decode cJ2_getChar_3b067 57 = .ok (.ior, 1) := by decide +kernel
theorem dJ2_getChar_3b067_58 : decode cJ2_getChar_3b067 58 = .ok (.i2c, 1) := by decide +kernel
theorem dJ2_getChar_3b067_59 : decode cJ2_getChar_3b067 59 = .ok (.ireturn, 1) := by decide +kernel
theorem dJ2_length_9d52b_0 : decode cJ2_length_9d52b 0 = .ok (.aload_n 0, 1) := by decide +kernel
theorem dJ2_length_9d52b_1 : decode cJ2_length_9d52b 1 = .ok (.arraylength, 1) := by decide +kernel
theorem dJ2_length_9d52b_2 : decode cJ2_length_9d52b 2 = .ok (.iconst 1, 1) := by decide +kernel
theorem dJ2_length_9d52b_3 : decode cJ2_length_9d52b 3 = .ok (.ishr, 1) := by decide +kernel
theorem dJ2_length_9d52b_4 : decode cJ2_length_9d52b 4 = .ok (.ireturn, 1) := by decide +kernel
theorem dJ2_charAt_3b067_0 : decode cJ2_charAt_3b067 0 = .ok (.iload_n 1, 1) := by decide +kernel
theorem dJ2_charAt_3b067_1 : decode cJ2_charAt_3b067 1 = .ok (.aload_n 0, 1) := by decide +kernel
theorem dJ2_charAt_3b067_2 : decode cJ2_charAt_3b067 2 = .ok (.invokestatic 67, 3) := by decide +kernel
theorem dJ2_charAt_3b067_5 : decode cJ2_charAt_3b067 5 = .ok (.aload_n 0, 1) := by decide +kernel
theorem dJ2_charAt_3b067_6 : decode cJ2_charAt_3b067 6 = .ok (.iload_n 1, 1) := by decide +kernel
theorem dJ2_charAt_3b067_7 : decode cJ2_charAt_3b067 7 = .ok (.invokestatic 71, 3) := by decide +kernel
theorem dJ2_charAt_3b067_10 : decode cJ2_charAt_3b067 10 = .ok (.ireturn, 1) := by decide +kernel
theorem dJ2_checkIndex_2214a_0 : decode cJ2_checkIndex_2214a 0 = .ok (.iload_n 0, 1) := by decide +kernel
theorem dJ2_checkIndex_2214a_1 : decode cJ2_checkIndex_2214a 1 = .ok (.aload_n 1, 1) := by decide +kernel
theorem dJ2_checkIndex_2214a_2 : decode cJ2_checkIndex_2214a 2 = .ok (.invokestatic 48, 3) := by decide +kernel
theorem dJ2_checkIndex_2214a_5 : decode cJ2_checkIndex_2214a 5 = .ok (.invokestatic 414, 3) := by decide +kernel
theorem dJ2_checkIndex_2214a_8 : decode cJ2_checkIndex_2214a 8 = .ok (.return_, 1) := by decide +kernel
theorem dJ7_fill_53178_0 : decode cJ7_fill_53178 0 = .ok (.iconst 0, 1) := by decide +kernel
theorem dJ7_fill_53178_1 : decode cJ7_fill_53178 1 = .ok (.istore_n 2, 1) := by decide +kernel
theorem dJ7_fill_53178_2 : decode cJ7_fill_53178 2 = .ok (.aload_n 0, 1) := by decide +kernel
theorem dJ7_fill_53178_3 : decode cJ7_fill_53178 3 = .ok (.arraylength, 1) := by decide +kernel
theorem dJ7_fill_53178_4 : decode cJ7_fill_53178 4 = .ok (.istore_n 3, 1) := by decide +kernel
theorem dJ7_fill_53178_5 : decode cJ7_fill_53178 5 = .ok (.iload_n 2, 1) := by decide +kernel
theorem dJ7_fill_53178_6 : decode cJ7_fill_53178 6 = .ok (.iload_n 3, 1) := by decide +kernel
theorem dJ7_fill_53178_7 : decode cJ7_fill_53178 7 = .ok (.if_icmp .ge 13, 3) := by decide +kernel
theorem dJ7_fill_53178_10 : decode cJ7_fill_53178 10 = .ok (.aload_n 0, 1) := by decide +kernel
theorem dJ7_fill_53178_11 : decode cJ7_fill_53178 11 = .ok (.iload_n 2, 1) := by decide +kernel
theorem dJ7_fill_53178_12 : decode cJ7_fill_53178 12 = .ok (.iload_n 1, 1) := by decide +kernel
theorem dJ7_fill_53178_13 : decode cJ7_fill_53178 13 = .ok (.iastore, 1) := by decide +kernel
theorem dJ7_fill_53178_14 : decode cJ7_fill_53178 14 = .ok (.iinc 2 1, 3) := by decide +kernel
theorem dJ7_fill_53178_17 : decode cJ7_fill_53178 17 = .ok (.goto (-12), 3) := by decide +kernel
theorem dJ7_fill_53178_20 : decode cJ7_fill_53178 20 = .ok (.return_, 1) := by decide +kernel
theorem dJ3_checkIndex_8e157_0 : decode cJ3_checkIndex_8e157 0 = .ok (.iload_n 0, 1) := by decide +kernel
theorem dJ3_checkIndex_8e157_1 : decode cJ3_checkIndex_8e157 1 = .ok (.ifCond .lt 8, 3) := by decide +kernel
theorem dJ3_checkIndex_8e157_4 : decode cJ3_checkIndex_8e157 4 = .ok (.iload_n 0, 1) := by decide +kernel
theorem dJ3_checkIndex_8e157_5 : decode cJ3_checkIndex_8e157 5 = .ok (.iload_n 1, 1) := by decide +kernel
theorem dJ3_checkIndex_8e157_6 : decode cJ3_checkIndex_8e157 6 = .ok (.if_icmp .lt 10, 3) := by decide +kernel
theorem dJ3_checkIndex_8e157_9 : decode cJ3_checkIndex_8e157 9 = .ok (.aload_n 2, 1) := by decide +kernel
theorem dJ3_checkIndex_8e157_10 : decode cJ3_checkIndex_8e157 10 = .ok (.iload_n 0, 1) := by decide +kernel
theorem dJ3_checkIndex_8e157_11 : decode cJ3_checkIndex_8e157 11 = .ok (.iload_n 1, 1) := by decide +kernel
theorem dJ3_checkIndex_8e157_12 : decode cJ3_checkIndex_8e157 12 = .ok (.invokestatic 95, 3) := by decide +kernel
theorem dJ3_checkIndex_8e157_15 : decode cJ3_checkIndex_8e157 15 = .ok (.athrow, 1) := by decide +kernel
theorem dJ3_checkIndex_8e157_16 : decode cJ3_checkIndex_8e157 16 = .ok (.iload_n 0, 1) := by decide +kernel
theorem dJ3_checkIndex_8e157_17 : decode cJ3_checkIndex_8e157 17 = .ok (.ireturn, 1) := by decide +kernel
theorem dL_read_0 : decode cL_read 0 = .ok (.aload_n 3, 1) := by decide +kernel
theorem dL_read_1 : decode cL_read 1 = .ok (.iconst 0, 1) := by decide +kernel
theorem dL_read_2 : decode cL_read 2 = .ok (.aload_n 0, 1) := by decide +kernel
theorem dL_read_3 : decode cL_read 3 = .ok (.iload_n 1, 1) := by decide +kernel
theorem dL_read_4 : decode cL_read 4 = .ok (.iload_n 2, 1) := by decide +kernel
theorem dL_read_5 : decode cL_read 5 = .ok (.invokevirtual 7, 3) := by decide +kernel
theorem dL_read_8 : decode cL_read 8 = .ok (.lastore, 1) := by decide +kernel
theorem dL_read_9 : decode cL_read 9 = .ok (.goto 7, 3) := by decide +kernel
theorem dL_read_12 : decode cL_read 12 = .ok (.astore 4, 2) := by decide +kernel
theorem dL_read_14 : decode cL_read 14 = .ok (.iconst 1, 1) := by decide +kernel
theorem dL_read_15 : decode cL_read 15 = .ok (.ireturn, 1) := by decide +kernel
theorem dL_read_16 : decode cL_read 16 = .ok (.iconst 0, 1) := by decide +kernel
theorem dL_read_17 : decode cL_read 17 = .ok (.ireturn, 1) := by decide +kernel
theorem dL_element_0 : decode cL_element 0 = .ok (.aload_n 3, 1) := by decide +kernel
theorem dL_element_1 : decode cL_element 1 = .ok (.iconst 0, 1) := by decide +kernel
theorem dL_element_2 : decode cL_element 2 = .ok (.aload_n 0, 1) := by decide +kernel
theorem dL_element_3 : decode cL_element 3 = .ok (.iload_n 1, 1) := by decide +kernel
theorem dL_element_4 : decode cL_element 4 = .ok (.iload_n 2, 1) := by decide +kernel
theorem dL_element_5 : decode cL_element 5 = .ok (.invokevirtual 15, 3) := by decide +kernel
theorem dL_element_8 : decode cL_element 8 = .ok (.lastore, 1) := by decide +kernel
theorem dL_element_9 : decode cL_element 9 = .ok (.goto 11, 3) := by decide +kernel
theorem dL_element_12 : decode cL_element 12 = .ok (.astore 4, 2) := by decide +kernel
theorem dL_element_14 : decode cL_element 14 = .ok (.iconst 1, 1) := by decide +kernel
theorem dL_element_15 : decode cL_element 15 = .ok (.ireturn, 1) := by decide +kernel
theorem dL_element_16 : decode cL_element 16 = .ok (.astore 4, 2) := by decide +kernel
theorem dL_element_18 : decode cL_element 18 = .ok (.iconst 2, 1) := by decide +kernel
theorem dL_element_19 : decode cL_element 19 = .ok (.ireturn, 1) := by decide +kernel
theorem dL_element_20 : decode cL_element 20 = .ok (.iconst 0, 1) := by decide +kernel
theorem dL_element_21 : decode cL_element 21 = .ok (.ireturn, 1) := by decide +kernel
theorem dL_law_0 : decode cL_law 0 = .ok (.new 8, 3) := by decide +kernel
theorem dL_law_3 : decode cL_law 3 = .ok (.dup, 1) := by decide +kernel
theorem dL_law_4 : decode cL_law 4 = .ok (.invokespecial 21, 3) := by decide +kernel
theorem dL_law_7 : decode cL_law 7 = .ok (.astore_n 1, 1) := by decide +kernel
theorem dL_law_8 : decode cL_law 8 = .ok (.new 22, 3) := by decide +kernel
theorem dL_law_11 : decode cL_law 11 = .ok (.dup, 1) := by decide +kernel
theorem dL_law_12 : decode cL_law 12 = .ok (.invokespecial 24, 3) := by decide +kernel
theorem dL_law_15 : decode cL_law 15 = .ok (.astore_n 2, 1) := by decide +kernel
theorem dL_law_16 : decode cL_law 16 = .ok (.iconst 1, 1) := by decide +kernel
theorem dL_law_17 : decode cL_law 17 = .ok (.newarray .long, 2) := by decide +kernel
theorem dL_law_19 : decode cL_law 19 = .ok (.astore_n 3, 1) := by decide +kernel
theorem dL_law_20 : decode cL_law 20 = .ok (.iconst 0, 1) := by decide +kernel
theorem dL_law_21 : decode cL_law 21 = .ok (.istore 4, 2) := by decide +kernel
theorem dL_law_23 : decode cL_law 23 = .ok (.iload 4, 2) := by decide +kernel
theorem dL_law_25 : decode cL_law 25 = .ok (.aload_n 0, 1) := by decide +kernel
theorem dL_law_26 : decode cL_law 26 = .ok (.arraylength, 1) := by decide +kernel
theorem dL_law_27 : decode cL_law 27 = .ok (.bipush 7, 2) := by decide +kernel
theorem dL_law_29 : decode cL_law 29 = .ok (.isub, 1) := by decide +kernel
theorem dL_law_30 : decode cL_law 30 = .ok (.if_icmp .gt 1764, 3) := by decide +kernel
theorem dL_law_33 : decode cL_law 33 = .ok (.aload_n 0, 1) := by decide +kernel
theorem dL_law_34 : decode cL_law 34 = .ok (.iload 4, 2) := by decide +kernel
theorem dL_law_36 : decode cL_law 36 = .ok (.iaload, 1) := by decide +kernel
theorem dL_law_37 : decode cL_law 37 = .ok (.bipush 63, 2) := by decide +kernel
theorem dL_law_39 : decode cL_law 39 = .ok (.iand, 1) := by decide +kernel
theorem dL_law_40 : decode cL_law 40 = .ok (.tableswitch 1748 0 37 #[168, 229, 332, 393, 454, 515, 552, 589, 642, 703, 728, 753, 790, 815, 868, 893, 918, 955, 992, 1029, 1112, 1137, 1174, 1235, 1260, 1297, 1322, 1335, 1360, 1373, 1386, 1411, 1460, 1509, 1558, 1625, 1698, 1723], 168) := by decide +kernel
theorem dL_law_208 : decode cL_law 208 = .ok (.aload_n 1, 1) := by decide +kernel
theorem dL_law_209 : decode cL_law 209 = .ok (.aload_n 0, 1) := by decide +kernel
theorem dL_law_210 : decode cL_law 210 = .ok (.iload 4, 2) := by decide +kernel
theorem dL_law_212 : decode cL_law 212 = .ok (.iconst 1, 1) := by decide +kernel
theorem dL_law_213 : decode cL_law 213 = .ok (.iadd, 1) := by decide +kernel
theorem dL_law_214 : decode cL_law 214 = .ok (.iaload, 1) := by decide +kernel
theorem dL_law_215 : decode cL_law 215 = .ok (.aload_n 0, 1) := by decide +kernel
theorem dL_law_216 : decode cL_law 216 = .ok (.iload 4, 2) := by decide +kernel
theorem dL_law_218 : decode cL_law 218 = .ok (.iconst 2, 1) := by decide +kernel
theorem dL_law_219 : decode cL_law 219 = .ok (.iadd, 1) := by decide +kernel
theorem dL_law_220 : decode cL_law 220 = .ok (.iaload, 1) := by decide +kernel
theorem dL_law_221 : decode cL_law 221 = .ok (.aload_n 0, 1) := by decide +kernel
theorem dL_law_222 : decode cL_law 222 = .ok (.iload 4, 2) := by decide +kernel
theorem dL_law_224 : decode cL_law 224 = .ok (.iconst 3, 1) := by decide +kernel
theorem dL_law_225 : decode cL_law 225 = .ok (.iadd, 1) := by decide +kernel
theorem dL_law_226 : decode cL_law 226 = .ok (.iaload, 1) := by decide +kernel
theorem dL_law_227 : decode cL_law 227 = .ok (.aload_n 0, 1) := by decide +kernel
theorem dL_law_228 : decode cL_law 228 = .ok (.iload 4, 2) := by decide +kernel
theorem dL_law_230 : decode cL_law 230 = .ok (.iconst 4, 1) := by decide +kernel
theorem dL_law_231 : decode cL_law 231 = .ok (.iadd, 1) := by decide +kernel
theorem dL_law_232 : decode cL_law 232 = .ok (.iaload, 1) := by decide +kernel
theorem dL_law_233 : decode cL_law 233 = .ok (.invokevirtual 25, 3) := by decide +kernel
theorem dL_law_236 : decode cL_law 236 = .ok (.aload_n 2, 1) := by decide +kernel
theorem dL_law_237 : decode cL_law 237 = .ok (.aload_n 0, 1) := by decide +kernel
theorem dL_law_238 : decode cL_law 238 = .ok (.iload 4, 2) := by decide +kernel
theorem dL_law_240 : decode cL_law 240 = .ok (.iconst 1, 1) := by decide +kernel
theorem dL_law_241 : decode cL_law 241 = .ok (.iadd, 1) := by decide +kernel
theorem dL_law_242 : decode cL_law 242 = .ok (.iaload, 1) := by decide +kernel
theorem dL_law_243 : decode cL_law 243 = .ok (.aload_n 0, 1) := by decide +kernel
theorem dL_law_244 : decode cL_law 244 = .ok (.iload 4, 2) := by decide +kernel
theorem dL_law_246 : decode cL_law 246 = .ok (.iconst 2, 1) := by decide +kernel
theorem dL_law_247 : decode cL_law 247 = .ok (.iadd, 1) := by decide +kernel
theorem dL_law_248 : decode cL_law 248 = .ok (.iaload, 1) := by decide +kernel
theorem dL_law_249 : decode cL_law 249 = .ok (.aload_n 0, 1) := by decide +kernel
theorem dL_law_250 : decode cL_law 250 = .ok (.iload 4, 2) := by decide +kernel
theorem dL_law_252 : decode cL_law 252 = .ok (.iconst 3, 1) := by decide +kernel
theorem dL_law_253 : decode cL_law 253 = .ok (.iadd, 1) := by decide +kernel
theorem dL_law_254 : decode cL_law 254 = .ok (.iaload, 1) := by decide +kernel
theorem dL_law_255 : decode cL_law 255 = .ok (.aload_n 0, 1) := by decide +kernel
theorem dL_law_256 : decode cL_law 256 = .ok (.iload 4, 2) := by decide +kernel
theorem dL_law_258 : decode cL_law 258 = .ok (.iconst 4, 1) := by decide +kernel
theorem dL_law_259 : decode cL_law 259 = .ok (.iadd, 1) := by decide +kernel
theorem dL_law_260 : decode cL_law 260 = .ok (.iaload, 1) := by decide +kernel
theorem dL_law_261 : decode cL_law 261 = .ok (.invokevirtual 29, 3) := by decide +kernel
theorem dL_law_264 : decode cL_law 264 = .ok (.if_icmp .eq 1524, 3) := by decide +kernel
theorem dL_law_267 : decode cL_law 267 = .ok (.iconst 0, 1) := by decide +kernel
theorem dL_law_268 : decode cL_law 268 = .ok (.ireturn, 1) := by decide +kernel
theorem dL_law_269 : decode cL_law 269 = .ok (.aload_n 1, 1) := by decide +kernel
theorem dL_law_270 : decode cL_law 270 = .ok (.aload_n 0, 1) := by decide +kernel
theorem dL_law_271 : decode cL_law 271 = .ok (.iload 4, 2) := by decide +kernel
theorem dL_law_273 : decode cL_law 273 = .ok (.iconst 1, 1) := by decide +kernel
theorem dL_law_274 : decode cL_law 274 = .ok (.iadd, 1) := by decide +kernel
theorem dL_law_275 : decode cL_law 275 = .ok (.iaload, 1) := by decide +kernel
theorem dL_law_276 : decode cL_law 276 = .ok (.aload_n 0, 1) := by decide +kernel
theorem dL_law_277 : decode cL_law 277 = .ok (.iload 4, 2) := by decide +kernel
theorem dL_law_279 : decode cL_law 279 = .ok (.iconst 2, 1) := by decide +kernel
theorem dL_law_280 : decode cL_law 280 = .ok (.iadd, 1) := by decide +kernel
theorem dL_law_281 : decode cL_law 281 = .ok (.iaload, 1) := by decide +kernel
theorem dL_law_282 : decode cL_law 282 = .ok (.aload_n 0, 1) := by decide +kernel
theorem dL_law_283 : decode cL_law 283 = .ok (.iload 4, 2) := by decide +kernel
theorem dL_law_285 : decode cL_law 285 = .ok (.iconst 3, 1) := by decide +kernel
theorem dL_law_286 : decode cL_law 286 = .ok (.iadd, 1) := by decide +kernel
theorem dL_law_287 : decode cL_law 287 = .ok (.iaload, 1) := by decide +kernel
theorem dL_law_288 : decode cL_law 288 = .ok (.aload_n 0, 1) := by decide +kernel
theorem dL_law_289 : decode cL_law 289 = .ok (.iload 4, 2) := by decide +kernel
theorem dL_law_291 : decode cL_law 291 = .ok (.iconst 4, 1) := by decide +kernel
theorem dL_law_292 : decode cL_law 292 = .ok (.iadd, 1) := by decide +kernel
theorem dL_law_293 : decode cL_law 293 = .ok (.iaload, 1) := by decide +kernel
theorem dL_law_294 : decode cL_law 294 = .ok (.aload_n 0, 1) := by decide +kernel
theorem dL_law_295 : decode cL_law 295 = .ok (.iload 4, 2) := by decide +kernel
theorem dL_law_297 : decode cL_law 297 = .ok (.iconst 5, 1) := by decide +kernel
theorem dL_law_298 : decode cL_law 298 = .ok (.iadd, 1) := by decide +kernel
theorem dL_law_299 : decode cL_law 299 = .ok (.iaload, 1) := by decide +kernel
theorem dL_law_300 : decode cL_law 300 = .ok (.aload_n 0, 1) := by decide +kernel
theorem dL_law_301 : decode cL_law 301 = .ok (.iload 4, 2) := by decide +kernel
theorem dL_law_303 : decode cL_law 303 = .ok (.bipush 6, 2) := by decide +kernel
theorem dL_law_305 : decode cL_law 305 = .ok (.iadd, 1) := by decide +kernel
theorem dL_law_306 : decode cL_law 306 = .ok (.iaload, 1) := by decide +kernel
theorem dL_law_307 : decode cL_law 307 = .ok (.ifCond .eq 7, 3) := by decide +kernel
theorem dL_law_310 : decode cL_law 310 = .ok (.iconst 1, 1) := by decide +kernel
theorem dL_law_311 : decode cL_law 311 = .ok (.goto 4, 3) := by decide +kernel
theorem dL_law_314 : decode cL_law 314 = .ok (.iconst 0, 1) := by decide +kernel
theorem dL_law_315 : decode cL_law 315 = .ok (.invokevirtual 30, 3) := by decide +kernel
theorem dL_law_318 : decode cL_law 318 = .ok (.aload_n 2, 1) := by decide +kernel
theorem dL_law_319 : decode cL_law 319 = .ok (.aload_n 0, 1) := by decide +kernel
theorem dL_law_320 : decode cL_law 320 = .ok (.iload 4, 2) := by decide +kernel
theorem dL_law_322 : decode cL_law 322 = .ok (.iconst 1, 1) := by decide +kernel
theorem dL_law_323 : decode cL_law 323 = .ok (.iadd, 1) := by decide +kernel
theorem dL_law_324 : decode cL_law 324 = .ok (.iaload, 1) := by decide +kernel
theorem dL_law_325 : decode cL_law 325 = .ok (.aload_n 0, 1) := by decide +kernel
theorem dL_law_326 : decode cL_law 326 = .ok (.iload 4, 2) := by decide +kernel
theorem dL_law_328 : decode cL_law 328 = .ok (.iconst 2, 1) := by decide +kernel
theorem dL_law_329 : decode cL_law 329 = .ok (.iadd, 1) := by decide +kernel
theorem dL_law_330 : decode cL_law 330 = .ok (.iaload, 1) := by decide +kernel
theorem dL_law_331 : decode cL_law 331 = .ok (.aload_n 0, 1) := by decide +kernel
theorem dL_law_332 : decode cL_law 332 = .ok (.iload 4, 2) := by decide +kernel
theorem dL_law_334 : decode cL_law 334 = .ok (.iconst 3, 1) := by decide +kernel
theorem dL_law_335 : decode cL_law 335 = .ok (.iadd, 1) := by decide +kernel
theorem dL_law_336 : decode cL_law 336 = .ok (.iaload, 1) := by decide +kernel
theorem dL_law_337 : decode cL_law 337 = .ok (.aload_n 0, 1) := by decide +kernel
theorem dL_law_338 : decode cL_law 338 = .ok (.iload 4, 2) := by decide +kernel
theorem dL_law_340 : decode cL_law 340 = .ok (.iconst 4, 1) := by decide +kernel
theorem dL_law_341 : decode cL_law 341 = .ok (.iadd, 1) := by decide +kernel
theorem dL_law_342 : decode cL_law 342 = .ok (.iaload, 1) := by decide +kernel
theorem dL_law_343 : decode cL_law 343 = .ok (.aload_n 0, 1) := by decide +kernel
theorem dL_law_344 : decode cL_law 344 = .ok (.iload 4, 2) := by decide +kernel
theorem dL_law_346 : decode cL_law 346 = .ok (.iconst 5, 1) := by decide +kernel
theorem dL_law_347 : decode cL_law 347 = .ok (.iadd, 1) := by decide +kernel
theorem dL_law_348 : decode cL_law 348 = .ok (.iaload, 1) := by decide +kernel
theorem dL_law_349 : decode cL_law 349 = .ok (.aload_n 0, 1) := by decide +kernel
theorem dL_law_350 : decode cL_law 350 = .ok (.iload 4, 2) := by decide +kernel
theorem dL_law_352 : decode cL_law 352 = .ok (.bipush 6, 2) := by decide +kernel
theorem dL_law_354 : decode cL_law 354 = .ok (.iadd, 1) := by decide +kernel
theorem dL_law_355 : decode cL_law 355 = .ok (.iaload, 1) := by decide +kernel
theorem dL_law_356 : decode cL_law 356 = .ok (.ifCond .eq 7, 3) := by decide +kernel
theorem dL_law_359 : decode cL_law 359 = .ok (.iconst 1, 1) := by decide +kernel
theorem dL_law_360 : decode cL_law 360 = .ok (.goto 4, 3) := by decide +kernel
theorem dL_law_363 : decode cL_law 363 = .ok (.iconst 0, 1) := by decide +kernel
theorem dL_law_364 : decode cL_law 364 = .ok (.invokevirtual 34, 3) := by decide +kernel
theorem dL_law_367 : decode cL_law 367 = .ok (.if_icmp .eq 1421, 3) := by decide +kernel
theorem dL_law_370 : decode cL_law 370 = .ok (.iconst 0, 1) := by decide +kernel
theorem dL_law_371 : decode cL_law 371 = .ok (.ireturn, 1) := by decide +kernel
theorem dL_law_372 : decode cL_law 372 = .ok (.aload_n 1, 1) := by decide +kernel
theorem dL_law_373 : decode cL_law 373 = .ok (.aload_n 0, 1) := by decide +kernel
theorem dL_law_374 : decode cL_law 374 = .ok (.iload 4, 2) := by decide +kernel
theorem dL_law_376 : decode cL_law 376 = .ok (.iconst 1, 1) := by decide +kernel
theorem dL_law_377 : decode cL_law 377 = .ok (.iadd, 1) := by decide +kernel
theorem dL_law_378 : decode cL_law 378 = .ok (.iaload, 1) := by decide +kernel
theorem dL_law_379 : decode cL_law 379 = .ok (.aload_n 0, 1) := by decide +kernel
theorem dL_law_380 : decode cL_law 380 = .ok (.iload 4, 2) := by decide +kernel
theorem dL_law_382 : decode cL_law 382 = .ok (.iconst 2, 1) := by decide +kernel
theorem dL_law_383 : decode cL_law 383 = .ok (.iadd, 1) := by decide +kernel
theorem dL_law_384 : decode cL_law 384 = .ok (.iaload, 1) := by decide +kernel
theorem dL_law_385 : decode cL_law 385 = .ok (.aload_n 0, 1) := by decide +kernel
theorem dL_law_386 : decode cL_law 386 = .ok (.iload 4, 2) := by decide +kernel
theorem dL_law_388 : decode cL_law 388 = .ok (.iconst 3, 1) := by decide +kernel
theorem dL_law_389 : decode cL_law 389 = .ok (.iadd, 1) := by decide +kernel
theorem dL_law_390 : decode cL_law 390 = .ok (.iaload, 1) := by decide +kernel
theorem dL_law_391 : decode cL_law 391 = .ok (.aload_n 0, 1) := by decide +kernel
theorem dL_law_392 : decode cL_law 392 = .ok (.iload 4, 2) := by decide +kernel
theorem dL_law_394 : decode cL_law 394 = .ok (.iconst 4, 1) := by decide +kernel
theorem dL_law_395 : decode cL_law 395 = .ok (.iadd, 1) := by decide +kernel
theorem dL_law_396 : decode cL_law 396 = .ok (.iaload, 1) := by decide +kernel
theorem dL_law_397 : decode cL_law 397 = .ok (.invokevirtual 35, 3) := by decide +kernel
theorem dL_law_400 : decode cL_law 400 = .ok (.aload_n 2, 1) := by decide +kernel
theorem dL_law_401 : decode cL_law 401 = .ok (.aload_n 0, 1) := by decide +kernel
theorem dL_law_402 : decode cL_law 402 = .ok (.iload 4, 2) := by decide +kernel
theorem dL_law_404 : decode cL_law 404 = .ok (.iconst 1, 1) := by decide +kernel
theorem dL_law_405 : decode cL_law 405 = .ok (.iadd, 1) := by decide +kernel
theorem dL_law_406 : decode cL_law 406 = .ok (.iaload, 1) := by decide +kernel
theorem dL_law_407 : decode cL_law 407 = .ok (.aload_n 0, 1) := by decide +kernel
theorem dL_law_408 : decode cL_law 408 = .ok (.iload 4, 2) := by decide +kernel
theorem dL_law_410 : decode cL_law 410 = .ok (.iconst 2, 1) := by decide +kernel
theorem dL_law_411 : decode cL_law 411 = .ok (.iadd, 1) := by decide +kernel
theorem dL_law_412 : decode cL_law 412 = .ok (.iaload, 1) := by decide +kernel
theorem dL_law_413 : decode cL_law 413 = .ok (.aload_n 0, 1) := by decide +kernel
theorem dL_law_414 : decode cL_law 414 = .ok (.iload 4, 2) := by decide +kernel
theorem dL_law_416 : decode cL_law 416 = .ok (.iconst 3, 1) := by decide +kernel
theorem dL_law_417 : decode cL_law 417 = .ok (.iadd, 1) := by decide +kernel
theorem dL_law_418 : decode cL_law 418 = .ok (.iaload, 1) := by decide +kernel
theorem dL_law_419 : decode cL_law 419 = .ok (.aload_n 0, 1) := by decide +kernel
theorem dL_law_420 : decode cL_law 420 = .ok (.iload 4, 2) := by decide +kernel
theorem dL_law_422 : decode cL_law 422 = .ok (.iconst 4, 1) := by decide +kernel
theorem dL_law_423 : decode cL_law 423 = .ok (.iadd, 1) := by decide +kernel
theorem dL_law_424 : decode cL_law 424 = .ok (.iaload, 1) := by decide +kernel
theorem dL_law_425 : decode cL_law 425 = .ok (.invokevirtual 38, 3) := by decide +kernel
theorem dL_law_428 : decode cL_law 428 = .ok (.if_icmp .eq 1360, 3) := by decide +kernel
theorem dL_law_431 : decode cL_law 431 = .ok (.iconst 0, 1) := by decide +kernel
theorem dL_law_432 : decode cL_law 432 = .ok (.ireturn, 1) := by decide +kernel
theorem dL_law_433 : decode cL_law 433 = .ok (.aload_n 1, 1) := by decide +kernel
theorem dL_law_434 : decode cL_law 434 = .ok (.aload_n 0, 1) := by decide +kernel
theorem dL_law_435 : decode cL_law 435 = .ok (.iload 4, 2) := by decide +kernel
theorem dL_law_437 : decode cL_law 437 = .ok (.iconst 1, 1) := by decide +kernel
theorem dL_law_438 : decode cL_law 438 = .ok (.iadd, 1) := by decide +kernel
theorem dL_law_439 : decode cL_law 439 = .ok (.iaload, 1) := by decide +kernel
theorem dL_law_440 : decode cL_law 440 = .ok (.aload_n 0, 1) := by decide +kernel
theorem dL_law_441 : decode cL_law 441 = .ok (.iload 4, 2) := by decide +kernel
theorem dL_law_443 : decode cL_law 443 = .ok (.iconst 2, 1) := by decide +kernel
theorem dL_law_444 : decode cL_law 444 = .ok (.iadd, 1) := by decide +kernel
theorem dL_law_445 : decode cL_law 445 = .ok (.iaload, 1) := by decide +kernel
theorem dL_law_446 : decode cL_law 446 = .ok (.aload_n 0, 1) := by decide +kernel
theorem dL_law_447 : decode cL_law 447 = .ok (.iload 4, 2) := by decide +kernel
theorem dL_law_449 : decode cL_law 449 = .ok (.iconst 3, 1) := by decide +kernel
theorem dL_law_450 : decode cL_law 450 = .ok (.iadd, 1) := by decide +kernel
theorem dL_law_451 : decode cL_law 451 = .ok (.iaload, 1) := by decide +kernel
theorem dL_law_452 : decode cL_law 452 = .ok (.aload_n 0, 1) := by decide +kernel
theorem dL_law_453 : decode cL_law 453 = .ok (.iload 4, 2) := by decide +kernel
theorem dL_law_455 : decode cL_law 455 = .ok (.iconst 4, 1) := by decide +kernel
theorem dL_law_456 : decode cL_law 456 = .ok (.iadd, 1) := by decide +kernel
theorem dL_law_457 : decode cL_law 457 = .ok (.iaload, 1) := by decide +kernel
theorem dL_law_458 : decode cL_law 458 = .ok (.invokevirtual 39, 3) := by decide +kernel
theorem dL_law_461 : decode cL_law 461 = .ok (.aload_n 2, 1) := by decide +kernel
theorem dL_law_462 : decode cL_law 462 = .ok (.aload_n 0, 1) := by decide +kernel
theorem dL_law_463 : decode cL_law 463 = .ok (.iload 4, 2) := by decide +kernel
theorem dL_law_465 : decode cL_law 465 = .ok (.iconst 1, 1) := by decide +kernel
theorem dL_law_466 : decode cL_law 466 = .ok (.iadd, 1) := by decide +kernel
theorem dL_law_467 : decode cL_law 467 = .ok (.iaload, 1) := by decide +kernel
theorem dL_law_468 : decode cL_law 468 = .ok (.aload_n 0, 1) := by decide +kernel
theorem dL_law_469 : decode cL_law 469 = .ok (.iload 4, 2) := by decide +kernel
theorem dL_law_471 : decode cL_law 471 = .ok (.iconst 2, 1) := by decide +kernel
theorem dL_law_472 : decode cL_law 472 = .ok (.iadd, 1) := by decide +kernel
theorem dL_law_473 : decode cL_law 473 = .ok (.iaload, 1) := by decide +kernel
theorem dL_law_474 : decode cL_law 474 = .ok (.aload_n 0, 1) := by decide +kernel
theorem dL_law_475 : decode cL_law 475 = .ok (.iload 4, 2) := by decide +kernel
theorem dL_law_477 : decode cL_law 477 = .ok (.iconst 3, 1) := by decide +kernel
theorem dL_law_478 : decode cL_law 478 = .ok (.iadd, 1) := by decide +kernel
theorem dL_law_479 : decode cL_law 479 = .ok (.iaload, 1) := by decide +kernel
theorem dL_law_480 : decode cL_law 480 = .ok (.aload_n 0, 1) := by decide +kernel
theorem dL_law_481 : decode cL_law 481 = .ok (.iload 4, 2) := by decide +kernel
theorem dL_law_483 : decode cL_law 483 = .ok (.iconst 4, 1) := by decide +kernel
theorem dL_law_484 : decode cL_law 484 = .ok (.iadd, 1) := by decide +kernel
theorem dL_law_485 : decode cL_law 485 = .ok (.iaload, 1) := by decide +kernel
theorem dL_law_486 : decode cL_law 486 = .ok (.invokevirtual 42, 3) := by decide +kernel
theorem dL_law_489 : decode cL_law 489 = .ok (.if_icmp .eq 1299, 3) := by decide +kernel
theorem dL_law_492 : decode cL_law 492 = .ok (.iconst 0, 1) := by decide +kernel
theorem dL_law_493 : decode cL_law 493 = .ok (.ireturn, 1) := by decide +kernel
theorem dL_law_494 : decode cL_law 494 = .ok (.aload_n 1, 1) := by decide +kernel
theorem dL_law_495 : decode cL_law 495 = .ok (.aload_n 0, 1) := by decide +kernel
theorem dL_law_496 : decode cL_law 496 = .ok (.iload 4, 2) := by decide +kernel
theorem dL_law_498 : decode cL_law 498 = .ok (.iconst 1, 1) := by decide +kernel
theorem dL_law_499 : decode cL_law 499 = .ok (.iadd, 1) := by decide +kernel
theorem dL_law_500 : decode cL_law 500 = .ok (.iaload, 1) := by decide +kernel
theorem dL_law_501 : decode cL_law 501 = .ok (.aload_n 0, 1) := by decide +kernel
theorem dL_law_502 : decode cL_law 502 = .ok (.iload 4, 2) := by decide +kernel
theorem dL_law_504 : decode cL_law 504 = .ok (.iconst 2, 1) := by decide +kernel
theorem dL_law_505 : decode cL_law 505 = .ok (.iadd, 1) := by decide +kernel
theorem dL_law_506 : decode cL_law 506 = .ok (.iaload, 1) := by decide +kernel
theorem dL_law_507 : decode cL_law 507 = .ok (.aload_n 0, 1) := by decide +kernel
theorem dL_law_508 : decode cL_law 508 = .ok (.iload 4, 2) := by decide +kernel
theorem dL_law_510 : decode cL_law 510 = .ok (.iconst 3, 1) := by decide +kernel
theorem dL_law_511 : decode cL_law 511 = .ok (.iadd, 1) := by decide +kernel
theorem dL_law_512 : decode cL_law 512 = .ok (.iaload, 1) := by decide +kernel
theorem dL_law_513 : decode cL_law 513 = .ok (.aload_n 0, 1) := by decide +kernel
theorem dL_law_514 : decode cL_law 514 = .ok (.iload 4, 2) := by decide +kernel
theorem dL_law_516 : decode cL_law 516 = .ok (.iconst 4, 1) := by decide +kernel
theorem dL_law_517 : decode cL_law 517 = .ok (.iadd, 1) := by decide +kernel
theorem dL_law_518 : decode cL_law 518 = .ok (.iaload, 1) := by decide +kernel
theorem dL_law_519 : decode cL_law 519 = .ok (.invokevirtual 43, 3) := by decide +kernel
theorem dL_law_522 : decode cL_law 522 = .ok (.aload_n 2, 1) := by decide +kernel
theorem dL_law_523 : decode cL_law 523 = .ok (.aload_n 0, 1) := by decide +kernel
theorem dL_law_524 : decode cL_law 524 = .ok (.iload 4, 2) := by decide +kernel
theorem dL_law_526 : decode cL_law 526 = .ok (.iconst 1, 1) := by decide +kernel
theorem dL_law_527 : decode cL_law 527 = .ok (.iadd, 1) := by decide +kernel
theorem dL_law_528 : decode cL_law 528 = .ok (.iaload, 1) := by decide +kernel
theorem dL_law_529 : decode cL_law 529 = .ok (.aload_n 0, 1) := by decide +kernel
theorem dL_law_530 : decode cL_law 530 = .ok (.iload 4, 2) := by decide +kernel
theorem dL_law_532 : decode cL_law 532 = .ok (.iconst 2, 1) := by decide +kernel
theorem dL_law_533 : decode cL_law 533 = .ok (.iadd, 1) := by decide +kernel
theorem dL_law_534 : decode cL_law 534 = .ok (.iaload, 1) := by decide +kernel
theorem dL_law_535 : decode cL_law 535 = .ok (.aload_n 0, 1) := by decide +kernel
theorem dL_law_536 : decode cL_law 536 = .ok (.iload 4, 2) := by decide +kernel
theorem dL_law_538 : decode cL_law 538 = .ok (.iconst 3, 1) := by decide +kernel
theorem dL_law_539 : decode cL_law 539 = .ok (.iadd, 1) := by decide +kernel
theorem dL_law_540 : decode cL_law 540 = .ok (.iaload, 1) := by decide +kernel
theorem dL_law_541 : decode cL_law 541 = .ok (.aload_n 0, 1) := by decide +kernel
theorem dL_law_542 : decode cL_law 542 = .ok (.iload 4, 2) := by decide +kernel
theorem dL_law_544 : decode cL_law 544 = .ok (.iconst 4, 1) := by decide +kernel
theorem dL_law_545 : decode cL_law 545 = .ok (.iadd, 1) := by decide +kernel
theorem dL_law_546 : decode cL_law 546 = .ok (.iaload, 1) := by decide +kernel
theorem dL_law_547 : decode cL_law 547 = .ok (.invokevirtual 46, 3) := by decide +kernel
theorem dL_law_550 : decode cL_law 550 = .ok (.if_icmp .eq 1238, 3) := by decide +kernel
theorem dL_law_553 : decode cL_law 553 = .ok (.iconst 0, 1) := by decide +kernel
theorem dL_law_554 : decode cL_law 554 = .ok (.ireturn, 1) := by decide +kernel
theorem dL_law_555 : decode cL_law 555 = .ok (.aload_n 1, 1) := by decide +kernel
theorem dL_law_556 : decode cL_law 556 = .ok (.aload_n 0, 1) := by decide +kernel
theorem dL_law_557 : decode cL_law 557 = .ok (.iload 4, 2) := by decide +kernel
theorem dL_law_559 : decode cL_law 559 = .ok (.iconst 1, 1) := by decide +kernel
theorem dL_law_560 : decode cL_law 560 = .ok (.iadd, 1) := by decide +kernel
theorem dL_law_561 : decode cL_law 561 = .ok (.iaload, 1) := by decide +kernel
theorem dL_law_562 : decode cL_law 562 = .ok (.aload_n 0, 1) := by decide +kernel
theorem dL_law_563 : decode cL_law 563 = .ok (.iload 4, 2) := by decide +kernel
theorem dL_law_565 : decode cL_law 565 = .ok (.iconst 2, 1) := by decide +kernel
theorem dL_law_566 : decode cL_law 566 = .ok (.iadd, 1) := by decide +kernel
theorem dL_law_567 : decode cL_law 567 = .ok (.iaload, 1) := by decide +kernel
theorem dL_law_568 : decode cL_law 568 = .ok (.invokevirtual 47, 3) := by decide +kernel
theorem dL_law_571 : decode cL_law 571 = .ok (.aload_n 2, 1) := by decide +kernel
theorem dL_law_572 : decode cL_law 572 = .ok (.aload_n 0, 1) := by decide +kernel
theorem dL_law_573 : decode cL_law 573 = .ok (.iload 4, 2) := by decide +kernel
theorem dL_law_575 : decode cL_law 575 = .ok (.iconst 1, 1) := by decide +kernel
theorem dL_law_576 : decode cL_law 576 = .ok (.iadd, 1) := by decide +kernel
theorem dL_law_577 : decode cL_law 577 = .ok (.iaload, 1) := by decide +kernel
theorem dL_law_578 : decode cL_law 578 = .ok (.aload_n 0, 1) := by decide +kernel
theorem dL_law_579 : decode cL_law 579 = .ok (.iload 4, 2) := by decide +kernel
theorem dL_law_581 : decode cL_law 581 = .ok (.iconst 2, 1) := by decide +kernel
theorem dL_law_582 : decode cL_law 582 = .ok (.iadd, 1) := by decide +kernel
theorem dL_law_583 : decode cL_law 583 = .ok (.iaload, 1) := by decide +kernel
theorem dL_law_584 : decode cL_law 584 = .ok (.invokevirtual 51, 3) := by decide +kernel
theorem dL_law_587 : decode cL_law 587 = .ok (.if_icmp .eq 1201, 3) := by decide +kernel
theorem dL_law_590 : decode cL_law 590 = .ok (.iconst 0, 1) := by decide +kernel
theorem dL_law_591 : decode cL_law 591 = .ok (.ireturn, 1) := by decide +kernel
theorem dL_law_592 : decode cL_law 592 = .ok (.aload_n 1, 1) := by decide +kernel
theorem dL_law_593 : decode cL_law 593 = .ok (.aload_n 0, 1) := by decide +kernel
theorem dL_law_594 : decode cL_law 594 = .ok (.iload 4, 2) := by decide +kernel
theorem dL_law_596 : decode cL_law 596 = .ok (.iconst 1, 1) := by decide +kernel
theorem dL_law_597 : decode cL_law 597 = .ok (.iadd, 1) := by decide +kernel
theorem dL_law_598 : decode cL_law 598 = .ok (.iaload, 1) := by decide +kernel
theorem dL_law_599 : decode cL_law 599 = .ok (.aload_n 0, 1) := by decide +kernel
theorem dL_law_600 : decode cL_law 600 = .ok (.iload 4, 2) := by decide +kernel
theorem dL_law_602 : decode cL_law 602 = .ok (.iconst 2, 1) := by decide +kernel
theorem dL_law_603 : decode cL_law 603 = .ok (.iadd, 1) := by decide +kernel
theorem dL_law_604 : decode cL_law 604 = .ok (.iaload, 1) := by decide +kernel
theorem dL_law_605 : decode cL_law 605 = .ok (.invokevirtual 52, 3) := by decide +kernel
theorem dL_law_608 : decode cL_law 608 = .ok (.aload_n 2, 1) := by decide +kernel
theorem dL_law_609 : decode cL_law 609 = .ok (.aload_n 0, 1) := by decide +kernel
theorem dL_law_610 : decode cL_law 610 = .ok (.iload 4, 2) := by decide +kernel
theorem dL_law_612 : decode cL_law 612 = .ok (.iconst 1, 1) := by decide +kernel
theorem dL_law_613 : decode cL_law 613 = .ok (.iadd, 1) := by decide +kernel
theorem dL_law_614 : decode cL_law 614 = .ok (.iaload, 1) := by decide +kernel
theorem dL_law_615 : decode cL_law 615 = .ok (.aload_n 0, 1) := by decide +kernel
theorem dL_law_616 : decode cL_law 616 = .ok (.iload 4, 2) := by decide +kernel
theorem dL_law_618 : decode cL_law 618 = .ok (.iconst 2, 1) := by decide +kernel
theorem dL_law_619 : decode cL_law 619 = .ok (.iadd, 1) := by decide +kernel
theorem dL_law_620 : decode cL_law 620 = .ok (.iaload, 1) := by decide +kernel
theorem dL_law_621 : decode cL_law 621 = .ok (.invokevirtual 55, 3) := by decide +kernel
theorem dL_law_624 : decode cL_law 624 = .ok (.if_icmp .eq 1164, 3) := by decide +kernel
theorem dL_law_627 : decode cL_law 627 = .ok (.iconst 0, 1) := by decide +kernel
theorem dL_law_628 : decode cL_law 628 = .ok (.ireturn, 1) := by decide +kernel
theorem dL_law_629 : decode cL_law 629 = .ok (.aload_n 1, 1) := by decide +kernel
theorem dL_law_630 : decode cL_law 630 = .ok (.aload_n 0, 1) := by decide +kernel
theorem dL_law_631 : decode cL_law 631 = .ok (.iload 4, 2) := by decide +kernel
theorem dL_law_633 : decode cL_law 633 = .ok (.iconst 1, 1) := by decide +kernel
theorem dL_law_634 : decode cL_law 634 = .ok (.iadd, 1) := by decide +kernel
theorem dL_law_635 : decode cL_law 635 = .ok (.iaload, 1) := by decide +kernel
theorem dL_law_636 : decode cL_law 636 = .ok (.aload_n 0, 1) := by decide +kernel
theorem dL_law_637 : decode cL_law 637 = .ok (.iload 4, 2) := by decide +kernel
theorem dL_law_639 : decode cL_law 639 = .ok (.iconst 2, 1) := by decide +kernel
theorem dL_law_640 : decode cL_law 640 = .ok (.iadd, 1) := by decide +kernel
theorem dL_law_641 : decode cL_law 641 = .ok (.iaload, 1) := by decide +kernel
theorem dL_law_642 : decode cL_law 642 = .ok (.ifCond .eq 7, 3) := by decide +kernel
theorem dL_law_645 : decode cL_law 645 = .ok (.iconst 1, 1) := by decide +kernel
theorem dL_law_646 : decode cL_law 646 = .ok (.goto 4, 3) := by decide +kernel
theorem dL_law_649 : decode cL_law 649 = .ok (.iconst 0, 1) := by decide +kernel
theorem dL_law_650 : decode cL_law 650 = .ok (.invokevirtual 56, 3) := by decide +kernel
theorem dL_law_653 : decode cL_law 653 = .ok (.aload_n 2, 1) := by decide +kernel
theorem dL_law_654 : decode cL_law 654 = .ok (.aload_n 0, 1) := by decide +kernel
theorem dL_law_655 : decode cL_law 655 = .ok (.iload 4, 2) := by decide +kernel
theorem dL_law_657 : decode cL_law 657 = .ok (.iconst 1, 1) := by decide +kernel
theorem dL_law_658 : decode cL_law 658 = .ok (.iadd, 1) := by decide +kernel
theorem dL_law_659 : decode cL_law 659 = .ok (.iaload, 1) := by decide +kernel
theorem dL_law_660 : decode cL_law 660 = .ok (.aload_n 0, 1) := by decide +kernel
theorem dL_law_661 : decode cL_law 661 = .ok (.iload 4, 2) := by decide +kernel
theorem dL_law_663 : decode cL_law 663 = .ok (.iconst 2, 1) := by decide +kernel
theorem dL_law_664 : decode cL_law 664 = .ok (.iadd, 1) := by decide +kernel
theorem dL_law_665 : decode cL_law 665 = .ok (.iaload, 1) := by decide +kernel
theorem dL_law_666 : decode cL_law 666 = .ok (.ifCond .eq 7, 3) := by decide +kernel
theorem dL_law_669 : decode cL_law 669 = .ok (.iconst 1, 1) := by decide +kernel
theorem dL_law_670 : decode cL_law 670 = .ok (.goto 4, 3) := by decide +kernel
theorem dL_law_673 : decode cL_law 673 = .ok (.iconst 0, 1) := by decide +kernel
theorem dL_law_674 : decode cL_law 674 = .ok (.invokevirtual 60, 3) := by decide +kernel
theorem dL_law_677 : decode cL_law 677 = .ok (.if_icmp .eq 1111, 3) := by decide +kernel
theorem dL_law_680 : decode cL_law 680 = .ok (.iconst 0, 1) := by decide +kernel
theorem dL_law_681 : decode cL_law 681 = .ok (.ireturn, 1) := by decide +kernel
theorem dL_law_682 : decode cL_law 682 = .ok (.aload_n 1, 1) := by decide +kernel
theorem dL_law_683 : decode cL_law 683 = .ok (.aload_n 0, 1) := by decide +kernel
theorem dL_law_684 : decode cL_law 684 = .ok (.iload 4, 2) := by decide +kernel
theorem dL_law_686 : decode cL_law 686 = .ok (.iconst 1, 1) := by decide +kernel
theorem dL_law_687 : decode cL_law 687 = .ok (.iadd, 1) := by decide +kernel
theorem dL_law_688 : decode cL_law 688 = .ok (.iaload, 1) := by decide +kernel
theorem dL_law_689 : decode cL_law 689 = .ok (.aload_n 0, 1) := by decide +kernel
theorem dL_law_690 : decode cL_law 690 = .ok (.iload 4, 2) := by decide +kernel
theorem dL_law_692 : decode cL_law 692 = .ok (.iconst 2, 1) := by decide +kernel
theorem dL_law_693 : decode cL_law 693 = .ok (.iadd, 1) := by decide +kernel
theorem dL_law_694 : decode cL_law 694 = .ok (.iaload, 1) := by decide +kernel
theorem dL_law_695 : decode cL_law 695 = .ok (.aload_n 0, 1) := by decide +kernel
theorem dL_law_696 : decode cL_law 696 = .ok (.iload 4, 2) := by decide +kernel
theorem dL_law_698 : decode cL_law 698 = .ok (.iconst 3, 1) := by decide +kernel
theorem dL_law_699 : decode cL_law 699 = .ok (.iadd, 1) := by decide +kernel
theorem dL_law_700 : decode cL_law 700 = .ok (.iaload, 1) := by decide +kernel
theorem dL_law_701 : decode cL_law 701 = .ok (.aload_n 0, 1) := by decide +kernel
theorem dL_law_702 : decode cL_law 702 = .ok (.iload 4, 2) := by decide +kernel
theorem dL_law_704 : decode cL_law 704 = .ok (.iconst 4, 1) := by decide +kernel
theorem dL_law_705 : decode cL_law 705 = .ok (.iadd, 1) := by decide +kernel
theorem dL_law_706 : decode cL_law 706 = .ok (.iaload, 1) := by decide +kernel
theorem dL_law_707 : decode cL_law 707 = .ok (.invokevirtual 61, 3) := by decide +kernel
theorem dL_law_710 : decode cL_law 710 = .ok (.aload_n 2, 1) := by decide +kernel
theorem dL_law_711 : decode cL_law 711 = .ok (.aload_n 0, 1) := by decide +kernel
theorem dL_law_712 : decode cL_law 712 = .ok (.iload 4, 2) := by decide +kernel
theorem dL_law_714 : decode cL_law 714 = .ok (.iconst 1, 1) := by decide +kernel
theorem dL_law_715 : decode cL_law 715 = .ok (.iadd, 1) := by decide +kernel
theorem dL_law_716 : decode cL_law 716 = .ok (.iaload, 1) := by decide +kernel
theorem dL_law_717 : decode cL_law 717 = .ok (.aload_n 0, 1) := by decide +kernel
theorem dL_law_718 : decode cL_law 718 = .ok (.iload 4, 2) := by decide +kernel
theorem dL_law_720 : decode cL_law 720 = .ok (.iconst 2, 1) := by decide +kernel
theorem dL_law_721 : decode cL_law 721 = .ok (.iadd, 1) := by decide +kernel
theorem dL_law_722 : decode cL_law 722 = .ok (.iaload, 1) := by decide +kernel
theorem dL_law_723 : decode cL_law 723 = .ok (.aload_n 0, 1) := by decide +kernel
theorem dL_law_724 : decode cL_law 724 = .ok (.iload 4, 2) := by decide +kernel
theorem dL_law_726 : decode cL_law 726 = .ok (.iconst 3, 1) := by decide +kernel
theorem dL_law_727 : decode cL_law 727 = .ok (.iadd, 1) := by decide +kernel
theorem dL_law_728 : decode cL_law 728 = .ok (.iaload, 1) := by decide +kernel
theorem dL_law_729 : decode cL_law 729 = .ok (.aload_n 0, 1) := by decide +kernel
theorem dL_law_730 : decode cL_law 730 = .ok (.iload 4, 2) := by decide +kernel
theorem dL_law_732 : decode cL_law 732 = .ok (.iconst 4, 1) := by decide +kernel
theorem dL_law_733 : decode cL_law 733 = .ok (.iadd, 1) := by decide +kernel
theorem dL_law_734 : decode cL_law 734 = .ok (.iaload, 1) := by decide +kernel
theorem dL_law_735 : decode cL_law 735 = .ok (.invokevirtual 64, 3) := by decide +kernel
theorem dL_law_738 : decode cL_law 738 = .ok (.if_icmp .eq 1050, 3) := by decide +kernel
theorem dL_law_741 : decode cL_law 741 = .ok (.iconst 0, 1) := by decide +kernel
theorem dL_law_742 : decode cL_law 742 = .ok (.ireturn, 1) := by decide +kernel
theorem dL_law_743 : decode cL_law 743 = .ok (.aload_n 1, 1) := by decide +kernel
theorem dL_law_744 : decode cL_law 744 = .ok (.aload_n 0, 1) := by decide +kernel
theorem dL_law_745 : decode cL_law 745 = .ok (.iload 4, 2) := by decide +kernel
theorem dL_law_747 : decode cL_law 747 = .ok (.iconst 1, 1) := by decide +kernel
theorem dL_law_748 : decode cL_law 748 = .ok (.iadd, 1) := by decide +kernel
theorem dL_law_749 : decode cL_law 749 = .ok (.iaload, 1) := by decide +kernel
theorem dL_law_750 : decode cL_law 750 = .ok (.invokevirtual 65, 3) := by decide +kernel
theorem dL_law_753 : decode cL_law 753 = .ok (.aload_n 2, 1) := by decide +kernel
theorem dL_law_754 : decode cL_law 754 = .ok (.aload_n 0, 1) := by decide +kernel
theorem dL_law_755 : decode cL_law 755 = .ok (.iload 4, 2) := by decide +kernel
theorem dL_law_757 : decode cL_law 757 = .ok (.iconst 1, 1) := by decide +kernel
theorem dL_law_758 : decode cL_law 758 = .ok (.iadd, 1) := by decide +kernel
theorem dL_law_759 : decode cL_law 759 = .ok (.iaload, 1) := by decide +kernel
theorem dL_law_760 : decode cL_law 760 = .ok (.invokevirtual 69, 3) := by decide +kernel
theorem dL_law_763 : decode cL_law 763 = .ok (.if_icmp .eq 1025, 3) := by decide +kernel
theorem dL_law_766 : decode cL_law 766 = .ok (.iconst 0, 1) := by decide +kernel
theorem dL_law_767 : decode cL_law 767 = .ok (.ireturn, 1) := by decide +kernel
theorem dL_law_768 : decode cL_law 768 = .ok (.aload_n 1, 1) := by decide +kernel
theorem dL_law_769 : decode cL_law 769 = .ok (.aload_n 0, 1) := by decide +kernel
theorem dL_law_770 : decode cL_law 770 = .ok (.iload 4, 2) := by decide +kernel
theorem dL_law_772 : decode cL_law 772 = .ok (.iconst 1, 1) := by decide +kernel
theorem dL_law_773 : decode cL_law 773 = .ok (.iadd, 1) := by decide +kernel
theorem dL_law_774 : decode cL_law 774 = .ok (.iaload, 1) := by decide +kernel
theorem dL_law_775 : decode cL_law 775 = .ok (.invokevirtual 70, 3) := by decide +kernel
theorem dL_law_778 : decode cL_law 778 = .ok (.aload_n 2, 1) := by decide +kernel
theorem dL_law_779 : decode cL_law 779 = .ok (.aload_n 0, 1) := by decide +kernel
theorem dL_law_780 : decode cL_law 780 = .ok (.iload 4, 2) := by decide +kernel
theorem dL_law_782 : decode cL_law 782 = .ok (.iconst 1, 1) := by decide +kernel
theorem dL_law_783 : decode cL_law 783 = .ok (.iadd, 1) := by decide +kernel
theorem dL_law_784 : decode cL_law 784 = .ok (.iaload, 1) := by decide +kernel
theorem dL_law_785 : decode cL_law 785 = .ok (.invokevirtual 73, 3) := by decide +kernel
theorem dL_law_788 : decode cL_law 788 = .ok (.if_icmp .eq 1000, 3) := by decide +kernel
theorem dL_law_791 : decode cL_law 791 = .ok (.iconst 0, 1) := by decide +kernel
theorem dL_law_792 : decode cL_law 792 = .ok (.ireturn, 1) := by decide +kernel
theorem dL_law_793 : decode cL_law 793 = .ok (.aload_n 1, 1) := by decide +kernel
theorem dL_law_794 : decode cL_law 794 = .ok (.aload_n 0, 1) := by decide +kernel
theorem dL_law_795 : decode cL_law 795 = .ok (.iload 4, 2) := by decide +kernel
theorem dL_law_797 : decode cL_law 797 = .ok (.iconst 1, 1) := by decide +kernel
theorem dL_law_798 : decode cL_law 798 = .ok (.iadd, 1) := by decide +kernel
theorem dL_law_799 : decode cL_law 799 = .ok (.iaload, 1) := by decide +kernel
theorem dL_law_800 : decode cL_law 800 = .ok (.aload_n 0, 1) := by decide +kernel
theorem dL_law_801 : decode cL_law 801 = .ok (.iload 4, 2) := by decide +kernel
theorem dL_law_803 : decode cL_law 803 = .ok (.iconst 2, 1) := by decide +kernel
theorem dL_law_804 : decode cL_law 804 = .ok (.iadd, 1) := by decide +kernel
theorem dL_law_805 : decode cL_law 805 = .ok (.iaload, 1) := by decide +kernel
theorem dL_law_806 : decode cL_law 806 = .ok (.invokevirtual 74, 3) := by decide +kernel
theorem dL_law_809 : decode cL_law 809 = .ok (.aload_n 2, 1) := by decide +kernel
theorem dL_law_810 : decode cL_law 810 = .ok (.aload_n 0, 1) := by decide +kernel
theorem dL_law_811 : decode cL_law 811 = .ok (.iload 4, 2) := by decide +kernel
theorem dL_law_813 : decode cL_law 813 = .ok (.iconst 1, 1) := by decide +kernel
theorem dL_law_814 : decode cL_law 814 = .ok (.iadd, 1) := by decide +kernel
theorem dL_law_815 : decode cL_law 815 = .ok (.iaload, 1) := by decide +kernel
theorem dL_law_816 : decode cL_law 816 = .ok (.aload_n 0, 1) := by decide +kernel
theorem dL_law_817 : decode cL_law 817 = .ok (.iload 4, 2) := by decide +kernel
theorem dL_law_819 : decode cL_law 819 = .ok (.iconst 2, 1) := by decide +kernel
theorem dL_law_820 : decode cL_law 820 = .ok (.iadd, 1) := by decide +kernel
theorem dL_law_821 : decode cL_law 821 = .ok (.iaload, 1) := by decide +kernel
theorem dL_law_822 : decode cL_law 822 = .ok (.invokevirtual 77, 3) := by decide +kernel
theorem dL_law_825 : decode cL_law 825 = .ok (.if_icmp .eq 963, 3) := by decide +kernel
theorem dL_law_828 : decode cL_law 828 = .ok (.iconst 0, 1) := by decide +kernel
theorem dL_law_829 : decode cL_law 829 = .ok (.ireturn, 1) := by decide +kernel
theorem dL_law_830 : decode cL_law 830 = .ok (.aload_n 1, 1) := by decide +kernel
theorem dL_law_831 : decode cL_law 831 = .ok (.aload_n 0, 1) := by decide +kernel
theorem dL_law_832 : decode cL_law 832 = .ok (.iload 4, 2) := by decide +kernel
theorem dL_law_834 : decode cL_law 834 = .ok (.iconst 1, 1) := by decide +kernel
theorem dL_law_835 : decode cL_law 835 = .ok (.iadd, 1) := by decide +kernel
theorem dL_law_836 : decode cL_law 836 = .ok (.iaload, 1) := by decide +kernel
theorem dL_law_837 : decode cL_law 837 = .ok (.invokevirtual 78, 3) := by decide +kernel
theorem dL_law_840 : decode cL_law 840 = .ok (.aload_n 2, 1) := by decide +kernel
theorem dL_law_841 : decode cL_law 841 = .ok (.aload_n 0, 1) := by decide +kernel
theorem dL_law_842 : decode cL_law 842 = .ok (.iload 4, 2) := by decide +kernel
theorem dL_law_844 : decode cL_law 844 = .ok (.iconst 1, 1) := by decide +kernel
theorem dL_law_845 : decode cL_law 845 = .ok (.iadd, 1) := by decide +kernel
theorem dL_law_846 : decode cL_law 846 = .ok (.iaload, 1) := by decide +kernel
theorem dL_law_847 : decode cL_law 847 = .ok (.invokevirtual 81, 3) := by decide +kernel
theorem dL_law_850 : decode cL_law 850 = .ok (.if_icmp .eq 938, 3) := by decide +kernel
theorem dL_law_853 : decode cL_law 853 = .ok (.iconst 0, 1) := by decide +kernel
theorem dL_law_854 : decode cL_law 854 = .ok (.ireturn, 1) := by decide +kernel
theorem dL_law_855 : decode cL_law 855 = .ok (.aload_n 1, 1) := by decide +kernel
theorem dL_law_856 : decode cL_law 856 = .ok (.aload_n 0, 1) := by decide +kernel
theorem dL_law_857 : decode cL_law 857 = .ok (.iload 4, 2) := by decide +kernel
theorem dL_law_859 : decode cL_law 859 = .ok (.iconst 1, 1) := by decide +kernel
theorem dL_law_860 : decode cL_law 860 = .ok (.iadd, 1) := by decide +kernel
theorem dL_law_861 : decode cL_law 861 = .ok (.iaload, 1) := by decide +kernel
theorem dL_law_862 : decode cL_law 862 = .ok (.aload_n 0, 1) := by decide +kernel
theorem dL_law_863 : decode cL_law 863 = .ok (.iload 4, 2) := by decide +kernel
theorem dL_law_865 : decode cL_law 865 = .ok (.iconst 2, 1) := by decide +kernel
theorem dL_law_866 : decode cL_law 866 = .ok (.iadd, 1) := by decide +kernel
theorem dL_law_867 : decode cL_law 867 = .ok (.iaload, 1) := by decide +kernel
theorem dL_law_868 : decode cL_law 868 = .ok (.ifCond .eq 7, 3) := by decide +kernel
theorem dL_law_871 : decode cL_law 871 = .ok (.iconst 1, 1) := by decide +kernel
theorem dL_law_872 : decode cL_law 872 = .ok (.goto 4, 3) := by decide +kernel
theorem dL_law_875 : decode cL_law 875 = .ok (.iconst 0, 1) := by decide +kernel
theorem dL_law_876 : decode cL_law 876 = .ok (.invokevirtual 82, 3) := by decide +kernel
theorem dL_law_879 : decode cL_law 879 = .ok (.aload_n 2, 1) := by decide +kernel
theorem dL_law_880 : decode cL_law 880 = .ok (.aload_n 0, 1) := by decide +kernel
theorem dL_law_881 : decode cL_law 881 = .ok (.iload 4, 2) := by decide +kernel
theorem dL_law_883 : decode cL_law 883 = .ok (.iconst 1, 1) := by decide +kernel
theorem dL_law_884 : decode cL_law 884 = .ok (.iadd, 1) := by decide +kernel
theorem dL_law_885 : decode cL_law 885 = .ok (.iaload, 1) := by decide +kernel
theorem dL_law_886 : decode cL_law 886 = .ok (.aload_n 0, 1) := by decide +kernel
theorem dL_law_887 : decode cL_law 887 = .ok (.iload 4, 2) := by decide +kernel
theorem dL_law_889 : decode cL_law 889 = .ok (.iconst 2, 1) := by decide +kernel
theorem dL_law_890 : decode cL_law 890 = .ok (.iadd, 1) := by decide +kernel
theorem dL_law_891 : decode cL_law 891 = .ok (.iaload, 1) := by decide +kernel
theorem dL_law_892 : decode cL_law 892 = .ok (.ifCond .eq 7, 3) := by decide +kernel
theorem dL_law_895 : decode cL_law 895 = .ok (.iconst 1, 1) := by decide +kernel
theorem dL_law_896 : decode cL_law 896 = .ok (.goto 4, 3) := by decide +kernel
theorem dL_law_899 : decode cL_law 899 = .ok (.iconst 0, 1) := by decide +kernel
theorem dL_law_900 : decode cL_law 900 = .ok (.invokevirtual 85, 3) := by decide +kernel
theorem dL_law_903 : decode cL_law 903 = .ok (.if_icmp .eq 885, 3) := by decide +kernel
theorem dL_law_906 : decode cL_law 906 = .ok (.iconst 0, 1) := by decide +kernel
theorem dL_law_907 : decode cL_law 907 = .ok (.ireturn, 1) := by decide +kernel
theorem dL_law_908 : decode cL_law 908 = .ok (.aload_n 1, 1) := by decide +kernel
theorem dL_law_909 : decode cL_law 909 = .ok (.aload_n 0, 1) := by decide +kernel
theorem dL_law_910 : decode cL_law 910 = .ok (.iload 4, 2) := by decide +kernel
theorem dL_law_912 : decode cL_law 912 = .ok (.iconst 1, 1) := by decide +kernel
theorem dL_law_913 : decode cL_law 913 = .ok (.iadd, 1) := by decide +kernel
theorem dL_law_914 : decode cL_law 914 = .ok (.iaload, 1) := by decide +kernel
theorem dL_law_915 : decode cL_law 915 = .ok (.invokevirtual 86, 3) := by decide +kernel
theorem dL_law_918 : decode cL_law 918 = .ok (.aload_n 2, 1) := by decide +kernel
theorem dL_law_919 : decode cL_law 919 = .ok (.aload_n 0, 1) := by decide +kernel
theorem dL_law_920 : decode cL_law 920 = .ok (.iload 4, 2) := by decide +kernel
theorem dL_law_922 : decode cL_law 922 = .ok (.iconst 1, 1) := by decide +kernel
theorem dL_law_923 : decode cL_law 923 = .ok (.iadd, 1) := by decide +kernel
theorem dL_law_924 : decode cL_law 924 = .ok (.iaload, 1) := by decide +kernel
theorem dL_law_925 : decode cL_law 925 = .ok (.invokevirtual 89, 3) := by decide +kernel
theorem dL_law_928 : decode cL_law 928 = .ok (.if_icmp .eq 860, 3) := by decide +kernel
theorem dL_law_931 : decode cL_law 931 = .ok (.iconst 0, 1) := by decide +kernel
theorem dL_law_932 : decode cL_law 932 = .ok (.ireturn, 1) := by decide +kernel
theorem dL_law_933 : decode cL_law 933 = .ok (.aload_n 1, 1) := by decide +kernel
theorem dL_law_934 : decode cL_law 934 = .ok (.aload_n 0, 1) := by decide +kernel
theorem dL_law_935 : decode cL_law 935 = .ok (.iload 4, 2) := by decide +kernel
theorem dL_law_937 : decode cL_law 937 = .ok (.iconst 1, 1) := by decide +kernel
theorem dL_law_938 : decode cL_law 938 = .ok (.iadd, 1) := by decide +kernel
theorem dL_law_939 : decode cL_law 939 = .ok (.iaload, 1) := by decide +kernel
theorem dL_law_940 : decode cL_law 940 = .ok (.invokevirtual 90, 3) := by decide +kernel
theorem dL_law_943 : decode cL_law 943 = .ok (.aload_n 2, 1) := by decide +kernel
theorem dL_law_944 : decode cL_law 944 = .ok (.aload_n 0, 1) := by decide +kernel
theorem dL_law_945 : decode cL_law 945 = .ok (.iload 4, 2) := by decide +kernel
theorem dL_law_947 : decode cL_law 947 = .ok (.iconst 1, 1) := by decide +kernel
theorem dL_law_948 : decode cL_law 948 = .ok (.iadd, 1) := by decide +kernel
theorem dL_law_949 : decode cL_law 949 = .ok (.iaload, 1) := by decide +kernel
theorem dL_law_950 : decode cL_law 950 = .ok (.invokevirtual 93, 3) := by decide +kernel
theorem dL_law_953 : decode cL_law 953 = .ok (.if_icmp .eq 835, 3) := by decide +kernel
theorem dL_law_956 : decode cL_law 956 = .ok (.iconst 0, 1) := by decide +kernel
theorem dL_law_957 : decode cL_law 957 = .ok (.ireturn, 1) := by decide +kernel
theorem dL_law_958 : decode cL_law 958 = .ok (.aload_n 1, 1) := by decide +kernel
theorem dL_law_959 : decode cL_law 959 = .ok (.aload_n 0, 1) := by decide +kernel
theorem dL_law_960 : decode cL_law 960 = .ok (.iload 4, 2) := by decide +kernel
theorem dL_law_962 : decode cL_law 962 = .ok (.iconst 1, 1) := by decide +kernel
theorem dL_law_963 : decode cL_law 963 = .ok (.iadd, 1) := by decide +kernel
theorem dL_law_964 : decode cL_law 964 = .ok (.iaload, 1) := by decide +kernel
theorem dL_law_965 : decode cL_law 965 = .ok (.aload_n 0, 1) := by decide +kernel
theorem dL_law_966 : decode cL_law 966 = .ok (.iload 4, 2) := by decide +kernel
theorem dL_law_968 : decode cL_law 968 = .ok (.iconst 2, 1) := by decide +kernel
theorem dL_law_969 : decode cL_law 969 = .ok (.iadd, 1) := by decide +kernel
theorem dL_law_970 : decode cL_law 970 = .ok (.iaload, 1) := by decide +kernel
theorem dL_law_971 : decode cL_law 971 = .ok (.invokevirtual 94, 3) := by decide +kernel
theorem dL_law_974 : decode cL_law 974 = .ok (.aload_n 2, 1) := by decide +kernel
theorem dL_law_975 : decode cL_law 975 = .ok (.aload_n 0, 1) := by decide +kernel
theorem dL_law_976 : decode cL_law 976 = .ok (.iload 4, 2) := by decide +kernel
theorem dL_law_978 : decode cL_law 978 = .ok (.iconst 1, 1) := by decide +kernel
theorem dL_law_979 : decode cL_law 979 = .ok (.iadd, 1) := by decide +kernel
theorem dL_law_980 : decode cL_law 980 = .ok (.iaload, 1) := by decide +kernel
theorem dL_law_981 : decode cL_law 981 = .ok (.aload_n 0, 1) := by decide +kernel
theorem dL_law_982 : decode cL_law 982 = .ok (.iload 4, 2) := by decide +kernel
theorem dL_law_984 : decode cL_law 984 = .ok (.iconst 2, 1) := by decide +kernel
theorem dL_law_985 : decode cL_law 985 = .ok (.iadd, 1) := by decide +kernel
theorem dL_law_986 : decode cL_law 986 = .ok (.iaload, 1) := by decide +kernel
theorem dL_law_987 : decode cL_law 987 = .ok (.invokevirtual 97, 3) := by decide +kernel
theorem dL_law_990 : decode cL_law 990 = .ok (.if_icmp .eq 798, 3) := by decide +kernel
theorem dL_law_993 : decode cL_law 993 = .ok (.iconst 0, 1) := by decide +kernel
theorem dL_law_994 : decode cL_law 994 = .ok (.ireturn, 1) := by decide +kernel
theorem dL_law_995 : decode cL_law 995 = .ok (.aload_n 1, 1) := by decide +kernel
theorem dL_law_996 : decode cL_law 996 = .ok (.aload_n 0, 1) := by decide +kernel
theorem dL_law_997 : decode cL_law 997 = .ok (.iload 4, 2) := by decide +kernel
theorem dL_law_999 : decode cL_law 999 = .ok (.iconst 1, 1) := by decide +kernel
theorem dL_law_1000 : decode cL_law 1000 = .ok (.iadd, 1) := by decide +kernel
theorem dL_law_1001 : decode cL_law 1001 = .ok (.iaload, 1) := by decide +kernel
theorem dL_law_1002 : decode cL_law 1002 = .ok (.aload_n 0, 1) := by decide +kernel
theorem dL_law_1003 : decode cL_law 1003 = .ok (.iload 4, 2) := by decide +kernel
theorem dL_law_1005 : decode cL_law 1005 = .ok (.iconst 2, 1) := by decide +kernel
theorem dL_law_1006 : decode cL_law 1006 = .ok (.iadd, 1) := by decide +kernel
theorem dL_law_1007 : decode cL_law 1007 = .ok (.iaload, 1) := by decide +kernel
theorem dL_law_1008 : decode cL_law 1008 = .ok (.invokevirtual 98, 3) := by decide +kernel
theorem dL_law_1011 : decode cL_law 1011 = .ok (.aload_n 2, 1) := by decide +kernel
theorem dL_law_1012 : decode cL_law 1012 = .ok (.aload_n 0, 1) := by decide +kernel
theorem dL_law_1013 : decode cL_law 1013 = .ok (.iload 4, 2) := by decide +kernel
theorem dL_law_1015 : decode cL_law 1015 = .ok (.iconst 1, 1) := by decide +kernel
theorem dL_law_1016 : decode cL_law 1016 = .ok (.iadd, 1) := by decide +kernel
theorem dL_law_1017 : decode cL_law 1017 = .ok (.iaload, 1) := by decide +kernel
theorem dL_law_1018 : decode cL_law 1018 = .ok (.aload_n 0, 1) := by decide +kernel
theorem dL_law_1019 : decode cL_law 1019 = .ok (.iload 4, 2) := by decide +kernel
theorem dL_law_1021 : decode cL_law 1021 = .ok (.iconst 2, 1) := by decide +kernel
theorem dL_law_1022 : decode cL_law 1022 = .ok (.iadd, 1) := by decide +kernel
theorem dL_law_1023 : decode cL_law 1023 = .ok (.iaload, 1) := by decide +kernel
theorem dL_law_1024 : decode cL_law 1024 = .ok (.invokevirtual 101, 3) := by decide +kernel
theorem dL_law_1027 : decode cL_law 1027 = .ok (.if_icmp .eq 761, 3) := by decide +kernel
theorem dL_law_1030 : decode cL_law 1030 = .ok (.iconst 0, 1) := by decide +kernel
theorem dL_law_1031 : decode cL_law 1031 = .ok (.ireturn, 1) := by decide +kernel
theorem dL_law_1032 : decode cL_law 1032 = .ok (.aload_n 1, 1) := by decide +kernel
theorem dL_law_1033 : decode cL_law 1033 = .ok (.aload_n 0, 1) := by decide +kernel
theorem dL_law_1034 : decode cL_law 1034 = .ok (.iload 4, 2) := by decide +kernel
theorem dL_law_1036 : decode cL_law 1036 = .ok (.iconst 1, 1) := by decide +kernel
theorem dL_law_1037 : decode cL_law 1037 = .ok (.iadd, 1) := by decide +kernel
theorem dL_law_1038 : decode cL_law 1038 = .ok (.iaload, 1) := by decide +kernel
theorem dL_law_1039 : decode cL_law 1039 = .ok (.aload_n 0, 1) := by decide +kernel
theorem dL_law_1040 : decode cL_law 1040 = .ok (.iload 4, 2) := by decide +kernel
theorem dL_law_1042 : decode cL_law 1042 = .ok (.iconst 2, 1) := by decide +kernel
theorem dL_law_1043 : decode cL_law 1043 = .ok (.iadd, 1) := by decide +kernel
theorem dL_law_1044 : decode cL_law 1044 = .ok (.iaload, 1) := by decide +kernel
theorem dL_law_1045 : decode cL_law 1045 = .ok (.invokevirtual 102, 3) := by decide +kernel
theorem dL_law_1048 : decode cL_law 1048 = .ok (.aload_n 2, 1) := by decide +kernel
theorem dL_law_1049 : decode cL_law 1049 = .ok (.aload_n 0, 1) := by decide +kernel
theorem dL_law_1050 : decode cL_law 1050 = .ok (.iload 4, 2) := by decide +kernel
theorem dL_law_1052 : decode cL_law 1052 = .ok (.iconst 1, 1) := by decide +kernel
theorem dL_law_1053 : decode cL_law 1053 = .ok (.iadd, 1) := by decide +kernel
theorem dL_law_1054 : decode cL_law 1054 = .ok (.iaload, 1) := by decide +kernel
theorem dL_law_1055 : decode cL_law 1055 = .ok (.aload_n 0, 1) := by decide +kernel
theorem dL_law_1056 : decode cL_law 1056 = .ok (.iload 4, 2) := by decide +kernel
theorem dL_law_1058 : decode cL_law 1058 = .ok (.iconst 2, 1) := by decide +kernel
theorem dL_law_1059 : decode cL_law 1059 = .ok (.iadd, 1) := by decide +kernel
theorem dL_law_1060 : decode cL_law 1060 = .ok (.iaload, 1) := by decide +kernel
theorem dL_law_1061 : decode cL_law 1061 = .ok (.invokevirtual 105, 3) := by decide +kernel
theorem dL_law_1064 : decode cL_law 1064 = .ok (.if_icmp .eq 724, 3) := by decide +kernel
theorem dL_law_1067 : decode cL_law 1067 = .ok (.iconst 0, 1) := by decide +kernel
theorem dL_law_1068 : decode cL_law 1068 = .ok (.ireturn, 1) := by decide +kernel
theorem dL_law_1069 : decode cL_law 1069 = .ok (.aload_n 1, 1) := by decide +kernel
theorem dL_law_1070 : decode cL_law 1070 = .ok (.aload_n 0, 1) := by decide +kernel
theorem dL_law_1071 : decode cL_law 1071 = .ok (.iload 4, 2) := by decide +kernel
theorem dL_law_1073 : decode cL_law 1073 = .ok (.iconst 1, 1) := by decide +kernel
theorem dL_law_1074 : decode cL_law 1074 = .ok (.iadd, 1) := by decide +kernel
theorem dL_law_1075 : decode cL_law 1075 = .ok (.iaload, 1) := by decide +kernel
theorem dL_law_1076 : decode cL_law 1076 = .ok (.aload_n 0, 1) := by decide +kernel
theorem dL_law_1077 : decode cL_law 1077 = .ok (.iload 4, 2) := by decide +kernel
theorem dL_law_1079 : decode cL_law 1079 = .ok (.iconst 2, 1) := by decide +kernel
theorem dL_law_1080 : decode cL_law 1080 = .ok (.iadd, 1) := by decide +kernel
theorem dL_law_1081 : decode cL_law 1081 = .ok (.iaload, 1) := by decide +kernel
theorem dL_law_1082 : decode cL_law 1082 = .ok (.ifCond .eq 7, 3) := by decide +kernel
theorem dL_law_1085 : decode cL_law 1085 = .ok (.iconst 1, 1) := by decide +kernel
theorem dL_law_1086 : decode cL_law 1086 = .ok (.goto 4, 3) := by decide +kernel
theorem dL_law_1089 : decode cL_law 1089 = .ok (.iconst 0, 1) := by decide +kernel
theorem dL_law_1090 : decode cL_law 1090 = .ok (.aload_n 3, 1) := by decide +kernel
theorem dL_law_1091 : decode cL_law 1091 = .ok (.invokestatic 106, 3) := by decide +kernel
theorem dL_law_1094 : decode cL_law 1094 = .ok (.istore 5, 2) := by decide +kernel
theorem dL_law_1096 : decode cL_law 1096 = .ok (.aload_n 2, 1) := by decide +kernel
theorem dL_law_1097 : decode cL_law 1097 = .ok (.aload_n 0, 1) := by decide +kernel
theorem dL_law_1098 : decode cL_law 1098 = .ok (.iload 4, 2) := by decide +kernel
theorem dL_law_1100 : decode cL_law 1100 = .ok (.iconst 1, 1) := by decide +kernel
theorem dL_law_1101 : decode cL_law 1101 = .ok (.iadd, 1) := by decide +kernel
theorem dL_law_1102 : decode cL_law 1102 = .ok (.iaload, 1) := by decide +kernel
theorem dL_law_1103 : decode cL_law 1103 = .ok (.aload_n 0, 1) := by decide +kernel
theorem dL_law_1104 : decode cL_law 1104 = .ok (.iload 4, 2) := by decide +kernel
theorem dL_law_1106 : decode cL_law 1106 = .ok (.iconst 2, 1) := by decide +kernel
theorem dL_law_1107 : decode cL_law 1107 = .ok (.iadd, 1) := by decide +kernel
theorem dL_law_1108 : decode cL_law 1108 = .ok (.iaload, 1) := by decide +kernel
theorem dL_law_1109 : decode cL_law 1109 = .ok (.ifCond .eq 7, 3) := by decide +kernel
theorem dL_law_1112 : decode cL_law 1112 = .ok (.iconst 1, 1) := by decide +kernel
theorem dL_law_1113 : decode cL_law 1113 = .ok (.goto 4, 3) := by decide +kernel
theorem dL_law_1116 : decode cL_law 1116 = .ok (.iconst 0, 1) := by decide +kernel
theorem dL_law_1117 : decode cL_law 1117 = .ok (.invokevirtual 111, 3) := by decide +kernel
theorem dL_law_1120 : decode cL_law 1120 = .ok (.lstore 6, 2) := by decide +kernel
theorem dL_law_1122 : decode cL_law 1122 = .ok (.aload_n 2, 1) := by decide +kernel
theorem dL_law_1123 : decode cL_law 1123 = .ok (.invokevirtual 112, 3) := by decide +kernel
theorem dL_law_1126 : decode cL_law 1126 = .ok (.iload 5, 2) := by decide +kernel
theorem dL_law_1128 : decode cL_law 1128 = .ok (.if_icmp .eq 5, 3) := by decide +kernel
theorem dL_law_1131 : decode cL_law 1131 = .ok (.iconst 0, 1) := by decide +kernel
theorem dL_law_1132 : decode cL_law 1132 = .ok (.ireturn, 1) := by decide +kernel
theorem dL_law_1133 : decode cL_law 1133 = .ok (.iload 5, 2) := by decide +kernel
theorem dL_law_1135 : decode cL_law 1135 = .ok (.ifCond .ne 14, 3) := by decide +kernel
theorem dL_law_1138 : decode cL_law 1138 = .ok (.aload_n 3, 1) := by decide +kernel
theorem dL_law_1139 : decode cL_law 1139 = .ok (.iconst 0, 1) := by decide +kernel
theorem dL_law_1140 : decode cL_law 1140 = .ok (.laload, 1) := by decide +kernel
theorem dL_law_1141 : decode cL_law 1141 = .ok (.lload 6, 2) := by decide +kernel
theorem dL_law_1143 : decode cL_law 1143 = .ok (.lcmp, 1) := by decide +kernel
theorem dL_law_1144 : decode cL_law 1144 = .ok (.ifCond .eq 5, 3) := by decide +kernel
theorem dL_law_1147 : decode cL_law 1147 = .ok (.iconst 0, 1) := by decide +kernel
theorem dL_law_1148 : decode cL_law 1148 = .ok (.ireturn, 1) := by decide +kernel
theorem dL_law_1149 : decode cL_law 1149 = .ok (.goto 639, 3) := by decide +kernel
theorem dL_law_1152 : decode cL_law 1152 = .ok (.aload_n 1, 1) := by decide +kernel
theorem dL_law_1153 : decode cL_law 1153 = .ok (.aload_n 0, 1) := by decide +kernel
theorem dL_law_1154 : decode cL_law 1154 = .ok (.iload 4, 2) := by decide +kernel
theorem dL_law_1156 : decode cL_law 1156 = .ok (.iconst 1, 1) := by decide +kernel
theorem dL_law_1157 : decode cL_law 1157 = .ok (.iadd, 1) := by decide +kernel
theorem dL_law_1158 : decode cL_law 1158 = .ok (.iaload, 1) := by decide +kernel
theorem dL_law_1159 : decode cL_law 1159 = .ok (.invokevirtual 116, 3) := by decide +kernel
theorem dL_law_1162 : decode cL_law 1162 = .ok (.aload_n 2, 1) := by decide +kernel
theorem dL_law_1163 : decode cL_law 1163 = .ok (.aload_n 0, 1) := by decide +kernel
theorem dL_law_1164 : decode cL_law 1164 = .ok (.iload 4, 2) := by decide +kernel
theorem dL_law_1166 : decode cL_law 1166 = .ok (.iconst 1, 1) := by decide +kernel
theorem dL_law_1167 : decode cL_law 1167 = .ok (.iadd, 1) := by decide +kernel
theorem dL_law_1168 : decode cL_law 1168 = .ok (.iaload, 1) := by decide +kernel
theorem dL_law_1169 : decode cL_law 1169 = .ok (.invokevirtual 119, 3) := by decide +kernel
theorem dL_law_1172 : decode cL_law 1172 = .ok (.if_icmp .eq 616, 3) := by decide +kernel
theorem dL_law_1175 : decode cL_law 1175 = .ok (.iconst 0, 1) := by decide +kernel
theorem dL_law_1176 : decode cL_law 1176 = .ok (.ireturn, 1) := by decide +kernel
theorem dL_law_1177 : decode cL_law 1177 = .ok (.aload_n 1, 1) := by decide +kernel
theorem dL_law_1178 : decode cL_law 1178 = .ok (.aload_n 0, 1) := by decide +kernel
theorem dL_law_1179 : decode cL_law 1179 = .ok (.iload 4, 2) := by decide +kernel
theorem dL_law_1181 : decode cL_law 1181 = .ok (.iconst 1, 1) := by decide +kernel
theorem dL_law_1182 : decode cL_law 1182 = .ok (.iadd, 1) := by decide +kernel
theorem dL_law_1183 : decode cL_law 1183 = .ok (.iaload, 1) := by decide +kernel
theorem dL_law_1184 : decode cL_law 1184 = .ok (.aload_n 0, 1) := by decide +kernel
theorem dL_law_1185 : decode cL_law 1185 = .ok (.iload 4, 2) := by decide +kernel
theorem dL_law_1187 : decode cL_law 1187 = .ok (.iconst 2, 1) := by decide +kernel
theorem dL_law_1188 : decode cL_law 1188 = .ok (.iadd, 1) := by decide +kernel
theorem dL_law_1189 : decode cL_law 1189 = .ok (.iaload, 1) := by decide +kernel
theorem dL_law_1190 : decode cL_law 1190 = .ok (.invokevirtual 120, 3) := by decide +kernel
theorem dL_law_1193 : decode cL_law 1193 = .ok (.aload_n 2, 1) := by decide +kernel
theorem dL_law_1194 : decode cL_law 1194 = .ok (.aload_n 0, 1) := by decide +kernel
theorem dL_law_1195 : decode cL_law 1195 = .ok (.iload 4, 2) := by decide +kernel
theorem dL_law_1197 : decode cL_law 1197 = .ok (.iconst 1, 1) := by decide +kernel
theorem dL_law_1198 : decode cL_law 1198 = .ok (.iadd, 1) := by decide +kernel
theorem dL_law_1199 : decode cL_law 1199 = .ok (.iaload, 1) := by decide +kernel
theorem dL_law_1200 : decode cL_law 1200 = .ok (.aload_n 0, 1) := by decide +kernel
theorem dL_law_1201 : decode cL_law 1201 = .ok (.iload 4, 2) := by decide +kernel
theorem dL_law_1203 : decode cL_law 1203 = .ok (.iconst 2, 1) := by decide +kernel
theorem dL_law_1204 : decode cL_law 1204 = .ok (.iadd, 1) := by decide +kernel
theorem dL_law_1205 : decode cL_law 1205 = .ok (.iaload, 1) := by decide +kernel
theorem dL_law_1206 : decode cL_law 1206 = .ok (.invokevirtual 123, 3) := by decide +kernel
theorem dL_law_1209 : decode cL_law 1209 = .ok (.if_icmp .eq 579, 3) := by decide +kernel
theorem dL_law_1212 : decode cL_law 1212 = .ok (.iconst 0, 1) := by decide +kernel
theorem dL_law_1213 : decode cL_law 1213 = .ok (.ireturn, 1) := by decide +kernel
theorem dL_law_1214 : decode cL_law 1214 = .ok (.aload_n 1, 1) := by decide +kernel
theorem dL_law_1215 : decode cL_law 1215 = .ok (.aload_n 0, 1) := by decide +kernel
theorem dL_law_1216 : decode cL_law 1216 = .ok (.iload 4, 2) := by decide +kernel
theorem dL_law_1218 : decode cL_law 1218 = .ok (.iconst 1, 1) := by decide +kernel
theorem dL_law_1219 : decode cL_law 1219 = .ok (.iadd, 1) := by decide +kernel
theorem dL_law_1220 : decode cL_law 1220 = .ok (.iaload, 1) := by decide +kernel
theorem dL_law_1221 : decode cL_law 1221 = .ok (.aload_n 0, 1) := by decide +kernel
theorem dL_law_1222 : decode cL_law 1222 = .ok (.iload 4, 2) := by decide +kernel
theorem dL_law_1224 : decode cL_law 1224 = .ok (.iconst 2, 1) := by decide +kernel
theorem dL_law_1225 : decode cL_law 1225 = .ok (.iadd, 1) := by decide +kernel
theorem dL_law_1226 : decode cL_law 1226 = .ok (.iaload, 1) := by decide +kernel
theorem dL_law_1227 : decode cL_law 1227 = .ok (.aload_n 0, 1) := by decide +kernel
theorem dL_law_1228 : decode cL_law 1228 = .ok (.iload 4, 2) := by decide +kernel
theorem dL_law_1230 : decode cL_law 1230 = .ok (.iconst 3, 1) := by decide +kernel
theorem dL_law_1231 : decode cL_law 1231 = .ok (.iadd, 1) := by decide +kernel
theorem dL_law_1232 : decode cL_law 1232 = .ok (.iaload, 1) := by decide +kernel
theorem dL_law_1233 : decode cL_law 1233 = .ok (.aload_n 0, 1) := by decide +kernel
theorem dL_law_1234 : decode cL_law 1234 = .ok (.iload 4, 2) := by decide +kernel
theorem dL_law_1236 : decode cL_law 1236 = .ok (.iconst 4, 1) := by decide +kernel
theorem dL_law_1237 : decode cL_law 1237 = .ok (.iadd, 1) := by decide +kernel
theorem dL_law_1238 : decode cL_law 1238 = .ok (.iaload, 1) := by decide +kernel
theorem dL_law_1239 : decode cL_law 1239 = .ok (.invokevirtual 124, 3) := by decide +kernel
theorem dL_law_1242 : decode cL_law 1242 = .ok (.aload_n 2, 1) := by decide +kernel
theorem dL_law_1243 : decode cL_law 1243 = .ok (.aload_n 0, 1) := by decide +kernel
theorem dL_law_1244 : decode cL_law 1244 = .ok (.iload 4, 2) := by decide +kernel
theorem dL_law_1246 : decode cL_law 1246 = .ok (.iconst 1, 1) := by decide +kernel
theorem dL_law_1247 : decode cL_law 1247 = .ok (.iadd, 1) := by decide +kernel
theorem dL_law_1248 : decode cL_law 1248 = .ok (.iaload, 1) := by decide +kernel
theorem dL_law_1249 : decode cL_law 1249 = .ok (.aload_n 0, 1) := by decide +kernel
theorem dL_law_1250 : decode cL_law 1250 = .ok (.iload 4, 2) := by decide +kernel
theorem dL_law_1252 : decode cL_law 1252 = .ok (.iconst 2, 1) := by decide +kernel
theorem dL_law_1253 : decode cL_law 1253 = .ok (.iadd, 1) := by decide +kernel
theorem dL_law_1254 : decode cL_law 1254 = .ok (.iaload, 1) := by decide +kernel
theorem dL_law_1255 : decode cL_law 1255 = .ok (.aload_n 0, 1) := by decide +kernel
theorem dL_law_1256 : decode cL_law 1256 = .ok (.iload 4, 2) := by decide +kernel
theorem dL_law_1258 : decode cL_law 1258 = .ok (.iconst 3, 1) := by decide +kernel
theorem dL_law_1259 : decode cL_law 1259 = .ok (.iadd, 1) := by decide +kernel
theorem dL_law_1260 : decode cL_law 1260 = .ok (.iaload, 1) := by decide +kernel
theorem dL_law_1261 : decode cL_law 1261 = .ok (.aload_n 0, 1) := by decide +kernel
theorem dL_law_1262 : decode cL_law 1262 = .ok (.iload 4, 2) := by decide +kernel
theorem dL_law_1264 : decode cL_law 1264 = .ok (.iconst 4, 1) := by decide +kernel
theorem dL_law_1265 : decode cL_law 1265 = .ok (.iadd, 1) := by decide +kernel
theorem dL_law_1266 : decode cL_law 1266 = .ok (.iaload, 1) := by decide +kernel
theorem dL_law_1267 : decode cL_law 1267 = .ok (.invokevirtual 127, 3) := by decide +kernel
theorem dL_law_1270 : decode cL_law 1270 = .ok (.if_icmp .eq 518, 3) := by decide +kernel
theorem dL_law_1273 : decode cL_law 1273 = .ok (.iconst 0, 1) := by decide +kernel
theorem dL_law_1274 : decode cL_law 1274 = .ok (.ireturn, 1) := by decide +kernel
theorem dL_law_1275 : decode cL_law 1275 = .ok (.aload_n 1, 1) := by decide +kernel
theorem dL_law_1276 : decode cL_law 1276 = .ok (.aload_n 0, 1) := by decide +kernel
theorem dL_law_1277 : decode cL_law 1277 = .ok (.iload 4, 2) := by decide +kernel
theorem dL_law_1279 : decode cL_law 1279 = .ok (.iconst 1, 1) := by decide +kernel
theorem dL_law_1280 : decode cL_law 1280 = .ok (.iadd, 1) := by decide +kernel
theorem dL_law_1281 : decode cL_law 1281 = .ok (.iaload, 1) := by decide +kernel
theorem dL_law_1282 : decode cL_law 1282 = .ok (.invokevirtual 128, 3) := by decide +kernel
theorem dL_law_1285 : decode cL_law 1285 = .ok (.aload_n 2, 1) := by decide +kernel
theorem dL_law_1286 : decode cL_law 1286 = .ok (.aload_n 0, 1) := by decide +kernel
theorem dL_law_1287 : decode cL_law 1287 = .ok (.iload 4, 2) := by decide +kernel
theorem dL_law_1289 : decode cL_law 1289 = .ok (.iconst 1, 1) := by decide +kernel
theorem dL_law_1290 : decode cL_law 1290 = .ok (.iadd, 1) := by decide +kernel
theorem dL_law_1291 : decode cL_law 1291 = .ok (.iaload, 1) := by decide +kernel
theorem dL_law_1292 : decode cL_law 1292 = .ok (.invokevirtual 131, 3) := by decide +kernel
theorem dL_law_1295 : decode cL_law 1295 = .ok (.if_icmp .eq 493, 3) := by decide +kernel
theorem dL_law_1298 : decode cL_law 1298 = .ok (.iconst 0, 1) := by decide +kernel
theorem dL_law_1299 : decode cL_law 1299 = .ok (.ireturn, 1) := by decide +kernel
theorem dL_law_1300 : decode cL_law 1300 = .ok (.aload_n 1, 1) := by decide +kernel
theorem dL_law_1301 : decode cL_law 1301 = .ok (.aload_n 0, 1) := by decide +kernel
theorem dL_law_1302 : decode cL_law 1302 = .ok (.iload 4, 2) := by decide +kernel
theorem dL_law_1304 : decode cL_law 1304 = .ok (.iconst 1, 1) := by decide +kernel
theorem dL_law_1305 : decode cL_law 1305 = .ok (.iadd, 1) := by decide +kernel
theorem dL_law_1306 : decode cL_law 1306 = .ok (.iaload, 1) := by decide +kernel
theorem dL_law_1307 : decode cL_law 1307 = .ok (.aload_n 0, 1) := by decide +kernel
theorem dL_law_1308 : decode cL_law 1308 = .ok (.iload 4, 2) := by decide +kernel
theorem dL_law_1310 : decode cL_law 1310 = .ok (.iconst 2, 1) := by decide +kernel
theorem dL_law_1311 : decode cL_law 1311 = .ok (.iadd, 1) := by decide +kernel
theorem dL_law_1312 : decode cL_law 1312 = .ok (.iaload, 1) := by decide +kernel
theorem dL_law_1313 : decode cL_law 1313 = .ok (.invokevirtual 132, 3) := by decide +kernel
theorem dL_law_1316 : decode cL_law 1316 = .ok (.aload_n 2, 1) := by decide +kernel
theorem dL_law_1317 : decode cL_law 1317 = .ok (.aload_n 0, 1) := by decide +kernel
theorem dL_law_1318 : decode cL_law 1318 = .ok (.iload 4, 2) := by decide +kernel
theorem dL_law_1320 : decode cL_law 1320 = .ok (.iconst 1, 1) := by decide +kernel
theorem dL_law_1321 : decode cL_law 1321 = .ok (.iadd, 1) := by decide +kernel
theorem dL_law_1322 : decode cL_law 1322 = .ok (.iaload, 1) := by decide +kernel
theorem dL_law_1323 : decode cL_law 1323 = .ok (.aload_n 0, 1) := by decide +kernel
theorem dL_law_1324 : decode cL_law 1324 = .ok (.iload 4, 2) := by decide +kernel
theorem dL_law_1326 : decode cL_law 1326 = .ok (.iconst 2, 1) := by decide +kernel
theorem dL_law_1327 : decode cL_law 1327 = .ok (.iadd, 1) := by decide +kernel
theorem dL_law_1328 : decode cL_law 1328 = .ok (.iaload, 1) := by decide +kernel
theorem dL_law_1329 : decode cL_law 1329 = .ok (.invokevirtual 135, 3) := by decide +kernel
theorem dL_law_1332 : decode cL_law 1332 = .ok (.if_icmp .eq 456, 3) := by decide +kernel
theorem dL_law_1335 : decode cL_law 1335 = .ok (.iconst 0, 1) := by decide +kernel
theorem dL_law_1336 : decode cL_law 1336 = .ok (.ireturn, 1) := by decide +kernel
theorem dL_law_1337 : decode cL_law 1337 = .ok (.aload_n 1, 1) := by decide +kernel
theorem dL_law_1338 : decode cL_law 1338 = .ok (.aload_n 0, 1) := by decide +kernel
theorem dL_law_1339 : decode cL_law 1339 = .ok (.iload 4, 2) := by decide +kernel
theorem dL_law_1341 : decode cL_law 1341 = .ok (.iconst 1, 1) := by decide +kernel
theorem dL_law_1342 : decode cL_law 1342 = .ok (.iadd, 1) := by decide +kernel
theorem dL_law_1343 : decode cL_law 1343 = .ok (.iaload, 1) := by decide +kernel
theorem dL_law_1344 : decode cL_law 1344 = .ok (.invokevirtual 136, 3) := by decide +kernel
theorem dL_law_1347 : decode cL_law 1347 = .ok (.aload_n 2, 1) := by decide +kernel
theorem dL_law_1348 : decode cL_law 1348 = .ok (.aload_n 0, 1) := by decide +kernel
theorem dL_law_1349 : decode cL_law 1349 = .ok (.iload 4, 2) := by decide +kernel
theorem dL_law_1351 : decode cL_law 1351 = .ok (.iconst 1, 1) := by decide +kernel
theorem dL_law_1352 : decode cL_law 1352 = .ok (.iadd, 1) := by decide +kernel
theorem dL_law_1353 : decode cL_law 1353 = .ok (.iaload, 1) := by decide +kernel
theorem dL_law_1354 : decode cL_law 1354 = .ok (.invokevirtual 139, 3) := by decide +kernel
theorem dL_law_1357 : decode cL_law 1357 = .ok (.if_icmp .eq 431, 3) := by decide +kernel
theorem dL_law_1360 : decode cL_law 1360 = .ok (.iconst 0, 1) := by decide +kernel
theorem dL_law_1361 : decode cL_law 1361 = .ok (.ireturn, 1) := by decide +kernel
theorem dL_law_1362 : decode cL_law 1362 = .ok (.aload_n 1, 1) := by decide +kernel
theorem dL_law_1363 : decode cL_law 1363 = .ok (.invokevirtual 140, 3) := by decide +kernel
theorem dL_law_1366 : decode cL_law 1366 = .ok (.aload_n 2, 1) := by decide +kernel
theorem dL_law_1367 : decode cL_law 1367 = .ok (.invokevirtual 143, 3) := by decide +kernel
theorem dL_law_1370 : decode cL_law 1370 = .ok (.if_icmp .eq 418, 3) := by decide +kernel
theorem dL_law_1373 : decode cL_law 1373 = .ok (.iconst 0, 1) := by decide +kernel
theorem dL_law_1374 : decode cL_law 1374 = .ok (.ireturn, 1) := by decide +kernel
theorem dL_law_1375 : decode cL_law 1375 = .ok (.aload_n 1, 1) := by decide +kernel
theorem dL_law_1376 : decode cL_law 1376 = .ok (.aload_n 0, 1) := by decide +kernel
theorem dL_law_1377 : decode cL_law 1377 = .ok (.iload 4, 2) := by decide +kernel
theorem dL_law_1379 : decode cL_law 1379 = .ok (.iconst 1, 1) := by decide +kernel
theorem dL_law_1380 : decode cL_law 1380 = .ok (.iadd, 1) := by decide +kernel
theorem dL_law_1381 : decode cL_law 1381 = .ok (.iaload, 1) := by decide +kernel
theorem dL_law_1382 : decode cL_law 1382 = .ok (.invokevirtual 144, 3) := by decide +kernel
theorem dL_law_1385 : decode cL_law 1385 = .ok (.aload_n 2, 1) := by decide +kernel
theorem dL_law_1386 : decode cL_law 1386 = .ok (.aload_n 0, 1) := by decide +kernel
theorem dL_law_1387 : decode cL_law 1387 = .ok (.iload 4, 2) := by decide +kernel
theorem dL_law_1389 : decode cL_law 1389 = .ok (.iconst 1, 1) := by decide +kernel
theorem dL_law_1390 : decode cL_law 1390 = .ok (.iadd, 1) := by decide +kernel
theorem dL_law_1391 : decode cL_law 1391 = .ok (.iaload, 1) := by decide +kernel
theorem dL_law_1392 : decode cL_law 1392 = .ok (.invokevirtual 147, 3) := by decide +kernel
theorem dL_law_1395 : decode cL_law 1395 = .ok (.if_icmp .eq 393, 3) := by decide +kernel
theorem dL_law_1398 : decode cL_law 1398 = .ok (.iconst 0, 1) := by decide +kernel
theorem dL_law_1399 : decode cL_law 1399 = .ok (.ireturn, 1) := by decide +kernel
theorem dL_law_1400 : decode cL_law 1400 = .ok (.aload_n 1, 1) := by decide +kernel
theorem dL_law_1401 : decode cL_law 1401 = .ok (.invokevirtual 148, 3) := by decide +kernel
theorem dL_law_1404 : decode cL_law 1404 = .ok (.aload_n 2, 1) := by decide +kernel
theorem dL_law_1405 : decode cL_law 1405 = .ok (.invokevirtual 151, 3) := by decide +kernel
theorem dL_law_1408 : decode cL_law 1408 = .ok (.if_icmp .eq 380, 3) := by decide +kernel
theorem dL_law_1411 : decode cL_law 1411 = .ok (.iconst 0, 1) := by decide +kernel
theorem dL_law_1412 : decode cL_law 1412 = .ok (.ireturn, 1) := by decide +kernel
theorem dL_law_1413 : decode cL_law 1413 = .ok (.aload_n 1, 1) := by decide +kernel
theorem dL_law_1414 : decode cL_law 1414 = .ok (.invokevirtual 152, 3) := by decide +kernel
theorem dL_law_1417 : decode cL_law 1417 = .ok (.aload_n 2, 1) := by decide +kernel
theorem dL_law_1418 : decode cL_law 1418 = .ok (.invokevirtual 155, 3) := by decide +kernel
theorem dL_law_1421 : decode cL_law 1421 = .ok (.if_icmp .eq 367, 3) := by decide +kernel
theorem dL_law_1424 : decode cL_law 1424 = .ok (.iconst 0, 1) := by decide +kernel
theorem dL_law_1425 : decode cL_law 1425 = .ok (.ireturn, 1) := by decide +kernel
theorem dL_law_1426 : decode cL_law 1426 = .ok (.aload_n 1, 1) := by decide +kernel
theorem dL_law_1427 : decode cL_law 1427 = .ok (.aload_n 0, 1) := by decide +kernel
theorem dL_law_1428 : decode cL_law 1428 = .ok (.iload 4, 2) := by decide +kernel
theorem dL_law_1430 : decode cL_law 1430 = .ok (.iconst 1, 1) := by decide +kernel
theorem dL_law_1431 : decode cL_law 1431 = .ok (.iadd, 1) := by decide +kernel
theorem dL_law_1432 : decode cL_law 1432 = .ok (.iaload, 1) := by decide +kernel
theorem dL_law_1433 : decode cL_law 1433 = .ok (.invokevirtual 156, 3) := by decide +kernel
theorem dL_law_1436 : decode cL_law 1436 = .ok (.aload_n 2, 1) := by decide +kernel
theorem dL_law_1437 : decode cL_law 1437 = .ok (.aload_n 0, 1) := by decide +kernel
theorem dL_law_1438 : decode cL_law 1438 = .ok (.iload 4, 2) := by decide +kernel
theorem dL_law_1440 : decode cL_law 1440 = .ok (.iconst 1, 1) := by decide +kernel
theorem dL_law_1441 : decode cL_law 1441 = .ok (.iadd, 1) := by decide +kernel
theorem dL_law_1442 : decode cL_law 1442 = .ok (.iaload, 1) := by decide +kernel
theorem dL_law_1443 : decode cL_law 1443 = .ok (.invokevirtual 159, 3) := by decide +kernel
theorem dL_law_1446 : decode cL_law 1446 = .ok (.if_icmp .eq 342, 3) := by decide +kernel
theorem dL_law_1449 : decode cL_law 1449 = .ok (.iconst 0, 1) := by decide +kernel
theorem dL_law_1450 : decode cL_law 1450 = .ok (.ireturn, 1) := by decide +kernel
theorem dL_law_1451 : decode cL_law 1451 = .ok (.aload_n 1, 1) := by decide +kernel
theorem dL_law_1452 : decode cL_law 1452 = .ok (.aload_n 0, 1) := by decide +kernel
theorem dL_law_1453 : decode cL_law 1453 = .ok (.iload 4, 2) := by decide +kernel
theorem dL_law_1455 : decode cL_law 1455 = .ok (.iconst 1, 1) := by decide +kernel
theorem dL_law_1456 : decode cL_law 1456 = .ok (.iadd, 1) := by decide +kernel
theorem dL_law_1457 : decode cL_law 1457 = .ok (.iaload, 1) := by decide +kernel
theorem dL_law_1458 : decode cL_law 1458 = .ok (.aload_n 0, 1) := by decide +kernel
theorem dL_law_1459 : decode cL_law 1459 = .ok (.iload 4, 2) := by decide +kernel
theorem dL_law_1461 : decode cL_law 1461 = .ok (.iconst 2, 1) := by decide +kernel
theorem dL_law_1462 : decode cL_law 1462 = .ok (.iadd, 1) := by decide +kernel
theorem dL_law_1463 : decode cL_law 1463 = .ok (.iaload, 1) := by decide +kernel
theorem dL_law_1464 : decode cL_law 1464 = .ok (.aload_n 0, 1) := by decide +kernel
theorem dL_law_1465 : decode cL_law 1465 = .ok (.iload 4, 2) := by decide +kernel
theorem dL_law_1467 : decode cL_law 1467 = .ok (.iconst 3, 1) := by decide +kernel
theorem dL_law_1468 : decode cL_law 1468 = .ok (.iadd, 1) := by decide +kernel
theorem dL_law_1469 : decode cL_law 1469 = .ok (.iaload, 1) := by decide +kernel
theorem dL_law_1470 : decode cL_law 1470 = .ok (.invokevirtual 160, 3) := by decide +kernel
theorem dL_law_1473 : decode cL_law 1473 = .ok (.aload_n 2, 1) := by decide +kernel
theorem dL_law_1474 : decode cL_law 1474 = .ok (.aload_n 0, 1) := by decide +kernel
theorem dL_law_1475 : decode cL_law 1475 = .ok (.iload 4, 2) := by decide +kernel
theorem dL_law_1477 : decode cL_law 1477 = .ok (.iconst 1, 1) := by decide +kernel
theorem dL_law_1478 : decode cL_law 1478 = .ok (.iadd, 1) := by decide +kernel
theorem dL_law_1479 : decode cL_law 1479 = .ok (.iaload, 1) := by decide +kernel
theorem dL_law_1480 : decode cL_law 1480 = .ok (.aload_n 0, 1) := by decide +kernel
theorem dL_law_1481 : decode cL_law 1481 = .ok (.iload 4, 2) := by decide +kernel
theorem dL_law_1483 : decode cL_law 1483 = .ok (.iconst 2, 1) := by decide +kernel
theorem dL_law_1484 : decode cL_law 1484 = .ok (.iadd, 1) := by decide +kernel
theorem dL_law_1485 : decode cL_law 1485 = .ok (.iaload, 1) := by decide +kernel
theorem dL_law_1486 : decode cL_law 1486 = .ok (.aload_n 0, 1) := by decide +kernel
theorem dL_law_1487 : decode cL_law 1487 = .ok (.iload 4, 2) := by decide +kernel
theorem dL_law_1489 : decode cL_law 1489 = .ok (.iconst 3, 1) := by decide +kernel
theorem dL_law_1490 : decode cL_law 1490 = .ok (.iadd, 1) := by decide +kernel
theorem dL_law_1491 : decode cL_law 1491 = .ok (.iaload, 1) := by decide +kernel
theorem dL_law_1492 : decode cL_law 1492 = .ok (.invokevirtual 164, 3) := by decide +kernel
theorem dL_law_1495 : decode cL_law 1495 = .ok (.if_icmp .eq 293, 3) := by decide +kernel
theorem dL_law_1498 : decode cL_law 1498 = .ok (.iconst 0, 1) := by decide +kernel
theorem dL_law_1499 : decode cL_law 1499 = .ok (.ireturn, 1) := by decide +kernel
theorem dL_law_1500 : decode cL_law 1500 = .ok (.aload_n 1, 1) := by decide +kernel
theorem dL_law_1501 : decode cL_law 1501 = .ok (.aload_n 0, 1) := by decide +kernel
theorem dL_law_1502 : decode cL_law 1502 = .ok (.iload 4, 2) := by decide +kernel
theorem dL_law_1504 : decode cL_law 1504 = .ok (.iconst 1, 1) := by decide +kernel
theorem dL_law_1505 : decode cL_law 1505 = .ok (.iadd, 1) := by decide +kernel
theorem dL_law_1506 : decode cL_law 1506 = .ok (.iaload, 1) := by decide +kernel
theorem dL_law_1507 : decode cL_law 1507 = .ok (.aload_n 0, 1) := by decide +kernel
theorem dL_law_1508 : decode cL_law 1508 = .ok (.iload 4, 2) := by decide +kernel
theorem dL_law_1510 : decode cL_law 1510 = .ok (.iconst 2, 1) := by decide +kernel
theorem dL_law_1511 : decode cL_law 1511 = .ok (.iadd, 1) := by decide +kernel
theorem dL_law_1512 : decode cL_law 1512 = .ok (.iaload, 1) := by decide +kernel
theorem dL_law_1513 : decode cL_law 1513 = .ok (.aload_n 0, 1) := by decide +kernel
theorem dL_law_1514 : decode cL_law 1514 = .ok (.iload 4, 2) := by decide +kernel
theorem dL_law_1516 : decode cL_law 1516 = .ok (.iconst 3, 1) := by decide +kernel
theorem dL_law_1517 : decode cL_law 1517 = .ok (.iadd, 1) := by decide +kernel
theorem dL_law_1518 : decode cL_law 1518 = .ok (.iaload, 1) := by decide +kernel
theorem dL_law_1519 : decode cL_law 1519 = .ok (.invokevirtual 165, 3) := by decide +kernel
theorem dL_law_1522 : decode cL_law 1522 = .ok (.aload_n 2, 1) := by decide +kernel
theorem dL_law_1523 : decode cL_law 1523 = .ok (.aload_n 0, 1) := by decide +kernel
theorem dL_law_1524 : decode cL_law 1524 = .ok (.iload 4, 2) := by decide +kernel
theorem dL_law_1526 : decode cL_law 1526 = .ok (.iconst 1, 1) := by decide +kernel
theorem dL_law_1527 : decode cL_law 1527 = .ok (.iadd, 1) := by decide +kernel
theorem dL_law_1528 : decode cL_law 1528 = .ok (.iaload, 1) := by decide +kernel
theorem dL_law_1529 : decode cL_law 1529 = .ok (.aload_n 0, 1) := by decide +kernel
theorem dL_law_1530 : decode cL_law 1530 = .ok (.iload 4, 2) := by decide +kernel
theorem dL_law_1532 : decode cL_law 1532 = .ok (.iconst 2, 1) := by decide +kernel
theorem dL_law_1533 : decode cL_law 1533 = .ok (.iadd, 1) := by decide +kernel
theorem dL_law_1534 : decode cL_law 1534 = .ok (.iaload, 1) := by decide +kernel
theorem dL_law_1535 : decode cL_law 1535 = .ok (.aload_n 0, 1) := by decide +kernel
theorem dL_law_1536 : decode cL_law 1536 = .ok (.iload 4, 2) := by decide +kernel
theorem dL_law_1538 : decode cL_law 1538 = .ok (.iconst 3, 1) := by decide +kernel
theorem dL_law_1539 : decode cL_law 1539 = .ok (.iadd, 1) := by decide +kernel
theorem dL_law_1540 : decode cL_law 1540 = .ok (.iaload, 1) := by decide +kernel
theorem dL_law_1541 : decode cL_law 1541 = .ok (.invokevirtual 168, 3) := by decide +kernel
theorem dL_law_1544 : decode cL_law 1544 = .ok (.if_icmp .eq 244, 3) := by decide +kernel
theorem dL_law_1547 : decode cL_law 1547 = .ok (.iconst 0, 1) := by decide +kernel
theorem dL_law_1548 : decode cL_law 1548 = .ok (.ireturn, 1) := by decide +kernel
theorem dL_law_1549 : decode cL_law 1549 = .ok (.aload_n 1, 1) := by decide +kernel
theorem dL_law_1550 : decode cL_law 1550 = .ok (.aload_n 0, 1) := by decide +kernel
theorem dL_law_1551 : decode cL_law 1551 = .ok (.iload 4, 2) := by decide +kernel
theorem dL_law_1553 : decode cL_law 1553 = .ok (.iconst 1, 1) := by decide +kernel
theorem dL_law_1554 : decode cL_law 1554 = .ok (.iadd, 1) := by decide +kernel
theorem dL_law_1555 : decode cL_law 1555 = .ok (.iaload, 1) := by decide +kernel
theorem dL_law_1556 : decode cL_law 1556 = .ok (.aload_n 0, 1) := by decide +kernel
theorem dL_law_1557 : decode cL_law 1557 = .ok (.iload 4, 2) := by decide +kernel
theorem dL_law_1559 : decode cL_law 1559 = .ok (.iconst 2, 1) := by decide +kernel
theorem dL_law_1560 : decode cL_law 1560 = .ok (.iadd, 1) := by decide +kernel
theorem dL_law_1561 : decode cL_law 1561 = .ok (.iaload, 1) := by decide +kernel
theorem dL_law_1562 : decode cL_law 1562 = .ok (.aload_n 0, 1) := by decide +kernel
theorem dL_law_1563 : decode cL_law 1563 = .ok (.iload 4, 2) := by decide +kernel
theorem dL_law_1565 : decode cL_law 1565 = .ok (.iconst 3, 1) := by decide +kernel
theorem dL_law_1566 : decode cL_law 1566 = .ok (.iadd, 1) := by decide +kernel
theorem dL_law_1567 : decode cL_law 1567 = .ok (.iaload, 1) := by decide +kernel
theorem dL_law_1568 : decode cL_law 1568 = .ok (.invokevirtual 169, 3) := by decide +kernel
theorem dL_law_1571 : decode cL_law 1571 = .ok (.aload_n 2, 1) := by decide +kernel
theorem dL_law_1572 : decode cL_law 1572 = .ok (.aload_n 0, 1) := by decide +kernel
theorem dL_law_1573 : decode cL_law 1573 = .ok (.iload 4, 2) := by decide +kernel
theorem dL_law_1575 : decode cL_law 1575 = .ok (.iconst 1, 1) := by decide +kernel
theorem dL_law_1576 : decode cL_law 1576 = .ok (.iadd, 1) := by decide +kernel
theorem dL_law_1577 : decode cL_law 1577 = .ok (.iaload, 1) := by decide +kernel
theorem dL_law_1578 : decode cL_law 1578 = .ok (.aload_n 0, 1) := by decide +kernel
theorem dL_law_1579 : decode cL_law 1579 = .ok (.iload 4, 2) := by decide +kernel
theorem dL_law_1581 : decode cL_law 1581 = .ok (.iconst 2, 1) := by decide +kernel
theorem dL_law_1582 : decode cL_law 1582 = .ok (.iadd, 1) := by decide +kernel
theorem dL_law_1583 : decode cL_law 1583 = .ok (.iaload, 1) := by decide +kernel
theorem dL_law_1584 : decode cL_law 1584 = .ok (.aload_n 0, 1) := by decide +kernel
theorem dL_law_1585 : decode cL_law 1585 = .ok (.iload 4, 2) := by decide +kernel
theorem dL_law_1587 : decode cL_law 1587 = .ok (.iconst 3, 1) := by decide +kernel
theorem dL_law_1588 : decode cL_law 1588 = .ok (.iadd, 1) := by decide +kernel
theorem dL_law_1589 : decode cL_law 1589 = .ok (.iaload, 1) := by decide +kernel
theorem dL_law_1590 : decode cL_law 1590 = .ok (.invokevirtual 172, 3) := by decide +kernel
theorem dL_law_1593 : decode cL_law 1593 = .ok (.if_icmp .eq 195, 3) := by decide +kernel
theorem dL_law_1596 : decode cL_law 1596 = .ok (.iconst 0, 1) := by decide +kernel
theorem dL_law_1597 : decode cL_law 1597 = .ok (.ireturn, 1) := by decide +kernel
theorem dL_law_1598 : decode cL_law 1598 = .ok (.aload_n 1, 1) := by decide +kernel
theorem dL_law_1599 : decode cL_law 1599 = .ok (.aload_n 0, 1) := by decide +kernel
theorem dL_law_1600 : decode cL_law 1600 = .ok (.iload 4, 2) := by decide +kernel
theorem dL_law_1602 : decode cL_law 1602 = .ok (.iconst 1, 1) := by decide +kernel
theorem dL_law_1603 : decode cL_law 1603 = .ok (.iadd, 1) := by decide +kernel
theorem dL_law_1604 : decode cL_law 1604 = .ok (.iaload, 1) := by decide +kernel
theorem dL_law_1605 : decode cL_law 1605 = .ok (.aload_n 0, 1) := by decide +kernel
theorem dL_law_1606 : decode cL_law 1606 = .ok (.iload 4, 2) := by decide +kernel
theorem dL_law_1608 : decode cL_law 1608 = .ok (.iconst 2, 1) := by decide +kernel
theorem dL_law_1609 : decode cL_law 1609 = .ok (.iadd, 1) := by decide +kernel
theorem dL_law_1610 : decode cL_law 1610 = .ok (.iaload, 1) := by decide +kernel
theorem dL_law_1611 : decode cL_law 1611 = .ok (.aload_n 3, 1) := by decide +kernel
theorem dL_law_1612 : decode cL_law 1612 = .ok (.invokestatic 173, 3) := by decide +kernel
theorem dL_law_1615 : decode cL_law 1615 = .ok (.istore 5, 2) := by decide +kernel
theorem dL_law_1617 : decode cL_law 1617 = .ok (.aload_n 2, 1) := by decide +kernel
theorem dL_law_1618 : decode cL_law 1618 = .ok (.aload_n 0, 1) := by decide +kernel
theorem dL_law_1619 : decode cL_law 1619 = .ok (.iload 4, 2) := by decide +kernel
theorem dL_law_1621 : decode cL_law 1621 = .ok (.iconst 1, 1) := by decide +kernel
theorem dL_law_1622 : decode cL_law 1622 = .ok (.iadd, 1) := by decide +kernel
theorem dL_law_1623 : decode cL_law 1623 = .ok (.iaload, 1) := by decide +kernel
theorem dL_law_1624 : decode cL_law 1624 = .ok (.aload_n 0, 1) := by decide +kernel
theorem dL_law_1625 : decode cL_law 1625 = .ok (.iload 4, 2) := by decide +kernel
theorem dL_law_1627 : decode cL_law 1627 = .ok (.iconst 2, 1) := by decide +kernel
theorem dL_law_1628 : decode cL_law 1628 = .ok (.iadd, 1) := by decide +kernel
theorem dL_law_1629 : decode cL_law 1629 = .ok (.iaload, 1) := by decide +kernel
theorem dL_law_1630 : decode cL_law 1630 = .ok (.invokevirtual 176, 3) := by decide +kernel
theorem dL_law_1633 : decode cL_law 1633 = .ok (.lstore 6, 2) := by decide +kernel
theorem dL_law_1635 : decode cL_law 1635 = .ok (.aload_n 2, 1) := by decide +kernel
theorem dL_law_1636 : decode cL_law 1636 = .ok (.invokevirtual 112, 3) := by decide +kernel
theorem dL_law_1639 : decode cL_law 1639 = .ok (.iload 5, 2) := by decide +kernel
theorem dL_law_1641 : decode cL_law 1641 = .ok (.if_icmp .eq 5, 3) := by decide +kernel
theorem dL_law_1644 : decode cL_law 1644 = .ok (.iconst 0, 1) := by decide +kernel
theorem dL_law_1645 : decode cL_law 1645 = .ok (.ireturn, 1) := by decide +kernel
theorem dL_law_1646 : decode cL_law 1646 = .ok (.iload 5, 2) := by decide +kernel
theorem dL_law_1648 : decode cL_law 1648 = .ok (.ifCond .ne 14, 3) := by decide +kernel
theorem dL_law_1651 : decode cL_law 1651 = .ok (.aload_n 3, 1) := by decide +kernel
theorem dL_law_1652 : decode cL_law 1652 = .ok (.iconst 0, 1) := by decide +kernel
theorem dL_law_1653 : decode cL_law 1653 = .ok (.laload, 1) := by decide +kernel
theorem dL_law_1654 : decode cL_law 1654 = .ok (.lload 6, 2) := by decide +kernel
theorem dL_law_1656 : decode cL_law 1656 = .ok (.lcmp, 1) := by decide +kernel
theorem dL_law_1657 : decode cL_law 1657 = .ok (.ifCond .eq 5, 3) := by decide +kernel
theorem dL_law_1660 : decode cL_law 1660 = .ok (.iconst 0, 1) := by decide +kernel
theorem dL_law_1661 : decode cL_law 1661 = .ok (.ireturn, 1) := by decide +kernel
theorem dL_law_1662 : decode cL_law 1662 = .ok (.goto 126, 3) := by decide +kernel
theorem dL_law_1665 : decode cL_law 1665 = .ok (.aload_n 1, 1) := by decide +kernel
theorem dL_law_1666 : decode cL_law 1666 = .ok (.aload_n 0, 1) := by decide +kernel
theorem dL_law_1667 : decode cL_law 1667 = .ok (.iload 4, 2) := by decide +kernel
theorem dL_law_1669 : decode cL_law 1669 = .ok (.iconst 1, 1) := by decide +kernel
theorem dL_law_1670 : decode cL_law 1670 = .ok (.iadd, 1) := by decide +kernel
theorem dL_law_1671 : decode cL_law 1671 = .ok (.iaload, 1) := by decide +kernel
theorem dL_law_1672 : decode cL_law 1672 = .ok (.aload_n 0, 1) := by decide +kernel
theorem dL_law_1673 : decode cL_law 1673 = .ok (.iload 4, 2) := by decide +kernel
theorem dL_law_1675 : decode cL_law 1675 = .ok (.iconst 2, 1) := by decide +kernel
theorem dL_law_1676 : decode cL_law 1676 = .ok (.iadd, 1) := by decide +kernel
theorem dL_law_1677 : decode cL_law 1677 = .ok (.iaload, 1) := by decide +kernel
theorem dL_law_1678 : decode cL_law 1678 = .ok (.aload_n 0, 1) := by decide +kernel
theorem dL_law_1679 : decode cL_law 1679 = .ok (.iload 4, 2) := by decide +kernel
theorem dL_law_1681 : decode cL_law 1681 = .ok (.iconst 3, 1) := by decide +kernel
theorem dL_law_1682 : decode cL_law 1682 = .ok (.iadd, 1) := by decide +kernel
theorem dL_law_1683 : decode cL_law 1683 = .ok (.iaload, 1) := by decide +kernel
theorem dL_law_1684 : decode cL_law 1684 = .ok (.aload_n 0, 1) := by decide +kernel
theorem dL_law_1685 : decode cL_law 1685 = .ok (.iload 4, 2) := by decide +kernel
theorem dL_law_1687 : decode cL_law 1687 = .ok (.iconst 4, 1) := by decide +kernel
theorem dL_law_1688 : decode cL_law 1688 = .ok (.iadd, 1) := by decide +kernel
theorem dL_law_1689 : decode cL_law 1689 = .ok (.iaload, 1) := by decide +kernel
theorem dL_law_1690 : decode cL_law 1690 = .ok (.aload_n 0, 1) := by decide +kernel
theorem dL_law_1691 : decode cL_law 1691 = .ok (.iload 4, 2) := by decide +kernel
theorem dL_law_1693 : decode cL_law 1693 = .ok (.iconst 5, 1) := by decide +kernel
theorem dL_law_1694 : decode cL_law 1694 = .ok (.iadd, 1) := by decide +kernel
theorem dL_law_1695 : decode cL_law 1695 = .ok (.iaload, 1) := by decide +kernel
theorem dL_law_1696 : decode cL_law 1696 = .ok (.invokevirtual 177, 3) := by decide +kernel
theorem dL_law_1699 : decode cL_law 1699 = .ok (.aload_n 2, 1) := by decide +kernel
theorem dL_law_1700 : decode cL_law 1700 = .ok (.aload_n 0, 1) := by decide +kernel
theorem dL_law_1701 : decode cL_law 1701 = .ok (.iload 4, 2) := by decide +kernel
theorem dL_law_1703 : decode cL_law 1703 = .ok (.iconst 1, 1) := by decide +kernel
theorem dL_law_1704 : decode cL_law 1704 = .ok (.iadd, 1) := by decide +kernel
theorem dL_law_1705 : decode cL_law 1705 = .ok (.iaload, 1) := by decide +kernel
theorem dL_law_1706 : decode cL_law 1706 = .ok (.aload_n 0, 1) := by decide +kernel
theorem dL_law_1707 : decode cL_law 1707 = .ok (.iload 4, 2) := by decide +kernel
theorem dL_law_1709 : decode cL_law 1709 = .ok (.iconst 2, 1) := by decide +kernel
theorem dL_law_1710 : decode cL_law 1710 = .ok (.iadd, 1) := by decide +kernel
theorem dL_law_1711 : decode cL_law 1711 = .ok (.iaload, 1) := by decide +kernel
theorem dL_law_1712 : decode cL_law 1712 = .ok (.aload_n 0, 1) := by decide +kernel
theorem dL_law_1713 : decode cL_law 1713 = .ok (.iload 4, 2) := by decide +kernel
theorem dL_law_1715 : decode cL_law 1715 = .ok (.iconst 3, 1) := by decide +kernel
theorem dL_law_1716 : decode cL_law 1716 = .ok (.iadd, 1) := by decide +kernel
theorem dL_law_1717 : decode cL_law 1717 = .ok (.iaload, 1) := by decide +kernel
theorem dL_law_1718 : decode cL_law 1718 = .ok (.aload_n 0, 1) := by decide +kernel
theorem dL_law_1719 : decode cL_law 1719 = .ok (.iload 4, 2) := by decide +kernel
theorem dL_law_1721 : decode cL_law 1721 = .ok (.iconst 4, 1) := by decide +kernel
theorem dL_law_1722 : decode cL_law 1722 = .ok (.iadd, 1) := by decide +kernel
theorem dL_law_1723 : decode cL_law 1723 = .ok (.iaload, 1) := by decide +kernel
theorem dL_law_1724 : decode cL_law 1724 = .ok (.aload_n 0, 1) := by decide +kernel
theorem dL_law_1725 : decode cL_law 1725 = .ok (.iload 4, 2) := by decide +kernel
theorem dL_law_1727 : decode cL_law 1727 = .ok (.iconst 5, 1) := by decide +kernel
theorem dL_law_1728 : decode cL_law 1728 = .ok (.iadd, 1) := by decide +kernel
theorem dL_law_1729 : decode cL_law 1729 = .ok (.iaload, 1) := by decide +kernel
theorem dL_law_1730 : decode cL_law 1730 = .ok (.invokevirtual 181, 3) := by decide +kernel
theorem dL_law_1733 : decode cL_law 1733 = .ok (.if_icmp .eq 55, 3) := by decide +kernel
theorem dL_law_1736 : decode cL_law 1736 = .ok (.iconst 0, 1) := by decide +kernel
theorem dL_law_1737 : decode cL_law 1737 = .ok (.ireturn, 1) := by decide +kernel
theorem dL_law_1738 : decode cL_law 1738 = .ok (.aload_n 1, 1) := by decide +kernel
theorem dL_law_1739 : decode cL_law 1739 = .ok (.aload_n 0, 1) := by decide +kernel
theorem dL_law_1740 : decode cL_law 1740 = .ok (.iload 4, 2) := by decide +kernel
theorem dL_law_1742 : decode cL_law 1742 = .ok (.iconst 1, 1) := by decide +kernel
theorem dL_law_1743 : decode cL_law 1743 = .ok (.iadd, 1) := by decide +kernel
theorem dL_law_1744 : decode cL_law 1744 = .ok (.iaload, 1) := by decide +kernel
theorem dL_law_1745 : decode cL_law 1745 = .ok (.invokevirtual 182, 3) := by decide +kernel
theorem dL_law_1748 : decode cL_law 1748 = .ok (.aload_n 2, 1) := by decide +kernel
theorem dL_law_1749 : decode cL_law 1749 = .ok (.aload_n 0, 1) := by decide +kernel
theorem dL_law_1750 : decode cL_law 1750 = .ok (.iload 4, 2) := by decide +kernel
theorem dL_law_1752 : decode cL_law 1752 = .ok (.iconst 1, 1) := by decide +kernel
theorem dL_law_1753 : decode cL_law 1753 = .ok (.iadd, 1) := by decide +kernel
theorem dL_law_1754 : decode cL_law 1754 = .ok (.iaload, 1) := by decide +kernel
theorem dL_law_1755 : decode cL_law 1755 = .ok (.invokevirtual 185, 3) := by decide +kernel
theorem dL_law_1758 : decode cL_law 1758 = .ok (.if_icmp .eq 30, 3) := by decide +kernel
theorem dL_law_1761 : decode cL_law 1761 = .ok (.iconst 0, 1) := by decide +kernel
theorem dL_law_1762 : decode cL_law 1762 = .ok (.ireturn, 1) := by decide +kernel
theorem dL_law_1763 : decode cL_law 1763 = .ok (.aload_n 1, 1) := by decide +kernel
theorem dL_law_1764 : decode cL_law 1764 = .ok (.aload_n 0, 1) := by decide +kernel
theorem dL_law_1765 : decode cL_law 1765 = .ok (.iload 4, 2) := by decide +kernel
theorem dL_law_1767 : decode cL_law 1767 = .ok (.iconst 1, 1) := by decide +kernel
theorem dL_law_1768 : decode cL_law 1768 = .ok (.iadd, 1) := by decide +kernel
theorem dL_law_1769 : decode cL_law 1769 = .ok (.iaload, 1) := by decide +kernel
theorem dL_law_1770 : decode cL_law 1770 = .ok (.invokevirtual 186, 3) := by decide +kernel
theorem dL_law_1773 : decode cL_law 1773 = .ok (.aload_n 2, 1) := by decide +kernel
theorem dL_law_1774 : decode cL_law 1774 = .ok (.aload_n 0, 1) := by decide +kernel
theorem dL_law_1775 : decode cL_law 1775 = .ok (.iload 4, 2) := by decide +kernel
theorem dL_law_1777 : decode cL_law 1777 = .ok (.iconst 1, 1) := by decide +kernel
theorem dL_law_1778 : decode cL_law 1778 = .ok (.iadd, 1) := by decide +kernel
theorem dL_law_1779 : decode cL_law 1779 = .ok (.iaload, 1) := by decide +kernel
theorem dL_law_1780 : decode cL_law 1780 = .ok (.invokevirtual 189, 3) := by decide +kernel
theorem dL_law_1783 : decode cL_law 1783 = .ok (.if_icmp .eq 5, 3) := by decide +kernel
theorem dL_law_1786 : decode cL_law 1786 = .ok (.iconst 0, 1) := by decide +kernel
theorem dL_law_1787 : decode cL_law 1787 = .ok (.ireturn, 1) := by decide +kernel
theorem dL_law_1788 : decode cL_law 1788 = .ok (.iinc 4 7, 3) := by decide +kernel
theorem dL_law_1791 : decode cL_law 1791 = .ok (.goto (-1768), 3) := by decide +kernel
theorem dL_law_1794 : decode cL_law 1794 = .ok (.iconst 1, 1) := by decide +kernel
theorem dL_law_1795 : decode cL_law 1795 = .ok (.ireturn, 1) := by decide +kernel
