theorem dX0_init_0 : decode cX0_init 0 = .ok (.aload_n 0, 1) := by decide +kernel
theorem dX0_init_1 : decode cX0_init 1 = .ok (.invokespecial 3, 3) := by decide +kernel
theorem dX0_init_4 : decode cX0_init 4 = .ok (.aload_n 0, 1) := by decide +kernel
theorem dX0_init_5 : decode cX0_init 5 = .ok (.sipush 400, 3) := by decide +kernel
theorem dX0_init_8 : decode cX0_init 8 = .ok (.newarray .int, 2) := by decide +kernel
theorem dX0_init_10 : decode cX0_init 10 = .ok (.putfield 9, 3) := by decide +kernel
theorem dX0_init_13 : decode cX0_init 13 = .ok (.return_, 1) := by decide +kernel
theorem dX0_begin_0 : decode cX0_begin 0 = .ok (.aload_n 0, 1) := by decide +kernel
theorem dX0_begin_1 : decode cX0_begin 1 = .ok (.iload_n 1, 1) := by decide +kernel
theorem dX0_begin_2 : decode cX0_begin 2 = .ok (.putfield 15, 3) := by decide +kernel
theorem dX0_begin_5 : decode cX0_begin 5 = .ok (.aload_n 0, 1) := by decide +kernel
theorem dX0_begin_6 : decode cX0_begin 6 = .ok (.iload_n 2, 1) := by decide +kernel
theorem dX0_begin_7 : decode cX0_begin 7 = .ok (.putfield 19, 3) := by decide +kernel
theorem dX0_begin_10 : decode cX0_begin 10 = .ok (.aload_n 0, 1) := by decide +kernel
theorem dX0_begin_11 : decode cX0_begin 11 = .ok (.iload_n 3, 1) := by decide +kernel
theorem dX0_begin_12 : decode cX0_begin 12 = .ok (.putfield 22, 3) := by decide +kernel
theorem dX0_begin_15 : decode cX0_begin 15 = .ok (.aload_n 0, 1) := by decide +kernel
theorem dX0_begin_16 : decode cX0_begin 16 = .ok (.iconst 0, 1) := by decide +kernel
theorem dX0_begin_17 : decode cX0_begin 17 = .ok (.putfield 25, 3) := by decide +kernel
theorem dX0_begin_20 : decode cX0_begin 20 = .ok (.aload_n 0, 1) := by decide +kernel
theorem dX0_begin_21 : decode cX0_begin 21 = .ok (.iconst 0, 1) := by decide +kernel
theorem dX0_begin_22 : decode cX0_begin 22 = .ok (.putfield 28, 3) := by decide +kernel
theorem dX0_begin_25 : decode cX0_begin 25 = .ok (.aload_n 0, 1) := by decide +kernel
theorem dX0_begin_26 : decode cX0_begin 26 = .ok (.iconst 0, 1) := by decide +kernel
theorem dX0_begin_27 : decode cX0_begin 27 = .ok (.putfield 32, 3) := by decide +kernel
theorem dX0_begin_30 : decode cX0_begin 30 = .ok (.aload_n 0, 1) := by decide +kernel
theorem dX0_begin_31 : decode cX0_begin 31 = .ok (.bipush (-4), 2) := by decide +kernel
theorem dX0_begin_33 : decode cX0_begin 33 = .ok (.putfield 35, 3) := by decide +kernel
theorem dX0_begin_36 : decode cX0_begin 36 = .ok (.aload_n 0, 1) := by decide +kernel
theorem dX0_begin_37 : decode cX0_begin 37 = .ok (.bipush (-4), 2) := by decide +kernel
theorem dX0_begin_39 : decode cX0_begin 39 = .ok (.putfield 38, 3) := by decide +kernel
theorem dX0_begin_42 : decode cX0_begin 42 = .ok (.aload_n 0, 1) := by decide +kernel
theorem dX0_begin_43 : decode cX0_begin 43 = .ok (.iconst 0, 1) := by decide +kernel
theorem dX0_begin_44 : decode cX0_begin 44 = .ok (.putfield 41, 3) := by decide +kernel
theorem dX0_begin_47 : decode cX0_begin 47 = .ok (.aload_n 0, 1) := by decide +kernel
theorem dX0_begin_48 : decode cX0_begin 48 = .ok (.iconst 0, 1) := by decide +kernel
theorem dX0_begin_49 : decode cX0_begin 49 = .ok (.putfield 44, 3) := by decide +kernel
theorem dX0_begin_52 : decode cX0_begin 52 = .ok (.aload_n 0, 1) := by decide +kernel
theorem dX0_begin_53 : decode cX0_begin 53 = .ok (.iconst 0, 1) := by decide +kernel
theorem dX0_begin_54 : decode cX0_begin 54 = .ok (.putfield 47, 3) := by decide +kernel
theorem dX0_begin_57 : decode cX0_begin 57 = .ok (.aload_n 0, 1) := by decide +kernel
theorem dX0_begin_58 : decode cX0_begin 58 = .ok (.getfield 9, 3) := by decide +kernel
theorem dX0_begin_61 : decode cX0_begin 61 = .ok (.bipush (-4), 2) := by decide +kernel
theorem dX0_begin_63 : decode cX0_begin 63 = .ok (.invokestatic 50, 3) := by decide +kernel
theorem dX0_begin_66 : decode cX0_begin 66 = .ok (.return_, 1) := by decide +kernel
theorem dX0_become_0 : decode cX0_become 0 = .ok (.aload_n 0, 1) := by decide +kernel
theorem dX0_become_1 : decode cX0_become 1 = .ok (.aload_n 1, 1) := by decide +kernel
theorem dX0_become_2 : decode cX0_become 2 = .ok (.getfield 15, 3) := by decide +kernel
theorem dX0_become_5 : decode cX0_become 5 = .ok (.putfield 15, 3) := by decide +kernel
theorem dX0_become_8 : decode cX0_become 8 = .ok (.aload_n 0, 1) := by decide +kernel
theorem dX0_become_9 : decode cX0_become 9 = .ok (.aload_n 1, 1) := by decide +kernel
theorem dX0_become_10 : decode cX0_become 10 = .ok (.getfield 19, 3) := by decide +kernel
theorem dX0_become_13 : decode cX0_become 13 = .ok (.putfield 19, 3) := by decide +kernel
theorem dX0_become_16 : decode cX0_become 16 = .ok (.aload_n 0, 1) := by decide +kernel
theorem dX0_become_17 : decode cX0_become 17 = .ok (.aload_n 1, 1) := by decide +kernel
theorem dX0_become_18 : decode cX0_become 18 = .ok (.getfield 22, 3) := by decide +kernel
theorem dX0_become_21 : decode cX0_become 21 = .ok (.putfield 22, 3) := by decide +kernel
theorem dX0_become_24 : decode cX0_become 24 = .ok (.aload_n 0, 1) := by decide +kernel
theorem dX0_become_25 : decode cX0_become 25 = .ok (.aload_n 1, 1) := by decide +kernel
theorem dX0_become_26 : decode cX0_become 26 = .ok (.getfield 25, 3) := by decide +kernel
theorem dX0_become_29 : decode cX0_become 29 = .ok (.putfield 25, 3) := by decide +kernel
theorem dX0_become_32 : decode cX0_become 32 = .ok (.aload_n 0, 1) := by decide +kernel
theorem dX0_become_33 : decode cX0_become 33 = .ok (.aload_n 1, 1) := by decide +kernel
theorem dX0_become_34 : decode cX0_become 34 = .ok (.getfield 28, 3) := by decide +kernel
theorem dX0_become_37 : decode cX0_become 37 = .ok (.putfield 28, 3) := by decide +kernel
theorem dX0_become_40 : decode cX0_become 40 = .ok (.aload_n 0, 1) := by decide +kernel
theorem dX0_become_41 : decode cX0_become 41 = .ok (.aload_n 1, 1) := by decide +kernel
theorem dX0_become_42 : decode cX0_become 42 = .ok (.getfield 32, 3) := by decide +kernel
theorem dX0_become_45 : decode cX0_become 45 = .ok (.putfield 32, 3) := by decide +kernel
theorem dX0_become_48 : decode cX0_become 48 = .ok (.aload_n 0, 1) := by decide +kernel
theorem dX0_become_49 : decode cX0_become 49 = .ok (.aload_n 1, 1) := by decide +kernel
theorem dX0_become_50 : decode cX0_become 50 = .ok (.getfield 35, 3) := by decide +kernel
theorem dX0_become_53 : decode cX0_become 53 = .ok (.putfield 35, 3) := by decide +kernel
theorem dX0_become_56 : decode cX0_become 56 = .ok (.aload_n 0, 1) := by decide +kernel
theorem dX0_become_57 : decode cX0_become 57 = .ok (.aload_n 1, 1) := by decide +kernel
theorem dX0_become_58 : decode cX0_become 58 = .ok (.getfield 38, 3) := by decide +kernel
theorem dX0_become_61 : decode cX0_become 61 = .ok (.putfield 38, 3) := by decide +kernel
theorem dX0_become_64 : decode cX0_become 64 = .ok (.aload_n 0, 1) := by decide +kernel
theorem dX0_become_65 : decode cX0_become 65 = .ok (.aload_n 1, 1) := by decide +kernel
theorem dX0_become_66 : decode cX0_become 66 = .ok (.getfield 41, 3) := by decide +kernel
theorem dX0_become_69 : decode cX0_become 69 = .ok (.putfield 41, 3) := by decide +kernel
theorem dX0_become_72 : decode cX0_become 72 = .ok (.aload_n 0, 1) := by decide +kernel
theorem dX0_become_73 : decode cX0_become 73 = .ok (.aload_n 1, 1) := by decide +kernel
theorem dX0_become_74 : decode cX0_become 74 = .ok (.getfield 44, 3) := by decide +kernel
theorem dX0_become_77 : decode cX0_become 77 = .ok (.putfield 44, 3) := by decide +kernel
theorem dX0_become_80 : decode cX0_become 80 = .ok (.aload_n 0, 1) := by decide +kernel
theorem dX0_become_81 : decode cX0_become 81 = .ok (.aload_n 1, 1) := by decide +kernel
theorem dX0_become_82 : decode cX0_become 82 = .ok (.getfield 47, 3) := by decide +kernel
theorem dX0_become_85 : decode cX0_become 85 = .ok (.putfield 47, 3) := by decide +kernel
theorem dX0_become_88 : decode cX0_become 88 = .ok (.aload_n 1, 1) := by decide +kernel
theorem dX0_become_89 : decode cX0_become 89 = .ok (.getfield 9, 3) := by decide +kernel
theorem dX0_become_92 : decode cX0_become 92 = .ok (.aload_n 0, 1) := by decide +kernel
theorem dX0_become_93 : decode cX0_become 93 = .ok (.getfield 9, 3) := by decide +kernel
theorem dX0_become_96 : decode cX0_become 96 = .ok (.invokestatic 56, 3) := by decide +kernel
theorem dX0_become_99 : decode cX0_become 99 = .ok (.return_, 1) := by decide +kernel
theorem dX0_deepest_0 : decode cX0_deepest 0 = .ok (.getstatic 60, 3) := by decide +kernel
theorem dX0_deepest_3 : decode cX0_deepest 3 = .ok (.aload_n 0, 1) := by decide +kernel
theorem dX0_deepest_4 : decode cX0_deepest 4 = .ok (.getfield 15, 3) := by decide +kernel
theorem dX0_deepest_7 : decode cX0_deepest 7 = .ok (.iaload, 1) := by decide +kernel
theorem dX0_deepest_8 : decode cX0_deepest 8 = .ok (.ireturn, 1) := by decide +kernel
theorem dX0_reach_0 : decode cX0_reach 0 = .ok (.getstatic 63, 3) := by decide +kernel
theorem dX0_reach_3 : decode cX0_reach 3 = .ok (.aload_n 0, 1) := by decide +kernel
theorem dX0_reach_4 : decode cX0_reach 4 = .ok (.getfield 15, 3) := by decide +kernel
theorem dX0_reach_7 : decode cX0_reach 7 = .ok (.iaload, 1) := by decide +kernel
theorem dX0_reach_8 : decode cX0_reach 8 = .ok (.ireturn, 1) := by decide +kernel
theorem dX0_costTo_0 : decode cX0_costTo 0 = .ok (.aload_n 0, 1) := by decide +kernel
theorem dX0_costTo_1 : decode cX0_costTo 1 = .ok (.getfield 15, 3) := by decide +kernel
theorem dX0_costTo_4 : decode cX0_costTo 4 = .ok (.iload_n 1, 1) := by decide +kernel
theorem dX0_costTo_5 : decode cX0_costTo 5 = .ok (.invokestatic 66, 3) := by decide +kernel
theorem dX0_costTo_8 : decode cX0_costTo 8 = .ok (.aload_n 0, 1) := by decide +kernel
theorem dX0_costTo_9 : decode cX0_costTo 9 = .ok (.getfield 28, 3) := by decide +kernel
theorem dX0_costTo_12 : decode cX0_costTo 12 = .ok (.ifCond .eq 7, 3) := by decide +kernel
theorem dX0_costTo_15 : decode cX0_costTo 15 = .ok (.iconst 3, 1) := by decide +kernel
theorem dX0_costTo_16 : decode cX0_costTo 16 = .ok (.goto 4, 3) := by decide +kernel
theorem dX0_costTo_19 : decode cX0_costTo 19 = .ok (.iconst 0, 1) := by decide +kernel
theorem dX0_costTo_20 : decode cX0_costTo 20 = .ok (.iadd, 1) := by decide +kernel
theorem dX0_costTo_21 : decode cX0_costTo 21 = .ok (.ireturn, 1) := by decide +kernel
theorem dX0_mayDive_0 : decode cX0_mayDive 0 = .ok (.aload_n 0, 1) := by decide +kernel
theorem dX0_mayDive_1 : decode cX0_mayDive 1 = .ok (.invokevirtual 70, 3) := by decide +kernel
theorem dX0_mayDive_4 : decode cX0_mayDive 4 = .ok (.istore 4, 2) := by decide +kernel
theorem dX0_mayDive_6 : decode cX0_mayDive 6 = .ok (.iload_n 1, 1) := by decide +kernel
theorem dX0_mayDive_7 : decode cX0_mayDive 7 = .ok (.ifCond .lt 55, 3) := by decide +kernel
theorem dX0_mayDive_10 : decode cX0_mayDive 10 = .ok (.iload_n 1, 1) := by decide +kernel
theorem dX0_mayDive_11 : decode cX0_mayDive 11 = .ok (.aload_n 0, 1) := by decide +kernel
theorem dX0_mayDive_12 : decode cX0_mayDive 12 = .ok (.invokevirtual 74, 3) := by decide +kernel
theorem dX0_mayDive_15 : decode cX0_mayDive 15 = .ok (.if_icmp .gt 47, 3) := by decide +kernel
theorem dX0_mayDive_18 : decode cX0_mayDive 18 = .ok (.iload_n 2, 1) := by decide +kernel
theorem dX0_mayDive_19 : decode cX0_mayDive 19 = .ok (.iload 4, 2) := by decide +kernel
theorem dX0_mayDive_21 : decode cX0_mayDive 21 = .ok (.ineg, 1) := by decide +kernel
theorem dX0_mayDive_22 : decode cX0_mayDive 22 = .ok (.if_icmp .lt 40, 3) := by decide +kernel
theorem dX0_mayDive_25 : decode cX0_mayDive 25 = .ok (.iload_n 2, 1) := by decide +kernel
theorem dX0_mayDive_26 : decode cX0_mayDive 26 = .ok (.iload 4, 2) := by decide +kernel
theorem dX0_mayDive_28 : decode cX0_mayDive 28 = .ok (.if_icmp .gt 34, 3) := by decide +kernel
theorem dX0_mayDive_31 : decode cX0_mayDive 31 = .ok (.iload_n 3, 1) := by decide +kernel
theorem dX0_mayDive_32 : decode cX0_mayDive 32 = .ok (.iload 4, 2) := by decide +kernel
theorem dX0_mayDive_34 : decode cX0_mayDive 34 = .ok (.ineg, 1) := by decide +kernel
theorem dX0_mayDive_35 : decode cX0_mayDive 35 = .ok (.if_icmp .lt 27, 3) := by decide +kernel
theorem dX0_mayDive_38 : decode cX0_mayDive 38 = .ok (.iload_n 3, 1) := by decide +kernel
theorem dX0_mayDive_39 : decode cX0_mayDive 39 = .ok (.iload 4, 2) := by decide +kernel
theorem dX0_mayDive_41 : decode cX0_mayDive 41 = .ok (.if_icmp .gt 21, 3) := by decide +kernel
theorem dX0_mayDive_44 : decode cX0_mayDive 44 = .ok (.iload_n 2, 1) := by decide +kernel
theorem dX0_mayDive_45 : decode cX0_mayDive 45 = .ok (.invokestatic 77, 3) := by decide +kernel
theorem dX0_mayDive_48 : decode cX0_mayDive 48 = .ok (.iload_n 3, 1) := by decide +kernel
theorem dX0_mayDive_49 : decode cX0_mayDive 49 = .ok (.invokestatic 77, 3) := by decide +kernel
theorem dX0_mayDive_52 : decode cX0_mayDive 52 = .ok (.iadd, 1) := by decide +kernel
theorem dX0_mayDive_53 : decode cX0_mayDive 53 = .ok (.iload 4, 2) := by decide +kernel
theorem dX0_mayDive_55 : decode cX0_mayDive 55 = .ok (.if_icmp .gt 7, 3) := by decide +kernel
theorem dX0_mayDive_58 : decode cX0_mayDive 58 = .ok (.iconst 1, 1) := by decide +kernel
theorem dX0_mayDive_59 : decode cX0_mayDive 59 = .ok (.goto 4, 3) := by decide +kernel
theorem dX0_mayDive_62 : decode cX0_mayDive 62 = .ok (.iconst 0, 1) := by decide +kernel
theorem dX0_mayDive_63 : decode cX0_mayDive 63 = .ok (.ireturn, 1) := by decide +kernel
theorem dX0_divesLeft_0 : decode cX0_divesLeft 0 = .ok (.aload_n 0, 1) := by decide +kernel
theorem dX0_divesLeft_1 : decode cX0_divesLeft 1 = .ok (.iconst 1, 1) := by decide +kernel
theorem dX0_divesLeft_2 : decode cX0_divesLeft 2 = .ok (.aload_n 0, 1) := by decide +kernel
theorem dX0_divesLeft_3 : decode cX0_divesLeft 3 = .ok (.invokevirtual 74, 3) := by decide +kernel
theorem dX0_divesLeft_6 : decode cX0_divesLeft 6 = .ok (.invokestatic 83, 3) := by decide +kernel
theorem dX0_divesLeft_9 : decode cX0_divesLeft 9 = .ok (.invokevirtual 86, 3) := by decide +kernel
theorem dX0_divesLeft_12 : decode cX0_divesLeft 12 = .ok (.istore_n 1, 1) := by decide +kernel
theorem dX0_divesLeft_13 : decode cX0_divesLeft 13 = .ok (.iload_n 1, 1) := by decide +kernel
theorem dX0_divesLeft_14 : decode cX0_divesLeft 14 = .ok (.ifCond .le 12, 3) := by decide +kernel
theorem dX0_divesLeft_17 : decode cX0_divesLeft 17 = .ok (.aload_n 0, 1) := by decide +kernel
theorem dX0_divesLeft_18 : decode cX0_divesLeft 18 = .ok (.getfield 22, 3) := by decide +kernel
theorem dX0_divesLeft_21 : decode cX0_divesLeft 21 = .ok (.iload_n 1, 1) := by decide +kernel
theorem dX0_divesLeft_22 : decode cX0_divesLeft 22 = .ok (.idiv, 1) := by decide +kernel
theorem dX0_divesLeft_23 : decode cX0_divesLeft 23 = .ok (.goto 4, 3) := by decide +kernel
theorem dX0_divesLeft_26 : decode cX0_divesLeft 26 = .ok (.iconst 0, 1) := by decide +kernel
theorem dX0_divesLeft_27 : decode cX0_divesLeft 27 = .ok (.ireturn, 1) := by decide +kernel
theorem dX0_fixBy_0 : decode cX0_fixBy 0 = .ok (.iload_n 1, 1) := by decide +kernel
theorem dX0_fixBy_1 : decode cX0_fixBy 1 = .ok (.sipush 399, 3) := by decide +kernel
theorem dX0_fixBy_4 : decode cX0_fixBy 4 = .ok (.invokestatic 83, 3) := by decide +kernel
theorem dX0_fixBy_7 : decode cX0_fixBy 7 = .ok (.istore_n 2, 1) := by decide +kernel
theorem dX0_fixBy_8 : decode cX0_fixBy 8 = .ok (.iload_n 2, 1) := by decide +kernel
theorem dX0_fixBy_9 : decode cX0_fixBy 9 = .ok (.ifCond .lt 27, 3) := by decide +kernel
theorem dX0_fixBy_12 : decode cX0_fixBy 12 = .ok (.aload_n 0, 1) := by decide +kernel
theorem dX0_fixBy_13 : decode cX0_fixBy 13 = .ok (.getfield 9, 3) := by decide +kernel
theorem dX0_fixBy_16 : decode cX0_fixBy 16 = .ok (.iload_n 2, 1) := by decide +kernel
theorem dX0_fixBy_17 : decode cX0_fixBy 17 = .ok (.iaload, 1) := by decide +kernel
theorem dX0_fixBy_18 : decode cX0_fixBy 18 = .ok (.bipush (-4), 2) := by decide +kernel
theorem dX0_fixBy_20 : decode cX0_fixBy 20 = .ok (.if_icmp .eq 10, 3) := by decide +kernel
theorem dX0_fixBy_23 : decode cX0_fixBy 23 = .ok (.aload_n 0, 1) := by decide +kernel
theorem dX0_fixBy_24 : decode cX0_fixBy 24 = .ok (.getfield 9, 3) := by decide +kernel
theorem dX0_fixBy_27 : decode cX0_fixBy 27 = .ok (.iload_n 2, 1) := by decide +kernel
theorem dX0_fixBy_28 : decode cX0_fixBy 28 = .ok (.iaload, 1) := by decide +kernel
theorem dX0_fixBy_29 : decode cX0_fixBy 29 = .ok (.ireturn, 1) := by decide +kernel
theorem dX0_fixBy_30 : decode cX0_fixBy 30 = .ok (.iinc 2 (-1), 3) := by decide +kernel
theorem dX0_fixBy_33 : decode cX0_fixBy 33 = .ok (.goto (-25), 3) := by decide +kernel
theorem dX0_fixBy_36 : decode cX0_fixBy 36 = .ok (.bipush (-4), 2) := by decide +kernel
theorem dX0_fixBy_38 : decode cX0_fixBy 38 = .ok (.ireturn, 1) := by decide +kernel
theorem dX1_init_0 : decode cX1_init 0 = .ok (.aload_n 0, 1) := by decide +kernel
theorem dX1_init_1 : decode cX1_init 1 = .ok (.invokespecial 3, 3) := by decide +kernel
theorem dX1_init_4 : decode cX1_init 4 = .ok (.aload_n 0, 1) := by decide +kernel
theorem dX1_init_5 : decode cX1_init 5 = .ok (.iconst 0, 1) := by decide +kernel
theorem dX1_init_6 : decode cX1_init 6 = .ok (.putfield 9, 3) := by decide +kernel
theorem dX1_init_9 : decode cX1_init 9 = .ok (.aload_n 0, 1) := by decide +kernel
theorem dX1_init_10 : decode cX1_init 10 = .ok (.bipush 60, 2) := by decide +kernel
theorem dX1_init_12 : decode cX1_init 12 = .ok (.newarray .int, 2) := by decide +kernel
theorem dX1_init_14 : decode cX1_init 14 = .ok (.putfield 15, 3) := by decide +kernel
theorem dX1_init_17 : decode cX1_init 17 = .ok (.aload_n 0, 1) := by decide +kernel
theorem dX1_init_18 : decode cX1_init 18 = .ok (.bipush 60, 2) := by decide +kernel
theorem dX1_init_20 : decode cX1_init 20 = .ok (.newarray .int, 2) := by decide +kernel
theorem dX1_init_22 : decode cX1_init 22 = .ok (.putfield 19, 3) := by decide +kernel
theorem dX1_init_25 : decode cX1_init 25 = .ok (.aload_n 0, 1) := by decide +kernel
theorem dX1_init_26 : decode cX1_init 26 = .ok (.bipush 60, 2) := by decide +kernel
theorem dX1_init_28 : decode cX1_init 28 = .ok (.newarray .int, 2) := by decide +kernel
theorem dX1_init_30 : decode cX1_init 30 = .ok (.putfield 22, 3) := by decide +kernel
theorem dX1_init_33 : decode cX1_init 33 = .ok (.aload_n 0, 1) := by decide +kernel
theorem dX1_init_34 : decode cX1_init 34 = .ok (.bipush 60, 2) := by decide +kernel
theorem dX1_init_36 : decode cX1_init 36 = .ok (.newarray .int, 2) := by decide +kernel
theorem dX1_init_38 : decode cX1_init 38 = .ok (.putfield 25, 3) := by decide +kernel
theorem dX1_init_41 : decode cX1_init 41 = .ok (.return_, 1) := by decide +kernel
theorem dX1_become_0 : decode cX1_become 0 = .ok (.aload_n 0, 1) := by decide +kernel
theorem dX1_become_1 : decode cX1_become 1 = .ok (.aload_n 1, 1) := by decide +kernel
theorem dX1_become_2 : decode cX1_become 2 = .ok (.getfield 9, 3) := by decide +kernel
theorem dX1_become_5 : decode cX1_become 5 = .ok (.putfield 9, 3) := by decide +kernel
theorem dX1_become_8 : decode cX1_become 8 = .ok (.aload_n 1, 1) := by decide +kernel
theorem dX1_become_9 : decode cX1_become 9 = .ok (.getfield 15, 3) := by decide +kernel
theorem dX1_become_12 : decode cX1_become 12 = .ok (.aload_n 0, 1) := by decide +kernel
theorem dX1_become_13 : decode cX1_become 13 = .ok (.getfield 15, 3) := by decide +kernel
theorem dX1_become_16 : decode cX1_become 16 = .ok (.invokestatic 28, 3) := by decide +kernel
theorem dX1_become_19 : decode cX1_become 19 = .ok (.aload_n 1, 1) := by decide +kernel
theorem dX1_become_20 : decode cX1_become 20 = .ok (.getfield 19, 3) := by decide +kernel
theorem dX1_become_23 : decode cX1_become 23 = .ok (.aload_n 0, 1) := by decide +kernel
theorem dX1_become_24 : decode cX1_become 24 = .ok (.getfield 19, 3) := by decide +kernel
theorem dX1_become_27 : decode cX1_become 27 = .ok (.invokestatic 28, 3) := by decide +kernel
theorem dX1_become_30 : decode cX1_become 30 = .ok (.aload_n 1, 1) := by decide +kernel
theorem dX1_become_31 : decode cX1_become 31 = .ok (.getfield 22, 3) := by decide +kernel
theorem dX1_become_34 : decode cX1_become 34 = .ok (.aload_n 0, 1) := by decide +kernel
theorem dX1_become_35 : decode cX1_become 35 = .ok (.getfield 22, 3) := by decide +kernel
theorem dX1_become_38 : decode cX1_become 38 = .ok (.invokestatic 28, 3) := by decide +kernel
theorem dX1_become_41 : decode cX1_become 41 = .ok (.aload_n 1, 1) := by decide +kernel
theorem dX1_become_42 : decode cX1_become 42 = .ok (.getfield 25, 3) := by decide +kernel
theorem dX1_become_45 : decode cX1_become 45 = .ok (.aload_n 0, 1) := by decide +kernel
theorem dX1_become_46 : decode cX1_become 46 = .ok (.getfield 25, 3) := by decide +kernel
theorem dX1_become_49 : decode cX1_become 49 = .ok (.invokestatic 28, 3) := by decide +kernel
theorem dX1_become_52 : decode cX1_become 52 = .ok (.return_, 1) := by decide +kernel
theorem dX1_send_0 : decode cX1_send 0 = .ok (.aload_n 0, 1) := by decide +kernel
theorem dX1_send_1 : decode cX1_send 1 = .ok (.getfield 15, 3) := by decide +kernel
theorem dX1_send_4 : decode cX1_send 4 = .ok (.aload_n 0, 1) := by decide +kernel
theorem dX1_send_5 : decode cX1_send 5 = .ok (.getfield 9, 3) := by decide +kernel
theorem dX1_send_8 : decode cX1_send 8 = .ok (.iload_n 1, 1) := by decide +kernel
theorem dX1_send_9 : decode cX1_send 9 = .ok (.iastore, 1) := by decide +kernel
theorem dX1_send_10 : decode cX1_send 10 = .ok (.aload_n 0, 1) := by decide +kernel
theorem dX1_send_11 : decode cX1_send 11 = .ok (.getfield 19, 3) := by decide +kernel
theorem dX1_send_14 : decode cX1_send 14 = .ok (.aload_n 0, 1) := by decide +kernel
theorem dX1_send_15 : decode cX1_send 15 = .ok (.getfield 9, 3) := by decide +kernel
theorem dX1_send_18 : decode cX1_send 18 = .ok (.iload_n 2, 1) := by decide +kernel
theorem dX1_send_19 : decode cX1_send 19 = .ok (.iastore, 1) := by decide +kernel
theorem dX1_send_20 : decode cX1_send 20 = .ok (.aload_n 0, 1) := by decide +kernel
theorem dX1_send_21 : decode cX1_send 21 = .ok (.getfield 22, 3) := by decide +kernel
theorem dX1_send_24 : decode cX1_send 24 = .ok (.aload_n 0, 1) := by decide +kernel
theorem dX1_send_25 : decode cX1_send 25 = .ok (.getfield 9, 3) := by decide +kernel
theorem dX1_send_28 : decode cX1_send 28 = .ok (.iload_n 3, 1) := by decide +kernel
theorem dX1_send_29 : decode cX1_send 29 = .ok (.iastore, 1) := by decide +kernel
theorem dX1_send_30 : decode cX1_send 30 = .ok (.aload_n 0, 1) := by decide +kernel
theorem dX1_send_31 : decode cX1_send 31 = .ok (.getfield 25, 3) := by decide +kernel
theorem dX1_send_34 : decode cX1_send 34 = .ok (.aload_n 0, 1) := by decide +kernel
theorem dX1_send_35 : decode cX1_send 35 = .ok (.getfield 9, 3) := by decide +kernel
theorem dX1_send_38 : decode cX1_send 38 = .ok (.iconst 0, 1) := by decide +kernel
theorem dX1_send_39 : decode cX1_send 39 = .ok (.iastore, 1) := by decide +kernel
theorem dX1_send_40 : decode cX1_send 40 = .ok (.aload_n 0, 1) := by decide +kernel
theorem dX1_send_41 : decode cX1_send 41 = .ok (.dup, 1) := by decide +kernel
theorem dX1_send_42 : decode cX1_send 42 = .ok (.getfield 9, 3) := by decide +kernel
theorem dX1_send_45 : decode cX1_send 45 = .ok (.iconst 1, 1) := by decide +kernel
theorem dX1_send_46 : decode cX1_send 46 = .ok (.iadd, 1) := by decide +kernel
theorem dX1_send_47 : decode cX1_send 47 = .ok (.putfield 9, 3) := by decide +kernel
theorem dX1_send_50 : decode cX1_send 50 = .ok (.aload_n 0, 1) := by decide +kernel
theorem dX1_send_51 : decode cX1_send 51 = .ok (.getfield 9, 3) := by decide +kernel
theorem dX1_send_54 : decode cX1_send 54 = .ok (.ireturn, 1) := by decide +kernel
theorem dX1_unheardBy_0 : decode cX1_unheardBy 0 = .ok (.iconst 0, 1) := by decide +kernel
theorem dX1_unheardBy_1 : decode cX1_unheardBy 1 = .ok (.istore_n 2, 1) := by decide +kernel
theorem dX1_unheardBy_2 : decode cX1_unheardBy 2 = .ok (.iconst 0, 1) := by decide +kernel
theorem dX1_unheardBy_3 : decode cX1_unheardBy 3 = .ok (.istore_n 3, 1) := by decide +kernel
theorem dX1_unheardBy_4 : decode cX1_unheardBy 4 = .ok (.iload_n 3, 1) := by decide +kernel
theorem dX1_unheardBy_5 : decode cX1_unheardBy 5 = .ok (.aload_n 0, 1) := by decide +kernel
theorem dX1_unheardBy_6 : decode cX1_unheardBy 6 = .ok (.getfield 9, 3) := by decide +kernel
theorem dX1_unheardBy_9 : decode cX1_unheardBy 9 = .ok (.if_icmp .ge 31, 3) := by decide +kernel
theorem dX1_unheardBy_12 : decode cX1_unheardBy 12 = .ok (.aload_n 0, 1) := by decide +kernel
theorem dX1_unheardBy_13 : decode cX1_unheardBy 13 = .ok (.getfield 15, 3) := by decide +kernel
theorem dX1_unheardBy_16 : decode cX1_unheardBy 16 = .ok (.iload_n 3, 1) := by decide +kernel
theorem dX1_unheardBy_17 : decode cX1_unheardBy 17 = .ok (.iaload, 1) := by decide +kernel
theorem dX1_unheardBy_18 : decode cX1_unheardBy 18 = .ok (.iload_n 1, 1) := by decide +kernel
theorem dX1_unheardBy_19 : decode cX1_unheardBy 19 = .ok (.if_icmp .ne 15, 3) := by decide +kernel
theorem dX1_unheardBy_22 : decode cX1_unheardBy 22 = .ok (.aload_n 0, 1) := by decide +kernel
theorem dX1_unheardBy_23 : decode cX1_unheardBy 23 = .ok (.getfield 25, 3) := by decide +kernel
theorem dX1_unheardBy_26 : decode cX1_unheardBy 26 = .ok (.iload_n 3, 1) := by decide +kernel
theorem dX1_unheardBy_27 : decode cX1_unheardBy 27 = .ok (.iaload, 1) := by decide +kernel
theorem dX1_unheardBy_28 : decode cX1_unheardBy 28 = .ok (.ifCond .ne 6, 3) := by decide +kernel
theorem dX1_unheardBy_31 : decode cX1_unheardBy 31 = .ok (.iinc 2 1, 3) := by decide +kernel
theorem dX1_unheardBy_34 : decode cX1_unheardBy 34 = .ok (.iinc 3 1, 3) := by decide +kernel
theorem dX1_unheardBy_37 : decode cX1_unheardBy 37 = .ok (.goto (-33), 3) := by decide +kernel
theorem dX1_unheardBy_40 : decode cX1_unheardBy 40 = .ok (.iload_n 2, 1) := by decide +kernel
theorem dX1_unheardBy_41 : decode cX1_unheardBy 41 = .ok (.ireturn, 1) := by decide +kernel
theorem dX1_hearBy_0 : decode cX1_hearBy 0 = .ok (.iload_n 3, 1) := by decide +kernel
theorem dX1_hearBy_1 : decode cX1_hearBy 1 = .ok (.istore 4, 2) := by decide +kernel
theorem dX1_hearBy_3 : decode cX1_hearBy 3 = .ok (.iconst 0, 1) := by decide +kernel
theorem dX1_hearBy_4 : decode cX1_hearBy 4 = .ok (.istore 5, 2) := by decide +kernel
theorem dX1_hearBy_6 : decode cX1_hearBy 6 = .ok (.iload 5, 2) := by decide +kernel
theorem dX1_hearBy_8 : decode cX1_hearBy 8 = .ok (.aload_n 0, 1) := by decide +kernel
theorem dX1_hearBy_9 : decode cX1_hearBy 9 = .ok (.getfield 9, 3) := by decide +kernel
theorem dX1_hearBy_12 : decode cX1_hearBy 12 = .ok (.if_icmp .ge 58, 3) := by decide +kernel
theorem dX1_hearBy_15 : decode cX1_hearBy 15 = .ok (.aload_n 0, 1) := by decide +kernel
theorem dX1_hearBy_16 : decode cX1_hearBy 16 = .ok (.getfield 15, 3) := by decide +kernel
theorem dX1_hearBy_19 : decode cX1_hearBy 19 = .ok (.iload 5, 2) := by decide +kernel
theorem dX1_hearBy_21 : decode cX1_hearBy 21 = .ok (.iaload, 1) := by decide +kernel
theorem dX1_hearBy_22 : decode cX1_hearBy 22 = .ok (.iload_n 1, 1) := by decide +kernel
theorem dX1_hearBy_23 : decode cX1_hearBy 23 = .ok (.if_icmp .ne 41, 3) := by decide +kernel
theorem dX1_hearBy_26 : decode cX1_hearBy 26 = .ok (.aload_n 0, 1) := by decide +kernel
theorem dX1_hearBy_27 : decode cX1_hearBy 27 = .ok (.getfield 25, 3) := by decide +kernel
theorem dX1_hearBy_30 : decode cX1_hearBy 30 = .ok (.iload 5, 2) := by decide +kernel
theorem dX1_hearBy_32 : decode cX1_hearBy 32 = .ok (.iaload, 1) := by decide +kernel
theorem dX1_hearBy_33 : decode cX1_hearBy 33 = .ok (.ifCond .ne 31, 3) := by decide +kernel
theorem dX1_hearBy_36 : decode cX1_hearBy 36 = .ok (.aload_n 0, 1) := by decide +kernel
theorem dX1_hearBy_37 : decode cX1_hearBy 37 = .ok (.getfield 22, 3) := by decide +kernel
theorem dX1_hearBy_40 : decode cX1_hearBy 40 = .ok (.iload 5, 2) := by decide +kernel
theorem dX1_hearBy_42 : decode cX1_hearBy 42 = .ok (.iaload, 1) := by decide +kernel
theorem dX1_hearBy_43 : decode cX1_hearBy 43 = .ok (.iload_n 2, 1) := by decide +kernel
theorem dX1_hearBy_44 : decode cX1_hearBy 44 = .ok (.if_icmp .ge 20, 3) := by decide +kernel
theorem dX1_hearBy_47 : decode cX1_hearBy 47 = .ok (.aload_n 0, 1) := by decide +kernel
theorem dX1_hearBy_48 : decode cX1_hearBy 48 = .ok (.getfield 25, 3) := by decide +kernel
theorem dX1_hearBy_51 : decode cX1_hearBy 51 = .ok (.iload 5, 2) := by decide +kernel
theorem dX1_hearBy_53 : decode cX1_hearBy 53 = .ok (.iconst 1, 1) := by decide +kernel
theorem dX1_hearBy_54 : decode cX1_hearBy 54 = .ok (.iastore, 1) := by decide +kernel
theorem dX1_hearBy_55 : decode cX1_hearBy 55 = .ok (.aload_n 0, 1) := by decide +kernel
theorem dX1_hearBy_56 : decode cX1_hearBy 56 = .ok (.getfield 19, 3) := by decide +kernel
theorem dX1_hearBy_59 : decode cX1_hearBy 59 = .ok (.iload 5, 2) := by decide +kernel
theorem dX1_hearBy_61 : decode cX1_hearBy 61 = .ok (.iaload, 1) := by decide +kernel
theorem dX1_hearBy_62 : decode cX1_hearBy 62 = .ok (.istore 4, 2) := by decide +kernel
theorem dX1_hearBy_64 : decode cX1_hearBy 64 = .ok (.iinc 5 1, 3) := by decide +kernel
theorem dX1_hearBy_67 : decode cX1_hearBy 67 = .ok (.goto (-61), 3) := by decide +kernel
theorem dX1_hearBy_70 : decode cX1_hearBy 70 = .ok (.iload 4, 2) := by decide +kernel
theorem dX1_hearBy_72 : decode cX1_hearBy 72 = .ok (.ireturn, 1) := by decide +kernel
theorem dX2_init_0 : decode cX2_init 0 = .ok (.aload_n 0, 1) := by decide +kernel
theorem dX2_init_1 : decode cX2_init 1 = .ok (.invokespecial 3, 3) := by decide +kernel
theorem dX2_init_4 : decode cX2_init 4 = .ok (.aload_n 0, 1) := by decide +kernel
theorem dX2_init_5 : decode cX2_init 5 = .ok (.iconst 0, 1) := by decide +kernel
theorem dX2_init_6 : decode cX2_init 6 = .ok (.putfield 9, 3) := by decide +kernel
theorem dX2_init_9 : decode cX2_init 9 = .ok (.aload_n 0, 1) := by decide +kernel
theorem dX2_init_10 : decode cX2_init 10 = .ok (.iconst 0, 1) := by decide +kernel
theorem dX2_init_11 : decode cX2_init 11 = .ok (.putfield 15, 3) := by decide +kernel
theorem dX2_init_14 : decode cX2_init 14 = .ok (.aload_n 0, 1) := by decide +kernel
theorem dX2_init_15 : decode cX2_init 15 = .ok (.bipush 6, 2) := by decide +kernel
theorem dX2_init_17 : decode cX2_init 17 = .ok (.newarray .int, 2) := by decide +kernel
theorem dX2_init_19 : decode cX2_init 19 = .ok (.putfield 18, 3) := by decide +kernel
theorem dX2_init_22 : decode cX2_init 22 = .ok (.aload_n 0, 1) := by decide +kernel
theorem dX2_init_23 : decode cX2_init 23 = .ok (.bipush 6, 2) := by decide +kernel
theorem dX2_init_25 : decode cX2_init 25 = .ok (.newarray .int, 2) := by decide +kernel
theorem dX2_init_27 : decode cX2_init 27 = .ok (.putfield 22, 3) := by decide +kernel
theorem dX2_init_30 : decode cX2_init 30 = .ok (.aload_n 0, 1) := by decide +kernel
theorem dX2_init_31 : decode cX2_init 31 = .ok (.bipush 6, 2) := by decide +kernel
theorem dX2_init_33 : decode cX2_init 33 = .ok (.newarray .int, 2) := by decide +kernel
theorem dX2_init_35 : decode cX2_init 35 = .ok (.putfield 25, 3) := by decide +kernel
theorem dX2_init_38 : decode cX2_init 38 = .ok (.aload_n 0, 1) := by decide +kernel
theorem dX2_init_39 : decode cX2_init 39 = .ok (.bipush 6, 2) := by decide +kernel
theorem dX2_init_41 : decode cX2_init 41 = .ok (.newarray .int, 2) := by decide +kernel
theorem dX2_init_43 : decode cX2_init 43 = .ok (.putfield 28, 3) := by decide +kernel
theorem dX2_init_46 : decode cX2_init 46 = .ok (.aload_n 0, 1) := by decide +kernel
theorem dX2_init_47 : decode cX2_init 47 = .ok (.bipush 20, 2) := by decide +kernel
theorem dX2_init_49 : decode cX2_init 49 = .ok (.newarray .int, 2) := by decide +kernel
theorem dX2_init_51 : decode cX2_init 51 = .ok (.putfield 31, 3) := by decide +kernel
theorem dX2_init_54 : decode cX2_init 54 = .ok (.aload_n 0, 1) := by decide +kernel
theorem dX2_init_55 : decode cX2_init 55 = .ok (.bipush 20, 2) := by decide +kernel
theorem dX2_init_57 : decode cX2_init 57 = .ok (.newarray .int, 2) := by decide +kernel
theorem dX2_init_59 : decode cX2_init 59 = .ok (.putfield 34, 3) := by decide +kernel
theorem dX2_init_62 : decode cX2_init 62 = .ok (.aload_n 0, 1) := by decide +kernel
theorem dX2_init_63 : decode cX2_init 63 = .ok (.bipush 20, 2) := by decide +kernel
theorem dX2_init_65 : decode cX2_init 65 = .ok (.newarray .int, 2) := by decide +kernel
theorem dX2_init_67 : decode cX2_init 67 = .ok (.putfield 37, 3) := by decide +kernel
theorem dX2_init_70 : decode cX2_init 70 = .ok (.aload_n 0, 1) := by decide +kernel
theorem dX2_init_71 : decode cX2_init 71 = .ok (.bipush 20, 2) := by decide +kernel
theorem dX2_init_73 : decode cX2_init 73 = .ok (.newarray .boolean, 2) := by decide +kernel
theorem dX2_init_75 : decode cX2_init 75 = .ok (.putfield 40, 3) := by decide +kernel
theorem dX2_init_78 : decode cX2_init 78 = .ok (.return_, 1) := by decide +kernel
theorem dX2_addCheck_0 : decode cX2_addCheck 0 = .ok (.aload_n 0, 1) := by decide +kernel
theorem dX2_addCheck_1 : decode cX2_addCheck 1 = .ok (.getfield 15, 3) := by decide +kernel
theorem dX2_addCheck_4 : decode cX2_addCheck 4 = .ok (.bipush 20, 2) := by decide +kernel
theorem dX2_addCheck_6 : decode cX2_addCheck 6 = .ok (.if_icmp .ge 54, 3) := by decide +kernel
theorem dX2_addCheck_9 : decode cX2_addCheck 9 = .ok (.aload_n 0, 1) := by decide +kernel
theorem dX2_addCheck_10 : decode cX2_addCheck 10 = .ok (.getfield 31, 3) := by decide +kernel
theorem dX2_addCheck_13 : decode cX2_addCheck 13 = .ok (.aload_n 0, 1) := by decide +kernel
theorem dX2_addCheck_14 : decode cX2_addCheck 14 = .ok (.getfield 15, 3) := by decide +kernel
theorem dX2_addCheck_17 : decode cX2_addCheck 17 = .ok (.iload_n 1, 1) := by decide +kernel
theorem dX2_addCheck_18 : decode cX2_addCheck 18 = .ok (.iastore, 1) := by decide +kernel
theorem dX2_addCheck_19 : decode cX2_addCheck 19 = .ok (.aload_n 0, 1) := by decide +kernel
theorem dX2_addCheck_20 : decode cX2_addCheck 20 = .ok (.getfield 34, 3) := by decide +kernel
theorem dX2_addCheck_23 : decode cX2_addCheck 23 = .ok (.aload_n 0, 1) := by decide +kernel
theorem dX2_addCheck_24 : decode cX2_addCheck 24 = .ok (.getfield 15, 3) := by decide +kernel
theorem dX2_addCheck_27 : decode cX2_addCheck 27 = .ok (.iload_n 2, 1) := by decide +kernel
theorem dX2_addCheck_28 : decode cX2_addCheck 28 = .ok (.iastore, 1) := by decide +kernel
theorem dX2_addCheck_29 : decode cX2_addCheck 29 = .ok (.aload_n 0, 1) := by decide +kernel
theorem dX2_addCheck_30 : decode cX2_addCheck 30 = .ok (.getfield 37, 3) := by decide +kernel
theorem dX2_addCheck_33 : decode cX2_addCheck 33 = .ok (.aload_n 0, 1) := by decide +kernel
theorem dX2_addCheck_34 : decode cX2_addCheck 34 = .ok (.getfield 15, 3) := by decide +kernel
theorem dX2_addCheck_37 : decode cX2_addCheck 37 = .ok (.iload_n 3, 1) := by decide +kernel
theorem dX2_addCheck_38 : decode cX2_addCheck 38 = .ok (.iastore, 1) := by decide +kernel
theorem dX2_addCheck_39 : decode cX2_addCheck 39 = .ok (.aload_n 0, 1) := by decide +kernel
theorem dX2_addCheck_40 : decode cX2_addCheck 40 = .ok (.getfield 40, 3) := by decide +kernel
theorem dX2_addCheck_43 : decode cX2_addCheck 43 = .ok (.aload_n 0, 1) := by decide +kernel
theorem dX2_addCheck_44 : decode cX2_addCheck 44 = .ok (.getfield 15, 3) := by decide +kernel
theorem dX2_addCheck_47 : decode cX2_addCheck 47 = .ok (.iload 4, 2) := by decide +kernel
theorem dX2_addCheck_49 : decode cX2_addCheck 49 = .ok (.bastore, 1) := by decide +kernel
theorem dX2_addCheck_50 : decode cX2_addCheck 50 = .ok (.aload_n 0, 1) := by decide +kernel
theorem dX2_addCheck_51 : decode cX2_addCheck 51 = .ok (.dup, 1) := by decide +kernel
theorem dX2_addCheck_52 : decode cX2_addCheck 52 = .ok (.getfield 15, 3) := by decide +kernel
theorem dX2_addCheck_55 : decode cX2_addCheck 55 = .ok (.iconst 1, 1) := by decide +kernel
theorem dX2_addCheck_56 : decode cX2_addCheck 56 = .ok (.iadd, 1) := by decide +kernel
theorem dX2_addCheck_57 : decode cX2_addCheck 57 = .ok (.putfield 15, 3) := by decide +kernel
theorem dX2_addCheck_60 : decode cX2_addCheck 60 = .ok (.return_, 1) := by decide +kernel
theorem dX2_addRule_0 : decode cX2_addRule 0 = .ok (.aload_n 0, 1) := by decide +kernel
theorem dX2_addRule_1 : decode cX2_addRule 1 = .ok (.getfield 9, 3) := by decide +kernel
theorem dX2_addRule_4 : decode cX2_addRule 4 = .ok (.bipush 6, 2) := by decide +kernel
theorem dX2_addRule_6 : decode cX2_addRule 6 = .ok (.if_icmp .ge 56, 3) := by decide +kernel
theorem dX2_addRule_9 : decode cX2_addRule 9 = .ok (.aload_n 0, 1) := by decide +kernel
theorem dX2_addRule_10 : decode cX2_addRule 10 = .ok (.getfield 22, 3) := by decide +kernel
theorem dX2_addRule_13 : decode cX2_addRule 13 = .ok (.aload_n 0, 1) := by decide +kernel
theorem dX2_addRule_14 : decode cX2_addRule 14 = .ok (.getfield 9, 3) := by decide +kernel
theorem dX2_addRule_17 : decode cX2_addRule 17 = .ok (.iload_n 1, 1) := by decide +kernel
theorem dX2_addRule_18 : decode cX2_addRule 18 = .ok (.iastore, 1) := by decide +kernel
theorem dX2_addRule_19 : decode cX2_addRule 19 = .ok (.aload_n 0, 1) := by decide +kernel
theorem dX2_addRule_20 : decode cX2_addRule 20 = .ok (.getfield 25, 3) := by decide +kernel
theorem dX2_addRule_23 : decode cX2_addRule 23 = .ok (.aload_n 0, 1) := by decide +kernel
theorem dX2_addRule_24 : decode cX2_addRule 24 = .ok (.getfield 9, 3) := by decide +kernel
theorem dX2_addRule_27 : decode cX2_addRule 27 = .ok (.iload_n 2, 1) := by decide +kernel
theorem dX2_addRule_28 : decode cX2_addRule 28 = .ok (.iastore, 1) := by decide +kernel
theorem dX2_addRule_29 : decode cX2_addRule 29 = .ok (.aload_n 0, 1) := by decide +kernel
theorem dX2_addRule_30 : decode cX2_addRule 30 = .ok (.getfield 28, 3) := by decide +kernel
theorem dX2_addRule_33 : decode cX2_addRule 33 = .ok (.aload_n 0, 1) := by decide +kernel
theorem dX2_addRule_34 : decode cX2_addRule 34 = .ok (.getfield 9, 3) := by decide +kernel
theorem dX2_addRule_37 : decode cX2_addRule 37 = .ok (.iload_n 3, 1) := by decide +kernel
theorem dX2_addRule_38 : decode cX2_addRule 38 = .ok (.iastore, 1) := by decide +kernel
theorem dX2_addRule_39 : decode cX2_addRule 39 = .ok (.aload_n 0, 1) := by decide +kernel
theorem dX2_addRule_40 : decode cX2_addRule 40 = .ok (.getfield 18, 3) := by decide +kernel
theorem dX2_addRule_43 : decode cX2_addRule 43 = .ok (.aload_n 0, 1) := by decide +kernel
theorem dX2_addRule_44 : decode cX2_addRule 44 = .ok (.getfield 9, 3) := by decide +kernel
theorem dX2_addRule_47 : decode cX2_addRule 47 = .ok (.aload_n 0, 1) := by decide +kernel
theorem dX2_addRule_48 : decode cX2_addRule 48 = .ok (.getfield 15, 3) := by decide +kernel
theorem dX2_addRule_51 : decode cX2_addRule 51 = .ok (.iastore, 1) := by decide +kernel
theorem dX2_addRule_52 : decode cX2_addRule 52 = .ok (.aload_n 0, 1) := by decide +kernel
theorem dX2_addRule_53 : decode cX2_addRule 53 = .ok (.dup, 1) := by decide +kernel
theorem dX2_addRule_54 : decode cX2_addRule 54 = .ok (.getfield 9, 3) := by decide +kernel
theorem dX2_addRule_57 : decode cX2_addRule 57 = .ok (.iconst 1, 1) := by decide +kernel
theorem dX2_addRule_58 : decode cX2_addRule 58 = .ok (.iadd, 1) := by decide +kernel
theorem dX2_addRule_59 : decode cX2_addRule 59 = .ok (.putfield 9, 3) := by decide +kernel
theorem dX2_addRule_62 : decode cX2_addRule 62 = .ok (.return_, 1) := by decide +kernel
theorem dX2_holds_0 : decode cX2_holds 0 = .ok (.aload_n 0, 1) := by decide +kernel
theorem dX2_holds_1 : decode cX2_holds 1 = .ok (.getfield 34, 3) := by decide +kernel
theorem dX2_holds_4 : decode cX2_holds 4 = .ok (.iload_n 1, 1) := by decide +kernel
theorem dX2_holds_5 : decode cX2_holds 5 = .ok (.iaload, 1) := by decide +kernel
theorem dX2_holds_6 : decode cX2_holds 6 = .ok (.lookupswitch 64 #[(60, 26), (62, 45)], 26) := by decide +kernel
theorem dX2_holds_32 : decode cX2_holds 32 = .ok (.iload_n 2, 1) := by decide +kernel
theorem dX2_holds_33 : decode cX2_holds 33 = .ok (.aload_n 0, 1) := by decide +kernel
theorem dX2_holds_34 : decode cX2_holds 34 = .ok (.getfield 37, 3) := by decide +kernel
theorem dX2_holds_37 : decode cX2_holds 37 = .ok (.iload_n 1, 1) := by decide +kernel
theorem dX2_holds_38 : decode cX2_holds 38 = .ok (.iaload, 1) := by decide +kernel
theorem dX2_holds_39 : decode cX2_holds 39 = .ok (.if_icmp .ge 7, 3) := by decide +kernel
theorem dX2_holds_42 : decode cX2_holds 42 = .ok (.iconst 1, 1) := by decide +kernel
theorem dX2_holds_43 : decode cX2_holds 43 = .ok (.goto 4, 3) := by decide +kernel
theorem dX2_holds_46 : decode cX2_holds 46 = .ok (.iconst 0, 1) := by decide +kernel
theorem dX2_holds_47 : decode cX2_holds 47 = .ok (.istore_n 3, 1) := by decide +kernel
theorem dX2_holds_48 : decode cX2_holds 48 = .ok (.goto 38, 3) := by decide +kernel
theorem dX2_holds_51 : decode cX2_holds 51 = .ok (.iload_n 2, 1) := by decide +kernel
theorem dX2_holds_52 : decode cX2_holds 52 = .ok (.aload_n 0, 1) := by decide +kernel
theorem dX2_holds_53 : decode cX2_holds 53 = .ok (.getfield 37, 3) := by decide +kernel
theorem dX2_holds_56 : decode cX2_holds 56 = .ok (.iload_n 1, 1) := by decide +kernel
theorem dX2_holds_57 : decode cX2_holds 57 = .ok (.iaload, 1) := by decide +kernel
theorem dX2_holds_58 : decode cX2_holds 58 = .ok (.if_icmp .le 7, 3) := by decide +kernel
theorem dX2_holds_61 : decode cX2_holds 61 = .ok (.iconst 1, 1) := by decide +kernel
theorem dX2_holds_62 : decode cX2_holds 62 = .ok (.goto 4, 3) := by decide +kernel
theorem dX2_holds_65 : decode cX2_holds 65 = .ok (.iconst 0, 1) := by decide +kernel
theorem dX2_holds_66 : decode cX2_holds 66 = .ok (.istore_n 3, 1) := by decide +kernel
theorem dX2_holds_67 : decode cX2_holds 67 = .ok (.goto 19, 3) := by decide +kernel
theorem dX2_holds_70 : decode cX2_holds 70 = .ok (.iload_n 2, 1) := by decide +kernel
theorem dX2_holds_71 : decode cX2_holds 71 = .ok (.aload_n 0, 1) := by decide +kernel
theorem dX2_holds_72 : decode cX2_holds 72 = .ok (.getfield 37, 3) := by decide +kernel
theorem dX2_holds_75 : decode cX2_holds 75 = .ok (.iload_n 1, 1) := by decide +kernel
theorem dX2_holds_76 : decode cX2_holds 76 = .ok (.iaload, 1) := by decide +kernel
theorem dX2_holds_77 : decode cX2_holds 77 = .ok (.if_icmp .ne 7, 3) := by decide +kernel
theorem dX2_holds_80 : decode cX2_holds 80 = .ok (.iconst 1, 1) := by decide +kernel
theorem dX2_holds_81 : decode cX2_holds 81 = .ok (.goto 4, 3) := by decide +kernel
theorem dX2_holds_84 : decode cX2_holds 84 = .ok (.iconst 0, 1) := by decide +kernel
theorem dX2_holds_85 : decode cX2_holds 85 = .ok (.istore_n 3, 1) := by decide +kernel
theorem dX2_holds_86 : decode cX2_holds 86 = .ok (.iload_n 3, 1) := by decide +kernel
theorem dX2_holds_87 : decode cX2_holds 87 = .ok (.aload_n 0, 1) := by decide +kernel
theorem dX2_holds_88 : decode cX2_holds 88 = .ok (.getfield 40, 3) := by decide +kernel
theorem dX2_holds_91 : decode cX2_holds 91 = .ok (.iload_n 1, 1) := by decide +kernel
theorem dX2_holds_92 : decode cX2_holds 92 = .ok (.baload, 1) := by decide +kernel
theorem dX2_holds_93 : decode cX2_holds 93 = .ok (.if_icmp .eq 7, 3) := by decide +kernel
theorem dX2_holds_96 : decode cX2_holds 96 = .ok (.iconst 1, 1) := by decide +kernel
theorem dX2_holds_97 : decode cX2_holds 97 = .ok (.goto 4, 3) := by decide +kernel
theorem dX2_holds_100 : decode cX2_holds 100 = .ok (.iconst 0, 1) := by decide +kernel
theorem dX2_holds_101 : decode cX2_holds 101 = .ok (.ireturn, 1) := by decide +kernel
theorem dX3_init_0 : decode cX3_init 0 = .ok (.aload_n 0, 1) := by decide +kernel
theorem dX3_init_1 : decode cX3_init 1 = .ok (.invokespecial 3, 3) := by decide +kernel
theorem dX3_init_4 : decode cX3_init 4 = .ok (.aload_n 0, 1) := by decide +kernel
theorem dX3_init_5 : decode cX3_init 5 = .ok (.new 9, 3) := by decide +kernel
theorem dX3_init_8 : decode cX3_init 8 = .ok (.dup, 1) := by decide +kernel
theorem dX3_init_9 : decode cX3_init 9 = .ok (.invokespecial 11, 3) := by decide +kernel
theorem dX3_init_12 : decode cX3_init 12 = .ok (.putfield 12, 3) := by decide +kernel
theorem dX3_init_15 : decode cX3_init 15 = .ok (.aload_n 0, 1) := by decide +kernel
theorem dX3_init_16 : decode cX3_init 16 = .ok (.iconst 0, 1) := by decide +kernel
theorem dX3_init_17 : decode cX3_init 17 = .ok (.newarray .int, 2) := by decide +kernel
theorem dX3_init_19 : decode cX3_init 19 = .ok (.putfield 18, 3) := by decide +kernel
theorem dX3_init_22 : decode cX3_init 22 = .ok (.aload_n 0, 1) := by decide +kernel
theorem dX3_init_23 : decode cX3_init 23 = .ok (.iconst 0, 1) := by decide +kernel
theorem dX3_init_24 : decode cX3_init 24 = .ok (.putfield 22, 3) := by decide +kernel
theorem dX3_init_27 : decode cX3_init 27 = .ok (.aload_n 0, 1) := by decide +kernel
theorem dX3_init_28 : decode cX3_init 28 = .ok (.iconst 0, 1) := by decide +kernel
theorem dX3_init_29 : decode cX3_init 29 = .ok (.putfield 26, 3) := by decide +kernel
theorem dX3_init_32 : decode cX3_init 32 = .ok (.return_, 1) := by decide +kernel
theorem dX3_handOver_0 : decode cX3_handOver 0 = .ok (.aload_n 0, 1) := by decide +kernel
theorem dX3_handOver_1 : decode cX3_handOver 1 = .ok (.getfield 12, 3) := by decide +kernel
theorem dX3_handOver_4 : decode cX3_handOver 4 = .ok (.astore_n 1, 1) := by decide +kernel
theorem dX3_handOver_5 : decode cX3_handOver 5 = .ok (.aload_n 0, 1) := by decide +kernel
theorem dX3_handOver_6 : decode cX3_handOver 6 = .ok (.new 9, 3) := by decide +kernel
theorem dX3_handOver_9 : decode cX3_handOver 9 = .ok (.dup, 1) := by decide +kernel
theorem dX3_handOver_10 : decode cX3_handOver 10 = .ok (.invokespecial 11, 3) := by decide +kernel
theorem dX3_handOver_13 : decode cX3_handOver 13 = .ok (.putfield 12, 3) := by decide +kernel
theorem dX3_handOver_16 : decode cX3_handOver 16 = .ok (.aload_n 1, 1) := by decide +kernel
theorem dX3_handOver_17 : decode cX3_handOver 17 = .ok (.areturn, 1) := by decide +kernel
theorem dX3_scan_0 : decode cX3_scan 0 = .ok (.aload_n 0, 1) := by decide +kernel
theorem dX3_scan_1 : decode cX3_scan 1 = .ok (.aload_n 1, 1) := by decide +kernel
theorem dX3_scan_2 : decode cX3_scan 2 = .ok (.putfield 18, 3) := by decide +kernel
theorem dX3_scan_5 : decode cX3_scan 5 = .ok (.aload_n 0, 1) := by decide +kernel
theorem dX3_scan_6 : decode cX3_scan 6 = .ok (.iload_n 2, 1) := by decide +kernel
theorem dX3_scan_7 : decode cX3_scan 7 = .ok (.aload_n 1, 1) := by decide +kernel
theorem dX3_scan_8 : decode cX3_scan 8 = .ok (.arraylength, 1) := by decide +kernel
theorem dX3_scan_9 : decode cX3_scan 9 = .ok (.invokestatic 29, 3) := by decide +kernel
theorem dX3_scan_12 : decode cX3_scan 12 = .ok (.putfield 22, 3) := by decide +kernel
theorem dX3_scan_15 : decode cX3_scan 15 = .ok (.aload_n 0, 1) := by decide +kernel
theorem dX3_scan_16 : decode cX3_scan 16 = .ok (.iconst 0, 1) := by decide +kernel
theorem dX3_scan_17 : decode cX3_scan 17 = .ok (.putfield 26, 3) := by decide +kernel
theorem dX3_scan_20 : decode cX3_scan 20 = .ok (.aload_n 0, 1) := by decide +kernel
theorem dX3_scan_21 : decode cX3_scan 21 = .ok (.getfield 12, 3) := by decide +kernel
theorem dX3_scan_24 : decode cX3_scan 24 = .ok (.iconst 0, 1) := by decide +kernel
theorem dX3_scan_25 : decode cX3_scan 25 = .ok (.putfield 35, 3) := by decide +kernel
theorem dX3_scan_28 : decode cX3_scan 28 = .ok (.aload_n 0, 1) := by decide +kernel
theorem dX3_scan_29 : decode cX3_scan 29 = .ok (.getfield 12, 3) := by decide +kernel
theorem dX3_scan_32 : decode cX3_scan 32 = .ok (.iconst 0, 1) := by decide +kernel
theorem dX3_scan_33 : decode cX3_scan 33 = .ok (.putfield 38, 3) := by decide +kernel
theorem dX3_scan_36 : decode cX3_scan 36 = .ok (.iconst 0, 1) := by decide +kernel
theorem dX3_scan_37 : decode cX3_scan 37 = .ok (.istore_n 3, 1) := by decide +kernel
theorem dX3_scan_38 : decode cX3_scan 38 = .ok (.aload_n 0, 1) := by decide +kernel
theorem dX3_scan_39 : decode cX3_scan 39 = .ok (.getfield 26, 3) := by decide +kernel
theorem dX3_scan_42 : decode cX3_scan 42 = .ok (.aload_n 0, 1) := by decide +kernel
theorem dX3_scan_43 : decode cX3_scan 43 = .ok (.getfield 22, 3) := by decide +kernel
theorem dX3_scan_46 : decode cX3_scan 46 = .ok (.if_icmp .ge 27, 3) := by decide +kernel
theorem dX3_scan_49 : decode cX3_scan 49 = .ok (.iload_n 3, 1) := by decide +kernel
theorem dX3_scan_50 : decode cX3_scan 50 = .ok (.bipush 6, 2) := by decide +kernel
theorem dX3_scan_52 : decode cX3_scan 52 = .ok (.if_icmp .ge 10, 3) := by decide +kernel
theorem dX3_scan_55 : decode cX3_scan 55 = .ok (.aload_n 0, 1) := by decide +kernel
theorem dX3_scan_56 : decode cX3_scan 56 = .ok (.invokevirtual 41, 3) := by decide +kernel
theorem dX3_scan_59 : decode cX3_scan 59 = .ok (.ifCond .ne 8, 3) := by decide +kernel
theorem dX3_scan_62 : decode cX3_scan 62 = .ok (.aload_n 0, 1) := by decide +kernel
theorem dX3_scan_63 : decode cX3_scan 63 = .ok (.getfield 26, 3) := by decide +kernel
theorem dX3_scan_66 : decode cX3_scan 66 = .ok (.ireturn, 1) := by decide +kernel
theorem dX3_scan_67 : decode cX3_scan 67 = .ok (.iinc 3 1, 3) := by decide +kernel
theorem dX3_scan_70 : decode cX3_scan 70 = .ok (.goto (-32), 3) := by decide +kernel
theorem dX3_scan_73 : decode cX3_scan 73 = .ok (.aload_n 0, 1) := by decide +kernel
theorem dX3_scan_74 : decode cX3_scan 74 = .ok (.getfield 12, 3) := by decide +kernel
theorem dX3_scan_77 : decode cX3_scan 77 = .ok (.getfield 35, 3) := by decide +kernel
theorem dX3_scan_80 : decode cX3_scan 80 = .ok (.ifCond .le 8, 3) := by decide +kernel
theorem dX3_scan_83 : decode cX3_scan 83 = .ok (.bipush (-4), 2) := by decide +kernel
theorem dX3_scan_85 : decode cX3_scan 85 = .ok (.goto 7, 3) := by decide +kernel
theorem dX3_scan_88 : decode cX3_scan 88 = .ok (.aload_n 0, 1) := by decide +kernel
theorem dX3_scan_89 : decode cX3_scan 89 = .ok (.getfield 26, 3) := by decide +kernel
theorem dX3_scan_92 : decode cX3_scan 92 = .ok (.ireturn, 1) := by decide +kernel
theorem dX3_takeRule_0 : decode cX3_takeRule 0 = .ok (.iconst 1, 1) := by decide +kernel
theorem dX3_takeRule_1 : decode cX3_takeRule 1 = .ok (.istore_n 1, 1) := by decide +kernel
theorem dX3_takeRule_2 : decode cX3_takeRule 2 = .ok (.iconst 0, 1) := by decide +kernel
theorem dX3_takeRule_3 : decode cX3_takeRule 3 = .ok (.istore_n 2, 1) := by decide +kernel
theorem dX3_takeRule_4 : decode cX3_takeRule 4 = .ok (.iload_n 1, 1) := by decide +kernel
theorem dX3_takeRule_5 : decode cX3_takeRule 5 = .ok (.ifCond .eq 33, 3) := by decide +kernel
theorem dX3_takeRule_8 : decode cX3_takeRule 8 = .ok (.iload_n 2, 1) := by decide +kernel
theorem dX3_takeRule_9 : decode cX3_takeRule 9 = .ok (.aload_n 0, 1) := by decide +kernel
theorem dX3_takeRule_10 : decode cX3_takeRule 10 = .ok (.getfield 22, 3) := by decide +kernel
theorem dX3_takeRule_13 : decode cX3_takeRule 13 = .ok (.if_icmp .ge 25, 3) := by decide +kernel
theorem dX3_takeRule_16 : decode cX3_takeRule 16 = .ok (.aload_n 0, 1) := by decide +kernel
theorem dX3_takeRule_17 : decode cX3_takeRule 17 = .ok (.invokevirtual 45, 3) := by decide +kernel
theorem dX3_takeRule_20 : decode cX3_takeRule 20 = .ok (.ifCond .ne 5, 3) := by decide +kernel
theorem dX3_takeRule_23 : decode cX3_takeRule 23 = .ok (.iconst 0, 1) := by decide +kernel
theorem dX3_takeRule_24 : decode cX3_takeRule 24 = .ok (.ireturn, 1) := by decide +kernel
theorem dX3_takeRule_25 : decode cX3_takeRule 25 = .ok (.aload_n 0, 1) := by decide +kernel
theorem dX3_takeRule_26 : decode cX3_takeRule 26 = .ok (.bipush 38, 2) := by decide +kernel
theorem dX3_takeRule_28 : decode cX3_takeRule 28 = .ok (.invokevirtual 48, 3) := by decide +kernel
theorem dX3_takeRule_31 : decode cX3_takeRule 31 = .ok (.istore_n 1, 1) := by decide +kernel
theorem dX3_takeRule_32 : decode cX3_takeRule 32 = .ok (.iinc 2 1, 3) := by decide +kernel
theorem dX3_takeRule_35 : decode cX3_takeRule 35 = .ok (.goto (-31), 3) := by decide +kernel
theorem dX3_takeRule_38 : decode cX3_takeRule 38 = .ok (.aload_n 0, 1) := by decide +kernel
theorem dX3_takeRule_39 : decode cX3_takeRule 39 = .ok (.bipush 63, 2) := by decide +kernel
theorem dX3_takeRule_41 : decode cX3_takeRule 41 = .ok (.invokevirtual 48, 3) := by decide +kernel
theorem dX3_takeRule_44 : decode cX3_takeRule 44 = .ok (.ifCond .eq 23, 3) := by decide +kernel
theorem dX3_takeRule_47 : decode cX3_takeRule 47 = .ok (.aload_n 0, 1) := by decide +kernel
theorem dX3_takeRule_48 : decode cX3_takeRule 48 = .ok (.invokevirtual 52, 3) := by decide +kernel
theorem dX3_takeRule_51 : decode cX3_takeRule 51 = .ok (.ifCond .eq 16, 3) := by decide +kernel
theorem dX3_takeRule_54 : decode cX3_takeRule 54 = .ok (.aload_n 0, 1) := by decide +kernel
theorem dX3_takeRule_55 : decode cX3_takeRule 55 = .ok (.bipush 59, 2) := by decide +kernel
theorem dX3_takeRule_57 : decode cX3_takeRule 57 = .ok (.invokevirtual 48, 3) := by decide +kernel
theorem dX3_takeRule_60 : decode cX3_takeRule 60 = .ok (.ifCond .eq 7, 3) := by decide +kernel
theorem dX3_takeRule_63 : decode cX3_takeRule 63 = .ok (.iconst 1, 1) := by decide +kernel
theorem dX3_takeRule_64 : decode cX3_takeRule 64 = .ok (.goto 4, 3) := by decide +kernel
theorem dX3_takeRule_67 : decode cX3_takeRule 67 = .ok (.iconst 0, 1) := by decide +kernel
theorem dX3_takeRule_68 : decode cX3_takeRule 68 = .ok (.ireturn, 1) := by decide +kernel
theorem dX3_takeCheck_0 : decode cX3_takeCheck 0 = .ok (.iconst 0, 1) := by decide +kernel
theorem dX3_takeCheck_1 : decode cX3_takeCheck 1 = .ok (.istore_n 1, 1) := by decide +kernel
theorem dX3_takeCheck_2 : decode cX3_takeCheck 2 = .ok (.iconst 0, 1) := by decide +kernel
theorem dX3_takeCheck_3 : decode cX3_takeCheck 3 = .ok (.istore_n 2, 1) := by decide +kernel
theorem dX3_takeCheck_4 : decode cX3_takeCheck 4 = .ok (.iload_n 2, 1) := by decide +kernel
theorem dX3_takeCheck_5 : decode cX3_takeCheck 5 = .ok (.aload_n 0, 1) := by decide +kernel
theorem dX3_takeCheck_6 : decode cX3_takeCheck 6 = .ok (.getfield 22, 3) := by decide +kernel
theorem dX3_takeCheck_9 : decode cX3_takeCheck 9 = .ok (.if_icmp .ge 28, 3) := by decide +kernel
theorem dX3_takeCheck_12 : decode cX3_takeCheck 12 = .ok (.aload_n 0, 1) := by decide +kernel
theorem dX3_takeCheck_13 : decode cX3_takeCheck 13 = .ok (.bipush 33, 2) := by decide +kernel
theorem dX3_takeCheck_15 : decode cX3_takeCheck 15 = .ok (.invokevirtual 48, 3) := by decide +kernel
theorem dX3_takeCheck_18 : decode cX3_takeCheck 18 = .ok (.ifCond .eq 19, 3) := by decide +kernel
theorem dX3_takeCheck_21 : decode cX3_takeCheck 21 = .ok (.iload_n 1, 1) := by decide +kernel
theorem dX3_takeCheck_22 : decode cX3_takeCheck 22 = .ok (.ifCond .ne 7, 3) := by decide +kernel
theorem dX3_takeCheck_25 : decode cX3_takeCheck 25 = .ok (.iconst 1, 1) := by decide +kernel
theorem dX3_takeCheck_26 : decode cX3_takeCheck 26 = .ok (.goto 4, 3) := by decide +kernel
theorem dX3_takeCheck_29 : decode cX3_takeCheck 29 = .ok (.iconst 0, 1) := by decide +kernel
theorem dX3_takeCheck_30 : decode cX3_takeCheck 30 = .ok (.istore_n 1, 1) := by decide +kernel
theorem dX3_takeCheck_31 : decode cX3_takeCheck 31 = .ok (.iinc 2 1, 3) := by decide +kernel
theorem dX3_takeCheck_34 : decode cX3_takeCheck 34 = .ok (.goto (-30), 3) := by decide +kernel
theorem dX3_takeCheck_37 : decode cX3_takeCheck 37 = .ok (.aload_n 0, 1) := by decide +kernel
theorem dX3_takeCheck_38 : decode cX3_takeCheck 38 = .ok (.ldc 55, 2) := by decide +kernel
theorem dX3_takeCheck_40 : decode cX3_takeCheck 40 = .ok (.invokevirtual 57, 3) := by decide +kernel
theorem dX3_takeCheck_43 : decode cX3_takeCheck 43 = .ok (.istore_n 2, 1) := by decide +kernel
theorem dX3_takeCheck_44 : decode cX3_takeCheck 44 = .ok (.iload_n 2, 1) := by decide +kernel
theorem dX3_takeCheck_45 : decode cX3_takeCheck 45 = .ok (.ifCond .ge 5, 3) := by decide +kernel
theorem dX3_takeCheck_48 : decode cX3_takeCheck 48 = .ok (.iconst 0, 1) := by decide +kernel
theorem dX3_takeCheck_49 : decode cX3_takeCheck 49 = .ok (.ireturn, 1) := by decide +kernel
theorem dX3_takeCheck_50 : decode cX3_takeCheck 50 = .ok (.aload_n 0, 1) := by decide +kernel
theorem dX3_takeCheck_51 : decode cX3_takeCheck 51 = .ok (.ldc 61, 2) := by decide +kernel
theorem dX3_takeCheck_53 : decode cX3_takeCheck 53 = .ok (.invokevirtual 57, 3) := by decide +kernel
theorem dX3_takeCheck_56 : decode cX3_takeCheck 56 = .ok (.istore_n 3, 1) := by decide +kernel
theorem dX3_takeCheck_57 : decode cX3_takeCheck 57 = .ok (.iload_n 3, 1) := by decide +kernel
theorem dX3_takeCheck_58 : decode cX3_takeCheck 58 = .ok (.ifCond .ge 5, 3) := by decide +kernel
theorem dX3_takeCheck_61 : decode cX3_takeCheck 61 = .ok (.iconst 0, 1) := by decide +kernel
theorem dX3_takeCheck_62 : decode cX3_takeCheck 62 = .ok (.ireturn, 1) := by decide +kernel
theorem dX3_takeCheck_63 : decode cX3_takeCheck 63 = .ok (.aload_n 0, 1) := by decide +kernel
theorem dX3_takeCheck_64 : decode cX3_takeCheck 64 = .ok (.invokevirtual 63, 3) := by decide +kernel
theorem dX3_takeCheck_67 : decode cX3_takeCheck 67 = .ok (.istore 4, 2) := by decide +kernel
theorem dX3_takeCheck_69 : decode cX3_takeCheck 69 = .ok (.iload 4, 2) := by decide +kernel
theorem dX3_takeCheck_71 : decode cX3_takeCheck 71 = .ok (.ifCond .ge 5, 3) := by decide +kernel
theorem dX3_takeCheck_74 : decode cX3_takeCheck 74 = .ok (.iconst 0, 1) := by decide +kernel
theorem dX3_takeCheck_75 : decode cX3_takeCheck 75 = .ok (.ireturn, 1) := by decide +kernel
theorem dX3_takeCheck_76 : decode cX3_takeCheck 76 = .ok (.aload_n 0, 1) := by decide +kernel
theorem dX3_takeCheck_77 : decode cX3_takeCheck 77 = .ok (.getfield 12, 3) := by decide +kernel
theorem dX3_takeCheck_80 : decode cX3_takeCheck 80 = .ok (.iload_n 2, 1) := by decide +kernel
theorem dX3_takeCheck_81 : decode cX3_takeCheck 81 = .ok (.iload_n 3, 1) := by decide +kernel
theorem dX3_takeCheck_82 : decode cX3_takeCheck 82 = .ok (.iload 4, 2) := by decide +kernel
theorem dX3_takeCheck_84 : decode cX3_takeCheck 84 = .ok (.iload_n 1, 1) := by decide +kernel
theorem dX3_takeCheck_85 : decode cX3_takeCheck 85 = .ok (.invokevirtual 67, 3) := by decide +kernel
theorem dX3_takeCheck_88 : decode cX3_takeCheck 88 = .ok (.iconst 1, 1) := by decide +kernel
theorem dX3_takeCheck_89 : decode cX3_takeCheck 89 = .ok (.ireturn, 1) := by decide +kernel
theorem dX3_takeNumber_0 : decode cX3_takeNumber 0 = .ok (.aload_n 0, 1) := by decide +kernel
theorem dX3_takeNumber_1 : decode cX3_takeNumber 1 = .ok (.bipush 9, 2) := by decide +kernel
theorem dX3_takeNumber_3 : decode cX3_takeNumber 3 = .ok (.invokevirtual 71, 3) := by decide +kernel
theorem dX3_takeNumber_6 : decode cX3_takeNumber 6 = .ok (.istore_n 1, 1) := by decide +kernel
theorem dX3_takeNumber_7 : decode cX3_takeNumber 7 = .ok (.iconst 1, 1) := by decide +kernel
theorem dX3_takeNumber_8 : decode cX3_takeNumber 8 = .ok (.istore_n 2, 1) := by decide +kernel
theorem dX3_takeNumber_9 : decode cX3_takeNumber 9 = .ok (.iload_n 2, 1) := by decide +kernel
theorem dX3_takeNumber_10 : decode cX3_takeNumber 10 = .ok (.iconst 3, 1) := by decide +kernel
theorem dX3_takeNumber_11 : decode cX3_takeNumber 11 = .ok (.if_icmp .ge 33, 3) := by decide +kernel
theorem dX3_takeNumber_14 : decode cX3_takeNumber 14 = .ok (.iload_n 1, 1) := by decide +kernel
theorem dX3_takeNumber_15 : decode cX3_takeNumber 15 = .ok (.ifCond .le 29, 3) := by decide +kernel
theorem dX3_takeNumber_18 : decode cX3_takeNumber 18 = .ok (.aload_n 0, 1) := by decide +kernel
theorem dX3_takeNumber_19 : decode cX3_takeNumber 19 = .ok (.bipush 9, 2) := by decide +kernel
theorem dX3_takeNumber_21 : decode cX3_takeNumber 21 = .ok (.invokevirtual 71, 3) := by decide +kernel
theorem dX3_takeNumber_24 : decode cX3_takeNumber 24 = .ok (.istore_n 3, 1) := by decide +kernel
theorem dX3_takeNumber_25 : decode cX3_takeNumber 25 = .ok (.iload_n 3, 1) := by decide +kernel
theorem dX3_takeNumber_26 : decode cX3_takeNumber 26 = .ok (.ifCond .ge 5, 3) := by decide +kernel
theorem dX3_takeNumber_29 : decode cX3_takeNumber 29 = .ok (.iload_n 1, 1) := by decide +kernel
theorem dX3_takeNumber_30 : decode cX3_takeNumber 30 = .ok (.ireturn, 1) := by decide +kernel
theorem dX3_takeNumber_31 : decode cX3_takeNumber 31 = .ok (.bipush 10, 2) := by decide +kernel
theorem dX3_takeNumber_33 : decode cX3_takeNumber 33 = .ok (.iload_n 1, 1) := by decide +kernel
theorem dX3_takeNumber_34 : decode cX3_takeNumber 34 = .ok (.imul, 1) := by decide +kernel
theorem dX3_takeNumber_35 : decode cX3_takeNumber 35 = .ok (.iload_n 3, 1) := by decide +kernel
theorem dX3_takeNumber_36 : decode cX3_takeNumber 36 = .ok (.iadd, 1) := by decide +kernel
theorem dX3_takeNumber_37 : decode cX3_takeNumber 37 = .ok (.istore_n 1, 1) := by decide +kernel
theorem dX3_takeNumber_38 : decode cX3_takeNumber 38 = .ok (.iinc 2 1, 3) := by decide +kernel
theorem dX3_takeNumber_41 : decode cX3_takeNumber 41 = .ok (.goto (-32), 3) := by decide +kernel
theorem dX3_takeNumber_44 : decode cX3_takeNumber 44 = .ok (.iload_n 1, 1) := by decide +kernel
theorem dX3_takeNumber_45 : decode cX3_takeNumber 45 = .ok (.ireturn, 1) := by decide +kernel
theorem dX3_takeAct_0 : decode cX3_takeAct 0 = .ok (.aload_n 0, 1) := by decide +kernel
theorem dX3_takeAct_1 : decode cX3_takeAct 1 = .ok (.bipush 117, 2) := by decide +kernel
theorem dX3_takeAct_3 : decode cX3_takeAct 3 = .ok (.invokevirtual 48, 3) := by decide +kernel
theorem dX3_takeAct_6 : decode cX3_takeAct 6 = .ok (.ifCond .eq 15, 3) := by decide +kernel
theorem dX3_takeAct_9 : decode cX3_takeAct 9 = .ok (.aload_n 0, 1) := by decide +kernel
theorem dX3_takeAct_10 : decode cX3_takeAct 10 = .ok (.getfield 12, 3) := by decide +kernel
theorem dX3_takeAct_13 : decode cX3_takeAct 13 = .ok (.iconst 0, 1) := by decide +kernel
theorem dX3_takeAct_14 : decode cX3_takeAct 14 = .ok (.iconst 0, 1) := by decide +kernel
theorem dX3_takeAct_15 : decode cX3_takeAct 15 = .ok (.iconst 0, 1) := by decide +kernel
theorem dX3_takeAct_16 : decode cX3_takeAct 16 = .ok (.invokevirtual 75, 3) := by decide +kernel
theorem dX3_takeAct_19 : decode cX3_takeAct 19 = .ok (.iconst 1, 1) := by decide +kernel
theorem dX3_takeAct_20 : decode cX3_takeAct 20 = .ok (.ireturn, 1) := by decide +kernel
theorem dX3_takeAct_21 : decode cX3_takeAct 21 = .ok (.aload_n 0, 1) := by decide +kernel
theorem dX3_takeAct_22 : decode cX3_takeAct 22 = .ok (.bipush 115, 2) := by decide +kernel
theorem dX3_takeAct_24 : decode cX3_takeAct 24 = .ok (.invokevirtual 48, 3) := by decide +kernel
theorem dX3_takeAct_27 : decode cX3_takeAct 27 = .ok (.ifCond .eq 10, 3) := by decide +kernel
theorem dX3_takeAct_30 : decode cX3_takeAct 30 = .ok (.aload_n 0, 1) := by decide +kernel
theorem dX3_takeAct_31 : decode cX3_takeAct 31 = .ok (.iconst 1, 1) := by decide +kernel
theorem dX3_takeAct_32 : decode cX3_takeAct 32 = .ok (.iconst 0, 1) := by decide +kernel
theorem dX3_takeAct_33 : decode cX3_takeAct 33 = .ok (.invokevirtual 79, 3) := by decide +kernel
theorem dX3_takeAct_36 : decode cX3_takeAct 36 = .ok (.ireturn, 1) := by decide +kernel
theorem dX3_takeAct_37 : decode cX3_takeAct 37 = .ok (.aload_n 0, 1) := by decide +kernel
theorem dX3_takeAct_38 : decode cX3_takeAct 38 = .ok (.bipush 103, 2) := by decide +kernel
theorem dX3_takeAct_40 : decode cX3_takeAct 40 = .ok (.invokevirtual 48, 3) := by decide +kernel
theorem dX3_takeAct_43 : decode cX3_takeAct 43 = .ok (.ifCond .ne 5, 3) := by decide +kernel
theorem dX3_takeAct_46 : decode cX3_takeAct 46 = .ok (.iconst 0, 1) := by decide +kernel
theorem dX3_takeAct_47 : decode cX3_takeAct 47 = .ok (.ireturn, 1) := by decide +kernel
theorem dX3_takeAct_48 : decode cX3_takeAct 48 = .ok (.aload_n 0, 1) := by decide +kernel
theorem dX3_takeAct_49 : decode cX3_takeAct 49 = .ok (.bipush 9, 2) := by decide +kernel
theorem dX3_takeAct_51 : decode cX3_takeAct 51 = .ok (.invokevirtual 71, 3) := by decide +kernel
theorem dX3_takeAct_54 : decode cX3_takeAct 54 = .ok (.istore_n 1, 1) := by decide +kernel
theorem dX3_takeAct_55 : decode cX3_takeAct 55 = .ok (.iload_n 1, 1) := by decide +kernel
theorem dX3_takeAct_56 : decode cX3_takeAct 56 = .ok (.ifCond .ge 5, 3) := by decide +kernel
theorem dX3_takeAct_59 : decode cX3_takeAct 59 = .ok (.iconst 0, 1) := by decide +kernel
theorem dX3_takeAct_60 : decode cX3_takeAct 60 = .ok (.ireturn, 1) := by decide +kernel
theorem dX3_takeAct_61 : decode cX3_takeAct 61 = .ok (.aload_n 0, 1) := by decide +kernel
theorem dX3_takeAct_62 : decode cX3_takeAct 62 = .ok (.bipush 7, 2) := by decide +kernel
theorem dX3_takeAct_64 : decode cX3_takeAct 64 = .ok (.invokevirtual 71, 3) := by decide +kernel
theorem dX3_takeAct_67 : decode cX3_takeAct 67 = .ok (.istore_n 2, 1) := by decide +kernel
theorem dX3_takeAct_68 : decode cX3_takeAct 68 = .ok (.iload_n 2, 1) := by decide +kernel
theorem dX3_takeAct_69 : decode cX3_takeAct 69 = .ok (.ifCond .lt 20, 3) := by decide +kernel
theorem dX3_takeAct_72 : decode cX3_takeAct 72 = .ok (.aload_n 0, 1) := by decide +kernel
theorem dX3_takeAct_73 : decode cX3_takeAct 73 = .ok (.iconst 2, 1) := by decide +kernel
theorem dX3_takeAct_74 : decode cX3_takeAct 74 = .ok (.iload_n 1, 1) := by decide +kernel
theorem dX3_takeAct_75 : decode cX3_takeAct 75 = .ok (.iload_n 2, 1) := by decide +kernel
theorem dX3_takeAct_76 : decode cX3_takeAct 76 = .ok (.invokestatic 83, 3) := by decide +kernel
theorem dX3_takeAct_79 : decode cX3_takeAct 79 = .ok (.invokevirtual 79, 3) := by decide +kernel
theorem dX3_takeAct_82 : decode cX3_takeAct 82 = .ok (.ifCond .eq 7, 3) := by decide +kernel
theorem dX3_takeAct_85 : decode cX3_takeAct 85 = .ok (.iconst 1, 1) := by decide +kernel
theorem dX3_takeAct_86 : decode cX3_takeAct 86 = .ok (.goto 4, 3) := by decide +kernel
theorem dX3_takeAct_89 : decode cX3_takeAct 89 = .ok (.iconst 0, 1) := by decide +kernel
theorem dX3_takeAct_90 : decode cX3_takeAct 90 = .ok (.ireturn, 1) := by decide +kernel
theorem dX3_takeLayer_0 : decode cX3_takeLayer 0 = .ok (.aload_n 0, 1) := by decide +kernel
theorem dX3_takeLayer_1 : decode cX3_takeLayer 1 = .ok (.iconst 3, 1) := by decide +kernel
theorem dX3_takeLayer_2 : decode cX3_takeLayer 2 = .ok (.invokevirtual 71, 3) := by decide +kernel
theorem dX3_takeLayer_5 : decode cX3_takeLayer 5 = .ok (.istore_n 3, 1) := by decide +kernel
theorem dX3_takeLayer_6 : decode cX3_takeLayer 6 = .ok (.iload_n 3, 1) := by decide +kernel
theorem dX3_takeLayer_7 : decode cX3_takeLayer 7 = .ok (.ifCond .ge 5, 3) := by decide +kernel
theorem dX3_takeLayer_10 : decode cX3_takeLayer 10 = .ok (.iconst 0, 1) := by decide +kernel
theorem dX3_takeLayer_11 : decode cX3_takeLayer 11 = .ok (.ireturn, 1) := by decide +kernel
theorem dX3_takeLayer_12 : decode cX3_takeLayer 12 = .ok (.aload_n 0, 1) := by decide +kernel
theorem dX3_takeLayer_13 : decode cX3_takeLayer 13 = .ok (.getfield 12, 3) := by decide +kernel
theorem dX3_takeLayer_16 : decode cX3_takeLayer 16 = .ok (.iload_n 1, 1) := by decide +kernel
theorem dX3_takeLayer_17 : decode cX3_takeLayer 17 = .ok (.iload_n 2, 1) := by decide +kernel
theorem dX3_takeLayer_18 : decode cX3_takeLayer 18 = .ok (.iload_n 3, 1) := by decide +kernel
theorem dX3_takeLayer_19 : decode cX3_takeLayer 19 = .ok (.invokevirtual 75, 3) := by decide +kernel
theorem dX3_takeLayer_22 : decode cX3_takeLayer 22 = .ok (.iconst 1, 1) := by decide +kernel
theorem dX3_takeLayer_23 : decode cX3_takeLayer 23 = .ok (.ireturn, 1) := by decide +kernel
theorem dX3_take_0 : decode cX3_take 0 = .ok (.aload_n 0, 1) := by decide +kernel
theorem dX3_take_1 : decode cX3_take 1 = .ok (.getfield 26, 3) := by decide +kernel
theorem dX3_take_4 : decode cX3_take 4 = .ok (.aload_n 0, 1) := by decide +kernel
theorem dX3_take_5 : decode cX3_take 5 = .ok (.getfield 22, 3) := by decide +kernel
theorem dX3_take_8 : decode cX3_take 8 = .ok (.if_icmp .ge 16, 3) := by decide +kernel
theorem dX3_take_11 : decode cX3_take 11 = .ok (.aload_n 0, 1) := by decide +kernel
theorem dX3_take_12 : decode cX3_take 12 = .ok (.getfield 18, 3) := by decide +kernel
theorem dX3_take_15 : decode cX3_take 15 = .ok (.aload_n 0, 1) := by decide +kernel
theorem dX3_take_16 : decode cX3_take 16 = .ok (.getfield 26, 3) := by decide +kernel
theorem dX3_take_19 : decode cX3_take 19 = .ok (.iaload, 1) := by decide +kernel
theorem dX3_take_20 : decode cX3_take 20 = .ok (.iload_n 1, 1) := by decide +kernel
theorem dX3_take_21 : decode cX3_take 21 = .ok (.if_icmp .eq 5, 3) := by decide +kernel
theorem dX3_take_24 : decode cX3_take 24 = .ok (.iconst 0, 1) := by decide +kernel
theorem dX3_take_25 : decode cX3_take 25 = .ok (.ireturn, 1) := by decide +kernel
theorem dX3_take_26 : decode cX3_take 26 = .ok (.aload_n 0, 1) := by decide +kernel
theorem dX3_take_27 : decode cX3_take 27 = .ok (.dup, 1) := by decide +kernel
theorem dX3_take_28 : decode cX3_take 28 = .ok (.getfield 26, 3) := by decide +kernel
theorem dX3_take_31 : decode cX3_take 31 = .ok (.iconst 1, 1) := by decide +kernel
theorem dX3_take_32 : decode cX3_take 32 = .ok (.iadd, 1) := by decide +kernel
theorem dX3_take_33 : decode cX3_take 33 = .ok (.putfield 26, 3) := by decide +kernel
theorem dX3_take_36 : decode cX3_take 36 = .ok (.iconst 1, 1) := by decide +kernel
theorem dX3_take_37 : decode cX3_take 37 = .ok (.ireturn, 1) := by decide +kernel
theorem dX3_takeOneOf_0 : decode cX3_takeOneOf 0 = .ok (.iconst 0, 1) := by decide +kernel
theorem dX3_takeOneOf_1 : decode cX3_takeOneOf 1 = .ok (.istore_n 2, 1) := by decide +kernel
theorem dX3_takeOneOf_2 : decode cX3_takeOneOf 2 = .ok (.iload_n 2, 1) := by decide +kernel
theorem dX3_takeOneOf_3 : decode cX3_takeOneOf 3 = .ok (.aload_n 1, 1) := by decide +kernel
theorem dX3_takeOneOf_4 : decode cX3_takeOneOf 4 = .ok (.invokevirtual 86, 3) := by decide +kernel
theorem dX3_takeOneOf_7 : decode cX3_takeOneOf 7 = .ok (.if_icmp .ge 27, 3) := by decide +kernel
theorem dX3_takeOneOf_10 : decode cX3_takeOneOf 10 = .ok (.aload_n 0, 1) := by decide +kernel
theorem dX3_takeOneOf_11 : decode cX3_takeOneOf 11 = .ok (.aload_n 1, 1) := by decide +kernel
theorem dX3_takeOneOf_12 : decode cX3_takeOneOf 12 = .ok (.iload_n 2, 1) := by decide +kernel
theorem dX3_takeOneOf_13 : decode cX3_takeOneOf 13 = .ok (.invokevirtual 91, 3) := by decide +kernel
theorem dX3_takeOneOf_16 : decode cX3_takeOneOf 16 = .ok (.invokevirtual 48, 3) := by decide +kernel
theorem dX3_takeOneOf_19 : decode cX3_takeOneOf 19 = .ok (.ifCond .eq 9, 3) := by decide +kernel
theorem dX3_takeOneOf_22 : decode cX3_takeOneOf 22 = .ok (.aload_n 1, 1) := by decide +kernel
theorem dX3_takeOneOf_23 : decode cX3_takeOneOf 23 = .ok (.iload_n 2, 1) := by decide +kernel
theorem dX3_takeOneOf_24 : decode cX3_takeOneOf 24 = .ok (.invokevirtual 91, 3) := by decide +kernel
theorem dX3_takeOneOf_27 : decode cX3_takeOneOf 27 = .ok (.ireturn, 1) := by decide +kernel
theorem dX3_takeOneOf_28 : decode cX3_takeOneOf 28 = .ok (.iinc 2 1, 3) := by decide +kernel
theorem dX3_takeOneOf_31 : decode cX3_takeOneOf 31 = .ok (.goto (-29), 3) := by decide +kernel
theorem dX3_takeOneOf_34 : decode cX3_takeOneOf 34 = .ok (.iconst (-1), 1) := by decide +kernel
theorem dX3_takeOneOf_35 : decode cX3_takeOneOf 35 = .ok (.ireturn, 1) := by decide +kernel
theorem dX3_takeDigit_0 : decode cX3_takeDigit 0 = .ok (.aload_n 0, 1) := by decide +kernel
theorem dX3_takeDigit_1 : decode cX3_takeDigit 1 = .ok (.getfield 26, 3) := by decide +kernel
theorem dX3_takeDigit_4 : decode cX3_takeDigit 4 = .ok (.aload_n 0, 1) := by decide +kernel
theorem dX3_takeDigit_5 : decode cX3_takeDigit 5 = .ok (.getfield 22, 3) := by decide +kernel
theorem dX3_takeDigit_8 : decode cX3_takeDigit 8 = .ok (.if_icmp .ge 33, 3) := by decide +kernel
theorem dX3_takeDigit_11 : decode cX3_takeDigit 11 = .ok (.aload_n 0, 1) := by decide +kernel
theorem dX3_takeDigit_12 : decode cX3_takeDigit 12 = .ok (.getfield 18, 3) := by decide +kernel
theorem dX3_takeDigit_15 : decode cX3_takeDigit 15 = .ok (.aload_n 0, 1) := by decide +kernel
theorem dX3_takeDigit_16 : decode cX3_takeDigit 16 = .ok (.getfield 26, 3) := by decide +kernel
theorem dX3_takeDigit_19 : decode cX3_takeDigit 19 = .ok (.iaload, 1) := by decide +kernel
theorem dX3_takeDigit_20 : decode cX3_takeDigit 20 = .ok (.bipush 48, 2) := by decide +kernel
theorem dX3_takeDigit_22 : decode cX3_takeDigit 22 = .ok (.if_icmp .lt 19, 3) := by decide +kernel
theorem dX3_takeDigit_25 : decode cX3_takeDigit 25 = .ok (.aload_n 0, 1) := by decide +kernel
theorem dX3_takeDigit_26 : decode cX3_takeDigit 26 = .ok (.getfield 18, 3) := by decide +kernel
theorem dX3_takeDigit_29 : decode cX3_takeDigit 29 = .ok (.aload_n 0, 1) := by decide +kernel
theorem dX3_takeDigit_30 : decode cX3_takeDigit 30 = .ok (.getfield 26, 3) := by decide +kernel
theorem dX3_takeDigit_33 : decode cX3_takeDigit 33 = .ok (.iaload, 1) := by decide +kernel
theorem dX3_takeDigit_34 : decode cX3_takeDigit 34 = .ok (.bipush 48, 2) := by decide +kernel
theorem dX3_takeDigit_36 : decode cX3_takeDigit 36 = .ok (.iload_n 1, 1) := by decide +kernel
theorem dX3_takeDigit_37 : decode cX3_takeDigit 37 = .ok (.iadd, 1) := by decide +kernel
theorem dX3_takeDigit_38 : decode cX3_takeDigit 38 = .ok (.if_icmp .le 5, 3) := by decide +kernel
theorem dX3_takeDigit_41 : decode cX3_takeDigit 41 = .ok (.iconst (-1), 1) := by decide +kernel
theorem dX3_takeDigit_42 : decode cX3_takeDigit 42 = .ok (.ireturn, 1) := by decide +kernel
theorem dX3_takeDigit_43 : decode cX3_takeDigit 43 = .ok (.aload_n 0, 1) := by decide +kernel
theorem dX3_takeDigit_44 : decode cX3_takeDigit 44 = .ok (.dup, 1) := by decide +kernel
theorem dX3_takeDigit_45 : decode cX3_takeDigit 45 = .ok (.getfield 26, 3) := by decide +kernel
theorem dX3_takeDigit_48 : decode cX3_takeDigit 48 = .ok (.iconst 1, 1) := by decide +kernel
theorem dX3_takeDigit_49 : decode cX3_takeDigit 49 = .ok (.iadd, 1) := by decide +kernel
theorem dX3_takeDigit_50 : decode cX3_takeDigit 50 = .ok (.putfield 26, 3) := by decide +kernel
theorem dX3_takeDigit_53 : decode cX3_takeDigit 53 = .ok (.aload_n 0, 1) := by decide +kernel
theorem dX3_takeDigit_54 : decode cX3_takeDigit 54 = .ok (.getfield 18, 3) := by decide +kernel
theorem dX3_takeDigit_57 : decode cX3_takeDigit 57 = .ok (.aload_n 0, 1) := by decide +kernel
theorem dX3_takeDigit_58 : decode cX3_takeDigit 58 = .ok (.getfield 26, 3) := by decide +kernel
theorem dX3_takeDigit_61 : decode cX3_takeDigit 61 = .ok (.iconst 1, 1) := by decide +kernel
theorem dX3_takeDigit_62 : decode cX3_takeDigit 62 = .ok (.isub, 1) := by decide +kernel
theorem dX3_takeDigit_63 : decode cX3_takeDigit 63 = .ok (.iaload, 1) := by decide +kernel
theorem dX3_takeDigit_64 : decode cX3_takeDigit 64 = .ok (.bipush 48, 2) := by decide +kernel
theorem dX3_takeDigit_66 : decode cX3_takeDigit 66 = .ok (.isub, 1) := by decide +kernel
theorem dX3_takeDigit_67 : decode cX3_takeDigit 67 = .ok (.ireturn, 1) := by decide +kernel
theorem dX4_init_0 : decode cX4_init 0 = .ok (.aload_n 0, 1) := by decide +kernel
theorem dX4_init_1 : decode cX4_init 1 = .ok (.invokespecial 1, 3) := by decide +kernel
theorem dX4_init_4 : decode cX4_init 4 = .ok (.return_, 1) := by decide +kernel
theorem dX4_sink_0 : decode cX4_sink 0 = .ok (.aload_n 0, 1) := by decide +kernel
theorem dX4_sink_1 : decode cX4_sink 1 = .ok (.iload_n 3, 1) := by decide +kernel
theorem dX4_sink_2 : decode cX4_sink 2 = .ok (.putfield 7, 3) := by decide +kernel
theorem dX4_sink_5 : decode cX4_sink 5 = .ok (.aload_n 0, 1) := by decide +kernel
theorem dX4_sink_6 : decode cX4_sink 6 = .ok (.iconst 0, 1) := by decide +kernel
theorem dX4_sink_7 : decode cX4_sink 7 = .ok (.putfield 13, 3) := by decide +kernel
theorem dX4_sink_10 : decode cX4_sink 10 = .ok (.aload_n 0, 1) := by decide +kernel
theorem dX4_sink_11 : decode cX4_sink 11 = .ok (.iconst 0, 1) := by decide +kernel
theorem dX4_sink_12 : decode cX4_sink 12 = .ok (.putfield 16, 3) := by decide +kernel
theorem dX4_sink_15 : decode cX4_sink 15 = .ok (.iconst 0, 1) := by decide +kernel
theorem dX4_sink_16 : decode cX4_sink 16 = .ok (.istore 6, 2) := by decide +kernel
theorem dX4_sink_18 : decode cX4_sink 18 = .ok (.iload 6, 2) := by decide +kernel
theorem dX4_sink_20 : decode cX4_sink 20 = .ok (.iload 4, 2) := by decide +kernel
theorem dX4_sink_22 : decode cX4_sink 22 = .ok (.if_icmp .gt 117, 3) := by decide +kernel
theorem dX4_sink_25 : decode cX4_sink 25 = .ok (.aload_n 0, 1) := by decide +kernel
theorem dX4_sink_26 : decode cX4_sink 26 = .ok (.getfield 16, 3) := by decide +kernel
theorem dX4_sink_29 : decode cX4_sink 29 = .ok (.ifCond .ne 110, 3) := by decide +kernel
theorem dX4_sink_32 : decode cX4_sink 32 = .ok (.aload_n 1, 1) := by decide +kernel
theorem dX4_sink_33 : decode cX4_sink 33 = .ok (.aload_n 0, 1) := by decide +kernel
theorem dX4_sink_34 : decode cX4_sink 34 = .ok (.getfield 7, 3) := by decide +kernel
theorem dX4_sink_37 : decode cX4_sink 37 = .ok (.iload 6, 2) := by decide +kernel
theorem dX4_sink_39 : decode cX4_sink 39 = .ok (.invokevirtual 20, 3) := by decide +kernel
theorem dX4_sink_42 : decode cX4_sink 42 = .ok (.ifCond .eq 97, 3) := by decide +kernel
theorem dX4_sink_45 : decode cX4_sink 45 = .ok (.aload_n 0, 1) := by decide +kernel
theorem dX4_sink_46 : decode cX4_sink 46 = .ok (.iload 6, 2) := by decide +kernel
theorem dX4_sink_48 : decode cX4_sink 48 = .ok (.putfield 13, 3) := by decide +kernel
theorem dX4_sink_51 : decode cX4_sink 51 = .ok (.aload_n 0, 1) := by decide +kernel
theorem dX4_sink_52 : decode cX4_sink 52 = .ok (.getfield 7, 3) := by decide +kernel
theorem dX4_sink_55 : decode cX4_sink 55 = .ok (.iload 6, 2) := by decide +kernel
theorem dX4_sink_57 : decode cX4_sink 57 = .ok (.invokestatic 26, 3) := by decide +kernel
theorem dX4_sink_60 : decode cX4_sink 60 = .ok (.istore 7, 2) := by decide +kernel
theorem dX4_sink_62 : decode cX4_sink 62 = .ok (.aload_n 0, 1) := by decide +kernel
theorem dX4_sink_63 : decode cX4_sink 63 = .ok (.aload_n 1, 1) := by decide +kernel
theorem dX4_sink_64 : decode cX4_sink 64 = .ok (.aload_n 0, 1) := by decide +kernel
theorem dX4_sink_65 : decode cX4_sink 65 = .ok (.getfield 7, 3) := by decide +kernel
theorem dX4_sink_68 : decode cX4_sink 68 = .ok (.aload_n 2, 1) := by decide +kernel
theorem dX4_sink_69 : decode cX4_sink 69 = .ok (.getfield 32, 3) := by decide +kernel
theorem dX4_sink_72 : decode cX4_sink 72 = .ok (.iload 7, 2) := by decide +kernel
theorem dX4_sink_74 : decode cX4_sink 74 = .ok (.iaload, 1) := by decide +kernel
theorem dX4_sink_75 : decode cX4_sink 75 = .ok (.aload_n 2, 1) := by decide +kernel
theorem dX4_sink_76 : decode cX4_sink 76 = .ok (.getfield 38, 3) := by decide +kernel
theorem dX4_sink_79 : decode cX4_sink 79 = .ok (.iload 7, 2) := by decide +kernel
theorem dX4_sink_81 : decode cX4_sink 81 = .ok (.iaload, 1) := by decide +kernel
theorem dX4_sink_82 : decode cX4_sink 82 = .ok (.invokevirtual 41, 3) := by decide +kernel
theorem dX4_sink_85 : decode cX4_sink 85 = .ok (.putfield 7, 3) := by decide +kernel
theorem dX4_sink_88 : decode cX4_sink 88 = .ok (.aload_n 0, 1) := by decide +kernel
theorem dX4_sink_89 : decode cX4_sink 89 = .ok (.iload 5, 2) := by decide +kernel
theorem dX4_sink_91 : decode cX4_sink 91 = .ok (.ifCond .eq 38, 3) := by decide +kernel
theorem dX4_sink_94 : decode cX4_sink 94 = .ok (.aload_n 1, 1) := by decide +kernel
theorem dX4_sink_95 : decode cX4_sink 95 = .ok (.aload_n 0, 1) := by decide +kernel
theorem dX4_sink_96 : decode cX4_sink 96 = .ok (.getfield 7, 3) := by decide +kernel
theorem dX4_sink_99 : decode cX4_sink 99 = .ok (.iload 6, 2) := by decide +kernel
theorem dX4_sink_101 : decode cX4_sink 101 = .ok (.invokevirtual 20, 3) := by decide +kernel
theorem dX4_sink_104 : decode cX4_sink 104 = .ok (.ifCond .eq 25, 3) := by decide +kernel
theorem dX4_sink_107 : decode cX4_sink 107 = .ok (.aload_n 1, 1) := by decide +kernel
theorem dX4_sink_108 : decode cX4_sink 108 = .ok (.getfield 45, 3) := by decide +kernel
theorem dX4_sink_111 : decode cX4_sink 111 = .ok (.aload_n 0, 1) := by decide +kernel
theorem dX4_sink_112 : decode cX4_sink 112 = .ok (.getfield 7, 3) := by decide +kernel
theorem dX4_sink_115 : decode cX4_sink 115 = .ok (.iload 6, 2) := by decide +kernel
theorem dX4_sink_117 : decode cX4_sink 117 = .ok (.invokestatic 26, 3) := by decide +kernel
theorem dX4_sink_120 : decode cX4_sink 120 = .ok (.iaload, 1) := by decide +kernel
theorem dX4_sink_121 : decode cX4_sink 121 = .ok (.iconst 1, 1) := by decide +kernel
theorem dX4_sink_122 : decode cX4_sink 122 = .ok (.if_icmp .ne 7, 3) := by decide +kernel
theorem dX4_sink_125 : decode cX4_sink 125 = .ok (.iconst 1, 1) := by decide +kernel
theorem dX4_sink_126 : decode cX4_sink 126 = .ok (.goto 4, 3) := by decide +kernel
theorem dX4_sink_129 : decode cX4_sink 129 = .ok (.iconst 0, 1) := by decide +kernel
theorem dX4_sink_130 : decode cX4_sink 130 = .ok (.putfield 16, 3) := by decide +kernel
theorem dX4_sink_133 : decode cX4_sink 133 = .ok (.iinc 6 1, 3) := by decide +kernel
theorem dX4_sink_136 : decode cX4_sink 136 = .ok (.goto (-118), 3) := by decide +kernel
theorem dX4_sink_139 : decode cX4_sink 139 = .ok (.return_, 1) := by decide +kernel
theorem dX5_init_0 : decode cX5_init 0 = .ok (.aload_n 0, 1) := by decide +kernel
theorem dX5_init_1 : decode cX5_init 1 = .ok (.invokespecial 3, 3) := by decide +kernel
theorem dX5_init_4 : decode cX5_init 4 = .ok (.aload_n 0, 1) := by decide +kernel
theorem dX5_init_5 : decode cX5_init 5 = .ok (.iconst 3, 1) := by decide +kernel
theorem dX5_init_6 : decode cX5_init 6 = .ok (.newarray .int, 2) := by decide +kernel
theorem dX5_init_8 : decode cX5_init 8 = .ok (.putfield 9, 3) := by decide +kernel
theorem dX5_init_11 : decode cX5_init 11 = .ok (.aload_n 0, 1) := by decide +kernel
theorem dX5_init_12 : decode cX5_init 12 = .ok (.iconst 0, 1) := by decide +kernel
theorem dX5_init_13 : decode cX5_init 13 = .ok (.putfield 15, 3) := by decide +kernel
theorem dX5_init_16 : decode cX5_init 16 = .ok (.aload_n 0, 1) := by decide +kernel
theorem dX5_init_17 : decode cX5_init 17 = .ok (.iconst 3, 1) := by decide +kernel
theorem dX5_init_18 : decode cX5_init 18 = .ok (.newarray .int, 2) := by decide +kernel
theorem dX5_init_20 : decode cX5_init 20 = .ok (.putfield 19, 3) := by decide +kernel
theorem dX5_init_23 : decode cX5_init 23 = .ok (.aload_n 0, 1) := by decide +kernel
theorem dX5_init_24 : decode cX5_init 24 = .ok (.bipush 123, 2) := by decide +kernel
theorem dX5_init_26 : decode cX5_init 26 = .ok (.newarray .int, 2) := by decide +kernel
theorem dX5_init_28 : decode cX5_init 28 = .ok (.putfield 22, 3) := by decide +kernel
theorem dX5_init_31 : decode cX5_init 31 = .ok (.aload_n 0, 1) := by decide +kernel
theorem dX5_init_32 : decode cX5_init 32 = .ok (.bipush 123, 2) := by decide +kernel
theorem dX5_init_34 : decode cX5_init 34 = .ok (.newarray .int, 2) := by decide +kernel
theorem dX5_init_36 : decode cX5_init 36 = .ok (.putfield 25, 3) := by decide +kernel
theorem dX5_init_39 : decode cX5_init 39 = .ok (.aload_n 0, 1) := by decide +kernel
theorem dX5_init_40 : decode cX5_init 40 = .ok (.bipush 123, 2) := by decide +kernel
theorem dX5_init_42 : decode cX5_init 42 = .ok (.newarray .int, 2) := by decide +kernel
theorem dX5_init_44 : decode cX5_init 44 = .ok (.putfield 28, 3) := by decide +kernel
theorem dX5_init_47 : decode cX5_init 47 = .ok (.aload_n 0, 1) := by decide +kernel
theorem dX5_init_48 : decode cX5_init 48 = .ok (.iconst 4, 1) := by decide +kernel
theorem dX5_init_49 : decode cX5_init 49 = .ok (.newarray .int, 2) := by decide +kernel
theorem dX5_init_51 : decode cX5_init 51 = .ok (.putfield 31, 3) := by decide +kernel
theorem dX5_init_54 : decode cX5_init 54 = .ok (.aload_n 0, 1) := by decide +kernel
theorem dX5_init_55 : decode cX5_init 55 = .ok (.bipush 80, 2) := by decide +kernel
theorem dX5_init_57 : decode cX5_init 57 = .ok (.newarray .int, 2) := by decide +kernel
theorem dX5_init_59 : decode cX5_init 59 = .ok (.putfield 34, 3) := by decide +kernel
theorem dX5_init_62 : decode cX5_init 62 = .ok (.aload_n 0, 1) := by decide +kernel
theorem dX5_init_63 : decode cX5_init 63 = .ok (.bipush 15, 2) := by decide +kernel
theorem dX5_init_65 : decode cX5_init 65 = .ok (.newarray .int, 2) := by decide +kernel
theorem dX5_init_67 : decode cX5_init 67 = .ok (.putfield 37, 3) := by decide +kernel
theorem dX5_init_70 : decode cX5_init 70 = .ok (.aload_n 0, 1) := by decide +kernel
theorem dX5_init_71 : decode cX5_init 71 = .ok (.iconst 3, 1) := by decide +kernel
theorem dX5_init_72 : decode cX5_init 72 = .ok (.newarray .int, 2) := by decide +kernel
theorem dX5_init_74 : decode cX5_init 74 = .ok (.putfield 40, 3) := by decide +kernel
theorem dX5_init_77 : decode cX5_init 77 = .ok (.aload_n 0, 1) := by decide +kernel
theorem dX5_init_78 : decode cX5_init 78 = .ok (.iconst 3, 1) := by decide +kernel
theorem dX5_init_79 : decode cX5_init 79 = .ok (.newarray .int, 2) := by decide +kernel
theorem dX5_init_81 : decode cX5_init 81 = .ok (.putfield 43, 3) := by decide +kernel
theorem dX5_init_84 : decode cX5_init 84 = .ok (.aload_n 0, 1) := by decide +kernel
theorem dX5_init_85 : decode cX5_init 85 = .ok (.bipush (-4), 2) := by decide +kernel
theorem dX5_init_87 : decode cX5_init 87 = .ok (.putfield 46, 3) := by decide +kernel
theorem dX5_init_90 : decode cX5_init 90 = .ok (.aload_n 0, 1) := by decide +kernel
theorem dX5_init_91 : decode cX5_init 91 = .ok (.aload_n 1, 1) := by decide +kernel
theorem dX5_init_92 : decode cX5_init 92 = .ok (.putfield 49, 3) := by decide +kernel
theorem dX5_init_95 : decode cX5_init 95 = .ok (.aload_n 0, 1) := by decide +kernel
theorem dX5_init_96 : decode cX5_init 96 = .ok (.aload_n 1, 1) := by decide +kernel
theorem dX5_init_97 : decode cX5_init 97 = .ok (.getfield 53, 3) := by decide +kernel
theorem dX5_init_100 : decode cX5_init 100 = .ok (.putfield 59, 3) := by decide +kernel
theorem dX5_init_103 : decode cX5_init 103 = .ok (.return_, 1) := by decide +kernel
theorem dX5_work_0 : decode cX5_work 0 = .ok (.aload_n 0, 1) := by decide +kernel
theorem dX5_work_1 : decode cX5_work 1 = .ok (.iconst 0, 1) := by decide +kernel
theorem dX5_work_2 : decode cX5_work 2 = .ok (.putfield 15, 3) := by decide +kernel
theorem dX5_work_5 : decode cX5_work 5 = .ok (.aload_n 0, 1) := by decide +kernel
theorem dX5_work_6 : decode cX5_work 6 = .ok (.bipush (-4), 2) := by decide +kernel
theorem dX5_work_8 : decode cX5_work 8 = .ok (.putfield 46, 3) := by decide +kernel
theorem dX5_work_11 : decode cX5_work 11 = .ok (.aload_n 0, 1) := by decide +kernel
theorem dX5_work_12 : decode cX5_work 12 = .ok (.getfield 34, 3) := by decide +kernel
theorem dX5_work_15 : decode cX5_work 15 = .ok (.iconst 0, 1) := by decide +kernel
theorem dX5_work_16 : decode cX5_work 16 = .ok (.invokestatic 60, 3) := by decide +kernel
theorem dX5_work_19 : decode cX5_work 19 = .ok (.iconst 0, 1) := by decide +kernel
theorem dX5_work_20 : decode cX5_work 20 = .ok (.istore_n 2, 1) := by decide +kernel
theorem dX5_work_21 : decode cX5_work 21 = .ok (.iload_n 2, 1) := by decide +kernel
theorem dX5_work_22 : decode cX5_work 22 = .ok (.aload_n 0, 1) := by decide +kernel
theorem dX5_work_23 : decode cX5_work 23 = .ok (.getfield 49, 3) := by decide +kernel
theorem dX5_work_26 : decode cX5_work 26 = .ok (.getfield 66, 3) := by decide +kernel
theorem dX5_work_29 : decode cX5_work 29 = .ok (.if_icmp .ge 127, 3) := by decide +kernel
theorem dX5_work_32 : decode cX5_work 32 = .ok (.aload_n 0, 1) := by decide +kernel
theorem dX5_work_33 : decode cX5_work 33 = .ok (.getfield 15, 3) := by decide +kernel
theorem dX5_work_36 : decode cX5_work 36 = .ok (.iconst 3, 1) := by decide +kernel
theorem dX5_work_37 : decode cX5_work 37 = .ok (.if_icmp .ge 119, 3) := by decide +kernel
theorem dX5_work_40 : decode cX5_work 40 = .ok (.aload_n 0, 1) := by decide +kernel
theorem dX5_work_41 : decode cX5_work 41 = .ok (.getfield 49, 3) := by decide +kernel
theorem dX5_work_44 : decode cX5_work 44 = .ok (.getfield 69, 3) := by decide +kernel
theorem dX5_work_47 : decode cX5_work 47 = .ok (.iload_n 2, 1) := by decide +kernel
theorem dX5_work_48 : decode cX5_work 48 = .ok (.aaload, 1) := by decide +kernel
theorem dX5_work_49 : decode cX5_work 49 = .ok (.astore_n 3, 1) := by decide +kernel
theorem dX5_work_50 : decode cX5_work 50 = .ok (.iload_n 1, 1) := by decide +kernel
theorem dX5_work_51 : decode cX5_work 51 = .ok (.aload_n 3, 1) := by decide +kernel
theorem dX5_work_52 : decode cX5_work 52 = .ok (.invokevirtual 73, 3) := by decide +kernel
theorem dX5_work_55 : decode cX5_work 55 = .ok (.invokestatic 79, 3) := by decide +kernel
theorem dX5_work_58 : decode cX5_work 58 = .ok (.istore 4, 2) := by decide +kernel
theorem dX5_work_60 : decode cX5_work 60 = .ok (.aload_n 3, 1) := by decide +kernel
theorem dX5_work_61 : decode cX5_work 61 = .ok (.getfield 85, 3) := by decide +kernel
theorem dX5_work_64 : decode cX5_work 64 = .ok (.ifCond .ne 86, 3) := by decide +kernel
theorem dX5_work_67 : decode cX5_work 67 = .ok (.aload_n 3, 1) := by decide +kernel
theorem dX5_work_68 : decode cX5_work 68 = .ok (.getfield 88, 3) := by decide +kernel
theorem dX5_work_71 : decode cX5_work 71 = .ok (.aload_n 3, 1) := by decide +kernel
theorem dX5_work_72 : decode cX5_work 72 = .ok (.iload 4, 2) := by decide +kernel
theorem dX5_work_74 : decode cX5_work 74 = .ok (.invokevirtual 91, 3) := by decide +kernel
theorem dX5_work_77 : decode cX5_work 77 = .ok (.if_icmp .lt 73, 3) := by decide +kernel
theorem dX5_work_80 : decode cX5_work 80 = .ok (.aload_n 0, 1) := by decide +kernel
theorem dX5_work_81 : decode cX5_work 81 = .ok (.getfield 9, 3) := by decide +kernel
theorem dX5_work_84 : decode cX5_work 84 = .ok (.aload_n 0, 1) := by decide +kernel
theorem dX5_work_85 : decode cX5_work 85 = .ok (.getfield 15, 3) := by decide +kernel
theorem dX5_work_88 : decode cX5_work 88 = .ok (.iload_n 2, 1) := by decide +kernel
theorem dX5_work_89 : decode cX5_work 89 = .ok (.iastore, 1) := by decide +kernel
theorem dX5_work_90 : decode cX5_work 90 = .ok (.aload_n 0, 1) := by decide +kernel
theorem dX5_work_91 : decode cX5_work 91 = .ok (.getfield 49, 3) := by decide +kernel
theorem dX5_work_94 : decode cX5_work 94 = .ok (.getfield 95, 3) := by decide +kernel
theorem dX5_work_97 : decode cX5_work 97 = .ok (.aload_n 0, 1) := by decide +kernel
theorem dX5_work_98 : decode cX5_work 98 = .ok (.getfield 59, 3) := by decide +kernel
theorem dX5_work_101 : decode cX5_work 101 = .ok (.aload_n 0, 1) := by decide +kernel
theorem dX5_work_102 : decode cX5_work 102 = .ok (.getfield 59, 3) := by decide +kernel
theorem dX5_work_105 : decode cX5_work 105 = .ok (.getfield 99, 3) := by decide +kernel
theorem dX5_work_108 : decode cX5_work 108 = .ok (.aload_n 3, 1) := by decide +kernel
theorem dX5_work_109 : decode cX5_work 109 = .ok (.getfield 105, 3) := by decide +kernel
theorem dX5_work_112 : decode cX5_work 112 = .ok (.iload 4, 2) := by decide +kernel
theorem dX5_work_114 : decode cX5_work 114 = .ok (.iconst 0, 1) := by decide +kernel
theorem dX5_work_115 : decode cX5_work 115 = .ok (.invokevirtual 108, 3) := by decide +kernel
theorem dX5_work_118 : decode cX5_work 118 = .ok (.aload_n 0, 1) := by decide +kernel
theorem dX5_work_119 : decode cX5_work 119 = .ok (.aload_n 0, 1) := by decide +kernel
theorem dX5_work_120 : decode cX5_work 120 = .ok (.getfield 15, 3) := by decide +kernel
theorem dX5_work_123 : decode cX5_work 123 = .ok (.aload_n 0, 1) := by decide +kernel
theorem dX5_work_124 : decode cX5_work 124 = .ok (.getfield 49, 3) := by decide +kernel
theorem dX5_work_127 : decode cX5_work 127 = .ok (.getfield 95, 3) := by decide +kernel
theorem dX5_work_130 : decode cX5_work 130 = .ok (.getfield 114, 3) := by decide +kernel
theorem dX5_work_133 : decode cX5_work 133 = .ok (.aload_n 3, 1) := by decide +kernel
theorem dX5_work_134 : decode cX5_work 134 = .ok (.invokevirtual 115, 3) := by decide +kernel
theorem dX5_work_137 : decode cX5_work 137 = .ok (.invokevirtual 118, 3) := by decide +kernel
theorem dX5_work_140 : decode cX5_work 140 = .ok (.aload_n 0, 1) := by decide +kernel
theorem dX5_work_141 : decode cX5_work 141 = .ok (.dup, 1) := by decide +kernel
theorem dX5_work_142 : decode cX5_work 142 = .ok (.getfield 15, 3) := by decide +kernel
theorem dX5_work_145 : decode cX5_work 145 = .ok (.iconst 1, 1) := by decide +kernel
theorem dX5_work_146 : decode cX5_work 146 = .ok (.iadd, 1) := by decide +kernel
theorem dX5_work_147 : decode cX5_work 147 = .ok (.putfield 15, 3) := by decide +kernel
theorem dX5_work_150 : decode cX5_work 150 = .ok (.iinc 2 1, 3) := by decide +kernel
theorem dX5_work_153 : decode cX5_work 153 = .ok (.goto (-132), 3) := by decide +kernel
theorem dX5_work_156 : decode cX5_work 156 = .ok (.aload_n 0, 1) := by decide +kernel
theorem dX5_work_157 : decode cX5_work 157 = .ok (.invokevirtual 122, 3) := by decide +kernel
theorem dX5_work_160 : decode cX5_work 160 = .ok (.aload_n 0, 1) := by decide +kernel
theorem dX5_work_161 : decode cX5_work 161 = .ok (.iconst 0, 1) := by decide +kernel
theorem dX5_work_162 : decode cX5_work 162 = .ok (.iconst 0, 1) := by decide +kernel
theorem dX5_work_163 : decode cX5_work 163 = .ok (.invokevirtual 125, 3) := by decide +kernel
theorem dX5_work_166 : decode cX5_work 166 = .ok (.aload_n 0, 1) := by decide +kernel
theorem dX5_work_167 : decode cX5_work 167 = .ok (.getfield 46, 3) := by decide +kernel
theorem dX5_work_170 : decode cX5_work 170 = .ok (.ireturn, 1) := by decide +kernel
theorem dX5_headingOf_0 : decode cX5_headingOf 0 = .ok (.iconst 0, 1) := by decide +kernel
theorem dX5_headingOf_1 : decode cX5_headingOf 1 = .ok (.istore_n 2, 1) := by decide +kernel
theorem dX5_headingOf_2 : decode cX5_headingOf 2 = .ok (.iload_n 2, 1) := by decide +kernel
theorem dX5_headingOf_3 : decode cX5_headingOf 3 = .ok (.aload_n 0, 1) := by decide +kernel
theorem dX5_headingOf_4 : decode cX5_headingOf 4 = .ok (.getfield 15, 3) := by decide +kernel
theorem dX5_headingOf_7 : decode cX5_headingOf 7 = .ok (.if_icmp .ge 40, 3) := by decide +kernel
theorem dX5_headingOf_10 : decode cX5_headingOf 10 = .ok (.aload_n 0, 1) := by decide +kernel
theorem dX5_headingOf_11 : decode cX5_headingOf 11 = .ok (.getfield 46, 3) := by decide +kernel
theorem dX5_headingOf_14 : decode cX5_headingOf 14 = .ok (.bipush (-4), 2) := by decide +kernel
theorem dX5_headingOf_16 : decode cX5_headingOf 16 = .ok (.if_icmp .eq 31, 3) := by decide +kernel
theorem dX5_headingOf_19 : decode cX5_headingOf 19 = .ok (.aload_n 0, 1) := by decide +kernel
theorem dX5_headingOf_20 : decode cX5_headingOf 20 = .ok (.getfield 9, 3) := by decide +kernel
theorem dX5_headingOf_23 : decode cX5_headingOf 23 = .ok (.iload_n 2, 1) := by decide +kernel
theorem dX5_headingOf_24 : decode cX5_headingOf 24 = .ok (.iaload, 1) := by decide +kernel
theorem dX5_headingOf_25 : decode cX5_headingOf 25 = .ok (.iload_n 1, 1) := by decide +kernel
theorem dX5_headingOf_26 : decode cX5_headingOf 26 = .ok (.if_icmp .ne 15, 3) := by decide +kernel
theorem dX5_headingOf_29 : decode cX5_headingOf 29 = .ok (.aload_n 0, 1) := by decide +kernel
theorem dX5_headingOf_30 : decode cX5_headingOf 30 = .ok (.getfield 25, 3) := by decide +kernel
theorem dX5_headingOf_33 : decode cX5_headingOf 33 = .ok (.aload_n 0, 1) := by decide +kernel
theorem dX5_headingOf_34 : decode cX5_headingOf 34 = .ok (.getfield 43, 3) := by decide +kernel
theorem dX5_headingOf_37 : decode cX5_headingOf 37 = .ok (.iload_n 2, 1) := by decide +kernel
theorem dX5_headingOf_38 : decode cX5_headingOf 38 = .ok (.iaload, 1) := by decide +kernel
theorem dX5_headingOf_39 : decode cX5_headingOf 39 = .ok (.iaload, 1) := by decide +kernel
theorem dX5_headingOf_40 : decode cX5_headingOf 40 = .ok (.ireturn, 1) := by decide +kernel
theorem dX5_headingOf_41 : decode cX5_headingOf 41 = .ok (.iinc 2 1, 3) := by decide +kernel
theorem dX5_headingOf_44 : decode cX5_headingOf 44 = .ok (.goto (-42), 3) := by decide +kernel
theorem dX5_headingOf_47 : decode cX5_headingOf 47 = .ok (.bipush (-4), 2) := by decide +kernel
theorem dX5_headingOf_49 : decode cX5_headingOf 49 = .ok (.ireturn, 1) := by decide +kernel
theorem dX5_listEnds_0 : decode cX5_listEnds 0 = .ok (.aload_n 0, 1) := by decide +kernel
theorem dX5_listEnds_1 : decode cX5_listEnds 1 = .ok (.getfield 19, 3) := by decide +kernel
theorem dX5_listEnds_4 : decode cX5_listEnds 4 = .ok (.iload_n 1, 1) := by decide +kernel
theorem dX5_listEnds_5 : decode cX5_listEnds 5 = .ok (.iconst 0, 1) := by decide +kernel
theorem dX5_listEnds_6 : decode cX5_listEnds 6 = .ok (.iastore, 1) := by decide +kernel
theorem dX5_listEnds_7 : decode cX5_listEnds 7 = .ok (.iload_n 3, 1) := by decide +kernel
theorem dX5_listEnds_8 : decode cX5_listEnds 8 = .ok (.ineg, 1) := by decide +kernel
theorem dX5_listEnds_9 : decode cX5_listEnds 9 = .ok (.istore 4, 2) := by decide +kernel
theorem dX5_listEnds_11 : decode cX5_listEnds 11 = .ok (.iload 4, 2) := by decide +kernel
theorem dX5_listEnds_13 : decode cX5_listEnds 13 = .ok (.iload_n 3, 1) := by decide +kernel
theorem dX5_listEnds_14 : decode cX5_listEnds 14 = .ok (.if_icmp .gt 67, 3) := by decide +kernel
theorem dX5_listEnds_17 : decode cX5_listEnds 17 = .ok (.iload_n 3, 1) := by decide +kernel
theorem dX5_listEnds_18 : decode cX5_listEnds 18 = .ok (.iload 4, 2) := by decide +kernel
theorem dX5_listEnds_20 : decode cX5_listEnds 20 = .ok (.invokestatic 129, 3) := by decide +kernel
theorem dX5_listEnds_23 : decode cX5_listEnds 23 = .ok (.isub, 1) := by decide +kernel
theorem dX5_listEnds_24 : decode cX5_listEnds 24 = .ok (.istore 5, 2) := by decide +kernel
theorem dX5_listEnds_26 : decode cX5_listEnds 26 = .ok (.iload 5, 2) := by decide +kernel
theorem dX5_listEnds_28 : decode cX5_listEnds 28 = .ok (.ineg, 1) := by decide +kernel
theorem dX5_listEnds_29 : decode cX5_listEnds 29 = .ok (.istore 6, 2) := by decide +kernel
theorem dX5_listEnds_31 : decode cX5_listEnds 31 = .ok (.iload 6, 2) := by decide +kernel
theorem dX5_listEnds_33 : decode cX5_listEnds 33 = .ok (.iload 5, 2) := by decide +kernel
theorem dX5_listEnds_35 : decode cX5_listEnds 35 = .ok (.if_icmp .gt 40, 3) := by decide +kernel
theorem dX5_listEnds_38 : decode cX5_listEnds 38 = .ok (.aload_n 0, 1) := by decide +kernel
theorem dX5_listEnds_39 : decode cX5_listEnds 39 = .ok (.iload_n 1, 1) := by decide +kernel
theorem dX5_listEnds_40 : decode cX5_listEnds 40 = .ok (.aload_n 0, 1) := by decide +kernel
theorem dX5_listEnds_41 : decode cX5_listEnds 41 = .ok (.getfield 59, 3) := by decide +kernel
theorem dX5_listEnds_44 : decode cX5_listEnds 44 = .ok (.iload_n 2, 1) := by decide +kernel
theorem dX5_listEnds_45 : decode cX5_listEnds 45 = .ok (.iload 4, 2) := by decide +kernel
theorem dX5_listEnds_47 : decode cX5_listEnds 47 = .ok (.iload 6, 2) := by decide +kernel
theorem dX5_listEnds_49 : decode cX5_listEnds 49 = .ok (.invokevirtual 132, 3) := by decide +kernel
theorem dX5_listEnds_52 : decode cX5_listEnds 52 = .ok (.bipush 20, 2) := by decide +kernel
theorem dX5_listEnds_54 : decode cX5_listEnds 54 = .ok (.iload 4, 2) := by decide +kernel
theorem dX5_listEnds_56 : decode cX5_listEnds 56 = .ok (.bipush 10, 2) := by decide +kernel
theorem dX5_listEnds_58 : decode cX5_listEnds 58 = .ok (.iadd, 1) := by decide +kernel
theorem dX5_listEnds_59 : decode cX5_listEnds 59 = .ok (.imul, 1) := by decide +kernel
theorem dX5_listEnds_60 : decode cX5_listEnds 60 = .ok (.iload 6, 2) := by decide +kernel
theorem dX5_listEnds_62 : decode cX5_listEnds 62 = .ok (.iadd, 1) := by decide +kernel
theorem dX5_listEnds_63 : decode cX5_listEnds 63 = .ok (.bipush 10, 2) := by decide +kernel
theorem dX5_listEnds_65 : decode cX5_listEnds 65 = .ok (.iadd, 1) := by decide +kernel
theorem dX5_listEnds_66 : decode cX5_listEnds 66 = .ok (.invokevirtual 136, 3) := by decide +kernel
theorem dX5_listEnds_69 : decode cX5_listEnds 69 = .ok (.iinc 6 1, 3) := by decide +kernel
theorem dX5_listEnds_72 : decode cX5_listEnds 72 = .ok (.goto (-41), 3) := by decide +kernel
theorem dX5_listEnds_75 : decode cX5_listEnds 75 = .ok (.iinc 4 1, 3) := by decide +kernel
theorem dX5_listEnds_78 : decode cX5_listEnds 78 = .ok (.goto (-67), 3) := by decide +kernel
theorem dX5_listEnds_81 : decode cX5_listEnds 81 = .ok (.return_, 1) := by decide +kernel
theorem dX5_addEnd_0 : decode cX5_addEnd 0 = .ok (.iload_n 1, 1) := by decide +kernel
theorem dX5_addEnd_1 : decode cX5_addEnd 1 = .ok (.bipush 41, 2) := by decide +kernel
theorem dX5_addEnd_3 : decode cX5_addEnd 3 = .ok (.imul, 1) := by decide +kernel
theorem dX5_addEnd_4 : decode cX5_addEnd 4 = .ok (.istore 4, 2) := by decide +kernel
theorem dX5_addEnd_6 : decode cX5_addEnd 6 = .ok (.iload 4, 2) := by decide +kernel
theorem dX5_addEnd_8 : decode cX5_addEnd 8 = .ok (.aload_n 0, 1) := by decide +kernel
theorem dX5_addEnd_9 : decode cX5_addEnd 9 = .ok (.getfield 19, 3) := by decide +kernel
theorem dX5_addEnd_12 : decode cX5_addEnd 12 = .ok (.iload_n 1, 1) := by decide +kernel
theorem dX5_addEnd_13 : decode cX5_addEnd 13 = .ok (.iaload, 1) := by decide +kernel
theorem dX5_addEnd_14 : decode cX5_addEnd 14 = .ok (.iadd, 1) := by decide +kernel
theorem dX5_addEnd_15 : decode cX5_addEnd 15 = .ok (.istore 5, 2) := by decide +kernel
theorem dX5_addEnd_17 : decode cX5_addEnd 17 = .ok (.iload 4, 2) := by decide +kernel
theorem dX5_addEnd_19 : decode cX5_addEnd 19 = .ok (.istore 6, 2) := by decide +kernel
theorem dX5_addEnd_21 : decode cX5_addEnd 21 = .ok (.iload 6, 2) := by decide +kernel
theorem dX5_addEnd_23 : decode cX5_addEnd 23 = .ok (.iload 5, 2) := by decide +kernel
theorem dX5_addEnd_25 : decode cX5_addEnd 25 = .ok (.if_icmp .ge 21, 3) := by decide +kernel
theorem dX5_addEnd_28 : decode cX5_addEnd 28 = .ok (.aload_n 0, 1) := by decide +kernel
theorem dX5_addEnd_29 : decode cX5_addEnd 29 = .ok (.getfield 22, 3) := by decide +kernel
theorem dX5_addEnd_32 : decode cX5_addEnd 32 = .ok (.iload 6, 2) := by decide +kernel
theorem dX5_addEnd_34 : decode cX5_addEnd 34 = .ok (.iaload, 1) := by decide +kernel
theorem dX5_addEnd_35 : decode cX5_addEnd 35 = .ok (.iload_n 2, 1) := by decide +kernel
theorem dX5_addEnd_36 : decode cX5_addEnd 36 = .ok (.if_icmp .ne 4, 3) := by decide +kernel
theorem dX5_addEnd_39 : decode cX5_addEnd 39 = .ok (.return_, 1) := by decide +kernel
theorem dX5_addEnd_40 : decode cX5_addEnd 40 = .ok (.iinc 6 1, 3) := by decide +kernel
theorem dX5_addEnd_43 : decode cX5_addEnd 43 = .ok (.goto (-22), 3) := by decide +kernel
theorem dX5_addEnd_46 : decode cX5_addEnd 46 = .ok (.aload_n 0, 1) := by decide +kernel
theorem dX5_addEnd_47 : decode cX5_addEnd 47 = .ok (.getfield 19, 3) := by decide +kernel
theorem dX5_addEnd_50 : decode cX5_addEnd 50 = .ok (.iload_n 1, 1) := by decide +kernel
theorem dX5_addEnd_51 : decode cX5_addEnd 51 = .ok (.iaload, 1) := by decide +kernel
theorem dX5_addEnd_52 : decode cX5_addEnd 52 = .ok (.bipush 41, 2) := by decide +kernel
theorem dX5_addEnd_54 : decode cX5_addEnd 54 = .ok (.if_icmp .ge 41, 3) := by decide +kernel
theorem dX5_addEnd_57 : decode cX5_addEnd 57 = .ok (.aload_n 0, 1) := by decide +kernel
theorem dX5_addEnd_58 : decode cX5_addEnd 58 = .ok (.getfield 22, 3) := by decide +kernel
theorem dX5_addEnd_61 : decode cX5_addEnd 61 = .ok (.iload 5, 2) := by decide +kernel
theorem dX5_addEnd_63 : decode cX5_addEnd 63 = .ok (.iload_n 2, 1) := by decide +kernel
theorem dX5_addEnd_64 : decode cX5_addEnd 64 = .ok (.iastore, 1) := by decide +kernel
theorem dX5_addEnd_65 : decode cX5_addEnd 65 = .ok (.aload_n 0, 1) := by decide +kernel
theorem dX5_addEnd_66 : decode cX5_addEnd 66 = .ok (.getfield 25, 3) := by decide +kernel
theorem dX5_addEnd_69 : decode cX5_addEnd 69 = .ok (.iload 5, 2) := by decide +kernel
theorem dX5_addEnd_71 : decode cX5_addEnd 71 = .ok (.iload_n 3, 1) := by decide +kernel
theorem dX5_addEnd_72 : decode cX5_addEnd 72 = .ok (.iastore, 1) := by decide +kernel
theorem dX5_addEnd_73 : decode cX5_addEnd 73 = .ok (.aload_n 0, 1) := by decide +kernel
theorem dX5_addEnd_74 : decode cX5_addEnd 74 = .ok (.getfield 28, 3) := by decide +kernel
theorem dX5_addEnd_77 : decode cX5_addEnd 77 = .ok (.iload 5, 2) := by decide +kernel
theorem dX5_addEnd_79 : decode cX5_addEnd 79 = .ok (.aload_n 0, 1) := by decide +kernel
theorem dX5_addEnd_80 : decode cX5_addEnd 80 = .ok (.iload_n 2, 1) := by decide +kernel
theorem dX5_addEnd_81 : decode cX5_addEnd 81 = .ok (.invokevirtual 139, 3) := by decide +kernel
theorem dX5_addEnd_84 : decode cX5_addEnd 84 = .ok (.iastore, 1) := by decide +kernel
theorem dX5_addEnd_85 : decode cX5_addEnd 85 = .ok (.aload_n 0, 1) := by decide +kernel
theorem dX5_addEnd_86 : decode cX5_addEnd 86 = .ok (.getfield 19, 3) := by decide +kernel
theorem dX5_addEnd_89 : decode cX5_addEnd 89 = .ok (.iload_n 1, 1) := by decide +kernel
theorem dX5_addEnd_90 : decode cX5_addEnd 90 = .ok (.dup2, 1) := by decide +kernel
theorem dX5_addEnd_91 : decode cX5_addEnd 91 = .ok (.iaload, 1) := by decide +kernel
theorem dX5_addEnd_92 : decode cX5_addEnd 92 = .ok (.iconst 1, 1) := by decide +kernel
theorem dX5_addEnd_93 : decode cX5_addEnd 93 = .ok (.iadd, 1) := by decide +kernel
theorem dX5_addEnd_94 : decode cX5_addEnd 94 = .ok (.iastore, 1) := by decide +kernel
theorem dX5_addEnd_95 : decode cX5_addEnd 95 = .ok (.return_, 1) := by decide +kernel
theorem dX5_sumMostFrom_0 : decode cX5_sumMostFrom 0 = .ok (.aload_n 0, 1) := by decide +kernel
theorem dX5_sumMostFrom_1 : decode cX5_sumMostFrom 1 = .ok (.getfield 31, 3) := by decide +kernel
theorem dX5_sumMostFrom_4 : decode cX5_sumMostFrom 4 = .ok (.aload_n 0, 1) := by decide +kernel
theorem dX5_sumMostFrom_5 : decode cX5_sumMostFrom 5 = .ok (.getfield 15, 3) := by decide +kernel
theorem dX5_sumMostFrom_8 : decode cX5_sumMostFrom 8 = .ok (.iconst 0, 1) := by decide +kernel
theorem dX5_sumMostFrom_9 : decode cX5_sumMostFrom 9 = .ok (.iastore, 1) := by decide +kernel
theorem dX5_sumMostFrom_10 : decode cX5_sumMostFrom 10 = .ok (.aload_n 0, 1) := by decide +kernel
theorem dX5_sumMostFrom_11 : decode cX5_sumMostFrom 11 = .ok (.getfield 15, 3) := by decide +kernel
theorem dX5_sumMostFrom_14 : decode cX5_sumMostFrom 14 = .ok (.iconst 1, 1) := by decide +kernel
theorem dX5_sumMostFrom_15 : decode cX5_sumMostFrom 15 = .ok (.isub, 1) := by decide +kernel
theorem dX5_sumMostFrom_16 : decode cX5_sumMostFrom 16 = .ok (.istore_n 1, 1) := by decide +kernel
theorem dX5_sumMostFrom_17 : decode cX5_sumMostFrom 17 = .ok (.iload_n 1, 1) := by decide +kernel
theorem dX5_sumMostFrom_18 : decode cX5_sumMostFrom 18 = .ok (.ifCond .lt 61, 3) := by decide +kernel
theorem dX5_sumMostFrom_21 : decode cX5_sumMostFrom 21 = .ok (.iconst 0, 1) := by decide +kernel
theorem dX5_sumMostFrom_22 : decode cX5_sumMostFrom 22 = .ok (.istore_n 2, 1) := by decide +kernel
theorem dX5_sumMostFrom_23 : decode cX5_sumMostFrom 23 = .ok (.iconst 0, 1) := by decide +kernel
theorem dX5_sumMostFrom_24 : decode cX5_sumMostFrom 24 = .ok (.istore_n 3, 1) := by decide +kernel
theorem dX5_sumMostFrom_25 : decode cX5_sumMostFrom 25 = .ok (.iload_n 3, 1) := by decide +kernel
theorem dX5_sumMostFrom_26 : decode cX5_sumMostFrom 26 = .ok (.aload_n 0, 1) := by decide +kernel
theorem dX5_sumMostFrom_27 : decode cX5_sumMostFrom 27 = .ok (.getfield 19, 3) := by decide +kernel
theorem dX5_sumMostFrom_30 : decode cX5_sumMostFrom 30 = .ok (.iload_n 1, 1) := by decide +kernel
theorem dX5_sumMostFrom_31 : decode cX5_sumMostFrom 31 = .ok (.iaload, 1) := by decide +kernel
theorem dX5_sumMostFrom_32 : decode cX5_sumMostFrom 32 = .ok (.if_icmp .ge 25, 3) := by decide +kernel
theorem dX5_sumMostFrom_35 : decode cX5_sumMostFrom 35 = .ok (.iload_n 2, 1) := by decide +kernel
theorem dX5_sumMostFrom_36 : decode cX5_sumMostFrom 36 = .ok (.aload_n 0, 1) := by decide +kernel
theorem dX5_sumMostFrom_37 : decode cX5_sumMostFrom 37 = .ok (.getfield 28, 3) := by decide +kernel
theorem dX5_sumMostFrom_40 : decode cX5_sumMostFrom 40 = .ok (.iload_n 1, 1) := by decide +kernel
theorem dX5_sumMostFrom_41 : decode cX5_sumMostFrom 41 = .ok (.bipush 41, 2) := by decide +kernel
theorem dX5_sumMostFrom_43 : decode cX5_sumMostFrom 43 = .ok (.imul, 1) := by decide +kernel
theorem dX5_sumMostFrom_44 : decode cX5_sumMostFrom 44 = .ok (.iload_n 3, 1) := by decide +kernel
theorem dX5_sumMostFrom_45 : decode cX5_sumMostFrom 45 = .ok (.iadd, 1) := by decide +kernel
theorem dX5_sumMostFrom_46 : decode cX5_sumMostFrom 46 = .ok (.iaload, 1) := by decide +kernel
theorem dX5_sumMostFrom_47 : decode cX5_sumMostFrom 47 = .ok (.invokestatic 142, 3) := by decide +kernel
theorem dX5_sumMostFrom_50 : decode cX5_sumMostFrom 50 = .ok (.istore_n 2, 1) := by decide +kernel
theorem dX5_sumMostFrom_51 : decode cX5_sumMostFrom 51 = .ok (.iinc 3 1, 3) := by decide +kernel
theorem dX5_sumMostFrom_54 : decode cX5_sumMostFrom 54 = .ok (.goto (-29), 3) := by decide +kernel
theorem dX5_sumMostFrom_57 : decode cX5_sumMostFrom 57 = .ok (.aload_n 0, 1) := by decide +kernel
theorem dX5_sumMostFrom_58 : decode cX5_sumMostFrom 58 = .ok (.getfield 31, 3) := by decide +kernel
theorem dX5_sumMostFrom_61 : decode cX5_sumMostFrom 61 = .ok (.iload_n 1, 1) := by decide +kernel
theorem dX5_sumMostFrom_62 : decode cX5_sumMostFrom 62 = .ok (.aload_n 0, 1) := by decide +kernel
theorem dX5_sumMostFrom_63 : decode cX5_sumMostFrom 63 = .ok (.getfield 31, 3) := by decide +kernel
theorem dX5_sumMostFrom_66 : decode cX5_sumMostFrom 66 = .ok (.iload_n 1, 1) := by decide +kernel
theorem dX5_sumMostFrom_67 : decode cX5_sumMostFrom 67 = .ok (.iconst 1, 1) := by decide +kernel
theorem dX5_sumMostFrom_68 : decode cX5_sumMostFrom 68 = .ok (.iadd, 1) := by decide +kernel
theorem dX5_sumMostFrom_69 : decode cX5_sumMostFrom 69 = .ok (.iaload, 1) := by decide +kernel
theorem dX5_sumMostFrom_70 : decode cX5_sumMostFrom 70 = .ok (.iload_n 2, 1) := by decide +kernel
theorem dX5_sumMostFrom_71 : decode cX5_sumMostFrom 71 = .ok (.iadd, 1) := by decide +kernel
theorem dX5_sumMostFrom_72 : decode cX5_sumMostFrom 72 = .ok (.iastore, 1) := by decide +kernel
theorem dX5_sumMostFrom_73 : decode cX5_sumMostFrom 73 = .ok (.iinc 1 (-1), 3) := by decide +kernel
theorem dX5_sumMostFrom_76 : decode cX5_sumMostFrom 76 = .ok (.goto (-59), 3) := by decide +kernel
theorem dX5_sumMostFrom_79 : decode cX5_sumMostFrom 79 = .ok (.return_, 1) := by decide +kernel
theorem dX5_search_0 : decode cX5_search 0 = .ok (.iload_n 1, 1) := by decide +kernel
theorem dX5_search_1 : decode cX5_search 1 = .ok (.aload_n 0, 1) := by decide +kernel
theorem dX5_search_2 : decode cX5_search 2 = .ok (.getfield 15, 3) := by decide +kernel
theorem dX5_search_5 : decode cX5_search 5 = .ok (.if_icmp .lt 20, 3) := by decide +kernel
theorem dX5_search_8 : decode cX5_search 8 = .ok (.aload_n 0, 1) := by decide +kernel
theorem dX5_search_9 : decode cX5_search 9 = .ok (.iload_n 2, 1) := by decide +kernel
theorem dX5_search_10 : decode cX5_search 10 = .ok (.putfield 46, 3) := by decide +kernel
theorem dX5_search_13 : decode cX5_search 13 = .ok (.aload_n 0, 1) := by decide +kernel
theorem dX5_search_14 : decode cX5_search 14 = .ok (.getfield 40, 3) := by decide +kernel
theorem dX5_search_17 : decode cX5_search 17 = .ok (.aload_n 0, 1) := by decide +kernel
theorem dX5_search_18 : decode cX5_search 18 = .ok (.getfield 43, 3) := by decide +kernel
theorem dX5_search_21 : decode cX5_search 21 = .ok (.invokestatic 145, 3) := by decide +kernel
theorem dX5_search_24 : decode cX5_search 24 = .ok (.return_, 1) := by decide +kernel
theorem dX5_search_25 : decode cX5_search 25 = .ok (.iload_n 1, 1) := by decide +kernel
theorem dX5_search_26 : decode cX5_search 26 = .ok (.bipush 41, 2) := by decide +kernel
theorem dX5_search_28 : decode cX5_search 28 = .ok (.imul, 1) := by decide +kernel
theorem dX5_search_29 : decode cX5_search 29 = .ok (.istore_n 3, 1) := by decide +kernel
theorem dX5_search_30 : decode cX5_search 30 = .ok (.iload_n 3, 1) := by decide +kernel
theorem dX5_search_31 : decode cX5_search 31 = .ok (.istore 4, 2) := by decide +kernel
theorem dX5_search_33 : decode cX5_search 33 = .ok (.iload 4, 2) := by decide +kernel
theorem dX5_search_35 : decode cX5_search 35 = .ok (.iload_n 3, 1) := by decide +kernel
theorem dX5_search_36 : decode cX5_search 36 = .ok (.aload_n 0, 1) := by decide +kernel
theorem dX5_search_37 : decode cX5_search 37 = .ok (.getfield 19, 3) := by decide +kernel
theorem dX5_search_40 : decode cX5_search 40 = .ok (.iload_n 1, 1) := by decide +kernel
theorem dX5_search_41 : decode cX5_search 41 = .ok (.iaload, 1) := by decide +kernel
theorem dX5_search_42 : decode cX5_search 42 = .ok (.iadd, 1) := by decide +kernel
theorem dX5_search_43 : decode cX5_search 43 = .ok (.if_icmp .ge 140, 3) := by decide +kernel
theorem dX5_search_46 : decode cX5_search 46 = .ok (.iload_n 2, 1) := by decide +kernel
theorem dX5_search_47 : decode cX5_search 47 = .ok (.aload_n 0, 1) := by decide +kernel
theorem dX5_search_48 : decode cX5_search 48 = .ok (.getfield 28, 3) := by decide +kernel
theorem dX5_search_51 : decode cX5_search 51 = .ok (.iload 4, 2) := by decide +kernel
theorem dX5_search_53 : decode cX5_search 53 = .ok (.iaload, 1) := by decide +kernel
theorem dX5_search_54 : decode cX5_search 54 = .ok (.iadd, 1) := by decide +kernel
theorem dX5_search_55 : decode cX5_search 55 = .ok (.aload_n 0, 1) := by decide +kernel
theorem dX5_search_56 : decode cX5_search 56 = .ok (.getfield 31, 3) := by decide +kernel
theorem dX5_search_59 : decode cX5_search 59 = .ok (.iload_n 1, 1) := by decide +kernel
theorem dX5_search_60 : decode cX5_search 60 = .ok (.iconst 1, 1) := by decide +kernel
theorem dX5_search_61 : decode cX5_search 61 = .ok (.iadd, 1) := by decide +kernel
theorem dX5_search_62 : decode cX5_search 62 = .ok (.iaload, 1) := by decide +kernel
theorem dX5_search_63 : decode cX5_search 63 = .ok (.iadd, 1) := by decide +kernel
theorem dX5_search_64 : decode cX5_search 64 = .ok (.aload_n 0, 1) := by decide +kernel
theorem dX5_search_65 : decode cX5_search 65 = .ok (.getfield 46, 3) := by decide +kernel
theorem dX5_search_68 : decode cX5_search 68 = .ok (.if_icmp .le 7, 3) := by decide +kernel
theorem dX5_search_71 : decode cX5_search 71 = .ok (.iconst 1, 1) := by decide +kernel
theorem dX5_search_72 : decode cX5_search 72 = .ok (.goto 4, 3) := by decide +kernel
theorem dX5_search_75 : decode cX5_search 75 = .ok (.iconst 0, 1) := by decide +kernel
theorem dX5_search_76 : decode cX5_search 76 = .ok (.istore 5, 2) := by decide +kernel
theorem dX5_search_78 : decode cX5_search 78 = .ok (.iload 5, 2) := by decide +kernel
theorem dX5_search_80 : decode cX5_search 80 = .ok (.ifCond .eq 97, 3) := by decide +kernel
theorem dX5_search_83 : decode cX5_search 83 = .ok (.aload_n 0, 1) := by decide +kernel
theorem dX5_search_84 : decode cX5_search 84 = .ok (.iload_n 1, 1) := by decide +kernel
theorem dX5_search_85 : decode cX5_search 85 = .ok (.aload_n 0, 1) := by decide +kernel
theorem dX5_search_86 : decode cX5_search 86 = .ok (.getfield 22, 3) := by decide +kernel
theorem dX5_search_89 : decode cX5_search 89 = .ok (.iload 4, 2) := by decide +kernel
theorem dX5_search_91 : decode cX5_search 91 = .ok (.iaload, 1) := by decide +kernel
theorem dX5_search_92 : decode cX5_search 92 = .ok (.invokevirtual 149, 3) := by decide +kernel
theorem dX5_search_95 : decode cX5_search 95 = .ok (.ifCond .eq 6, 3) := by decide +kernel
theorem dX5_search_98 : decode cX5_search 98 = .ok (.goto 79, 3) := by decide +kernel
theorem dX5_search_101 : decode cX5_search 101 = .ok (.aload_n 0, 1) := by decide +kernel
theorem dX5_search_102 : decode cX5_search 102 = .ok (.aload_n 0, 1) := by decide +kernel
theorem dX5_search_103 : decode cX5_search 103 = .ok (.getfield 22, 3) := by decide +kernel
theorem dX5_search_106 : decode cX5_search 106 = .ok (.iload 4, 2) := by decide +kernel
theorem dX5_search_108 : decode cX5_search 108 = .ok (.iaload, 1) := by decide +kernel
theorem dX5_search_109 : decode cX5_search 109 = .ok (.invokevirtual 139, 3) := by decide +kernel
theorem dX5_search_112 : decode cX5_search 112 = .ok (.istore 6, 2) := by decide +kernel
theorem dX5_search_114 : decode cX5_search 114 = .ok (.iload_n 2, 1) := by decide +kernel
theorem dX5_search_115 : decode cX5_search 115 = .ok (.iload 6, 2) := by decide +kernel
theorem dX5_search_117 : decode cX5_search 117 = .ok (.iadd, 1) := by decide +kernel
theorem dX5_search_118 : decode cX5_search 118 = .ok (.aload_n 0, 1) := by decide +kernel
theorem dX5_search_119 : decode cX5_search 119 = .ok (.getfield 31, 3) := by decide +kernel
theorem dX5_search_122 : decode cX5_search 122 = .ok (.iload_n 1, 1) := by decide +kernel
theorem dX5_search_123 : decode cX5_search 123 = .ok (.iconst 1, 1) := by decide +kernel
theorem dX5_search_124 : decode cX5_search 124 = .ok (.iadd, 1) := by decide +kernel
theorem dX5_search_125 : decode cX5_search 125 = .ok (.iaload, 1) := by decide +kernel
theorem dX5_search_126 : decode cX5_search 126 = .ok (.iadd, 1) := by decide +kernel
theorem dX5_search_127 : decode cX5_search 127 = .ok (.aload_n 0, 1) := by decide +kernel
theorem dX5_search_128 : decode cX5_search 128 = .ok (.getfield 46, 3) := by decide +kernel
theorem dX5_search_131 : decode cX5_search 131 = .ok (.if_icmp .le 46, 3) := by decide +kernel
theorem dX5_search_134 : decode cX5_search 134 = .ok (.aload_n 0, 1) := by decide +kernel
theorem dX5_search_135 : decode cX5_search 135 = .ok (.getfield 40, 3) := by decide +kernel
theorem dX5_search_138 : decode cX5_search 138 = .ok (.iload_n 1, 1) := by decide +kernel
theorem dX5_search_139 : decode cX5_search 139 = .ok (.iload 4, 2) := by decide +kernel
theorem dX5_search_141 : decode cX5_search 141 = .ok (.iastore, 1) := by decide +kernel
theorem dX5_search_142 : decode cX5_search 142 = .ok (.aload_n 0, 1) := by decide +kernel
theorem dX5_search_143 : decode cX5_search 143 = .ok (.iload_n 1, 1) := by decide +kernel
theorem dX5_search_144 : decode cX5_search 144 = .ok (.aload_n 0, 1) := by decide +kernel
theorem dX5_search_145 : decode cX5_search 145 = .ok (.getfield 22, 3) := by decide +kernel
theorem dX5_search_148 : decode cX5_search 148 = .ok (.iload 4, 2) := by decide +kernel
theorem dX5_search_150 : decode cX5_search 150 = .ok (.iaload, 1) := by decide +kernel
theorem dX5_search_151 : decode cX5_search 151 = .ok (.invokevirtual 153, 3) := by decide +kernel
theorem dX5_search_154 : decode cX5_search 154 = .ok (.aload_n 0, 1) := by decide +kernel
theorem dX5_search_155 : decode cX5_search 155 = .ok (.iload_n 1, 1) := by decide +kernel
theorem dX5_search_156 : decode cX5_search 156 = .ok (.iconst 1, 1) := by decide +kernel
theorem dX5_search_157 : decode cX5_search 157 = .ok (.iadd, 1) := by decide +kernel
theorem dX5_search_158 : decode cX5_search 158 = .ok (.iload_n 2, 1) := by decide +kernel
theorem dX5_search_159 : decode cX5_search 159 = .ok (.iload 6, 2) := by decide +kernel
theorem dX5_search_161 : decode cX5_search 161 = .ok (.iadd, 1) := by decide +kernel
theorem dX5_search_162 : decode cX5_search 162 = .ok (.invokevirtual 125, 3) := by decide +kernel
theorem dX5_search_165 : decode cX5_search 165 = .ok (.aload_n 0, 1) := by decide +kernel
theorem dX5_search_166 : decode cX5_search 166 = .ok (.iload_n 1, 1) := by decide +kernel
theorem dX5_search_167 : decode cX5_search 167 = .ok (.aload_n 0, 1) := by decide +kernel
theorem dX5_search_168 : decode cX5_search 168 = .ok (.getfield 22, 3) := by decide +kernel
theorem dX5_search_171 : decode cX5_search 171 = .ok (.iload 4, 2) := by decide +kernel
theorem dX5_search_173 : decode cX5_search 173 = .ok (.iaload, 1) := by decide +kernel
theorem dX5_search_174 : decode cX5_search 174 = .ok (.invokevirtual 156, 3) := by decide +kernel
theorem dX5_search_177 : decode cX5_search 177 = .ok (.iinc 4 1, 3) := by decide +kernel
theorem dX5_search_180 : decode cX5_search 180 = .ok (.goto (-147), 3) := by decide +kernel
theorem dX5_search_183 : decode cX5_search 183 = .ok (.return_, 1) := by decide +kernel
theorem dX5_isTaken_0 : decode cX5_isTaken 0 = .ok (.iconst 0, 1) := by decide +kernel
theorem dX5_isTaken_1 : decode cX5_isTaken 1 = .ok (.istore_n 3, 1) := by decide +kernel
theorem dX5_isTaken_2 : decode cX5_isTaken 2 = .ok (.iload_n 3, 1) := by decide +kernel
theorem dX5_isTaken_3 : decode cX5_isTaken 3 = .ok (.iload_n 1, 1) := by decide +kernel
theorem dX5_isTaken_4 : decode cX5_isTaken 4 = .ok (.if_icmp .ge 26, 3) := by decide +kernel
theorem dX5_isTaken_7 : decode cX5_isTaken 7 = .ok (.aload_n 0, 1) := by decide +kernel
theorem dX5_isTaken_8 : decode cX5_isTaken 8 = .ok (.getfield 22, 3) := by decide +kernel
theorem dX5_isTaken_11 : decode cX5_isTaken 11 = .ok (.aload_n 0, 1) := by decide +kernel
theorem dX5_isTaken_12 : decode cX5_isTaken 12 = .ok (.getfield 40, 3) := by decide +kernel
theorem dX5_isTaken_15 : decode cX5_isTaken 15 = .ok (.iload_n 3, 1) := by decide +kernel
theorem dX5_isTaken_16 : decode cX5_isTaken 16 = .ok (.iaload, 1) := by decide +kernel
theorem dX5_isTaken_17 : decode cX5_isTaken 17 = .ok (.iaload, 1) := by decide +kernel
theorem dX5_isTaken_18 : decode cX5_isTaken 18 = .ok (.iload_n 2, 1) := by decide +kernel
theorem dX5_isTaken_19 : decode cX5_isTaken 19 = .ok (.if_icmp .ne 5, 3) := by decide +kernel
theorem dX5_isTaken_22 : decode cX5_isTaken 22 = .ok (.iconst 1, 1) := by decide +kernel
theorem dX5_isTaken_23 : decode cX5_isTaken 23 = .ok (.ireturn, 1) := by decide +kernel
theorem dX5_isTaken_24 : decode cX5_isTaken 24 = .ok (.iinc 3 1, 3) := by decide +kernel
theorem dX5_isTaken_27 : decode cX5_isTaken 27 = .ok (.goto (-25), 3) := by decide +kernel
theorem dX5_isTaken_30 : decode cX5_isTaken 30 = .ok (.iconst 0, 1) := by decide +kernel
theorem dX5_isTaken_31 : decode cX5_isTaken 31 = .ok (.ireturn, 1) := by decide +kernel
theorem dX5_worth_0 : decode cX5_worth 0 = .ok (.iload_n 2, 1) := by decide +kernel
theorem dX5_worth_1 : decode cX5_worth 1 = .ok (.ifCond .ne 15, 3) := by decide +kernel
theorem dX5_worth_4 : decode cX5_worth 4 = .ok (.aload_n 0, 1) := by decide +kernel
theorem dX5_worth_5 : decode cX5_worth 5 = .ok (.getfield 59, 3) := by decide +kernel
theorem dX5_worth_8 : decode cX5_worth 8 = .ok (.getfield 159, 3) := by decide +kernel
theorem dX5_worth_11 : decode cX5_worth 11 = .ok (.iload_n 1, 1) := by decide +kernel
theorem dX5_worth_12 : decode cX5_worth 12 = .ok (.iaload, 1) := by decide +kernel
theorem dX5_worth_13 : decode cX5_worth 13 = .ok (.goto 16, 3) := by decide +kernel
theorem dX5_worth_16 : decode cX5_worth 16 = .ok (.aload_n 0, 1) := by decide +kernel
theorem dX5_worth_17 : decode cX5_worth 17 = .ok (.getfield 59, 3) := by decide +kernel
theorem dX5_worth_20 : decode cX5_worth 20 = .ok (.getfield 159, 3) := by decide +kernel
theorem dX5_worth_23 : decode cX5_worth 23 = .ok (.iload_n 1, 1) := by decide +kernel
theorem dX5_worth_24 : decode cX5_worth 24 = .ok (.iaload, 1) := by decide +kernel
theorem dX5_worth_25 : decode cX5_worth 25 = .ok (.iconst 1, 1) := by decide +kernel
theorem dX5_worth_26 : decode cX5_worth 26 = .ok (.iadd, 1) := by decide +kernel
theorem dX5_worth_27 : decode cX5_worth 27 = .ok (.iconst 2, 1) := by decide +kernel
theorem dX5_worth_28 : decode cX5_worth 28 = .ok (.idiv, 1) := by decide +kernel
theorem dX5_worth_29 : decode cX5_worth 29 = .ok (.ireturn, 1) := by decide +kernel
theorem dX5_gainBy_0 : decode cX5_gainBy 0 = .ok (.iconst 0, 1) := by decide +kernel
theorem dX5_gainBy_1 : decode cX5_gainBy 1 = .ok (.istore_n 2, 1) := by decide +kernel
theorem dX5_gainBy_2 : decode cX5_gainBy 2 = .ok (.iconst 0, 1) := by decide +kernel
theorem dX5_gainBy_3 : decode cX5_gainBy 3 = .ok (.istore_n 3, 1) := by decide +kernel
theorem dX5_gainBy_4 : decode cX5_gainBy 4 = .ok (.iload_n 3, 1) := by decide +kernel
theorem dX5_gainBy_5 : decode cX5_gainBy 5 = .ok (.iconst 5, 1) := by decide +kernel
theorem dX5_gainBy_6 : decode cX5_gainBy 6 = .ok (.if_icmp .ge 47, 3) := by decide +kernel
theorem dX5_gainBy_9 : decode cX5_gainBy 9 = .ok (.aload_n 0, 1) := by decide +kernel
theorem dX5_gainBy_10 : decode cX5_gainBy 10 = .ok (.getfield 59, 3) := by decide +kernel
theorem dX5_gainBy_13 : decode cX5_gainBy 13 = .ok (.iload_n 1, 1) := by decide +kernel
theorem dX5_gainBy_14 : decode cX5_gainBy 14 = .ok (.iload_n 3, 1) := by decide +kernel
theorem dX5_gainBy_15 : decode cX5_gainBy 15 = .ok (.invokevirtual 162, 3) := by decide +kernel
theorem dX5_gainBy_18 : decode cX5_gainBy 18 = .ok (.istore 4, 2) := by decide +kernel
theorem dX5_gainBy_20 : decode cX5_gainBy 20 = .ok (.iload 4, 2) := by decide +kernel
theorem dX5_gainBy_22 : decode cX5_gainBy 22 = .ok (.ifCond .lt 25, 3) := by decide +kernel
theorem dX5_gainBy_25 : decode cX5_gainBy 25 = .ok (.iload_n 2, 1) := by decide +kernel
theorem dX5_gainBy_26 : decode cX5_gainBy 26 = .ok (.iconst 0, 1) := by decide +kernel
theorem dX5_gainBy_27 : decode cX5_gainBy 27 = .ok (.aload_n 0, 1) := by decide +kernel
theorem dX5_gainBy_28 : decode cX5_gainBy 28 = .ok (.iload 4, 2) := by decide +kernel
theorem dX5_gainBy_30 : decode cX5_gainBy 30 = .ok (.iload_n 3, 1) := by decide +kernel
theorem dX5_gainBy_31 : decode cX5_gainBy 31 = .ok (.invokevirtual 165, 3) := by decide +kernel
theorem dX5_gainBy_34 : decode cX5_gainBy 34 = .ok (.aload_n 0, 1) := by decide +kernel
theorem dX5_gainBy_35 : decode cX5_gainBy 35 = .ok (.getfield 34, 3) := by decide +kernel
theorem dX5_gainBy_38 : decode cX5_gainBy 38 = .ok (.iload 4, 2) := by decide +kernel
theorem dX5_gainBy_40 : decode cX5_gainBy 40 = .ok (.iaload, 1) := by decide +kernel
theorem dX5_gainBy_41 : decode cX5_gainBy 41 = .ok (.isub, 1) := by decide +kernel
theorem dX5_gainBy_42 : decode cX5_gainBy 42 = .ok (.invokestatic 142, 3) := by decide +kernel
theorem dX5_gainBy_45 : decode cX5_gainBy 45 = .ok (.iadd, 1) := by decide +kernel
theorem dX5_gainBy_46 : decode cX5_gainBy 46 = .ok (.istore_n 2, 1) := by decide +kernel
theorem dX5_gainBy_47 : decode cX5_gainBy 47 = .ok (.iinc 3 1, 3) := by decide +kernel
theorem dX5_gainBy_50 : decode cX5_gainBy 50 = .ok (.goto (-46), 3) := by decide +kernel
theorem dX5_gainBy_53 : decode cX5_gainBy 53 = .ok (.iload_n 2, 1) := by decide +kernel
theorem dX5_gainBy_54 : decode cX5_gainBy 54 = .ok (.ireturn, 1) := by decide +kernel
theorem dX5_cover_0 : decode cX5_cover 0 = .ok (.iconst 0, 1) := by decide +kernel
theorem dX5_cover_1 : decode cX5_cover 1 = .ok (.istore_n 3, 1) := by decide +kernel
theorem dX5_cover_2 : decode cX5_cover 2 = .ok (.iload_n 3, 1) := by decide +kernel
theorem dX5_cover_3 : decode cX5_cover 3 = .ok (.iconst 5, 1) := by decide +kernel
theorem dX5_cover_4 : decode cX5_cover 4 = .ok (.if_icmp .ge 66, 3) := by decide +kernel
theorem dX5_cover_7 : decode cX5_cover 7 = .ok (.aload_n 0, 1) := by decide +kernel
theorem dX5_cover_8 : decode cX5_cover 8 = .ok (.getfield 59, 3) := by decide +kernel
theorem dX5_cover_11 : decode cX5_cover 11 = .ok (.iload_n 2, 1) := by decide +kernel
theorem dX5_cover_12 : decode cX5_cover 12 = .ok (.iload_n 3, 1) := by decide +kernel
theorem dX5_cover_13 : decode cX5_cover 13 = .ok (.invokevirtual 162, 3) := by decide +kernel
theorem dX5_cover_16 : decode cX5_cover 16 = .ok (.istore 4, 2) := by decide +kernel
theorem dX5_cover_18 : decode cX5_cover 18 = .ok (.iload 4, 2) := by decide +kernel
theorem dX5_cover_20 : decode cX5_cover 20 = .ok (.ifCond .lt 44, 3) := by decide +kernel
theorem dX5_cover_23 : decode cX5_cover 23 = .ok (.aload_n 0, 1) := by decide +kernel
theorem dX5_cover_24 : decode cX5_cover 24 = .ok (.getfield 37, 3) := by decide +kernel
theorem dX5_cover_27 : decode cX5_cover 27 = .ok (.iload_n 1, 1) := by decide +kernel
theorem dX5_cover_28 : decode cX5_cover 28 = .ok (.iconst 5, 1) := by decide +kernel
theorem dX5_cover_29 : decode cX5_cover 29 = .ok (.imul, 1) := by decide +kernel
theorem dX5_cover_30 : decode cX5_cover 30 = .ok (.iload_n 3, 1) := by decide +kernel
theorem dX5_cover_31 : decode cX5_cover 31 = .ok (.iadd, 1) := by decide +kernel
theorem dX5_cover_32 : decode cX5_cover 32 = .ok (.aload_n 0, 1) := by decide +kernel
theorem dX5_cover_33 : decode cX5_cover 33 = .ok (.getfield 34, 3) := by decide +kernel
theorem dX5_cover_36 : decode cX5_cover 36 = .ok (.iload 4, 2) := by decide +kernel
theorem dX5_cover_38 : decode cX5_cover 38 = .ok (.iaload, 1) := by decide +kernel
theorem dX5_cover_39 : decode cX5_cover 39 = .ok (.iastore, 1) := by decide +kernel
theorem dX5_cover_40 : decode cX5_cover 40 = .ok (.aload_n 0, 1) := by decide +kernel
theorem dX5_cover_41 : decode cX5_cover 41 = .ok (.getfield 34, 3) := by decide +kernel
theorem dX5_cover_44 : decode cX5_cover 44 = .ok (.iload 4, 2) := by decide +kernel
theorem dX5_cover_46 : decode cX5_cover 46 = .ok (.aload_n 0, 1) := by decide +kernel
theorem dX5_cover_47 : decode cX5_cover 47 = .ok (.getfield 34, 3) := by decide +kernel
theorem dX5_cover_50 : decode cX5_cover 50 = .ok (.iload 4, 2) := by decide +kernel
theorem dX5_cover_52 : decode cX5_cover 52 = .ok (.iaload, 1) := by decide +kernel
theorem dX5_cover_53 : decode cX5_cover 53 = .ok (.aload_n 0, 1) := by decide +kernel
theorem dX5_cover_54 : decode cX5_cover 54 = .ok (.iload 4, 2) := by decide +kernel
theorem dX5_cover_56 : decode cX5_cover 56 = .ok (.iload_n 3, 1) := by decide +kernel
theorem dX5_cover_57 : decode cX5_cover 57 = .ok (.invokevirtual 165, 3) := by decide +kernel
theorem dX5_cover_60 : decode cX5_cover 60 = .ok (.invokestatic 142, 3) := by decide +kernel
theorem dX5_cover_63 : decode cX5_cover 63 = .ok (.iastore, 1) := by decide +kernel
theorem dX5_cover_64 : decode cX5_cover 64 = .ok (.iinc 3 1, 3) := by decide +kernel
theorem dX5_cover_67 : decode cX5_cover 67 = .ok (.goto (-65), 3) := by decide +kernel
theorem dX5_cover_70 : decode cX5_cover 70 = .ok (.return_, 1) := by decide +kernel
theorem dX5_uncover_0 : decode cX5_uncover 0 = .ok (.iconst 0, 1) := by decide +kernel
theorem dX5_uncover_1 : decode cX5_uncover 1 = .ok (.istore_n 3, 1) := by decide +kernel
theorem dX5_uncover_2 : decode cX5_uncover 2 = .ok (.iload_n 3, 1) := by decide +kernel
theorem dX5_uncover_3 : decode cX5_uncover 3 = .ok (.iconst 5, 1) := by decide +kernel
theorem dX5_uncover_4 : decode cX5_uncover 4 = .ok (.if_icmp .ge 42, 3) := by decide +kernel
theorem dX5_uncover_7 : decode cX5_uncover 7 = .ok (.aload_n 0, 1) := by decide +kernel
theorem dX5_uncover_8 : decode cX5_uncover 8 = .ok (.getfield 59, 3) := by decide +kernel
theorem dX5_uncover_11 : decode cX5_uncover 11 = .ok (.iload_n 2, 1) := by decide +kernel
theorem dX5_uncover_12 : decode cX5_uncover 12 = .ok (.iload_n 3, 1) := by decide +kernel
theorem dX5_uncover_13 : decode cX5_uncover 13 = .ok (.invokevirtual 162, 3) := by decide +kernel
theorem dX5_uncover_16 : decode cX5_uncover 16 = .ok (.istore 4, 2) := by decide +kernel
theorem dX5_uncover_18 : decode cX5_uncover 18 = .ok (.iload 4, 2) := by decide +kernel
theorem dX5_uncover_20 : decode cX5_uncover 20 = .ok (.ifCond .lt 20, 3) := by decide +kernel
theorem dX5_uncover_23 : decode cX5_uncover 23 = .ok (.aload_n 0, 1) := by decide +kernel
theorem dX5_uncover_24 : decode cX5_uncover 24 = .ok (.getfield 34, 3) := by decide +kernel
theorem dX5_uncover_27 : decode cX5_uncover 27 = .ok (.iload 4, 2) := by decide +kernel
theorem dX5_uncover_29 : decode cX5_uncover 29 = .ok (.aload_n 0, 1) := by decide +kernel
theorem dX5_uncover_30 : decode cX5_uncover 30 = .ok (.getfield 37, 3) := by decide +kernel
theorem dX5_uncover_33 : decode cX5_uncover 33 = .ok (.iload_n 1, 1) := by decide +kernel
theorem dX5_uncover_34 : decode cX5_uncover 34 = .ok (.iconst 5, 1) := by decide +kernel
theorem dX5_uncover_35 : decode cX5_uncover 35 = .ok (.imul, 1) := by decide +kernel
theorem dX5_uncover_36 : decode cX5_uncover 36 = .ok (.iload_n 3, 1) := by decide +kernel
theorem dX5_uncover_37 : decode cX5_uncover 37 = .ok (.iadd, 1) := by decide +kernel
theorem dX5_uncover_38 : decode cX5_uncover 38 = .ok (.iaload, 1) := by decide +kernel
theorem dX5_uncover_39 : decode cX5_uncover 39 = .ok (.iastore, 1) := by decide +kernel
theorem dX5_uncover_40 : decode cX5_uncover 40 = .ok (.iinc 3 1, 3) := by decide +kernel
theorem dX5_uncover_43 : decode cX5_uncover 43 = .ok (.goto (-41), 3) := by decide +kernel
theorem dX5_uncover_46 : decode cX5_uncover 46 = .ok (.return_, 1) := by decide +kernel
theorem dX6_init_0 : decode cX6_init 0 = .ok (.aload_n 0, 1) := by decide +kernel
theorem dX6_init_1 : decode cX6_init 1 = .ok (.invokespecial 3, 3) := by decide +kernel
theorem dX6_init_4 : decode cX6_init 4 = .ok (.aload_n 0, 1) := by decide +kernel
theorem dX6_init_5 : decode cX6_init 5 = .ok (.iconst 0, 1) := by decide +kernel
theorem dX6_init_6 : decode cX6_init 6 = .ok (.putfield 9, 3) := by decide +kernel
theorem dX6_init_9 : decode cX6_init 9 = .ok (.aload_n 0, 1) := by decide +kernel
theorem dX6_init_10 : decode cX6_init 10 = .ok (.sipush 200, 3) := by decide +kernel
theorem dX6_init_13 : decode cX6_init 13 = .ok (.newarray .int, 2) := by decide +kernel
theorem dX6_init_15 : decode cX6_init 15 = .ok (.putfield 15, 3) := by decide +kernel
theorem dX6_init_18 : decode cX6_init 18 = .ok (.aload_n 0, 1) := by decide +kernel
theorem dX6_init_19 : decode cX6_init 19 = .ok (.sipush 200, 3) := by decide +kernel
theorem dX6_init_22 : decode cX6_init 22 = .ok (.newarray .int, 2) := by decide +kernel
theorem dX6_init_24 : decode cX6_init 24 = .ok (.putfield 19, 3) := by decide +kernel
theorem dX6_init_27 : decode cX6_init 27 = .ok (.aload_n 0, 1) := by decide +kernel
theorem dX6_init_28 : decode cX6_init 28 = .ok (.sipush 200, 3) := by decide +kernel
theorem dX6_init_31 : decode cX6_init 31 = .ok (.newarray .int, 2) := by decide +kernel
theorem dX6_init_33 : decode cX6_init 33 = .ok (.putfield 22, 3) := by decide +kernel
theorem dX6_init_36 : decode cX6_init 36 = .ok (.aload_n 0, 1) := by decide +kernel
theorem dX6_init_37 : decode cX6_init 37 = .ok (.sipush 200, 3) := by decide +kernel
theorem dX6_init_40 : decode cX6_init 40 = .ok (.newarray .int, 2) := by decide +kernel
theorem dX6_init_42 : decode cX6_init 42 = .ok (.putfield 25, 3) := by decide +kernel
theorem dX6_init_45 : decode cX6_init 45 = .ok (.aload_n 0, 1) := by decide +kernel
theorem dX6_init_46 : decode cX6_init 46 = .ok (.sipush 200, 3) := by decide +kernel
theorem dX6_init_49 : decode cX6_init 49 = .ok (.newarray .int, 2) := by decide +kernel
theorem dX6_init_51 : decode cX6_init 51 = .ok (.putfield 28, 3) := by decide +kernel
theorem dX6_init_54 : decode cX6_init 54 = .ok (.aload_n 0, 1) := by decide +kernel
theorem dX6_init_55 : decode cX6_init 55 = .ok (.sipush 200, 3) := by decide +kernel
theorem dX6_init_58 : decode cX6_init 58 = .ok (.newarray .int, 2) := by decide +kernel
theorem dX6_init_60 : decode cX6_init 60 = .ok (.putfield 31, 3) := by decide +kernel
theorem dX6_init_63 : decode cX6_init 63 = .ok (.aload_n 0, 1) := by decide +kernel
theorem dX6_init_64 : decode cX6_init 64 = .ok (.iconst 0, 1) := by decide +kernel
theorem dX6_init_65 : decode cX6_init 65 = .ok (.putfield 34, 3) := by decide +kernel
theorem dX6_init_68 : decode cX6_init 68 = .ok (.aload_n 0, 1) := by decide +kernel
theorem dX6_init_69 : decode cX6_init 69 = .ok (.bipush 60, 2) := by decide +kernel
theorem dX6_init_71 : decode cX6_init 71 = .ok (.newarray .int, 2) := by decide +kernel
theorem dX6_init_73 : decode cX6_init 73 = .ok (.putfield 37, 3) := by decide +kernel
theorem dX6_init_76 : decode cX6_init 76 = .ok (.aload_n 0, 1) := by decide +kernel
theorem dX6_init_77 : decode cX6_init 77 = .ok (.bipush 60, 2) := by decide +kernel
theorem dX6_init_79 : decode cX6_init 79 = .ok (.newarray .int, 2) := by decide +kernel
theorem dX6_init_81 : decode cX6_init 81 = .ok (.putfield 40, 3) := by decide +kernel
theorem dX6_init_84 : decode cX6_init 84 = .ok (.aload_n 0, 1) := by decide +kernel
theorem dX6_init_85 : decode cX6_init 85 = .ok (.bipush 60, 2) := by decide +kernel
theorem dX6_init_87 : decode cX6_init 87 = .ok (.newarray .int, 2) := by decide +kernel
theorem dX6_init_89 : decode cX6_init 89 = .ok (.putfield 43, 3) := by decide +kernel
theorem dX6_init_92 : decode cX6_init 92 = .ok (.aload_n 0, 1) := by decide +kernel
theorem dX6_init_93 : decode cX6_init 93 = .ok (.bipush 60, 2) := by decide +kernel
theorem dX6_init_95 : decode cX6_init 95 = .ok (.newarray .int, 2) := by decide +kernel
theorem dX6_init_97 : decode cX6_init 97 = .ok (.putfield 46, 3) := by decide +kernel
theorem dX6_init_100 : decode cX6_init 100 = .ok (.return_, 1) := by decide +kernel
theorem dX6_become_0 : decode cX6_become 0 = .ok (.aload_n 0, 1) := by decide +kernel
theorem dX6_become_1 : decode cX6_become 1 = .ok (.aload_n 1, 1) := by decide +kernel
theorem dX6_become_2 : decode cX6_become 2 = .ok (.getfield 9, 3) := by decide +kernel
theorem dX6_become_5 : decode cX6_become 5 = .ok (.putfield 9, 3) := by decide +kernel
theorem dX6_become_8 : decode cX6_become 8 = .ok (.aload_n 1, 1) := by decide +kernel
theorem dX6_become_9 : decode cX6_become 9 = .ok (.getfield 15, 3) := by decide +kernel
theorem dX6_become_12 : decode cX6_become 12 = .ok (.aload_n 0, 1) := by decide +kernel
theorem dX6_become_13 : decode cX6_become 13 = .ok (.getfield 15, 3) := by decide +kernel
theorem dX6_become_16 : decode cX6_become 16 = .ok (.invokestatic 49, 3) := by decide +kernel
theorem dX6_become_19 : decode cX6_become 19 = .ok (.aload_n 1, 1) := by decide +kernel
theorem dX6_become_20 : decode cX6_become 20 = .ok (.getfield 19, 3) := by decide +kernel
theorem dX6_become_23 : decode cX6_become 23 = .ok (.aload_n 0, 1) := by decide +kernel
theorem dX6_become_24 : decode cX6_become 24 = .ok (.getfield 19, 3) := by decide +kernel
theorem dX6_become_27 : decode cX6_become 27 = .ok (.invokestatic 49, 3) := by decide +kernel
theorem dX6_become_30 : decode cX6_become 30 = .ok (.aload_n 1, 1) := by decide +kernel
theorem dX6_become_31 : decode cX6_become 31 = .ok (.getfield 22, 3) := by decide +kernel
theorem dX6_become_34 : decode cX6_become 34 = .ok (.aload_n 0, 1) := by decide +kernel
theorem dX6_become_35 : decode cX6_become 35 = .ok (.getfield 22, 3) := by decide +kernel
theorem dX6_become_38 : decode cX6_become 38 = .ok (.invokestatic 49, 3) := by decide +kernel
theorem dX6_become_41 : decode cX6_become 41 = .ok (.aload_n 1, 1) := by decide +kernel
theorem dX6_become_42 : decode cX6_become 42 = .ok (.getfield 25, 3) := by decide +kernel
theorem dX6_become_45 : decode cX6_become 45 = .ok (.aload_n 0, 1) := by decide +kernel
theorem dX6_become_46 : decode cX6_become 46 = .ok (.getfield 25, 3) := by decide +kernel
theorem dX6_become_49 : decode cX6_become 49 = .ok (.invokestatic 49, 3) := by decide +kernel
theorem dX6_become_52 : decode cX6_become 52 = .ok (.aload_n 1, 1) := by decide +kernel
theorem dX6_become_53 : decode cX6_become 53 = .ok (.getfield 28, 3) := by decide +kernel
theorem dX6_become_56 : decode cX6_become 56 = .ok (.aload_n 0, 1) := by decide +kernel
theorem dX6_become_57 : decode cX6_become 57 = .ok (.getfield 28, 3) := by decide +kernel
theorem dX6_become_60 : decode cX6_become 60 = .ok (.invokestatic 49, 3) := by decide +kernel
theorem dX6_become_63 : decode cX6_become 63 = .ok (.aload_n 1, 1) := by decide +kernel
theorem dX6_become_64 : decode cX6_become 64 = .ok (.getfield 31, 3) := by decide +kernel
theorem dX6_become_67 : decode cX6_become 67 = .ok (.aload_n 0, 1) := by decide +kernel
theorem dX6_become_68 : decode cX6_become 68 = .ok (.getfield 31, 3) := by decide +kernel
theorem dX6_become_71 : decode cX6_become 71 = .ok (.invokestatic 49, 3) := by decide +kernel
theorem dX6_become_74 : decode cX6_become 74 = .ok (.aload_n 0, 1) := by decide +kernel
theorem dX6_become_75 : decode cX6_become 75 = .ok (.aload_n 1, 1) := by decide +kernel
theorem dX6_become_76 : decode cX6_become 76 = .ok (.getfield 34, 3) := by decide +kernel
theorem dX6_become_79 : decode cX6_become 79 = .ok (.putfield 34, 3) := by decide +kernel
theorem dX6_become_82 : decode cX6_become 82 = .ok (.aload_n 1, 1) := by decide +kernel
theorem dX6_become_83 : decode cX6_become 83 = .ok (.getfield 37, 3) := by decide +kernel
theorem dX6_become_86 : decode cX6_become 86 = .ok (.aload_n 0, 1) := by decide +kernel
theorem dX6_become_87 : decode cX6_become 87 = .ok (.getfield 37, 3) := by decide +kernel
theorem dX6_become_90 : decode cX6_become 90 = .ok (.invokestatic 49, 3) := by decide +kernel
theorem dX6_become_93 : decode cX6_become 93 = .ok (.aload_n 1, 1) := by decide +kernel
theorem dX6_become_94 : decode cX6_become 94 = .ok (.getfield 40, 3) := by decide +kernel
theorem dX6_become_97 : decode cX6_become 97 = .ok (.aload_n 0, 1) := by decide +kernel
theorem dX6_become_98 : decode cX6_become 98 = .ok (.getfield 40, 3) := by decide +kernel
theorem dX6_become_101 : decode cX6_become 101 = .ok (.invokestatic 49, 3) := by decide +kernel
theorem dX6_become_104 : decode cX6_become 104 = .ok (.aload_n 1, 1) := by decide +kernel
theorem dX6_become_105 : decode cX6_become 105 = .ok (.getfield 43, 3) := by decide +kernel
theorem dX6_become_108 : decode cX6_become 108 = .ok (.aload_n 0, 1) := by decide +kernel
theorem dX6_become_109 : decode cX6_become 109 = .ok (.getfield 43, 3) := by decide +kernel
theorem dX6_become_112 : decode cX6_become 112 = .ok (.invokestatic 49, 3) := by decide +kernel
theorem dX6_become_115 : decode cX6_become 115 = .ok (.aload_n 1, 1) := by decide +kernel
theorem dX6_become_116 : decode cX6_become 116 = .ok (.getfield 46, 3) := by decide +kernel
theorem dX6_become_119 : decode cX6_become 119 = .ok (.aload_n 0, 1) := by decide +kernel
theorem dX6_become_120 : decode cX6_become 120 = .ok (.getfield 46, 3) := by decide +kernel
theorem dX6_become_123 : decode cX6_become 123 = .ok (.invokestatic 49, 3) := by decide +kernel
theorem dX6_become_126 : decode cX6_become 126 = .ok (.return_, 1) := by decide +kernel
theorem dX6_addReading_0 : decode cX6_addReading 0 = .ok (.aload_n 0, 1) := by decide +kernel
theorem dX6_addReading_1 : decode cX6_addReading 1 = .ok (.getfield 9, 3) := by decide +kernel
theorem dX6_addReading_4 : decode cX6_addReading 4 = .ok (.sipush 200, 3) := by decide +kernel
theorem dX6_addReading_7 : decode cX6_addReading 7 = .ok (.if_icmp .lt 4, 3) := by decide +kernel
theorem dX6_addReading_10 : decode cX6_addReading 10 = .ok (.return_, 1) := by decide +kernel
theorem dX6_addReading_11 : decode cX6_addReading 11 = .ok (.aload_n 0, 1) := by decide +kernel
theorem dX6_addReading_12 : decode cX6_addReading 12 = .ok (.getfield 15, 3) := by decide +kernel
theorem dX6_addReading_15 : decode cX6_addReading 15 = .ok (.aload_n 0, 1) := by decide +kernel
theorem dX6_addReading_16 : decode cX6_addReading 16 = .ok (.getfield 9, 3) := by decide +kernel
theorem dX6_addReading_19 : decode cX6_addReading 19 = .ok (.iload_n 1, 1) := by decide +kernel
theorem dX6_addReading_20 : decode cX6_addReading 20 = .ok (.iastore, 1) := by decide +kernel
theorem dX6_addReading_21 : decode cX6_addReading 21 = .ok (.aload_n 0, 1) := by decide +kernel
theorem dX6_addReading_22 : decode cX6_addReading 22 = .ok (.getfield 19, 3) := by decide +kernel
theorem dX6_addReading_25 : decode cX6_addReading 25 = .ok (.aload_n 0, 1) := by decide +kernel
theorem dX6_addReading_26 : decode cX6_addReading 26 = .ok (.getfield 9, 3) := by decide +kernel
theorem dX6_addReading_29 : decode cX6_addReading 29 = .ok (.iload_n 3, 1) := by decide +kernel
theorem dX6_addReading_30 : decode cX6_addReading 30 = .ok (.iastore, 1) := by decide +kernel
theorem dX6_addReading_31 : decode cX6_addReading 31 = .ok (.aload_n 0, 1) := by decide +kernel
theorem dX6_addReading_32 : decode cX6_addReading 32 = .ok (.getfield 22, 3) := by decide +kernel
theorem dX6_addReading_35 : decode cX6_addReading 35 = .ok (.aload_n 0, 1) := by decide +kernel
theorem dX6_addReading_36 : decode cX6_addReading 36 = .ok (.getfield 9, 3) := by decide +kernel
theorem dX6_addReading_39 : decode cX6_addReading 39 = .ok (.aload_n 2, 1) := by decide +kernel
theorem dX6_addReading_40 : decode cX6_addReading 40 = .ok (.getfield 53, 3) := by decide +kernel
theorem dX6_addReading_43 : decode cX6_addReading 43 = .ok (.iastore, 1) := by decide +kernel
theorem dX6_addReading_44 : decode cX6_addReading 44 = .ok (.aload_n 0, 1) := by decide +kernel
theorem dX6_addReading_45 : decode cX6_addReading 45 = .ok (.getfield 25, 3) := by decide +kernel
theorem dX6_addReading_48 : decode cX6_addReading 48 = .ok (.aload_n 0, 1) := by decide +kernel
theorem dX6_addReading_49 : decode cX6_addReading 49 = .ok (.getfield 9, 3) := by decide +kernel
theorem dX6_addReading_52 : decode cX6_addReading 52 = .ok (.iload 4, 2) := by decide +kernel
theorem dX6_addReading_54 : decode cX6_addReading 54 = .ok (.iastore, 1) := by decide +kernel
theorem dX6_addReading_55 : decode cX6_addReading 55 = .ok (.aload_n 0, 1) := by decide +kernel
theorem dX6_addReading_56 : decode cX6_addReading 56 = .ok (.getfield 28, 3) := by decide +kernel
theorem dX6_addReading_59 : decode cX6_addReading 59 = .ok (.aload_n 0, 1) := by decide +kernel
theorem dX6_addReading_60 : decode cX6_addReading 60 = .ok (.getfield 9, 3) := by decide +kernel
theorem dX6_addReading_63 : decode cX6_addReading 63 = .ok (.aload_n 2, 1) := by decide +kernel
theorem dX6_addReading_64 : decode cX6_addReading 64 = .ok (.getfield 58, 3) := by decide +kernel
theorem dX6_addReading_67 : decode cX6_addReading 67 = .ok (.iastore, 1) := by decide +kernel
theorem dX6_addReading_68 : decode cX6_addReading 68 = .ok (.aload_n 0, 1) := by decide +kernel
theorem dX6_addReading_69 : decode cX6_addReading 69 = .ok (.getfield 31, 3) := by decide +kernel
theorem dX6_addReading_72 : decode cX6_addReading 72 = .ok (.aload_n 0, 1) := by decide +kernel
theorem dX6_addReading_73 : decode cX6_addReading 73 = .ok (.getfield 9, 3) := by decide +kernel
theorem dX6_addReading_76 : decode cX6_addReading 76 = .ok (.aload_n 2, 1) := by decide +kernel
theorem dX6_addReading_77 : decode cX6_addReading 77 = .ok (.getfield 61, 3) := by decide +kernel
theorem dX6_addReading_80 : decode cX6_addReading 80 = .ok (.iastore, 1) := by decide +kernel
theorem dX6_addReading_81 : decode cX6_addReading 81 = .ok (.aload_n 0, 1) := by decide +kernel
theorem dX6_addReading_82 : decode cX6_addReading 82 = .ok (.dup, 1) := by decide +kernel
theorem dX6_addReading_83 : decode cX6_addReading 83 = .ok (.getfield 9, 3) := by decide +kernel
theorem dX6_addReading_86 : decode cX6_addReading 86 = .ok (.iconst 1, 1) := by decide +kernel
theorem dX6_addReading_87 : decode cX6_addReading 87 = .ok (.iadd, 1) := by decide +kernel
theorem dX6_addReading_88 : decode cX6_addReading 88 = .ok (.putfield 9, 3) := by decide +kernel
theorem dX6_addReading_91 : decode cX6_addReading 91 = .ok (.return_, 1) := by decide +kernel
theorem dX6_addCleaning_0 : decode cX6_addCleaning 0 = .ok (.aload_n 0, 1) := by decide +kernel
theorem dX6_addCleaning_1 : decode cX6_addCleaning 1 = .ok (.getfield 37, 3) := by decide +kernel
theorem dX6_addCleaning_4 : decode cX6_addCleaning 4 = .ok (.aload_n 0, 1) := by decide +kernel
theorem dX6_addCleaning_5 : decode cX6_addCleaning 5 = .ok (.getfield 34, 3) := by decide +kernel
theorem dX6_addCleaning_8 : decode cX6_addCleaning 8 = .ok (.iload_n 1, 1) := by decide +kernel
theorem dX6_addCleaning_9 : decode cX6_addCleaning 9 = .ok (.iastore, 1) := by decide +kernel
theorem dX6_addCleaning_10 : decode cX6_addCleaning 10 = .ok (.aload_n 0, 1) := by decide +kernel
theorem dX6_addCleaning_11 : decode cX6_addCleaning 11 = .ok (.getfield 40, 3) := by decide +kernel
theorem dX6_addCleaning_14 : decode cX6_addCleaning 14 = .ok (.aload_n 0, 1) := by decide +kernel
theorem dX6_addCleaning_15 : decode cX6_addCleaning 15 = .ok (.getfield 34, 3) := by decide +kernel
theorem dX6_addCleaning_18 : decode cX6_addCleaning 18 = .ok (.iload_n 2, 1) := by decide +kernel
theorem dX6_addCleaning_19 : decode cX6_addCleaning 19 = .ok (.iastore, 1) := by decide +kernel
theorem dX6_addCleaning_20 : decode cX6_addCleaning 20 = .ok (.aload_n 0, 1) := by decide +kernel
theorem dX6_addCleaning_21 : decode cX6_addCleaning 21 = .ok (.getfield 43, 3) := by decide +kernel
theorem dX6_addCleaning_24 : decode cX6_addCleaning 24 = .ok (.aload_n 0, 1) := by decide +kernel
theorem dX6_addCleaning_25 : decode cX6_addCleaning 25 = .ok (.getfield 34, 3) := by decide +kernel
theorem dX6_addCleaning_28 : decode cX6_addCleaning 28 = .ok (.iload_n 3, 1) := by decide +kernel
theorem dX6_addCleaning_29 : decode cX6_addCleaning 29 = .ok (.iastore, 1) := by decide +kernel
theorem dX6_addCleaning_30 : decode cX6_addCleaning 30 = .ok (.aload_n 0, 1) := by decide +kernel
theorem dX6_addCleaning_31 : decode cX6_addCleaning 31 = .ok (.getfield 46, 3) := by decide +kernel
theorem dX6_addCleaning_34 : decode cX6_addCleaning 34 = .ok (.aload_n 0, 1) := by decide +kernel
theorem dX6_addCleaning_35 : decode cX6_addCleaning 35 = .ok (.getfield 34, 3) := by decide +kernel
theorem dX6_addCleaning_38 : decode cX6_addCleaning 38 = .ok (.aload_n 0, 1) := by decide +kernel
theorem dX6_addCleaning_39 : decode cX6_addCleaning 39 = .ok (.getfield 9, 3) := by decide +kernel
theorem dX6_addCleaning_42 : decode cX6_addCleaning 42 = .ok (.iastore, 1) := by decide +kernel
theorem dX6_addCleaning_43 : decode cX6_addCleaning 43 = .ok (.aload_n 0, 1) := by decide +kernel
theorem dX6_addCleaning_44 : decode cX6_addCleaning 44 = .ok (.dup, 1) := by decide +kernel
theorem dX6_addCleaning_45 : decode cX6_addCleaning 45 = .ok (.getfield 34, 3) := by decide +kernel
theorem dX6_addCleaning_48 : decode cX6_addCleaning 48 = .ok (.iconst 1, 1) := by decide +kernel
theorem dX6_addCleaning_49 : decode cX6_addCleaning 49 = .ok (.iadd, 1) := by decide +kernel
theorem dX6_addCleaning_50 : decode cX6_addCleaning 50 = .ok (.putfield 34, 3) := by decide +kernel
theorem dX6_addCleaning_53 : decode cX6_addCleaning 53 = .ok (.aload_n 0, 1) := by decide +kernel
theorem dX6_addCleaning_54 : decode cX6_addCleaning 54 = .ok (.getfield 34, 3) := by decide +kernel
theorem dX6_addCleaning_57 : decode cX6_addCleaning 57 = .ok (.ireturn, 1) := by decide +kernel
theorem dX6_putRight_0 : decode cX6_putRight 0 = .ok (.iconst 0, 1) := by decide +kernel
theorem dX6_putRight_1 : decode cX6_putRight 1 = .ok (.istore_n 2, 1) := by decide +kernel
theorem dX6_putRight_2 : decode cX6_putRight 2 = .ok (.iload_n 2, 1) := by decide +kernel
theorem dX6_putRight_3 : decode cX6_putRight 3 = .ok (.aload_n 0, 1) := by decide +kernel
theorem dX6_putRight_4 : decode cX6_putRight 4 = .ok (.getfield 34, 3) := by decide +kernel
theorem dX6_putRight_7 : decode cX6_putRight 7 = .ok (.if_icmp .ge 83, 3) := by decide +kernel
theorem dX6_putRight_10 : decode cX6_putRight 10 = .ok (.aload_n 0, 1) := by decide +kernel
theorem dX6_putRight_11 : decode cX6_putRight 11 = .ok (.getfield 37, 3) := by decide +kernel
theorem dX6_putRight_14 : decode cX6_putRight 14 = .ok (.iload_n 2, 1) := by decide +kernel
theorem dX6_putRight_15 : decode cX6_putRight 15 = .ok (.iaload, 1) := by decide +kernel
theorem dX6_putRight_16 : decode cX6_putRight 16 = .ok (.aload_n 0, 1) := by decide +kernel
theorem dX6_putRight_17 : decode cX6_putRight 17 = .ok (.getfield 15, 3) := by decide +kernel
theorem dX6_putRight_20 : decode cX6_putRight 20 = .ok (.iload_n 1, 1) := by decide +kernel
theorem dX6_putRight_21 : decode cX6_putRight 21 = .ok (.iaload, 1) := by decide +kernel
theorem dX6_putRight_22 : decode cX6_putRight 22 = .ok (.if_icmp .ne 17, 3) := by decide +kernel
theorem dX6_putRight_25 : decode cX6_putRight 25 = .ok (.aload_n 0, 1) := by decide +kernel
theorem dX6_putRight_26 : decode cX6_putRight 26 = .ok (.getfield 46, 3) := by decide +kernel
theorem dX6_putRight_29 : decode cX6_putRight 29 = .ok (.iload_n 2, 1) := by decide +kernel
theorem dX6_putRight_30 : decode cX6_putRight 30 = .ok (.iaload, 1) := by decide +kernel
theorem dX6_putRight_31 : decode cX6_putRight 31 = .ok (.iload_n 1, 1) := by decide +kernel
theorem dX6_putRight_32 : decode cX6_putRight 32 = .ok (.if_icmp .le 7, 3) := by decide +kernel
theorem dX6_putRight_35 : decode cX6_putRight 35 = .ok (.iconst 1, 1) := by decide +kernel
theorem dX6_putRight_36 : decode cX6_putRight 36 = .ok (.goto 4, 3) := by decide +kernel
theorem dX6_putRight_39 : decode cX6_putRight 39 = .ok (.iconst 0, 1) := by decide +kernel
theorem dX6_putRight_40 : decode cX6_putRight 40 = .ok (.istore_n 3, 1) := by decide +kernel
theorem dX6_putRight_41 : decode cX6_putRight 41 = .ok (.iload_n 3, 1) := by decide +kernel
theorem dX6_putRight_42 : decode cX6_putRight 42 = .ok (.ifCond .eq 42, 3) := by decide +kernel
theorem dX6_putRight_45 : decode cX6_putRight 45 = .ok (.aload_n 0, 1) := by decide +kernel
theorem dX6_putRight_46 : decode cX6_putRight 46 = .ok (.getfield 43, 3) := by decide +kernel
theorem dX6_putRight_49 : decode cX6_putRight 49 = .ok (.iload_n 2, 1) := by decide +kernel
theorem dX6_putRight_50 : decode cX6_putRight 50 = .ok (.iaload, 1) := by decide +kernel
theorem dX6_putRight_51 : decode cX6_putRight 51 = .ok (.ifCond .le 33, 3) := by decide +kernel
theorem dX6_putRight_54 : decode cX6_putRight 54 = .ok (.aload_n 0, 1) := by decide +kernel
theorem dX6_putRight_55 : decode cX6_putRight 55 = .ok (.getfield 31, 3) := by decide +kernel
theorem dX6_putRight_58 : decode cX6_putRight 58 = .ok (.iload_n 1, 1) := by decide +kernel
theorem dX6_putRight_59 : decode cX6_putRight 59 = .ok (.iaload, 1) := by decide +kernel
theorem dX6_putRight_60 : decode cX6_putRight 60 = .ok (.aload_n 0, 1) := by decide +kernel
theorem dX6_putRight_61 : decode cX6_putRight 61 = .ok (.getfield 40, 3) := by decide +kernel
theorem dX6_putRight_64 : decode cX6_putRight 64 = .ok (.iload_n 2, 1) := by decide +kernel
theorem dX6_putRight_65 : decode cX6_putRight 65 = .ok (.iaload, 1) := by decide +kernel
theorem dX6_putRight_66 : decode cX6_putRight 66 = .ok (.aload_n 0, 1) := by decide +kernel
theorem dX6_putRight_67 : decode cX6_putRight 67 = .ok (.getfield 28, 3) := by decide +kernel
theorem dX6_putRight_70 : decode cX6_putRight 70 = .ok (.iload_n 1, 1) := by decide +kernel
theorem dX6_putRight_71 : decode cX6_putRight 71 = .ok (.iaload, 1) := by decide +kernel
theorem dX6_putRight_72 : decode cX6_putRight 72 = .ok (.iconst 1, 1) := by decide +kernel
theorem dX6_putRight_73 : decode cX6_putRight 73 = .ok (.iadd, 1) := by decide +kernel
theorem dX6_putRight_74 : decode cX6_putRight 74 = .ok (.imul, 1) := by decide +kernel
theorem dX6_putRight_75 : decode cX6_putRight 75 = .ok (.aload_n 0, 1) := by decide +kernel
theorem dX6_putRight_76 : decode cX6_putRight 76 = .ok (.getfield 43, 3) := by decide +kernel
theorem dX6_putRight_79 : decode cX6_putRight 79 = .ok (.iload_n 2, 1) := by decide +kernel
theorem dX6_putRight_80 : decode cX6_putRight 80 = .ok (.iaload, 1) := by decide +kernel
theorem dX6_putRight_81 : decode cX6_putRight 81 = .ok (.idiv, 1) := by decide +kernel
theorem dX6_putRight_82 : decode cX6_putRight 82 = .ok (.isub, 1) := by decide +kernel
theorem dX6_putRight_83 : decode cX6_putRight 83 = .ok (.ireturn, 1) := by decide +kernel
theorem dX6_putRight_84 : decode cX6_putRight 84 = .ok (.iinc 2 1, 3) := by decide +kernel
theorem dX6_putRight_87 : decode cX6_putRight 87 = .ok (.goto (-85), 3) := by decide +kernel
theorem dX6_putRight_90 : decode cX6_putRight 90 = .ok (.aload_n 0, 1) := by decide +kernel
theorem dX6_putRight_91 : decode cX6_putRight 91 = .ok (.getfield 31, 3) := by decide +kernel
theorem dX6_putRight_94 : decode cX6_putRight 94 = .ok (.iload_n 1, 1) := by decide +kernel
theorem dX6_putRight_95 : decode cX6_putRight 95 = .ok (.iaload, 1) := by decide +kernel
theorem dX6_putRight_96 : decode cX6_putRight 96 = .ok (.iconst 3, 1) := by decide +kernel
theorem dX6_putRight_97 : decode cX6_putRight 97 = .ok (.aload_n 0, 1) := by decide +kernel
theorem dX6_putRight_98 : decode cX6_putRight 98 = .ok (.getfield 28, 3) := by decide +kernel
theorem dX6_putRight_101 : decode cX6_putRight 101 = .ok (.iload_n 1, 1) := by decide +kernel
theorem dX6_putRight_102 : decode cX6_putRight 102 = .ok (.iaload, 1) := by decide +kernel
theorem dX6_putRight_103 : decode cX6_putRight 103 = .ok (.imul, 1) := by decide +kernel
theorem dX6_putRight_104 : decode cX6_putRight 104 = .ok (.isub, 1) := by decide +kernel
theorem dX6_putRight_105 : decode cX6_putRight 105 = .ok (.ireturn, 1) := by decide +kernel
theorem dX7_init_0 : decode cX7_init 0 = .ok (.aload_n 0, 1) := by decide +kernel
theorem dX7_init_1 : decode cX7_init 1 = .ok (.invokespecial 3, 3) := by decide +kernel
theorem dX7_init_4 : decode cX7_init 4 = .ok (.aload_n 0, 1) := by decide +kernel
theorem dX7_init_5 : decode cX7_init 5 = .ok (.bipush 80, 2) := by decide +kernel
theorem dX7_init_7 : decode cX7_init 7 = .ok (.newarray .int, 2) := by decide +kernel
theorem dX7_init_9 : decode cX7_init 9 = .ok (.putfield 9, 3) := by decide +kernel
theorem dX7_init_12 : decode cX7_init 12 = .ok (.aload_n 0, 1) := by decide +kernel
theorem dX7_init_13 : decode cX7_init 13 = .ok (.bipush 80, 2) := by decide +kernel
theorem dX7_init_15 : decode cX7_init 15 = .ok (.newarray .int, 2) := by decide +kernel
theorem dX7_init_17 : decode cX7_init 17 = .ok (.putfield 15, 3) := by decide +kernel
theorem dX7_init_20 : decode cX7_init 20 = .ok (.aload_n 0, 1) := by decide +kernel
theorem dX7_init_21 : decode cX7_init 21 = .ok (.bipush 80, 2) := by decide +kernel
theorem dX7_init_23 : decode cX7_init 23 = .ok (.newarray .int, 2) := by decide +kernel
theorem dX7_init_25 : decode cX7_init 25 = .ok (.putfield 18, 3) := by decide +kernel
theorem dX7_init_28 : decode cX7_init 28 = .ok (.aload_n 0, 1) := by decide +kernel
theorem dX7_init_29 : decode cX7_init 29 = .ok (.sipush 320, 3) := by decide +kernel
theorem dX7_init_32 : decode cX7_init 32 = .ok (.newarray .int, 2) := by decide +kernel
theorem dX7_init_34 : decode cX7_init 34 = .ok (.putfield 21, 3) := by decide +kernel
theorem dX7_init_37 : decode cX7_init 37 = .ok (.aload_n 0, 1) := by decide +kernel
theorem dX7_init_38 : decode cX7_init 38 = .ok (.sipush 320, 3) := by decide +kernel
theorem dX7_init_41 : decode cX7_init 41 = .ok (.newarray .int, 2) := by decide +kernel
theorem dX7_init_43 : decode cX7_init 43 = .ok (.putfield 24, 3) := by decide +kernel
theorem dX7_init_46 : decode cX7_init 46 = .ok (.aload_n 0, 1) := by decide +kernel
theorem dX7_init_47 : decode cX7_init 47 = .ok (.new 27, 3) := by decide +kernel
theorem dX7_init_50 : decode cX7_init 50 = .ok (.dup, 1) := by decide +kernel
theorem dX7_init_51 : decode cX7_init 51 = .ok (.invokespecial 29, 3) := by decide +kernel
theorem dX7_init_54 : decode cX7_init 54 = .ok (.putfield 30, 3) := by decide +kernel
theorem dX7_init_57 : decode cX7_init 57 = .ok (.aload_n 0, 1) := by decide +kernel
theorem dX7_init_58 : decode cX7_init 58 = .ok (.new 27, 3) := by decide +kernel
theorem dX7_init_61 : decode cX7_init 61 = .ok (.dup, 1) := by decide +kernel
theorem dX7_init_62 : decode cX7_init 62 = .ok (.invokespecial 29, 3) := by decide +kernel
theorem dX7_init_65 : decode cX7_init 65 = .ok (.putfield 34, 3) := by decide +kernel
theorem dX7_init_68 : decode cX7_init 68 = .ok (.aload_n 0, 1) := by decide +kernel
theorem dX7_init_69 : decode cX7_init 69 = .ok (.getfield 9, 3) := by decide +kernel
theorem dX7_init_72 : decode cX7_init 72 = .ok (.iconst 4, 1) := by decide +kernel
theorem dX7_init_73 : decode cX7_init 73 = .ok (.invokestatic 37, 3) := by decide +kernel
theorem dX7_init_76 : decode cX7_init 76 = .ok (.aload_n 0, 1) := by decide +kernel
theorem dX7_init_77 : decode cX7_init 77 = .ok (.getfield 18, 3) := by decide +kernel
theorem dX7_init_80 : decode cX7_init 80 = .ok (.bipush 50, 2) := by decide +kernel
theorem dX7_init_82 : decode cX7_init 82 = .ok (.invokestatic 37, 3) := by decide +kernel
theorem dX7_init_85 : decode cX7_init 85 = .ok (.return_, 1) := by decide +kernel
theorem dX7_become_0 : decode cX7_become 0 = .ok (.aload_n 1, 1) := by decide +kernel
theorem dX7_become_1 : decode cX7_become 1 = .ok (.getfield 9, 3) := by decide +kernel
theorem dX7_become_4 : decode cX7_become 4 = .ok (.aload_n 0, 1) := by decide +kernel
theorem dX7_become_5 : decode cX7_become 5 = .ok (.getfield 9, 3) := by decide +kernel
theorem dX7_become_8 : decode cX7_become 8 = .ok (.invokestatic 43, 3) := by decide +kernel
theorem dX7_become_11 : decode cX7_become 11 = .ok (.aload_n 1, 1) := by decide +kernel
theorem dX7_become_12 : decode cX7_become 12 = .ok (.getfield 15, 3) := by decide +kernel
theorem dX7_become_15 : decode cX7_become 15 = .ok (.aload_n 0, 1) := by decide +kernel
theorem dX7_become_16 : decode cX7_become 16 = .ok (.getfield 15, 3) := by decide +kernel
theorem dX7_become_19 : decode cX7_become 19 = .ok (.invokestatic 43, 3) := by decide +kernel
theorem dX7_become_22 : decode cX7_become 22 = .ok (.aload_n 1, 1) := by decide +kernel
theorem dX7_become_23 : decode cX7_become 23 = .ok (.getfield 18, 3) := by decide +kernel
theorem dX7_become_26 : decode cX7_become 26 = .ok (.aload_n 0, 1) := by decide +kernel
theorem dX7_become_27 : decode cX7_become 27 = .ok (.getfield 18, 3) := by decide +kernel
theorem dX7_become_30 : decode cX7_become 30 = .ok (.invokestatic 43, 3) := by decide +kernel
theorem dX7_become_33 : decode cX7_become 33 = .ok (.aload_n 1, 1) := by decide +kernel
theorem dX7_become_34 : decode cX7_become 34 = .ok (.getfield 21, 3) := by decide +kernel
theorem dX7_become_37 : decode cX7_become 37 = .ok (.aload_n 0, 1) := by decide +kernel
theorem dX7_become_38 : decode cX7_become 38 = .ok (.getfield 21, 3) := by decide +kernel
theorem dX7_become_41 : decode cX7_become 41 = .ok (.invokestatic 43, 3) := by decide +kernel
theorem dX7_become_44 : decode cX7_become 44 = .ok (.aload_n 1, 1) := by decide +kernel
theorem dX7_become_45 : decode cX7_become 45 = .ok (.getfield 24, 3) := by decide +kernel
theorem dX7_become_48 : decode cX7_become 48 = .ok (.aload_n 0, 1) := by decide +kernel
theorem dX7_become_49 : decode cX7_become 49 = .ok (.getfield 24, 3) := by decide +kernel
theorem dX7_become_52 : decode cX7_become 52 = .ok (.invokestatic 43, 3) := by decide +kernel
theorem dX7_become_55 : decode cX7_become 55 = .ok (.aload_n 0, 1) := by decide +kernel
theorem dX7_become_56 : decode cX7_become 56 = .ok (.getfield 30, 3) := by decide +kernel
theorem dX7_become_59 : decode cX7_become 59 = .ok (.aload_n 1, 1) := by decide +kernel
theorem dX7_become_60 : decode cX7_become 60 = .ok (.getfield 30, 3) := by decide +kernel
theorem dX7_become_63 : decode cX7_become 63 = .ok (.invokevirtual 47, 3) := by decide +kernel
theorem dX7_become_66 : decode cX7_become 66 = .ok (.aload_n 0, 1) := by decide +kernel
theorem dX7_become_67 : decode cX7_become 67 = .ok (.getfield 34, 3) := by decide +kernel
theorem dX7_become_70 : decode cX7_become 70 = .ok (.aload_n 1, 1) := by decide +kernel
theorem dX7_become_71 : decode cX7_become 71 = .ok (.getfield 34, 3) := by decide +kernel
theorem dX7_become_74 : decode cX7_become 74 = .ok (.invokevirtual 47, 3) := by decide +kernel
theorem dX7_become_77 : decode cX7_become 77 = .ok (.return_, 1) := by decide +kernel
theorem dX7_cellRow_0 : decode cX7_cellRow 0 = .ok (.iload_n 1, 1) := by decide +kernel
theorem dX7_cellRow_1 : decode cX7_cellRow 1 = .ok (.lookupswitch 37 #[(0, 27), (1, 32)], 27) := by decide +kernel
theorem dX7_cellRow_28 : decode cX7_cellRow 28 = .ok (.aload_n 0, 1) := by decide +kernel
theorem dX7_cellRow_29 : decode cX7_cellRow 29 = .ok (.getfield 9, 3) := by decide +kernel
theorem dX7_cellRow_32 : decode cX7_cellRow 32 = .ok (.areturn, 1) := by decide +kernel
theorem dX7_cellRow_33 : decode cX7_cellRow 33 = .ok (.aload_n 0, 1) := by decide +kernel
theorem dX7_cellRow_34 : decode cX7_cellRow 34 = .ok (.getfield 15, 3) := by decide +kernel
theorem dX7_cellRow_37 : decode cX7_cellRow 37 = .ok (.areturn, 1) := by decide +kernel
theorem dX7_cellRow_38 : decode cX7_cellRow 38 = .ok (.aload_n 0, 1) := by decide +kernel
theorem dX7_cellRow_39 : decode cX7_cellRow 39 = .ok (.getfield 18, 3) := by decide +kernel
theorem dX7_cellRow_42 : decode cX7_cellRow 42 = .ok (.areturn, 1) := by decide +kernel
theorem dX7_placeRow_0 : decode cX7_placeRow 0 = .ok (.iload_n 1, 1) := by decide +kernel
theorem dX7_placeRow_1 : decode cX7_placeRow 1 = .ok (.tableswitch 72 3 7 #[35, 43, 51, 59, 67], 35) := by decide +kernel
theorem dX7_placeRow_36 : decode cX7_placeRow 36 = .ok (.aload_n 0, 1) := by decide +kernel
theorem dX7_placeRow_37 : decode cX7_placeRow 37 = .ok (.getfield 30, 3) := by decide +kernel
theorem dX7_placeRow_40 : decode cX7_placeRow 40 = .ok (.getfield 51, 3) := by decide +kernel
theorem dX7_placeRow_43 : decode cX7_placeRow 43 = .ok (.areturn, 1) := by decide +kernel
theorem dX7_placeRow_44 : decode cX7_placeRow 44 = .ok (.aload_n 0, 1) := by decide +kernel
theorem dX7_placeRow_45 : decode cX7_placeRow 45 = .ok (.getfield 30, 3) := by decide +kernel
theorem dX7_placeRow_48 : decode cX7_placeRow 48 = .ok (.getfield 54, 3) := by decide +kernel
theorem dX7_placeRow_51 : decode cX7_placeRow 51 = .ok (.areturn, 1) := by decide +kernel
theorem dX7_placeRow_52 : decode cX7_placeRow 52 = .ok (.aload_n 0, 1) := by decide +kernel
theorem dX7_placeRow_53 : decode cX7_placeRow 53 = .ok (.getfield 34, 3) := by decide +kernel
theorem dX7_placeRow_56 : decode cX7_placeRow 56 = .ok (.getfield 51, 3) := by decide +kernel
theorem dX7_placeRow_59 : decode cX7_placeRow 59 = .ok (.areturn, 1) := by decide +kernel
theorem dX7_placeRow_60 : decode cX7_placeRow 60 = .ok (.aload_n 0, 1) := by decide +kernel
theorem dX7_placeRow_61 : decode cX7_placeRow 61 = .ok (.getfield 34, 3) := by decide +kernel
theorem dX7_placeRow_64 : decode cX7_placeRow 64 = .ok (.getfield 54, 3) := by decide +kernel
theorem dX7_placeRow_67 : decode cX7_placeRow 67 = .ok (.areturn, 1) := by decide +kernel
theorem dX7_placeRow_68 : decode cX7_placeRow 68 = .ok (.aload_n 0, 1) := by decide +kernel
theorem dX7_placeRow_69 : decode cX7_placeRow 69 = .ok (.getfield 21, 3) := by decide +kernel
theorem dX7_placeRow_72 : decode cX7_placeRow 72 = .ok (.areturn, 1) := by decide +kernel
theorem dX7_placeRow_73 : decode cX7_placeRow 73 = .ok (.aload_n 0, 1) := by decide +kernel
theorem dX7_placeRow_74 : decode cX7_placeRow 74 = .ok (.getfield 24, 3) := by decide +kernel
theorem dX7_placeRow_77 : decode cX7_placeRow 77 = .ok (.areturn, 1) := by decide +kernel
theorem dX7_change_0 : decode cX7_change 0 = .ok (.aload_n 0, 1) := by decide +kernel
theorem dX7_change_1 : decode cX7_change 1 = .ok (.iload_n 3, 1) := by decide +kernel
theorem dX7_change_2 : decode cX7_change 2 = .ok (.invokevirtual 57, 3) := by decide +kernel
theorem dX7_change_5 : decode cX7_change 5 = .ok (.astore 5, 2) := by decide +kernel
theorem dX7_change_7 : decode cX7_change 7 = .ok (.iconst 0, 1) := by decide +kernel
theorem dX7_change_8 : decode cX7_change 8 = .ok (.istore 6, 2) := by decide +kernel
theorem dX7_change_10 : decode cX7_change 10 = .ok (.iload_n 1, 1) := by decide +kernel
theorem dX7_change_11 : decode cX7_change 11 = .ok (.bipush 10, 2) := by decide +kernel
theorem dX7_change_13 : decode cX7_change 13 = .ok (.idiv, 1) := by decide +kernel
theorem dX7_change_14 : decode cX7_change 14 = .ok (.istore 7, 2) := by decide +kernel
theorem dX7_change_16 : decode cX7_change 16 = .ok (.iload 7, 2) := by decide +kernel
theorem dX7_change_18 : decode cX7_change 18 = .ok (.iload_n 1, 1) := by decide +kernel
theorem dX7_change_19 : decode cX7_change 19 = .ok (.bipush 10, 2) := by decide +kernel
theorem dX7_change_21 : decode cX7_change 21 = .ok (.irem, 1) := by decide +kernel
theorem dX7_change_22 : decode cX7_change 22 = .ok (.if_icmp .gt 89, 3) := by decide +kernel
theorem dX7_change_25 : decode cX7_change 25 = .ok (.iload_n 2, 1) := by decide +kernel
theorem dX7_change_26 : decode cX7_change 26 = .ok (.bipush 10, 2) := by decide +kernel
theorem dX7_change_28 : decode cX7_change 28 = .ok (.idiv, 1) := by decide +kernel
theorem dX7_change_29 : decode cX7_change 29 = .ok (.istore 8, 2) := by decide +kernel
theorem dX7_change_31 : decode cX7_change 31 = .ok (.iload 8, 2) := by decide +kernel
theorem dX7_change_33 : decode cX7_change 33 = .ok (.iload_n 2, 1) := by decide +kernel
theorem dX7_change_34 : decode cX7_change 34 = .ok (.bipush 10, 2) := by decide +kernel
theorem dX7_change_36 : decode cX7_change 36 = .ok (.irem, 1) := by decide +kernel
theorem dX7_change_37 : decode cX7_change 37 = .ok (.if_icmp .gt 68, 3) := by decide +kernel
theorem dX7_change_40 : decode cX7_change 40 = .ok (.iload 7, 2) := by decide +kernel
theorem dX7_change_42 : decode cX7_change 42 = .ok (.iload 8, 2) := by decide +kernel
theorem dX7_change_44 : decode cX7_change 44 = .ok (.invokestatic 61, 3) := by decide +kernel
theorem dX7_change_47 : decode cX7_change 47 = .ok (.istore 9, 2) := by decide +kernel
theorem dX7_change_49 : decode cX7_change 49 = .ok (.iload_n 3, 1) := by decide +kernel
theorem dX7_change_50 : decode cX7_change 50 = .ok (.iconst 2, 1) := by decide +kernel
theorem dX7_change_51 : decode cX7_change 51 = .ok (.if_icmp .ne 16, 3) := by decide +kernel
theorem dX7_change_54 : decode cX7_change 54 = .ok (.aload_n 0, 1) := by decide +kernel
theorem dX7_change_55 : decode cX7_change 55 = .ok (.getfield 9, 3) := by decide +kernel
theorem dX7_change_58 : decode cX7_change 58 = .ok (.iload 9, 2) := by decide +kernel
theorem dX7_change_60 : decode cX7_change 60 = .ok (.iaload, 1) := by decide +kernel
theorem dX7_change_61 : decode cX7_change 61 = .ok (.ifCond .ne 6, 3) := by decide +kernel
theorem dX7_change_64 : decode cX7_change 64 = .ok (.goto 35, 3) := by decide +kernel
theorem dX7_change_67 : decode cX7_change 67 = .ok (.iload 6, 2) := by decide +kernel
theorem dX7_change_69 : decode cX7_change 69 = .ok (.aload 5, 2) := by decide +kernel
theorem dX7_change_71 : decode cX7_change 71 = .ok (.iload 9, 2) := by decide +kernel
theorem dX7_change_73 : decode cX7_change 73 = .ok (.iload 4, 2) := by decide +kernel
theorem dX7_change_75 : decode cX7_change 75 = .ok (.invokestatic 65, 3) := by decide +kernel
theorem dX7_change_78 : decode cX7_change 78 = .ok (.iadd, 1) := by decide +kernel
theorem dX7_change_79 : decode cX7_change 79 = .ok (.istore 6, 2) := by decide +kernel
theorem dX7_change_81 : decode cX7_change 81 = .ok (.aload_n 0, 1) := by decide +kernel
theorem dX7_change_82 : decode cX7_change 82 = .ok (.getfield 9, 3) := by decide +kernel
theorem dX7_change_85 : decode cX7_change 85 = .ok (.iload 9, 2) := by decide +kernel
theorem dX7_change_87 : decode cX7_change 87 = .ok (.iaload, 1) := by decide +kernel
theorem dX7_change_88 : decode cX7_change 88 = .ok (.ifCond .ne 11, 3) := by decide +kernel
theorem dX7_change_91 : decode cX7_change 91 = .ok (.aload_n 0, 1) := by decide +kernel
theorem dX7_change_92 : decode cX7_change 92 = .ok (.getfield 18, 3) := by decide +kernel
theorem dX7_change_95 : decode cX7_change 95 = .ok (.iload 9, 2) := by decide +kernel
theorem dX7_change_97 : decode cX7_change 97 = .ok (.iconst 0, 1) := by decide +kernel
theorem dX7_change_98 : decode cX7_change 98 = .ok (.iastore, 1) := by decide +kernel
theorem dX7_change_99 : decode cX7_change 99 = .ok (.iinc 8 1, 3) := by decide +kernel
theorem dX7_change_102 : decode cX7_change 102 = .ok (.goto (-71), 3) := by decide +kernel
theorem dX7_change_105 : decode cX7_change 105 = .ok (.iinc 7 1, 3) := by decide +kernel
theorem dX7_change_108 : decode cX7_change 108 = .ok (.goto (-92), 3) := by decide +kernel
theorem dX7_change_111 : decode cX7_change 111 = .ok (.iload 6, 2) := by decide +kernel
theorem dX7_change_113 : decode cX7_change 113 = .ok (.ireturn, 1) := by decide +kernel
theorem dX7_has_0 : decode cX7_has 0 = .ok (.aload_n 0, 1) := by decide +kernel
theorem dX7_has_1 : decode cX7_has 1 = .ok (.getfield 9, 3) := by decide +kernel
theorem dX7_has_4 : decode cX7_has 4 = .ok (.iload_n 1, 1) := by decide +kernel
theorem dX7_has_5 : decode cX7_has 5 = .ok (.iaload, 1) := by decide +kernel
theorem dX7_has_6 : decode cX7_has 6 = .ok (.iload_n 2, 1) := by decide +kernel
theorem dX7_has_7 : decode cX7_has 7 = .ok (.if_icmp .le 7, 3) := by decide +kernel
theorem dX7_has_10 : decode cX7_has 10 = .ok (.iconst 1, 1) := by decide +kernel
theorem dX7_has_11 : decode cX7_has 11 = .ok (.goto 4, 3) := by decide +kernel
theorem dX7_has_14 : decode cX7_has 14 = .ok (.iconst 0, 1) := by decide +kernel
theorem dX7_has_15 : decode cX7_has 15 = .ok (.ireturn, 1) := by decide +kernel
theorem dX7_beside_0 : decode cX7_beside 0 = .ok (.iload_n 1, 1) := by decide +kernel
theorem dX7_beside_1 : decode cX7_beside 1 = .ok (.invokestatic 69, 3) := by decide +kernel
theorem dX7_beside_4 : decode cX7_beside 4 = .ok (.getstatic 73, 3) := by decide +kernel
theorem dX7_beside_7 : decode cX7_beside 7 = .ok (.iload_n 2, 1) := by decide +kernel
theorem dX7_beside_8 : decode cX7_beside 8 = .ok (.iaload, 1) := by decide +kernel
theorem dX7_beside_9 : decode cX7_beside 9 = .ok (.iadd, 1) := by decide +kernel
theorem dX7_beside_10 : decode cX7_beside 10 = .ok (.istore_n 3, 1) := by decide +kernel
theorem dX7_beside_11 : decode cX7_beside 11 = .ok (.iload_n 1, 1) := by decide +kernel
theorem dX7_beside_12 : decode cX7_beside 12 = .ok (.invokestatic 76, 3) := by decide +kernel
theorem dX7_beside_15 : decode cX7_beside 15 = .ok (.getstatic 79, 3) := by decide +kernel
theorem dX7_beside_18 : decode cX7_beside 18 = .ok (.iload_n 2, 1) := by decide +kernel
theorem dX7_beside_19 : decode cX7_beside 19 = .ok (.iaload, 1) := by decide +kernel
theorem dX7_beside_20 : decode cX7_beside 20 = .ok (.iadd, 1) := by decide +kernel
theorem dX7_beside_21 : decode cX7_beside 21 = .ok (.istore 4, 2) := by decide +kernel
theorem dX7_beside_23 : decode cX7_beside 23 = .ok (.iload_n 3, 1) := by decide +kernel
theorem dX7_beside_24 : decode cX7_beside 24 = .ok (.iload 4, 2) := by decide +kernel
theorem dX7_beside_26 : decode cX7_beside 26 = .ok (.invokestatic 82, 3) := by decide +kernel
theorem dX7_beside_29 : decode cX7_beside 29 = .ok (.ifCond .eq 12, 3) := by decide +kernel
theorem dX7_beside_32 : decode cX7_beside 32 = .ok (.iload_n 3, 1) := by decide +kernel
theorem dX7_beside_33 : decode cX7_beside 33 = .ok (.iload 4, 2) := by decide +kernel
theorem dX7_beside_35 : decode cX7_beside 35 = .ok (.invokestatic 61, 3) := by decide +kernel
theorem dX7_beside_38 : decode cX7_beside 38 = .ok (.goto 4, 3) := by decide +kernel
theorem dX7_beside_41 : decode cX7_beside 41 = .ok (.iconst (-1), 1) := by decide +kernel
theorem dX7_beside_42 : decode cX7_beside 42 = .ok (.ireturn, 1) := by decide +kernel
theorem dX7_stepped_0 : decode cX7_stepped 0 = .ok (.iload_n 1, 1) := by decide +kernel
theorem dX7_stepped_1 : decode cX7_stepped 1 = .ok (.invokestatic 69, 3) := by decide +kernel
theorem dX7_stepped_4 : decode cX7_stepped 4 = .ok (.iload_n 2, 1) := by decide +kernel
theorem dX7_stepped_5 : decode cX7_stepped 5 = .ok (.iadd, 1) := by decide +kernel
theorem dX7_stepped_6 : decode cX7_stepped 6 = .ok (.istore 4, 2) := by decide +kernel
theorem dX7_stepped_8 : decode cX7_stepped 8 = .ok (.iload_n 1, 1) := by decide +kernel
theorem dX7_stepped_9 : decode cX7_stepped 9 = .ok (.invokestatic 76, 3) := by decide +kernel
theorem dX7_stepped_12 : decode cX7_stepped 12 = .ok (.iload_n 3, 1) := by decide +kernel
theorem dX7_stepped_13 : decode cX7_stepped 13 = .ok (.iadd, 1) := by decide +kernel
theorem dX7_stepped_14 : decode cX7_stepped 14 = .ok (.istore 5, 2) := by decide +kernel
theorem dX7_stepped_16 : decode cX7_stepped 16 = .ok (.iload 4, 2) := by decide +kernel
theorem dX7_stepped_18 : decode cX7_stepped 18 = .ok (.iload 5, 2) := by decide +kernel
theorem dX7_stepped_20 : decode cX7_stepped 20 = .ok (.invokestatic 82, 3) := by decide +kernel
theorem dX7_stepped_23 : decode cX7_stepped 23 = .ok (.ifCond .eq 28, 3) := by decide +kernel
theorem dX7_stepped_26 : decode cX7_stepped 26 = .ok (.aload_n 0, 1) := by decide +kernel
theorem dX7_stepped_27 : decode cX7_stepped 27 = .ok (.getfield 9, 3) := by decide +kernel
theorem dX7_stepped_30 : decode cX7_stepped 30 = .ok (.iload 4, 2) := by decide +kernel
theorem dX7_stepped_32 : decode cX7_stepped 32 = .ok (.iload 5, 2) := by decide +kernel
theorem dX7_stepped_34 : decode cX7_stepped 34 = .ok (.invokestatic 61, 3) := by decide +kernel
theorem dX7_stepped_37 : decode cX7_stepped 37 = .ok (.iaload, 1) := by decide +kernel
theorem dX7_stepped_38 : decode cX7_stepped 38 = .ok (.ifCond .le 13, 3) := by decide +kernel
theorem dX7_stepped_41 : decode cX7_stepped 41 = .ok (.iload 4, 2) := by decide +kernel
theorem dX7_stepped_43 : decode cX7_stepped 43 = .ok (.iload 5, 2) := by decide +kernel
theorem dX7_stepped_45 : decode cX7_stepped 45 = .ok (.invokestatic 61, 3) := by decide +kernel
theorem dX7_stepped_48 : decode cX7_stepped 48 = .ok (.goto 4, 3) := by decide +kernel
theorem dX7_stepped_51 : decode cX7_stepped 51 = .ok (.iload_n 1, 1) := by decide +kernel
theorem dX7_stepped_52 : decode cX7_stepped 52 = .ok (.ireturn, 1) := by decide +kernel
theorem dX7_walked_0 : decode cX7_walked 0 = .ok (.iload_n 1, 1) := by decide +kernel
theorem dX7_walked_1 : decode cX7_walked 1 = .ok (.istore 4, 2) := by decide +kernel
theorem dX7_walked_3 : decode cX7_walked 3 = .ok (.iconst 0, 1) := by decide +kernel
theorem dX7_walked_4 : decode cX7_walked 4 = .ok (.istore 5, 2) := by decide +kernel
theorem dX7_walked_6 : decode cX7_walked 6 = .ok (.iload 5, 2) := by decide +kernel
theorem dX7_walked_8 : decode cX7_walked 8 = .ok (.iload_n 2, 1) := by decide +kernel
theorem dX7_walked_9 : decode cX7_walked 9 = .ok (.invokestatic 86, 3) := by decide +kernel
theorem dX7_walked_12 : decode cX7_walked 12 = .ok (.if_icmp .ge 27, 3) := by decide +kernel
theorem dX7_walked_15 : decode cX7_walked 15 = .ok (.aload_n 0, 1) := by decide +kernel
theorem dX7_walked_16 : decode cX7_walked 16 = .ok (.iload 4, 2) := by decide +kernel
theorem dX7_walked_18 : decode cX7_walked 18 = .ok (.iload_n 2, 1) := by decide +kernel
theorem dX7_walked_19 : decode cX7_walked 19 = .ok (.ifCond .ge 7, 3) := by decide +kernel
theorem dX7_walked_22 : decode cX7_walked 22 = .ok (.iconst (-1), 1) := by decide +kernel
theorem dX7_walked_23 : decode cX7_walked 23 = .ok (.goto 4, 3) := by decide +kernel
theorem dX7_walked_26 : decode cX7_walked 26 = .ok (.iconst 1, 1) := by decide +kernel
theorem dX7_walked_27 : decode cX7_walked 27 = .ok (.iconst 0, 1) := by decide +kernel
theorem dX7_walked_28 : decode cX7_walked 28 = .ok (.invokevirtual 91, 3) := by decide +kernel
theorem dX7_walked_31 : decode cX7_walked 31 = .ok (.istore 4, 2) := by decide +kernel
theorem dX7_walked_33 : decode cX7_walked 33 = .ok (.iinc 5 1, 3) := by decide +kernel
theorem dX7_walked_36 : decode cX7_walked 36 = .ok (.goto (-30), 3) := by decide +kernel
theorem dX7_walked_39 : decode cX7_walked 39 = .ok (.iconst 0, 1) := by decide +kernel
theorem dX7_walked_40 : decode cX7_walked 40 = .ok (.istore 5, 2) := by decide +kernel
theorem dX7_walked_42 : decode cX7_walked 42 = .ok (.iload 5, 2) := by decide +kernel
theorem dX7_walked_44 : decode cX7_walked 44 = .ok (.iload_n 3, 1) := by decide +kernel
theorem dX7_walked_45 : decode cX7_walked 45 = .ok (.invokestatic 86, 3) := by decide +kernel
theorem dX7_walked_48 : decode cX7_walked 48 = .ok (.if_icmp .ge 27, 3) := by decide +kernel
theorem dX7_walked_51 : decode cX7_walked 51 = .ok (.aload_n 0, 1) := by decide +kernel
theorem dX7_walked_52 : decode cX7_walked 52 = .ok (.iload 4, 2) := by decide +kernel
theorem dX7_walked_54 : decode cX7_walked 54 = .ok (.iconst 0, 1) := by decide +kernel
theorem dX7_walked_55 : decode cX7_walked 55 = .ok (.iload_n 3, 1) := by decide +kernel
theorem dX7_walked_56 : decode cX7_walked 56 = .ok (.ifCond .ge 7, 3) := by decide +kernel
theorem dX7_walked_59 : decode cX7_walked 59 = .ok (.iconst (-1), 1) := by decide +kernel
theorem dX7_walked_60 : decode cX7_walked 60 = .ok (.goto 4, 3) := by decide +kernel
theorem dX7_walked_63 : decode cX7_walked 63 = .ok (.iconst 1, 1) := by decide +kernel
theorem dX7_walked_64 : decode cX7_walked 64 = .ok (.invokevirtual 91, 3) := by decide +kernel
theorem dX7_walked_67 : decode cX7_walked 67 = .ok (.istore 4, 2) := by decide +kernel
theorem dX7_walked_69 : decode cX7_walked 69 = .ok (.iinc 5 1, 3) := by decide +kernel
theorem dX7_walked_72 : decode cX7_walked 72 = .ok (.goto (-30), 3) := by decide +kernel
theorem dX7_walked_75 : decode cX7_walked 75 = .ok (.iload 4, 2) := by decide +kernel
theorem dX7_walked_77 : decode cX7_walked 77 = .ok (.ireturn, 1) := by decide +kernel
theorem dX7_lessenDoubt_0 : decode cX7_lessenDoubt 0 = .ok (.aload_n 0, 1) := by decide +kernel
theorem dX7_lessenDoubt_1 : decode cX7_lessenDoubt 1 = .ok (.getfield 18, 3) := by decide +kernel
theorem dX7_lessenDoubt_4 : decode cX7_lessenDoubt 4 = .ok (.iload_n 1, 1) := by decide +kernel
theorem dX7_lessenDoubt_5 : decode cX7_lessenDoubt 5 = .ok (.iconst 0, 1) := by decide +kernel
theorem dX7_lessenDoubt_6 : decode cX7_lessenDoubt 6 = .ok (.iastore, 1) := by decide +kernel
theorem dX7_lessenDoubt_7 : decode cX7_lessenDoubt 7 = .ok (.iconst 1, 1) := by decide +kernel
theorem dX7_lessenDoubt_8 : decode cX7_lessenDoubt 8 = .ok (.istore_n 2, 1) := by decide +kernel
theorem dX7_lessenDoubt_9 : decode cX7_lessenDoubt 9 = .ok (.iload_n 2, 1) := by decide +kernel
theorem dX7_lessenDoubt_10 : decode cX7_lessenDoubt 10 = .ok (.iconst 5, 1) := by decide +kernel
theorem dX7_lessenDoubt_11 : decode cX7_lessenDoubt 11 = .ok (.if_icmp .ge 30, 3) := by decide +kernel
theorem dX7_lessenDoubt_14 : decode cX7_lessenDoubt 14 = .ok (.aload_n 0, 1) := by decide +kernel
theorem dX7_lessenDoubt_15 : decode cX7_lessenDoubt 15 = .ok (.iload_n 1, 1) := by decide +kernel
theorem dX7_lessenDoubt_16 : decode cX7_lessenDoubt 16 = .ok (.iload_n 2, 1) := by decide +kernel
theorem dX7_lessenDoubt_17 : decode cX7_lessenDoubt 17 = .ok (.invokevirtual 95, 3) := by decide +kernel
theorem dX7_lessenDoubt_20 : decode cX7_lessenDoubt 20 = .ok (.istore_n 3, 1) := by decide +kernel
theorem dX7_lessenDoubt_21 : decode cX7_lessenDoubt 21 = .ok (.iload_n 3, 1) := by decide +kernel
theorem dX7_lessenDoubt_22 : decode cX7_lessenDoubt 22 = .ok (.ifCond .lt 13, 3) := by decide +kernel
theorem dX7_lessenDoubt_25 : decode cX7_lessenDoubt 25 = .ok (.aload_n 0, 1) := by decide +kernel
theorem dX7_lessenDoubt_26 : decode cX7_lessenDoubt 26 = .ok (.getfield 18, 3) := by decide +kernel
theorem dX7_lessenDoubt_29 : decode cX7_lessenDoubt 29 = .ok (.iload_n 3, 1) := by decide +kernel
theorem dX7_lessenDoubt_30 : decode cX7_lessenDoubt 30 = .ok (.dup2, 1) := by decide +kernel
theorem dX7_lessenDoubt_31 : decode cX7_lessenDoubt 31 = .ok (.iaload, 1) := by decide +kernel
theorem dX7_lessenDoubt_32 : decode cX7_lessenDoubt 32 = .ok (.iconst 2, 1) := by decide +kernel
theorem dX7_lessenDoubt_33 : decode cX7_lessenDoubt 33 = .ok (.idiv, 1) := by decide +kernel
theorem dX7_lessenDoubt_34 : decode cX7_lessenDoubt 34 = .ok (.iastore, 1) := by decide +kernel
theorem dX7_lessenDoubt_35 : decode cX7_lessenDoubt 35 = .ok (.iinc 2 1, 3) := by decide +kernel
theorem dX7_lessenDoubt_38 : decode cX7_lessenDoubt 38 = .ok (.goto (-29), 3) := by decide +kernel
theorem dX7_lessenDoubt_41 : decode cX7_lessenDoubt 41 = .ok (.return_, 1) := by decide +kernel
theorem dX7_growDoubt_0 : decode cX7_growDoubt 0 = .ok (.iconst 0, 1) := by decide +kernel
theorem dX7_growDoubt_1 : decode cX7_growDoubt 1 = .ok (.istore_n 1, 1) := by decide +kernel
theorem dX7_growDoubt_2 : decode cX7_growDoubt 2 = .ok (.iload_n 1, 1) := by decide +kernel
theorem dX7_growDoubt_3 : decode cX7_growDoubt 3 = .ok (.bipush 80, 2) := by decide +kernel
theorem dX7_growDoubt_5 : decode cX7_growDoubt 5 = .ok (.if_icmp .ge 39, 3) := by decide +kernel
theorem dX7_growDoubt_8 : decode cX7_growDoubt 8 = .ok (.aload_n 0, 1) := by decide +kernel
theorem dX7_growDoubt_9 : decode cX7_growDoubt 9 = .ok (.getfield 9, 3) := by decide +kernel
theorem dX7_growDoubt_12 : decode cX7_growDoubt 12 = .ok (.iload_n 1, 1) := by decide +kernel
theorem dX7_growDoubt_13 : decode cX7_growDoubt 13 = .ok (.iaload, 1) := by decide +kernel
theorem dX7_growDoubt_14 : decode cX7_growDoubt 14 = .ok (.ifCond .le 24, 3) := by decide +kernel
theorem dX7_growDoubt_17 : decode cX7_growDoubt 17 = .ok (.aload_n 0, 1) := by decide +kernel
theorem dX7_growDoubt_18 : decode cX7_growDoubt 18 = .ok (.getfield 18, 3) := by decide +kernel
theorem dX7_growDoubt_21 : decode cX7_growDoubt 21 = .ok (.iload_n 1, 1) := by decide +kernel
theorem dX7_growDoubt_22 : decode cX7_growDoubt 22 = .ok (.iaload, 1) := by decide +kernel
theorem dX7_growDoubt_23 : decode cX7_growDoubt 23 = .ok (.bipush 99, 2) := by decide +kernel
theorem dX7_growDoubt_25 : decode cX7_growDoubt 25 = .ok (.if_icmp .ge 13, 3) := by decide +kernel
theorem dX7_growDoubt_28 : decode cX7_growDoubt 28 = .ok (.aload_n 0, 1) := by decide +kernel
theorem dX7_growDoubt_29 : decode cX7_growDoubt 29 = .ok (.getfield 18, 3) := by decide +kernel
theorem dX7_growDoubt_32 : decode cX7_growDoubt 32 = .ok (.iload_n 1, 1) := by decide +kernel
theorem dX7_growDoubt_33 : decode cX7_growDoubt 33 = .ok (.dup2, 1) := by decide +kernel
theorem dX7_growDoubt_34 : decode cX7_growDoubt 34 = .ok (.iaload, 1) := by decide +kernel
theorem dX7_growDoubt_35 : decode cX7_growDoubt 35 = .ok (.iconst 1, 1) := by decide +kernel
theorem dX7_growDoubt_36 : decode cX7_growDoubt 36 = .ok (.iadd, 1) := by decide +kernel
theorem dX7_growDoubt_37 : decode cX7_growDoubt 37 = .ok (.iastore, 1) := by decide +kernel
theorem dX7_growDoubt_38 : decode cX7_growDoubt 38 = .ok (.iinc 1 1, 3) := by decide +kernel
theorem dX7_growDoubt_41 : decode cX7_growDoubt 41 = .ok (.goto (-39), 3) := by decide +kernel
theorem dX7_growDoubt_44 : decode cX7_growDoubt 44 = .ok (.return_, 1) := by decide +kernel
theorem dX7_allDoubt_0 : decode cX7_allDoubt 0 = .ok (.iconst 0, 1) := by decide +kernel
theorem dX7_allDoubt_1 : decode cX7_allDoubt 1 = .ok (.istore_n 1, 1) := by decide +kernel
theorem dX7_allDoubt_2 : decode cX7_allDoubt 2 = .ok (.iconst 0, 1) := by decide +kernel
theorem dX7_allDoubt_3 : decode cX7_allDoubt 3 = .ok (.istore_n 2, 1) := by decide +kernel
theorem dX7_allDoubt_4 : decode cX7_allDoubt 4 = .ok (.iload_n 2, 1) := by decide +kernel
theorem dX7_allDoubt_5 : decode cX7_allDoubt 5 = .ok (.bipush 80, 2) := by decide +kernel
theorem dX7_allDoubt_7 : decode cX7_allDoubt 7 = .ok (.if_icmp .ge 18, 3) := by decide +kernel
theorem dX7_allDoubt_10 : decode cX7_allDoubt 10 = .ok (.iload_n 1, 1) := by decide +kernel
theorem dX7_allDoubt_11 : decode cX7_allDoubt 11 = .ok (.aload_n 0, 1) := by decide +kernel
theorem dX7_allDoubt_12 : decode cX7_allDoubt 12 = .ok (.getfield 18, 3) := by decide +kernel
theorem dX7_allDoubt_15 : decode cX7_allDoubt 15 = .ok (.iload_n 2, 1) := by decide +kernel
theorem dX7_allDoubt_16 : decode cX7_allDoubt 16 = .ok (.iaload, 1) := by decide +kernel
theorem dX7_allDoubt_17 : decode cX7_allDoubt 17 = .ok (.iadd, 1) := by decide +kernel
theorem dX7_allDoubt_18 : decode cX7_allDoubt 18 = .ok (.istore_n 1, 1) := by decide +kernel
theorem dX7_allDoubt_19 : decode cX7_allDoubt 19 = .ok (.iinc 2 1, 3) := by decide +kernel
theorem dX7_allDoubt_22 : decode cX7_allDoubt 22 = .ok (.goto (-18), 3) := by decide +kernel
theorem dX7_allDoubt_25 : decode cX7_allDoubt 25 = .ok (.iload_n 1, 1) := by decide +kernel
theorem dX7_allDoubt_26 : decode cX7_allDoubt 26 = .ok (.ireturn, 1) := by decide +kernel
theorem dX7_learn_0 : decode cX7_learn 0 = .ok (.iload_n 2, 1) := by decide +kernel
theorem dX7_learn_1 : decode cX7_learn 1 = .ok (.iconst 1, 1) := by decide +kernel
theorem dX7_learn_2 : decode cX7_learn 2 = .ok (.iadd, 1) := by decide +kernel
theorem dX7_learn_3 : decode cX7_learn 3 = .ok (.aload_n 0, 1) := by decide +kernel
theorem dX7_learn_4 : decode cX7_learn 4 = .ok (.getfield 9, 3) := by decide +kernel
theorem dX7_learn_7 : decode cX7_learn 7 = .ok (.iload_n 1, 1) := by decide +kernel
theorem dX7_learn_8 : decode cX7_learn 8 = .ok (.iaload, 1) := by decide +kernel
theorem dX7_learn_9 : decode cX7_learn 9 = .ok (.invokestatic 98, 3) := by decide +kernel
theorem dX7_learn_12 : decode cX7_learn 12 = .ok (.istore 5, 2) := by decide +kernel
theorem dX7_learn_14 : decode cX7_learn 14 = .ok (.iload_n 3, 1) := by decide +kernel
theorem dX7_learn_15 : decode cX7_learn 15 = .ok (.istore 6, 2) := by decide +kernel
theorem dX7_learn_17 : decode cX7_learn 17 = .ok (.iload 4, 2) := by decide +kernel
theorem dX7_learn_19 : decode cX7_learn 19 = .ok (.istore 7, 2) := by decide +kernel
theorem dX7_learn_21 : decode cX7_learn 21 = .ok (.iconst 0, 1) := by decide +kernel
theorem dX7_learn_22 : decode cX7_learn 22 = .ok (.istore 8, 2) := by decide +kernel
theorem dX7_learn_24 : decode cX7_learn 24 = .ok (.iload 8, 2) := by decide +kernel
theorem dX7_learn_26 : decode cX7_learn 26 = .ok (.iload 5, 2) := by decide +kernel
theorem dX7_learn_28 : decode cX7_learn 28 = .ok (.if_icmp .ge 47, 3) := by decide +kernel
theorem dX7_learn_31 : decode cX7_learn 31 = .ok (.iload 6, 2) := by decide +kernel
theorem dX7_learn_33 : decode cX7_learn 33 = .ok (.aload_n 0, 1) := by decide +kernel
theorem dX7_learn_34 : decode cX7_learn 34 = .ok (.getfield 34, 3) := by decide +kernel
theorem dX7_learn_37 : decode cX7_learn 37 = .ok (.getfield 51, 3) := by decide +kernel
theorem dX7_learn_40 : decode cX7_learn 40 = .ok (.iload_n 1, 1) := by decide +kernel
theorem dX7_learn_41 : decode cX7_learn 41 = .ok (.iload 8, 2) := by decide +kernel
theorem dX7_learn_43 : decode cX7_learn 43 = .ok (.invokestatic 101, 3) := by decide +kernel
theorem dX7_learn_46 : decode cX7_learn 46 = .ok (.iaload, 1) := by decide +kernel
theorem dX7_learn_47 : decode cX7_learn 47 = .ok (.isub, 1) := by decide +kernel
theorem dX7_learn_48 : decode cX7_learn 48 = .ok (.istore 6, 2) := by decide +kernel
theorem dX7_learn_50 : decode cX7_learn 50 = .ok (.iload 7, 2) := by decide +kernel
theorem dX7_learn_52 : decode cX7_learn 52 = .ok (.aload_n 0, 1) := by decide +kernel
theorem dX7_learn_53 : decode cX7_learn 53 = .ok (.getfield 34, 3) := by decide +kernel
theorem dX7_learn_56 : decode cX7_learn 56 = .ok (.getfield 54, 3) := by decide +kernel
theorem dX7_learn_59 : decode cX7_learn 59 = .ok (.iload_n 1, 1) := by decide +kernel
theorem dX7_learn_60 : decode cX7_learn 60 = .ok (.iload 8, 2) := by decide +kernel
theorem dX7_learn_62 : decode cX7_learn 62 = .ok (.invokestatic 101, 3) := by decide +kernel
theorem dX7_learn_65 : decode cX7_learn 65 = .ok (.iaload, 1) := by decide +kernel
theorem dX7_learn_66 : decode cX7_learn 66 = .ok (.isub, 1) := by decide +kernel
theorem dX7_learn_67 : decode cX7_learn 67 = .ok (.istore 7, 2) := by decide +kernel
theorem dX7_learn_69 : decode cX7_learn 69 = .ok (.iinc 8 1, 3) := by decide +kernel
theorem dX7_learn_72 : decode cX7_learn 72 = .ok (.goto (-48), 3) := by decide +kernel
theorem dX7_learn_75 : decode cX7_learn 75 = .ok (.iconst 0, 1) := by decide +kernel
theorem dX7_learn_76 : decode cX7_learn 76 = .ok (.istore 8, 2) := by decide +kernel
theorem dX7_learn_78 : decode cX7_learn 78 = .ok (.iload 8, 2) := by decide +kernel
theorem dX7_learn_80 : decode cX7_learn 80 = .ok (.iload 5, 2) := by decide +kernel
theorem dX7_learn_82 : decode cX7_learn 82 = .ok (.if_icmp .ge 67, 3) := by decide +kernel
theorem dX7_learn_85 : decode cX7_learn 85 = .ok (.iload_n 1, 1) := by decide +kernel
theorem dX7_learn_86 : decode cX7_learn 86 = .ok (.iload 8, 2) := by decide +kernel
theorem dX7_learn_88 : decode cX7_learn 88 = .ok (.invokestatic 101, 3) := by decide +kernel
theorem dX7_learn_91 : decode cX7_learn 91 = .ok (.istore 9, 2) := by decide +kernel
theorem dX7_learn_93 : decode cX7_learn 93 = .ok (.aload_n 0, 1) := by decide +kernel
theorem dX7_learn_94 : decode cX7_learn 94 = .ok (.getfield 34, 3) := by decide +kernel
theorem dX7_learn_97 : decode cX7_learn 97 = .ok (.getfield 51, 3) := by decide +kernel
theorem dX7_learn_100 : decode cX7_learn 100 = .ok (.iload 9, 2) := by decide +kernel
theorem dX7_learn_102 : decode cX7_learn 102 = .ok (.aload_n 0, 1) := by decide +kernel
theorem dX7_learn_103 : decode cX7_learn 103 = .ok (.getfield 34, 3) := by decide +kernel
theorem dX7_learn_106 : decode cX7_learn 106 = .ok (.getfield 51, 3) := by decide +kernel
theorem dX7_learn_109 : decode cX7_learn 109 = .ok (.iload 9, 2) := by decide +kernel
theorem dX7_learn_111 : decode cX7_learn 111 = .ok (.iaload, 1) := by decide +kernel
theorem dX7_learn_112 : decode cX7_learn 112 = .ok (.iload 6, 2) := by decide +kernel
theorem dX7_learn_114 : decode cX7_learn 114 = .ok (.invokestatic 104, 3) := by decide +kernel
theorem dX7_learn_117 : decode cX7_learn 117 = .ok (.iastore, 1) := by decide +kernel
theorem dX7_learn_118 : decode cX7_learn 118 = .ok (.aload_n 0, 1) := by decide +kernel
theorem dX7_learn_119 : decode cX7_learn 119 = .ok (.getfield 34, 3) := by decide +kernel
theorem dX7_learn_122 : decode cX7_learn 122 = .ok (.getfield 54, 3) := by decide +kernel
theorem dX7_learn_125 : decode cX7_learn 125 = .ok (.iload 9, 2) := by decide +kernel
theorem dX7_learn_127 : decode cX7_learn 127 = .ok (.aload_n 0, 1) := by decide +kernel
theorem dX7_learn_128 : decode cX7_learn 128 = .ok (.getfield 34, 3) := by decide +kernel
theorem dX7_learn_131 : decode cX7_learn 131 = .ok (.getfield 54, 3) := by decide +kernel
theorem dX7_learn_134 : decode cX7_learn 134 = .ok (.iload 9, 2) := by decide +kernel
theorem dX7_learn_136 : decode cX7_learn 136 = .ok (.iaload, 1) := by decide +kernel
theorem dX7_learn_137 : decode cX7_learn 137 = .ok (.iload 7, 2) := by decide +kernel
theorem dX7_learn_139 : decode cX7_learn 139 = .ok (.invokestatic 104, 3) := by decide +kernel
theorem dX7_learn_142 : decode cX7_learn 142 = .ok (.iastore, 1) := by decide +kernel
theorem dX7_learn_143 : decode cX7_learn 143 = .ok (.iinc 8 1, 3) := by decide +kernel
theorem dX7_learn_146 : decode cX7_learn 146 = .ok (.goto (-68), 3) := by decide +kernel
theorem dX7_learn_149 : decode cX7_learn 149 = .ok (.return_, 1) := by decide +kernel
theorem dX7_nudged_0 : decode cX7_nudged 0 = .ok (.iload_n 1, 1) := by decide +kernel
theorem dX7_nudged_1 : decode cX7_nudged 1 = .ok (.ifCond .le 11, 3) := by decide +kernel
theorem dX7_nudged_4 : decode cX7_nudged 4 = .ok (.iconst 2, 1) := by decide +kernel
theorem dX7_nudged_5 : decode cX7_nudged 5 = .ok (.iload_n 0, 1) := by decide +kernel
theorem dX7_nudged_6 : decode cX7_nudged 6 = .ok (.iconst 1, 1) := by decide +kernel
theorem dX7_nudged_7 : decode cX7_nudged 7 = .ok (.iadd, 1) := by decide +kernel
theorem dX7_nudged_8 : decode cX7_nudged 8 = .ok (.invokestatic 98, 3) := by decide +kernel
theorem dX7_nudged_11 : decode cX7_nudged 11 = .ok (.ireturn, 1) := by decide +kernel
theorem dX7_nudged_12 : decode cX7_nudged 12 = .ok (.iload_n 1, 1) := by decide +kernel
theorem dX7_nudged_13 : decode cX7_nudged 13 = .ok (.ifCond .ge 14, 3) := by decide +kernel
theorem dX7_nudged_16 : decode cX7_nudged 16 = .ok (.bipush (-2), 2) := by decide +kernel
theorem dX7_nudged_18 : decode cX7_nudged 18 = .ok (.iload_n 0, 1) := by decide +kernel
theorem dX7_nudged_19 : decode cX7_nudged 19 = .ok (.iconst 1, 1) := by decide +kernel
theorem dX7_nudged_20 : decode cX7_nudged 20 = .ok (.isub, 1) := by decide +kernel
theorem dX7_nudged_21 : decode cX7_nudged 21 = .ok (.invokestatic 107, 3) := by decide +kernel
theorem dX7_nudged_24 : decode cX7_nudged 24 = .ok (.goto 4, 3) := by decide +kernel
theorem dX7_nudged_27 : decode cX7_nudged 27 = .ok (.iload_n 0, 1) := by decide +kernel
theorem dX7_nudged_28 : decode cX7_nudged 28 = .ok (.ireturn, 1) := by decide +kernel
theorem dX7_isWhole_0 : decode cX7_isWhole 0 = .ok (.iload_n 1, 1) := by decide +kernel
theorem dX7_isWhole_1 : decode cX7_isWhole 1 = .ok (.iload_n 2, 1) := by decide +kernel
theorem dX7_isWhole_2 : decode cX7_isWhole 2 = .ok (.invokestatic 101, 3) := by decide +kernel
theorem dX7_isWhole_5 : decode cX7_isWhole 5 = .ok (.istore_n 3, 1) := by decide +kernel
theorem dX7_isWhole_6 : decode cX7_isWhole 6 = .ok (.aload_n 0, 1) := by decide +kernel
theorem dX7_isWhole_7 : decode cX7_isWhole 7 = .ok (.getfield 34, 3) := by decide +kernel
theorem dX7_isWhole_10 : decode cX7_isWhole 10 = .ok (.getfield 51, 3) := by decide +kernel
theorem dX7_isWhole_13 : decode cX7_isWhole 13 = .ok (.iload_n 3, 1) := by decide +kernel
theorem dX7_isWhole_14 : decode cX7_isWhole 14 = .ok (.iaload, 1) := by decide +kernel
theorem dX7_isWhole_15 : decode cX7_isWhole 15 = .ok (.invokestatic 86, 3) := by decide +kernel
theorem dX7_isWhole_18 : decode cX7_isWhole 18 = .ok (.aload_n 0, 1) := by decide +kernel
theorem dX7_isWhole_19 : decode cX7_isWhole 19 = .ok (.getfield 34, 3) := by decide +kernel
theorem dX7_isWhole_22 : decode cX7_isWhole 22 = .ok (.getfield 54, 3) := by decide +kernel
theorem dX7_isWhole_25 : decode cX7_isWhole 25 = .ok (.iload_n 3, 1) := by decide +kernel
theorem dX7_isWhole_26 : decode cX7_isWhole 26 = .ok (.iaload, 1) := by decide +kernel
theorem dX7_isWhole_27 : decode cX7_isWhole 27 = .ok (.invokestatic 86, 3) := by decide +kernel
theorem dX7_isWhole_30 : decode cX7_isWhole 30 = .ok (.iadd, 1) := by decide +kernel
theorem dX7_isWhole_31 : decode cX7_isWhole 31 = .ok (.istore 4, 2) := by decide +kernel
theorem dX7_isWhole_33 : decode cX7_isWhole 33 = .ok (.iconst 0, 1) := by decide +kernel
theorem dX7_isWhole_34 : decode cX7_isWhole 34 = .ok (.istore 5, 2) := by decide +kernel
theorem dX7_isWhole_36 : decode cX7_isWhole 36 = .ok (.iconst 1, 1) := by decide +kernel
theorem dX7_isWhole_37 : decode cX7_isWhole 37 = .ok (.istore 6, 2) := by decide +kernel
theorem dX7_isWhole_39 : decode cX7_isWhole 39 = .ok (.iload 6, 2) := by decide +kernel
theorem dX7_isWhole_41 : decode cX7_isWhole 41 = .ok (.iconst 5, 1) := by decide +kernel
theorem dX7_isWhole_42 : decode cX7_isWhole 42 = .ok (.if_icmp .ge 90, 3) := by decide +kernel
theorem dX7_isWhole_45 : decode cX7_isWhole 45 = .ok (.aload_n 0, 1) := by decide +kernel
theorem dX7_isWhole_46 : decode cX7_isWhole 46 = .ok (.iload_n 1, 1) := by decide +kernel
theorem dX7_isWhole_47 : decode cX7_isWhole 47 = .ok (.iload 6, 2) := by decide +kernel
theorem dX7_isWhole_49 : decode cX7_isWhole 49 = .ok (.invokevirtual 95, 3) := by decide +kernel
theorem dX7_isWhole_52 : decode cX7_isWhole 52 = .ok (.istore 7, 2) := by decide +kernel
theorem dX7_isWhole_54 : decode cX7_isWhole 54 = .ok (.iload 7, 2) := by decide +kernel
theorem dX7_isWhole_56 : decode cX7_isWhole 56 = .ok (.ifCond .lt 70, 3) := by decide +kernel
theorem dX7_isWhole_59 : decode cX7_isWhole 59 = .ok (.aload_n 0, 1) := by decide +kernel
theorem dX7_isWhole_60 : decode cX7_isWhole 60 = .ok (.iload 7, 2) := by decide +kernel
theorem dX7_isWhole_62 : decode cX7_isWhole 62 = .ok (.iload_n 2, 1) := by decide +kernel
theorem dX7_isWhole_63 : decode cX7_isWhole 63 = .ok (.invokevirtual 110, 3) := by decide +kernel
theorem dX7_isWhole_66 : decode cX7_isWhole 66 = .ok (.ifCond .eq 60, 3) := by decide +kernel
theorem dX7_isWhole_69 : decode cX7_isWhole 69 = .ok (.iload 7, 2) := by decide +kernel
theorem dX7_isWhole_71 : decode cX7_isWhole 71 = .ok (.iload_n 2, 1) := by decide +kernel
theorem dX7_isWhole_72 : decode cX7_isWhole 72 = .ok (.invokestatic 101, 3) := by decide +kernel
theorem dX7_isWhole_75 : decode cX7_isWhole 75 = .ok (.istore 8, 2) := by decide +kernel
theorem dX7_isWhole_77 : decode cX7_isWhole 77 = .ok (.aload_n 0, 1) := by decide +kernel
theorem dX7_isWhole_78 : decode cX7_isWhole 78 = .ok (.getfield 34, 3) := by decide +kernel
theorem dX7_isWhole_81 : decode cX7_isWhole 81 = .ok (.getfield 51, 3) := by decide +kernel
theorem dX7_isWhole_84 : decode cX7_isWhole 84 = .ok (.iload 8, 2) := by decide +kernel
theorem dX7_isWhole_86 : decode cX7_isWhole 86 = .ok (.iaload, 1) := by decide +kernel
theorem dX7_isWhole_87 : decode cX7_isWhole 87 = .ok (.getstatic 73, 3) := by decide +kernel
theorem dX7_isWhole_90 : decode cX7_isWhole 90 = .ok (.iload 6, 2) := by decide +kernel
theorem dX7_isWhole_92 : decode cX7_isWhole 92 = .ok (.iaload, 1) := by decide +kernel
theorem dX7_isWhole_93 : decode cX7_isWhole 93 = .ok (.imul, 1) := by decide +kernel
theorem dX7_isWhole_94 : decode cX7_isWhole 94 = .ok (.aload_n 0, 1) := by decide +kernel
theorem dX7_isWhole_95 : decode cX7_isWhole 95 = .ok (.getfield 34, 3) := by decide +kernel
theorem dX7_isWhole_98 : decode cX7_isWhole 98 = .ok (.getfield 54, 3) := by decide +kernel
theorem dX7_isWhole_101 : decode cX7_isWhole 101 = .ok (.iload 8, 2) := by decide +kernel
theorem dX7_isWhole_103 : decode cX7_isWhole 103 = .ok (.iaload, 1) := by decide +kernel
theorem dX7_isWhole_104 : decode cX7_isWhole 104 = .ok (.getstatic 79, 3) := by decide +kernel
theorem dX7_isWhole_107 : decode cX7_isWhole 107 = .ok (.iload 6, 2) := by decide +kernel
theorem dX7_isWhole_109 : decode cX7_isWhole 109 = .ok (.iaload, 1) := by decide +kernel
theorem dX7_isWhole_110 : decode cX7_isWhole 110 = .ok (.imul, 1) := by decide +kernel
theorem dX7_isWhole_111 : decode cX7_isWhole 111 = .ok (.iadd, 1) := by decide +kernel
theorem dX7_isWhole_112 : decode cX7_isWhole 112 = .ok (.istore 9, 2) := by decide +kernel
theorem dX7_isWhole_114 : decode cX7_isWhole 114 = .ok (.iload 5, 2) := by decide +kernel
theorem dX7_isWhole_116 : decode cX7_isWhole 116 = .ok (.iconst 0, 1) := by decide +kernel
theorem dX7_isWhole_117 : decode cX7_isWhole 117 = .ok (.iload 9, 2) := by decide +kernel
theorem dX7_isWhole_119 : decode cX7_isWhole 119 = .ok (.ineg, 1) := by decide +kernel
theorem dX7_isWhole_120 : decode cX7_isWhole 120 = .ok (.invokestatic 107, 3) := by decide +kernel
theorem dX7_isWhole_123 : decode cX7_isWhole 123 = .ok (.iadd, 1) := by decide +kernel
theorem dX7_isWhole_124 : decode cX7_isWhole 124 = .ok (.istore 5, 2) := by decide +kernel
theorem dX7_isWhole_126 : decode cX7_isWhole 126 = .ok (.iinc 6 1, 3) := by decide +kernel
theorem dX7_isWhole_129 : decode cX7_isWhole 129 = .ok (.goto (-90), 3) := by decide +kernel
theorem dX7_isWhole_132 : decode cX7_isWhole 132 = .ok (.iload 5, 2) := by decide +kernel
theorem dX7_isWhole_134 : decode cX7_isWhole 134 = .ok (.iload 4, 2) := by decide +kernel
theorem dX7_isWhole_136 : decode cX7_isWhole 136 = .ok (.if_icmp .ne 7, 3) := by decide +kernel
theorem dX7_isWhole_139 : decode cX7_isWhole 139 = .ok (.iconst 1, 1) := by decide +kernel
theorem dX7_isWhole_140 : decode cX7_isWhole 140 = .ok (.goto 4, 3) := by decide +kernel
theorem dX7_isWhole_143 : decode cX7_isWhole 143 = .ok (.iconst 0, 1) := by decide +kernel
theorem dX7_isWhole_144 : decode cX7_isWhole 144 = .ok (.ireturn, 1) := by decide +kernel
theorem dX8_init_0 : decode cX8_init 0 = .ok (.aload_n 0, 1) := by decide +kernel
theorem dX8_init_1 : decode cX8_init 1 = .ok (.invokespecial 3, 3) := by decide +kernel
theorem dX8_init_4 : decode cX8_init 4 = .ok (.aload_n 0, 1) := by decide +kernel
theorem dX8_init_5 : decode cX8_init 5 = .ok (.iconst 0, 1) := by decide +kernel
theorem dX8_init_6 : decode cX8_init 6 = .ok (.putfield 9, 3) := by decide +kernel
theorem dX8_init_9 : decode cX8_init 9 = .ok (.aload_n 0, 1) := by decide +kernel
theorem dX8_init_10 : decode cX8_init 10 = .ok (.iconst 0, 1) := by decide +kernel
theorem dX8_init_11 : decode cX8_init 11 = .ok (.putfield 15, 3) := by decide +kernel
theorem dX8_init_14 : decode cX8_init 14 = .ok (.aload_n 0, 1) := by decide +kernel
theorem dX8_init_15 : decode cX8_init 15 = .ok (.iconst 0, 1) := by decide +kernel
theorem dX8_init_16 : decode cX8_init 16 = .ok (.putfield 18, 3) := by decide +kernel
theorem dX8_init_19 : decode cX8_init 19 = .ok (.aload_n 0, 1) := by decide +kernel
theorem dX8_init_20 : decode cX8_init 20 = .ok (.bipush 80, 2) := by decide +kernel
theorem dX8_init_22 : decode cX8_init 22 = .ok (.newarray .int, 2) := by decide +kernel
theorem dX8_init_24 : decode cX8_init 24 = .ok (.putfield 21, 3) := by decide +kernel
theorem dX8_init_27 : decode cX8_init 27 = .ok (.aload_n 0, 1) := by decide +kernel
theorem dX8_init_28 : decode cX8_init 28 = .ok (.iconst 0, 1) := by decide +kernel
theorem dX8_init_29 : decode cX8_init 29 = .ok (.putfield 25, 3) := by decide +kernel
theorem dX8_init_32 : decode cX8_init 32 = .ok (.aload_n 0, 1) := by decide +kernel
theorem dX8_init_33 : decode cX8_init 33 = .ok (.iconst 0, 1) := by decide +kernel
theorem dX8_init_34 : decode cX8_init 34 = .ok (.putfield 28, 3) := by decide +kernel
theorem dX8_init_37 : decode cX8_init 37 = .ok (.aload_n 0, 1) := by decide +kernel
theorem dX8_init_38 : decode cX8_init 38 = .ok (.iconst 0, 1) := by decide +kernel
theorem dX8_init_39 : decode cX8_init 39 = .ok (.putfield 31, 3) := by decide +kernel
theorem dX8_init_42 : decode cX8_init 42 = .ok (.aload_n 0, 1) := by decide +kernel
theorem dX8_init_43 : decode cX8_init 43 = .ok (.iconst 0, 1) := by decide +kernel
theorem dX8_init_44 : decode cX8_init 44 = .ok (.putfield 34, 3) := by decide +kernel
theorem dX8_init_47 : decode cX8_init 47 = .ok (.return_, 1) := by decide +kernel
theorem dX8_holdGlider_0 : decode cX8_holdGlider 0 = .ok (.aload_n 0, 1) := by decide +kernel
theorem dX8_holdGlider_1 : decode cX8_holdGlider 1 = .ok (.iconst 1, 1) := by decide +kernel
theorem dX8_holdGlider_2 : decode cX8_holdGlider 2 = .ok (.putfield 9, 3) := by decide +kernel
theorem dX8_holdGlider_5 : decode cX8_holdGlider 5 = .ok (.aload_n 0, 1) := by decide +kernel
theorem dX8_holdGlider_6 : decode cX8_holdGlider 6 = .ok (.aload_n 1, 1) := by decide +kernel
theorem dX8_holdGlider_7 : decode cX8_holdGlider 7 = .ok (.getfield 37, 3) := by decide +kernel
theorem dX8_holdGlider_10 : decode cX8_holdGlider 10 = .ok (.putfield 25, 3) := by decide +kernel
theorem dX8_holdGlider_13 : decode cX8_holdGlider 13 = .ok (.aload_n 0, 1) := by decide +kernel
theorem dX8_holdGlider_14 : decode cX8_holdGlider 14 = .ok (.aload_n 1, 1) := by decide +kernel
theorem dX8_holdGlider_15 : decode cX8_holdGlider 15 = .ok (.getfield 40, 3) := by decide +kernel
theorem dX8_holdGlider_18 : decode cX8_holdGlider 18 = .ok (.putfield 28, 3) := by decide +kernel
theorem dX8_holdGlider_21 : decode cX8_holdGlider 21 = .ok (.aload_n 0, 1) := by decide +kernel
theorem dX8_holdGlider_22 : decode cX8_holdGlider 22 = .ok (.aload_n 1, 1) := by decide +kernel
theorem dX8_holdGlider_23 : decode cX8_holdGlider 23 = .ok (.getfield 41, 3) := by decide +kernel
theorem dX8_holdGlider_26 : decode cX8_holdGlider 26 = .ok (.putfield 31, 3) := by decide +kernel
theorem dX8_holdGlider_29 : decode cX8_holdGlider 29 = .ok (.aload_n 0, 1) := by decide +kernel
theorem dX8_holdGlider_30 : decode cX8_holdGlider 30 = .ok (.aload_n 1, 1) := by decide +kernel
theorem dX8_holdGlider_31 : decode cX8_holdGlider 31 = .ok (.getfield 42, 3) := by decide +kernel
theorem dX8_holdGlider_34 : decode cX8_holdGlider 34 = .ok (.putfield 34, 3) := by decide +kernel
theorem dX8_holdGlider_37 : decode cX8_holdGlider 37 = .ok (.return_, 1) := by decide +kernel
theorem dX8_holdRow_0 : decode cX8_holdRow 0 = .ok (.aload_n 0, 1) := by decide +kernel
theorem dX8_holdRow_1 : decode cX8_holdRow 1 = .ok (.iconst 2, 1) := by decide +kernel
theorem dX8_holdRow_2 : decode cX8_holdRow 2 = .ok (.putfield 9, 3) := by decide +kernel
theorem dX8_holdRow_5 : decode cX8_holdRow 5 = .ok (.aload_n 0, 1) := by decide +kernel
theorem dX8_holdRow_6 : decode cX8_holdRow 6 = .ok (.iload_n 1, 1) := by decide +kernel
theorem dX8_holdRow_7 : decode cX8_holdRow 7 = .ok (.putfield 15, 3) := by decide +kernel
theorem dX8_holdRow_10 : decode cX8_holdRow 10 = .ok (.aload_n 0, 1) := by decide +kernel
theorem dX8_holdRow_11 : decode cX8_holdRow 11 = .ok (.iload_n 2, 1) := by decide +kernel
theorem dX8_holdRow_12 : decode cX8_holdRow 12 = .ok (.putfield 18, 3) := by decide +kernel
theorem dX8_holdRow_15 : decode cX8_holdRow 15 = .ok (.aload_n 0, 1) := by decide +kernel
theorem dX8_holdRow_16 : decode cX8_holdRow 16 = .ok (.getfield 21, 3) := by decide +kernel
theorem dX8_holdRow_19 : decode cX8_holdRow 19 = .ok (.iconst 0, 1) := by decide +kernel
theorem dX8_holdRow_20 : decode cX8_holdRow 20 = .ok (.invokestatic 43, 3) := by decide +kernel
theorem dX8_holdRow_23 : decode cX8_holdRow 23 = .ok (.return_, 1) := by decide +kernel
theorem dX8_refusesAsText_0 : decode cX8_refusesAsText 0 = .ok (.aload_n 0, 1) := by decide +kernel
theorem dX8_refusesAsText_1 : decode cX8_refusesAsText 1 = .ok (.getfield 9, 3) := by decide +kernel
theorem dX8_refusesAsText_4 : decode cX8_refusesAsText 4 = .ok (.ifCond .ne 6, 3) := by decide +kernel
theorem dX8_refusesAsText_7 : decode cX8_refusesAsText 7 = .ok (.bipush (-11), 2) := by decide +kernel
theorem dX8_refusesAsText_9 : decode cX8_refusesAsText 9 = .ok (.ireturn, 1) := by decide +kernel
theorem dX8_refusesAsText_10 : decode cX8_refusesAsText 10 = .ok (.aload_n 0, 1) := by decide +kernel
theorem dX8_refusesAsText_11 : decode cX8_refusesAsText 11 = .ok (.getfield 9, 3) := by decide +kernel
theorem dX8_refusesAsText_14 : decode cX8_refusesAsText 14 = .ok (.iconst 2, 1) := by decide +kernel
theorem dX8_refusesAsText_15 : decode cX8_refusesAsText 15 = .ok (.if_icmp .ne 14, 3) := by decide +kernel
theorem dX8_refusesAsText_18 : decode cX8_refusesAsText 18 = .ok (.aload_n 0, 1) := by decide +kernel
theorem dX8_refusesAsText_19 : decode cX8_refusesAsText 19 = .ok (.getfield 15, 3) := by decide +kernel
theorem dX8_refusesAsText_22 : decode cX8_refusesAsText 22 = .ok (.ifCond .ne 7, 3) := by decide +kernel
theorem dX8_refusesAsText_25 : decode cX8_refusesAsText 25 = .ok (.iconst 0, 1) := by decide +kernel
theorem dX8_refusesAsText_26 : decode cX8_refusesAsText 26 = .ok (.goto 5, 3) := by decide +kernel
theorem dX8_refusesAsText_29 : decode cX8_refusesAsText 29 = .ok (.bipush (-12), 2) := by decide +kernel
theorem dX8_refusesAsText_31 : decode cX8_refusesAsText 31 = .ok (.ireturn, 1) := by decide +kernel
theorem dX9_init_0 : decode cX9_init 0 = .ok (.aload_n 0, 1) := by decide +kernel
theorem dX9_init_1 : decode cX9_init 1 = .ok (.invokespecial 3, 3) := by decide +kernel
theorem dX9_init_4 : decode cX9_init 4 = .ok (.aload_n 0, 1) := by decide +kernel
theorem dX9_init_5 : decode cX9_init 5 = .ok (.sipush 320, 3) := by decide +kernel
theorem dX9_init_8 : decode cX9_init 8 = .ok (.newarray .int, 2) := by decide +kernel
theorem dX9_init_10 : decode cX9_init 10 = .ok (.putfield 9, 3) := by decide +kernel
theorem dX9_init_13 : decode cX9_init 13 = .ok (.aload_n 0, 1) := by decide +kernel
theorem dX9_init_14 : decode cX9_init 14 = .ok (.sipush 320, 3) := by decide +kernel
theorem dX9_init_17 : decode cX9_init 17 = .ok (.newarray .int, 2) := by decide +kernel
theorem dX9_init_19 : decode cX9_init 19 = .ok (.putfield 15, 3) := by decide +kernel
theorem dX9_init_22 : decode cX9_init 22 = .ok (.return_, 1) := by decide +kernel
theorem dX9_become_0 : decode cX9_become 0 = .ok (.aload_n 1, 1) := by decide +kernel
theorem dX9_become_1 : decode cX9_become 1 = .ok (.getfield 9, 3) := by decide +kernel
theorem dX9_become_4 : decode cX9_become 4 = .ok (.aload_n 0, 1) := by decide +kernel
theorem dX9_become_5 : decode cX9_become 5 = .ok (.getfield 9, 3) := by decide +kernel
theorem dX9_become_8 : decode cX9_become 8 = .ok (.invokestatic 18, 3) := by decide +kernel
theorem dX9_become_11 : decode cX9_become 11 = .ok (.aload_n 1, 1) := by decide +kernel
theorem dX9_become_12 : decode cX9_become 12 = .ok (.getfield 15, 3) := by decide +kernel
theorem dX9_become_15 : decode cX9_become 15 = .ok (.aload_n 0, 1) := by decide +kernel
theorem dX9_become_16 : decode cX9_become 16 = .ok (.getfield 15, 3) := by decide +kernel
theorem dX9_become_19 : decode cX9_become 19 = .ok (.invokestatic 18, 3) := by decide +kernel
theorem dX9_become_22 : decode cX9_become 22 = .ok (.return_, 1) := by decide +kernel
theorem dX10_init_0 : decode cX10_init 0 = .ok (.aload_n 0, 1) := by decide +kernel
theorem dX10_init_1 : decode cX10_init 1 = .ok (.invokespecial 3, 3) := by decide +kernel
theorem dX10_init_4 : decode cX10_init 4 = .ok (.aload_n 0, 1) := by decide +kernel
theorem dX10_init_5 : decode cX10_init 5 = .ok (.new 9, 3) := by decide +kernel
theorem dX10_init_8 : decode cX10_init 8 = .ok (.dup, 1) := by decide +kernel
theorem dX10_init_9 : decode cX10_init 9 = .ok (.invokespecial 11, 3) := by decide +kernel
theorem dX10_init_12 : decode cX10_init 12 = .ok (.putfield 12, 3) := by decide +kernel
theorem dX10_init_15 : decode cX10_init 15 = .ok (.aload_n 0, 1) := by decide +kernel
theorem dX10_init_16 : decode cX10_init 16 = .ok (.bipush 8, 2) := by decide +kernel
theorem dX10_init_18 : decode cX10_init 18 = .ok (.anewarray 18, 3) := by decide +kernel
theorem dX10_init_21 : decode cX10_init 21 = .ok (.putfield 20, 3) := by decide +kernel
theorem dX10_init_24 : decode cX10_init 24 = .ok (.aload_n 0, 1) := by decide +kernel
theorem dX10_init_25 : decode cX10_init 25 = .ok (.iconst 0, 1) := by decide +kernel
theorem dX10_init_26 : decode cX10_init 26 = .ok (.putfield 24, 3) := by decide +kernel
theorem dX10_init_29 : decode cX10_init 29 = .ok (.aload_n 0, 1) := by decide +kernel
theorem dX10_init_30 : decode cX10_init 30 = .ok (.iconst 0, 1) := by decide +kernel
theorem dX10_init_31 : decode cX10_init 31 = .ok (.putfield 28, 3) := by decide +kernel
theorem dX10_init_34 : decode cX10_init 34 = .ok (.aload_n 0, 1) := by decide +kernel
theorem dX10_init_35 : decode cX10_init 35 = .ok (.iconst 0, 1) := by decide +kernel
theorem dX10_init_36 : decode cX10_init 36 = .ok (.putfield 31, 3) := by decide +kernel
theorem dX10_init_39 : decode cX10_init 39 = .ok (.aload_n 0, 1) := by decide +kernel
theorem dX10_init_40 : decode cX10_init 40 = .ok (.sipush 401, 3) := by decide +kernel
theorem dX10_init_43 : decode cX10_init 43 = .ok (.newarray .int, 2) := by decide +kernel
theorem dX10_init_45 : decode cX10_init 45 = .ok (.putfield 34, 3) := by decide +kernel
theorem dX10_init_48 : decode cX10_init 48 = .ok (.aload_n 0, 1) := by decide +kernel
theorem dX10_init_49 : decode cX10_init 49 = .ok (.bipush 10, 2) := by decide +kernel
theorem dX10_init_51 : decode cX10_init 51 = .ok (.anewarray 38, 3) := by decide +kernel
theorem dX10_init_54 : decode cX10_init 54 = .ok (.putfield 40, 3) := by decide +kernel
theorem dX10_init_57 : decode cX10_init 57 = .ok (.aload_n 0, 1) := by decide +kernel
theorem dX10_init_58 : decode cX10_init 58 = .ok (.iconst 0, 1) := by decide +kernel
theorem dX10_init_59 : decode cX10_init 59 = .ok (.putfield 44, 3) := by decide +kernel
theorem dX10_init_62 : decode cX10_init 62 = .ok (.aload_n 0, 1) := by decide +kernel
theorem dX10_init_63 : decode cX10_init 63 = .ok (.new 47, 3) := by decide +kernel
theorem dX10_init_66 : decode cX10_init 66 = .ok (.dup, 1) := by decide +kernel
theorem dX10_init_67 : decode cX10_init 67 = .ok (.invokespecial 49, 3) := by decide +kernel
theorem dX10_init_70 : decode cX10_init 70 = .ok (.putfield 50, 3) := by decide +kernel
theorem dX10_init_73 : decode cX10_init 73 = .ok (.aload_n 0, 1) := by decide +kernel
theorem dX10_init_74 : decode cX10_init 74 = .ok (.new 54, 3) := by decide +kernel
theorem dX10_init_77 : decode cX10_init 77 = .ok (.dup, 1) := by decide +kernel
theorem dX10_init_78 : decode cX10_init 78 = .ok (.invokespecial 56, 3) := by decide +kernel
theorem dX10_init_81 : decode cX10_init 81 = .ok (.putfield 57, 3) := by decide +kernel
theorem dX10_init_84 : decode cX10_init 84 = .ok (.aload_n 0, 1) := by decide +kernel
theorem dX10_init_85 : decode cX10_init 85 = .ok (.new 61, 3) := by decide +kernel
theorem dX10_init_88 : decode cX10_init 88 = .ok (.dup, 1) := by decide +kernel
theorem dX10_init_89 : decode cX10_init 89 = .ok (.invokespecial 63, 3) := by decide +kernel
theorem dX10_init_92 : decode cX10_init 92 = .ok (.putfield 64, 3) := by decide +kernel
theorem dX10_init_95 : decode cX10_init 95 = .ok (.return_, 1) := by decide +kernel
theorem dX10_become_0 : decode cX10_become 0 = .ok (.aload_n 0, 1) := by decide +kernel
theorem dX10_become_1 : decode cX10_become 1 = .ok (.getfield 12, 3) := by decide +kernel
theorem dX10_become_4 : decode cX10_become 4 = .ok (.aload_n 1, 1) := by decide +kernel
theorem dX10_become_5 : decode cX10_become 5 = .ok (.getfield 12, 3) := by decide +kernel
theorem dX10_become_8 : decode cX10_become 8 = .ok (.invokevirtual 68, 3) := by decide +kernel
theorem dX10_become_11 : decode cX10_become 11 = .ok (.aload_n 0, 1) := by decide +kernel
theorem dX10_become_12 : decode cX10_become 12 = .ok (.aload_n 1, 1) := by decide +kernel
theorem dX10_become_13 : decode cX10_become 13 = .ok (.getfield 24, 3) := by decide +kernel
theorem dX10_become_16 : decode cX10_become 16 = .ok (.putfield 24, 3) := by decide +kernel
theorem dX10_become_19 : decode cX10_become 19 = .ok (.iconst 0, 1) := by decide +kernel
theorem dX10_become_20 : decode cX10_become 20 = .ok (.istore_n 2, 1) := by decide +kernel
theorem dX10_become_21 : decode cX10_become 21 = .ok (.iload_n 2, 1) := by decide +kernel
theorem dX10_become_22 : decode cX10_become 22 = .ok (.aload_n 0, 1) := by decide +kernel
theorem dX10_become_23 : decode cX10_become 23 = .ok (.getfield 24, 3) := by decide +kernel
theorem dX10_become_26 : decode cX10_become 26 = .ok (.if_icmp .ge 23, 3) := by decide +kernel
theorem dX10_become_29 : decode cX10_become 29 = .ok (.aload_n 0, 1) := by decide +kernel
theorem dX10_become_30 : decode cX10_become 30 = .ok (.iload_n 2, 1) := by decide +kernel
theorem dX10_become_31 : decode cX10_become 31 = .ok (.invokevirtual 72, 3) := by decide +kernel
theorem dX10_become_34 : decode cX10_become 34 = .ok (.aload_n 1, 1) := by decide +kernel
theorem dX10_become_35 : decode cX10_become 35 = .ok (.getfield 20, 3) := by decide +kernel
theorem dX10_become_38 : decode cX10_become 38 = .ok (.iload_n 2, 1) := by decide +kernel
theorem dX10_become_39 : decode cX10_become 39 = .ok (.aaload, 1) := by decide +kernel
theorem dX10_become_40 : decode cX10_become 40 = .ok (.invokevirtual 76, 3) := by decide +kernel
theorem dX10_become_43 : decode cX10_become 43 = .ok (.iinc 2 1, 3) := by decide +kernel
theorem dX10_become_46 : decode cX10_become 46 = .ok (.goto (-25), 3) := by decide +kernel
theorem dX10_become_49 : decode cX10_become 49 = .ok (.aload_n 0, 1) := by decide +kernel
theorem dX10_become_50 : decode cX10_become 50 = .ok (.aload_n 1, 1) := by decide +kernel
theorem dX10_become_51 : decode cX10_become 51 = .ok (.getfield 28, 3) := by decide +kernel
theorem dX10_become_54 : decode cX10_become 54 = .ok (.putfield 28, 3) := by decide +kernel
theorem dX10_become_57 : decode cX10_become 57 = .ok (.aload_n 0, 1) := by decide +kernel
theorem dX10_become_58 : decode cX10_become 58 = .ok (.aload_n 1, 1) := by decide +kernel
theorem dX10_become_59 : decode cX10_become 59 = .ok (.getfield 31, 3) := by decide +kernel
theorem dX10_become_62 : decode cX10_become 62 = .ok (.putfield 31, 3) := by decide +kernel
theorem dX10_become_65 : decode cX10_become 65 = .ok (.aload_n 1, 1) := by decide +kernel
theorem dX10_become_66 : decode cX10_become 66 = .ok (.getfield 34, 3) := by decide +kernel
theorem dX10_become_69 : decode cX10_become 69 = .ok (.aload_n 0, 1) := by decide +kernel
theorem dX10_become_70 : decode cX10_become 70 = .ok (.getfield 34, 3) := by decide +kernel
theorem dX10_become_73 : decode cX10_become 73 = .ok (.invokestatic 79, 3) := by decide +kernel
theorem dX10_become_76 : decode cX10_become 76 = .ok (.aload_n 0, 1) := by decide +kernel
theorem dX10_become_77 : decode cX10_become 77 = .ok (.aload_n 1, 1) := by decide +kernel
theorem dX10_become_78 : decode cX10_become 78 = .ok (.getfield 44, 3) := by decide +kernel
theorem dX10_become_81 : decode cX10_become 81 = .ok (.putfield 44, 3) := by decide +kernel
theorem dX10_become_84 : decode cX10_become 84 = .ok (.iconst 0, 1) := by decide +kernel
theorem dX10_become_85 : decode cX10_become 85 = .ok (.istore_n 2, 1) := by decide +kernel
theorem dX10_become_86 : decode cX10_become 86 = .ok (.iload_n 2, 1) := by decide +kernel
theorem dX10_become_87 : decode cX10_become 87 = .ok (.aload_n 0, 1) := by decide +kernel
theorem dX10_become_88 : decode cX10_become 88 = .ok (.getfield 44, 3) := by decide +kernel
theorem dX10_become_91 : decode cX10_become 91 = .ok (.if_icmp .ge 21, 3) := by decide +kernel
theorem dX10_become_94 : decode cX10_become 94 = .ok (.aload_n 0, 1) := by decide +kernel
theorem dX10_become_95 : decode cX10_become 95 = .ok (.getfield 40, 3) := by decide +kernel
theorem dX10_become_98 : decode cX10_become 98 = .ok (.iload_n 2, 1) := by decide +kernel
theorem dX10_become_99 : decode cX10_become 99 = .ok (.aload_n 1, 1) := by decide +kernel
theorem dX10_become_100 : decode cX10_become 100 = .ok (.getfield 40, 3) := by decide +kernel
theorem dX10_become_103 : decode cX10_become 103 = .ok (.iload_n 2, 1) := by decide +kernel
theorem dX10_become_104 : decode cX10_become 104 = .ok (.aaload, 1) := by decide +kernel
theorem dX10_become_105 : decode cX10_become 105 = .ok (.aastore, 1) := by decide +kernel
theorem dX10_become_106 : decode cX10_become 106 = .ok (.iinc 2 1, 3) := by decide +kernel
theorem dX10_become_109 : decode cX10_become 109 = .ok (.goto (-23), 3) := by decide +kernel
theorem dX10_become_112 : decode cX10_become 112 = .ok (.aload_n 0, 1) := by decide +kernel
theorem dX10_become_113 : decode cX10_become 113 = .ok (.getfield 50, 3) := by decide +kernel
theorem dX10_become_116 : decode cX10_become 116 = .ok (.aload_n 1, 1) := by decide +kernel
theorem dX10_become_117 : decode cX10_become 117 = .ok (.getfield 50, 3) := by decide +kernel
theorem dX10_become_120 : decode cX10_become 120 = .ok (.invokevirtual 83, 3) := by decide +kernel
theorem dX10_become_123 : decode cX10_become 123 = .ok (.aload_n 0, 1) := by decide +kernel
theorem dX10_become_124 : decode cX10_become 124 = .ok (.getfield 57, 3) := by decide +kernel
theorem dX10_become_127 : decode cX10_become 127 = .ok (.aload_n 1, 1) := by decide +kernel
theorem dX10_become_128 : decode cX10_become 128 = .ok (.getfield 57, 3) := by decide +kernel
theorem dX10_become_131 : decode cX10_become 131 = .ok (.invokevirtual 86, 3) := by decide +kernel
theorem dX10_become_134 : decode cX10_become 134 = .ok (.return_, 1) := by decide +kernel
theorem dX10_roomFor_0 : decode cX10_roomFor 0 = .ok (.aload_n 0, 1) := by decide +kernel
theorem dX10_roomFor_1 : decode cX10_roomFor 1 = .ok (.getfield 20, 3) := by decide +kernel
theorem dX10_roomFor_4 : decode cX10_roomFor 4 = .ok (.iload_n 1, 1) := by decide +kernel
theorem dX10_roomFor_5 : decode cX10_roomFor 5 = .ok (.aaload, 1) := by decide +kernel
theorem dX10_roomFor_6 : decode cX10_roomFor 6 = .ok (.ifnonnull 16, 3) := by decide +kernel
theorem dX10_roomFor_9 : decode cX10_roomFor 9 = .ok (.aload_n 0, 1) := by decide +kernel
theorem dX10_roomFor_10 : decode cX10_roomFor 10 = .ok (.getfield 20, 3) := by decide +kernel
theorem dX10_roomFor_13 : decode cX10_roomFor 13 = .ok (.iload_n 1, 1) := by decide +kernel
theorem dX10_roomFor_14 : decode cX10_roomFor 14 = .ok (.new 18, 3) := by decide +kernel
theorem dX10_roomFor_17 : decode cX10_roomFor 17 = .ok (.dup, 1) := by decide +kernel
theorem dX10_roomFor_18 : decode cX10_roomFor 18 = .ok (.invokespecial 89, 3) := by decide +kernel
theorem dX10_roomFor_21 : decode cX10_roomFor 21 = .ok (.aastore, 1) := by decide +kernel
theorem dX10_roomFor_22 : decode cX10_roomFor 22 = .ok (.aload_n 0, 1) := by decide +kernel
theorem dX10_roomFor_23 : decode cX10_roomFor 23 = .ok (.getfield 20, 3) := by decide +kernel
theorem dX10_roomFor_26 : decode cX10_roomFor 26 = .ok (.iload_n 1, 1) := by decide +kernel
theorem dX10_roomFor_27 : decode cX10_roomFor 27 = .ok (.aaload, 1) := by decide +kernel
theorem dX10_roomFor_28 : decode cX10_roomFor 28 = .ok (.areturn, 1) := by decide +kernel
theorem dX10_addGlider_0 : decode cX10_addGlider 0 = .ok (.aload_n 0, 1) := by decide +kernel
theorem dX10_addGlider_1 : decode cX10_addGlider 1 = .ok (.aload_n 0, 1) := by decide +kernel
theorem dX10_addGlider_2 : decode cX10_addGlider 2 = .ok (.getfield 24, 3) := by decide +kernel
theorem dX10_addGlider_5 : decode cX10_addGlider 5 = .ok (.invokevirtual 72, 3) := by decide +kernel
theorem dX10_addGlider_8 : decode cX10_addGlider 8 = .ok (.iload_n 1, 1) := by decide +kernel
theorem dX10_addGlider_9 : decode cX10_addGlider 9 = .ok (.iload_n 2, 1) := by decide +kernel
theorem dX10_addGlider_10 : decode cX10_addGlider 10 = .ok (.iload_n 3, 1) := by decide +kernel
theorem dX10_addGlider_11 : decode cX10_addGlider 11 = .ok (.invokevirtual 90, 3) := by decide +kernel
theorem dX10_addGlider_14 : decode cX10_addGlider 14 = .ok (.aload_n 0, 1) := by decide +kernel
theorem dX10_addGlider_15 : decode cX10_addGlider 15 = .ok (.dup, 1) := by decide +kernel
theorem dX10_addGlider_16 : decode cX10_addGlider 16 = .ok (.getfield 24, 3) := by decide +kernel
theorem dX10_addGlider_19 : decode cX10_addGlider 19 = .ok (.dup_x1, 1) := by decide +kernel
theorem dX10_addGlider_20 : decode cX10_addGlider 20 = .ok (.iconst 1, 1) := by decide +kernel
theorem dX10_addGlider_21 : decode cX10_addGlider 21 = .ok (.iadd, 1) := by decide +kernel
theorem dX10_addGlider_22 : decode cX10_addGlider 22 = .ok (.putfield 24, 3) := by decide +kernel
theorem dX10_addGlider_25 : decode cX10_addGlider 25 = .ok (.ireturn, 1) := by decide +kernel
theorem dX10_gliderAt_0 : decode cX10_gliderAt 0 = .ok (.iload_n 1, 1) := by decide +kernel
theorem dX10_gliderAt_1 : decode cX10_gliderAt 1 = .ok (.ifCond .lt 20, 3) := by decide +kernel
theorem dX10_gliderAt_4 : decode cX10_gliderAt 4 = .ok (.iload_n 1, 1) := by decide +kernel
theorem dX10_gliderAt_5 : decode cX10_gliderAt 5 = .ok (.aload_n 0, 1) := by decide +kernel
theorem dX10_gliderAt_6 : decode cX10_gliderAt 6 = .ok (.getfield 24, 3) := by decide +kernel
theorem dX10_gliderAt_9 : decode cX10_gliderAt 9 = .ok (.if_icmp .ge 12, 3) := by decide +kernel
theorem dX10_gliderAt_12 : decode cX10_gliderAt 12 = .ok (.aload_n 0, 1) := by decide +kernel
theorem dX10_gliderAt_13 : decode cX10_gliderAt 13 = .ok (.getfield 20, 3) := by decide +kernel
theorem dX10_gliderAt_16 : decode cX10_gliderAt 16 = .ok (.iload_n 1, 1) := by decide +kernel
theorem dX10_gliderAt_17 : decode cX10_gliderAt 17 = .ok (.aaload, 1) := by decide +kernel
theorem dX10_gliderAt_18 : decode cX10_gliderAt 18 = .ok (.goto 4, 3) := by decide +kernel
theorem dX10_gliderAt_21 : decode cX10_gliderAt 21 = .ok (.aconst_null, 1) := by decide +kernel
theorem dX10_gliderAt_22 : decode cX10_gliderAt 22 = .ok (.areturn, 1) := by decide +kernel
theorem dX10_orderOf_0 : decode cX10_orderOf 0 = .ok (.aload_n 1, 1) := by decide +kernel
theorem dX10_orderOf_1 : decode cX10_orderOf 1 = .ok (.getfield 94, 3) := by decide +kernel
theorem dX10_orderOf_4 : decode cX10_orderOf 4 = .ok (.ifCond .lt 26, 3) := by decide +kernel
theorem dX10_orderOf_7 : decode cX10_orderOf 7 = .ok (.aload_n 1, 1) := by decide +kernel
theorem dX10_orderOf_8 : decode cX10_orderOf 8 = .ok (.getfield 94, 3) := by decide +kernel
theorem dX10_orderOf_11 : decode cX10_orderOf 11 = .ok (.aload_n 0, 1) := by decide +kernel
theorem dX10_orderOf_12 : decode cX10_orderOf 12 = .ok (.getfield 44, 3) := by decide +kernel
theorem dX10_orderOf_15 : decode cX10_orderOf 15 = .ok (.if_icmp .ge 15, 3) := by decide +kernel
theorem dX10_orderOf_18 : decode cX10_orderOf 18 = .ok (.aload_n 0, 1) := by decide +kernel
theorem dX10_orderOf_19 : decode cX10_orderOf 19 = .ok (.getfield 40, 3) := by decide +kernel
theorem dX10_orderOf_22 : decode cX10_orderOf 22 = .ok (.aload_n 1, 1) := by decide +kernel
theorem dX10_orderOf_23 : decode cX10_orderOf 23 = .ok (.getfield 94, 3) := by decide +kernel
theorem dX10_orderOf_26 : decode cX10_orderOf 26 = .ok (.aaload, 1) := by decide +kernel
theorem dX10_orderOf_27 : decode cX10_orderOf 27 = .ok (.goto 4, 3) := by decide +kernel
theorem dX10_orderOf_30 : decode cX10_orderOf 30 = .ok (.aconst_null, 1) := by decide +kernel
theorem dX10_orderOf_31 : decode cX10_orderOf 31 = .ok (.areturn, 1) := by decide +kernel
theorem dX10_isAnyUpWithin_0 : decode cX10_isAnyUpWithin 0 = .ok (.iconst 0, 1) := by decide +kernel
theorem dX10_isAnyUpWithin_1 : decode cX10_isAnyUpWithin 1 = .ok (.istore_n 3, 1) := by decide +kernel
theorem dX10_isAnyUpWithin_2 : decode cX10_isAnyUpWithin 2 = .ok (.iload_n 3, 1) := by decide +kernel
theorem dX10_isAnyUpWithin_3 : decode cX10_isAnyUpWithin 3 = .ok (.aload_n 0, 1) := by decide +kernel
theorem dX10_isAnyUpWithin_4 : decode cX10_isAnyUpWithin 4 = .ok (.getfield 24, 3) := by decide +kernel
theorem dX10_isAnyUpWithin_7 : decode cX10_isAnyUpWithin 7 = .ok (.if_icmp .ge 87, 3) := by decide +kernel
theorem dX10_isAnyUpWithin_10 : decode cX10_isAnyUpWithin 10 = .ok (.aload_n 0, 1) := by decide +kernel
theorem dX10_isAnyUpWithin_11 : decode cX10_isAnyUpWithin 11 = .ok (.getfield 20, 3) := by decide +kernel
theorem dX10_isAnyUpWithin_14 : decode cX10_isAnyUpWithin 14 = .ok (.iload_n 3, 1) := by decide +kernel
theorem dX10_isAnyUpWithin_15 : decode cX10_isAnyUpWithin 15 = .ok (.aaload, 1) := by decide +kernel
theorem dX10_isAnyUpWithin_16 : decode cX10_isAnyUpWithin 16 = .ok (.getfield 97, 3) := by decide +kernel
theorem dX10_isAnyUpWithin_19 : decode cX10_isAnyUpWithin 19 = .ok (.invokestatic 100, 3) := by decide +kernel
theorem dX10_isAnyUpWithin_22 : decode cX10_isAnyUpWithin 22 = .ok (.istore 4, 2) := by decide +kernel
theorem dX10_isAnyUpWithin_24 : decode cX10_isAnyUpWithin 24 = .ok (.aload_n 0, 1) := by decide +kernel
theorem dX10_isAnyUpWithin_25 : decode cX10_isAnyUpWithin 25 = .ok (.getfield 20, 3) := by decide +kernel
theorem dX10_isAnyUpWithin_28 : decode cX10_isAnyUpWithin 28 = .ok (.iload_n 3, 1) := by decide +kernel
theorem dX10_isAnyUpWithin_29 : decode cX10_isAnyUpWithin 29 = .ok (.aaload, 1) := by decide +kernel
theorem dX10_isAnyUpWithin_30 : decode cX10_isAnyUpWithin 30 = .ok (.getfield 97, 3) := by decide +kernel
theorem dX10_isAnyUpWithin_33 : decode cX10_isAnyUpWithin 33 = .ok (.invokestatic 104, 3) := by decide +kernel
theorem dX10_isAnyUpWithin_36 : decode cX10_isAnyUpWithin 36 = .ok (.istore 5, 2) := by decide +kernel
theorem dX10_isAnyUpWithin_38 : decode cX10_isAnyUpWithin 38 = .ok (.aload_n 0, 1) := by decide +kernel
theorem dX10_isAnyUpWithin_39 : decode cX10_isAnyUpWithin 39 = .ok (.getfield 20, 3) := by decide +kernel
theorem dX10_isAnyUpWithin_42 : decode cX10_isAnyUpWithin 42 = .ok (.iload_n 3, 1) := by decide +kernel
theorem dX10_isAnyUpWithin_43 : decode cX10_isAnyUpWithin 43 = .ok (.aaload, 1) := by decide +kernel
theorem dX10_isAnyUpWithin_44 : decode cX10_isAnyUpWithin 44 = .ok (.getfield 107, 3) := by decide +kernel
theorem dX10_isAnyUpWithin_47 : decode cX10_isAnyUpWithin 47 = .ok (.ifCond .ne 41, 3) := by decide +kernel
theorem dX10_isAnyUpWithin_50 : decode cX10_isAnyUpWithin 50 = .ok (.iload 4, 2) := by decide +kernel
theorem dX10_isAnyUpWithin_52 : decode cX10_isAnyUpWithin 52 = .ok (.iload_n 1, 1) := by decide +kernel
theorem dX10_isAnyUpWithin_53 : decode cX10_isAnyUpWithin 53 = .ok (.bipush 10, 2) := by decide +kernel
theorem dX10_isAnyUpWithin_55 : decode cX10_isAnyUpWithin 55 = .ok (.idiv, 1) := by decide +kernel
theorem dX10_isAnyUpWithin_56 : decode cX10_isAnyUpWithin 56 = .ok (.if_icmp .lt 32, 3) := by decide +kernel
theorem dX10_isAnyUpWithin_59 : decode cX10_isAnyUpWithin 59 = .ok (.iload 4, 2) := by decide +kernel
theorem dX10_isAnyUpWithin_61 : decode cX10_isAnyUpWithin 61 = .ok (.iload_n 1, 1) := by decide +kernel
theorem dX10_isAnyUpWithin_62 : decode cX10_isAnyUpWithin 62 = .ok (.bipush 10, 2) := by decide +kernel
theorem dX10_isAnyUpWithin_64 : decode cX10_isAnyUpWithin 64 = .ok (.irem, 1) := by decide +kernel
theorem dX10_isAnyUpWithin_65 : decode cX10_isAnyUpWithin 65 = .ok (.if_icmp .gt 23, 3) := by decide +kernel
theorem dX10_isAnyUpWithin_68 : decode cX10_isAnyUpWithin 68 = .ok (.iload 5, 2) := by decide +kernel
theorem dX10_isAnyUpWithin_70 : decode cX10_isAnyUpWithin 70 = .ok (.iload_n 2, 1) := by decide +kernel
theorem dX10_isAnyUpWithin_71 : decode cX10_isAnyUpWithin 71 = .ok (.bipush 10, 2) := by decide +kernel
theorem dX10_isAnyUpWithin_73 : decode cX10_isAnyUpWithin 73 = .ok (.idiv, 1) := by decide +kernel
theorem dX10_isAnyUpWithin_74 : decode cX10_isAnyUpWithin 74 = .ok (.if_icmp .lt 14, 3) := by decide +kernel
theorem dX10_isAnyUpWithin_77 : decode cX10_isAnyUpWithin 77 = .ok (.iload 5, 2) := by decide +kernel
theorem dX10_isAnyUpWithin_79 : decode cX10_isAnyUpWithin 79 = .ok (.iload_n 2, 1) := by decide +kernel
theorem dX10_isAnyUpWithin_80 : decode cX10_isAnyUpWithin 80 = .ok (.bipush 10, 2) := by decide +kernel
theorem dX10_isAnyUpWithin_82 : decode cX10_isAnyUpWithin 82 = .ok (.irem, 1) := by decide +kernel
theorem dX10_isAnyUpWithin_83 : decode cX10_isAnyUpWithin 83 = .ok (.if_icmp .gt 5, 3) := by decide +kernel
theorem dX10_isAnyUpWithin_86 : decode cX10_isAnyUpWithin 86 = .ok (.iconst 1, 1) := by decide +kernel
theorem dX10_isAnyUpWithin_87 : decode cX10_isAnyUpWithin 87 = .ok (.ireturn, 1) := by decide +kernel
theorem dX10_isAnyUpWithin_88 : decode cX10_isAnyUpWithin 88 = .ok (.iinc 3 1, 3) := by decide +kernel
theorem dX10_isAnyUpWithin_91 : decode cX10_isAnyUpWithin 91 = .ok (.goto (-89), 3) := by decide +kernel
theorem dX10_isAnyUpWithin_94 : decode cX10_isAnyUpWithin 94 = .ok (.iconst 0, 1) := by decide +kernel
theorem dX10_isAnyUpWithin_95 : decode cX10_isAnyUpWithin 95 = .ok (.ireturn, 1) := by decide +kernel
theorem dX10_howMany_0 : decode cX10_howMany 0 = .ok (.iconst 0, 1) := by decide +kernel
theorem dX10_howMany_1 : decode cX10_howMany 1 = .ok (.istore_n 2, 1) := by decide +kernel
theorem dX10_howMany_2 : decode cX10_howMany 2 = .ok (.iconst 0, 1) := by decide +kernel
theorem dX10_howMany_3 : decode cX10_howMany 3 = .ok (.istore_n 3, 1) := by decide +kernel
theorem dX10_howMany_4 : decode cX10_howMany 4 = .ok (.iload_n 3, 1) := by decide +kernel
theorem dX10_howMany_5 : decode cX10_howMany 5 = .ok (.aload_n 0, 1) := by decide +kernel
theorem dX10_howMany_6 : decode cX10_howMany 6 = .ok (.getfield 24, 3) := by decide +kernel
theorem dX10_howMany_9 : decode cX10_howMany 9 = .ok (.if_icmp .ge 25, 3) := by decide +kernel
theorem dX10_howMany_12 : decode cX10_howMany 12 = .ok (.aload_n 0, 1) := by decide +kernel
theorem dX10_howMany_13 : decode cX10_howMany 13 = .ok (.getfield 20, 3) := by decide +kernel
theorem dX10_howMany_16 : decode cX10_howMany 16 = .ok (.iload_n 3, 1) := by decide +kernel
theorem dX10_howMany_17 : decode cX10_howMany 17 = .ok (.aaload, 1) := by decide +kernel
theorem dX10_howMany_18 : decode cX10_howMany 18 = .ok (.getfield 107, 3) := by decide +kernel
theorem dX10_howMany_21 : decode cX10_howMany 21 = .ok (.iload_n 1, 1) := by decide +kernel
theorem dX10_howMany_22 : decode cX10_howMany 22 = .ok (.if_icmp .ne 6, 3) := by decide +kernel
theorem dX10_howMany_25 : decode cX10_howMany 25 = .ok (.iinc 2 1, 3) := by decide +kernel
theorem dX10_howMany_28 : decode cX10_howMany 28 = .ok (.iinc 3 1, 3) := by decide +kernel
theorem dX10_howMany_31 : decode cX10_howMany 31 = .ok (.goto (-27), 3) := by decide +kernel
theorem dX10_howMany_34 : decode cX10_howMany 34 = .ok (.iload_n 2, 1) := by decide +kernel
theorem dX10_howMany_35 : decode cX10_howMany 35 = .ok (.ireturn, 1) := by decide +kernel
theorem dX10_allPower_0 : decode cX10_allPower 0 = .ok (.iconst 0, 1) := by decide +kernel
theorem dX10_allPower_1 : decode cX10_allPower 1 = .ok (.istore_n 1, 1) := by decide +kernel
theorem dX10_allPower_2 : decode cX10_allPower 2 = .ok (.iconst 0, 1) := by decide +kernel
theorem dX10_allPower_3 : decode cX10_allPower 3 = .ok (.istore_n 2, 1) := by decide +kernel
theorem dX10_allPower_4 : decode cX10_allPower 4 = .ok (.iload_n 2, 1) := by decide +kernel
theorem dX10_allPower_5 : decode cX10_allPower 5 = .ok (.aload_n 0, 1) := by decide +kernel
theorem dX10_allPower_6 : decode cX10_allPower 6 = .ok (.getfield 24, 3) := by decide +kernel
theorem dX10_allPower_9 : decode cX10_allPower 9 = .ok (.if_icmp .ge 21, 3) := by decide +kernel
theorem dX10_allPower_12 : decode cX10_allPower 12 = .ok (.iload_n 1, 1) := by decide +kernel
theorem dX10_allPower_13 : decode cX10_allPower 13 = .ok (.aload_n 0, 1) := by decide +kernel
theorem dX10_allPower_14 : decode cX10_allPower 14 = .ok (.getfield 20, 3) := by decide +kernel
theorem dX10_allPower_17 : decode cX10_allPower 17 = .ok (.iload_n 2, 1) := by decide +kernel
theorem dX10_allPower_18 : decode cX10_allPower 18 = .ok (.aaload, 1) := by decide +kernel
theorem dX10_allPower_19 : decode cX10_allPower 19 = .ok (.getfield 110, 3) := by decide +kernel
theorem dX10_allPower_22 : decode cX10_allPower 22 = .ok (.iadd, 1) := by decide +kernel
theorem dX10_allPower_23 : decode cX10_allPower 23 = .ok (.istore_n 1, 1) := by decide +kernel
theorem dX10_allPower_24 : decode cX10_allPower 24 = .ok (.iinc 2 1, 3) := by decide +kernel
theorem dX10_allPower_27 : decode cX10_allPower 27 = .ok (.goto (-23), 3) := by decide +kernel
theorem dX10_allPower_30 : decode cX10_allPower 30 = .ok (.iload_n 1, 1) := by decide +kernel
theorem dX10_allPower_31 : decode cX10_allPower 31 = .ok (.ireturn, 1) := by decide +kernel
theorem dX10_hearAll_0 : decode cX10_hearAll 0 = .ok (.aload_n 0, 1) := by decide +kernel
theorem dX10_hearAll_1 : decode cX10_hearAll 1 = .ok (.getfield 34, 3) := by decide +kernel
theorem dX10_hearAll_4 : decode cX10_hearAll 4 = .ok (.aload_n 0, 1) := by decide +kernel
theorem dX10_hearAll_5 : decode cX10_hearAll 5 = .ok (.getfield 28, 3) := by decide +kernel
theorem dX10_hearAll_8 : decode cX10_hearAll 8 = .ok (.iaload, 1) := by decide +kernel
theorem dX10_hearAll_9 : decode cX10_hearAll 9 = .ok (.iconst 1, 1) := by decide +kernel
theorem dX10_hearAll_10 : decode cX10_hearAll 10 = .ok (.if_icmp .ne 4, 3) := by decide +kernel
theorem dX10_hearAll_13 : decode cX10_hearAll 13 = .ok (.return_, 1) := by decide +kernel
theorem dX10_hearAll_14 : decode cX10_hearAll 14 = .ok (.iconst 0, 1) := by decide +kernel
theorem dX10_hearAll_15 : decode cX10_hearAll 15 = .ok (.istore_n 1, 1) := by decide +kernel
theorem dX10_hearAll_16 : decode cX10_hearAll 16 = .ok (.iload_n 1, 1) := by decide +kernel
theorem dX10_hearAll_17 : decode cX10_hearAll 17 = .ok (.aload_n 0, 1) := by decide +kernel
theorem dX10_hearAll_18 : decode cX10_hearAll 18 = .ok (.getfield 24, 3) := by decide +kernel
theorem dX10_hearAll_21 : decode cX10_hearAll 21 = .ok (.if_icmp .ge 64, 3) := by decide +kernel
theorem dX10_hearAll_24 : decode cX10_hearAll 24 = .ok (.aload_n 0, 1) := by decide +kernel
theorem dX10_hearAll_25 : decode cX10_hearAll 25 = .ok (.getfield 20, 3) := by decide +kernel
theorem dX10_hearAll_28 : decode cX10_hearAll 28 = .ok (.iload_n 1, 1) := by decide +kernel
theorem dX10_hearAll_29 : decode cX10_hearAll 29 = .ok (.aaload, 1) := by decide +kernel
theorem dX10_hearAll_30 : decode cX10_hearAll 30 = .ok (.astore_n 2, 1) := by decide +kernel
theorem dX10_hearAll_31 : decode cX10_hearAll 31 = .ok (.aload_n 2, 1) := by decide +kernel
theorem dX10_hearAll_32 : decode cX10_hearAll 32 = .ok (.getfield 107, 3) := by decide +kernel
theorem dX10_hearAll_35 : decode cX10_hearAll 35 = .ok (.ifCond .ne 44, 3) := by decide +kernel
theorem dX10_hearAll_38 : decode cX10_hearAll 38 = .ok (.aload_n 2, 1) := by decide +kernel
theorem dX10_hearAll_39 : decode cX10_hearAll 39 = .ok (.aload_n 0, 1) := by decide +kernel
theorem dX10_hearAll_40 : decode cX10_hearAll 40 = .ok (.getfield 50, 3) := by decide +kernel
theorem dX10_hearAll_43 : decode cX10_hearAll 43 = .ok (.iload_n 1, 1) := by decide +kernel
theorem dX10_hearAll_44 : decode cX10_hearAll 44 = .ok (.aload_n 0, 1) := by decide +kernel
theorem dX10_hearAll_45 : decode cX10_hearAll 45 = .ok (.getfield 28, 3) := by decide +kernel
theorem dX10_hearAll_48 : decode cX10_hearAll 48 = .ok (.aload_n 2, 1) := by decide +kernel
theorem dX10_hearAll_49 : decode cX10_hearAll 49 = .ok (.getfield 94, 3) := by decide +kernel
theorem dX10_hearAll_52 : decode cX10_hearAll 52 = .ok (.invokevirtual 113, 3) := by decide +kernel
theorem dX10_hearAll_55 : decode cX10_hearAll 55 = .ok (.putfield 94, 3) := by decide +kernel
theorem dX10_hearAll_58 : decode cX10_hearAll 58 = .ok (.aload_n 2, 1) := by decide +kernel
theorem dX10_hearAll_59 : decode cX10_hearAll 59 = .ok (.aload_n 0, 1) := by decide +kernel
theorem dX10_hearAll_60 : decode cX10_hearAll 60 = .ok (.getfield 28, 3) := by decide +kernel
theorem dX10_hearAll_63 : decode cX10_hearAll 63 = .ok (.putfield 117, 3) := by decide +kernel
theorem dX10_hearAll_66 : decode cX10_hearAll 66 = .ok (.aload_n 2, 1) := by decide +kernel
theorem dX10_hearAll_67 : decode cX10_hearAll 67 = .ok (.getfield 120, 3) := by decide +kernel
theorem dX10_hearAll_70 : decode cX10_hearAll 70 = .ok (.aload_n 0, 1) := by decide +kernel
theorem dX10_hearAll_71 : decode cX10_hearAll 71 = .ok (.getfield 28, 3) := by decide +kernel
theorem dX10_hearAll_74 : decode cX10_hearAll 74 = .ok (.aload_n 2, 1) := by decide +kernel
theorem dX10_hearAll_75 : decode cX10_hearAll 75 = .ok (.getfield 97, 3) := by decide +kernel
theorem dX10_hearAll_78 : decode cX10_hearAll 78 = .ok (.iastore, 1) := by decide +kernel
theorem dX10_hearAll_79 : decode cX10_hearAll 79 = .ok (.iinc 1 1, 3) := by decide +kernel
theorem dX10_hearAll_82 : decode cX10_hearAll 82 = .ok (.goto (-66), 3) := by decide +kernel
theorem dX10_hearAll_85 : decode cX10_hearAll 85 = .ok (.return_, 1) := by decide +kernel
theorem dX10_obeyAll_0 : decode cX10_obeyAll 0 = .ok (.iconst 0, 1) := by decide +kernel
theorem dX10_obeyAll_1 : decode cX10_obeyAll 1 = .ok (.istore_n 1, 1) := by decide +kernel
theorem dX10_obeyAll_2 : decode cX10_obeyAll 2 = .ok (.iconst 0, 1) := by decide +kernel
theorem dX10_obeyAll_3 : decode cX10_obeyAll 3 = .ok (.istore_n 2, 1) := by decide +kernel
theorem dX10_obeyAll_4 : decode cX10_obeyAll 4 = .ok (.iload_n 2, 1) := by decide +kernel
theorem dX10_obeyAll_5 : decode cX10_obeyAll 5 = .ok (.aload_n 0, 1) := by decide +kernel
theorem dX10_obeyAll_6 : decode cX10_obeyAll 6 = .ok (.getfield 24, 3) := by decide +kernel
theorem dX10_obeyAll_9 : decode cX10_obeyAll 9 = .ok (.if_icmp .ge 53, 3) := by decide +kernel
theorem dX10_obeyAll_12 : decode cX10_obeyAll 12 = .ok (.aload_n 0, 1) := by decide +kernel
theorem dX10_obeyAll_13 : decode cX10_obeyAll 13 = .ok (.aload_n 0, 1) := by decide +kernel
theorem dX10_obeyAll_14 : decode cX10_obeyAll 14 = .ok (.getfield 20, 3) := by decide +kernel
theorem dX10_obeyAll_17 : decode cX10_obeyAll 17 = .ok (.iload_n 2, 1) := by decide +kernel
theorem dX10_obeyAll_18 : decode cX10_obeyAll 18 = .ok (.aaload, 1) := by decide +kernel
theorem dX10_obeyAll_19 : decode cX10_obeyAll 19 = .ok (.invokevirtual 123, 3) := by decide +kernel
theorem dX10_obeyAll_22 : decode cX10_obeyAll 22 = .ok (.astore_n 3, 1) := by decide +kernel
theorem dX10_obeyAll_23 : decode cX10_obeyAll 23 = .ok (.aload_n 0, 1) := by decide +kernel
theorem dX10_obeyAll_24 : decode cX10_obeyAll 24 = .ok (.getfield 20, 3) := by decide +kernel
theorem dX10_obeyAll_27 : decode cX10_obeyAll 27 = .ok (.iload_n 2, 1) := by decide +kernel
theorem dX10_obeyAll_28 : decode cX10_obeyAll 28 = .ok (.aaload, 1) := by decide +kernel
theorem dX10_obeyAll_29 : decode cX10_obeyAll 29 = .ok (.getfield 107, 3) := by decide +kernel
theorem dX10_obeyAll_32 : decode cX10_obeyAll 32 = .ok (.ifCond .ne 24, 3) := by decide +kernel
theorem dX10_obeyAll_35 : decode cX10_obeyAll 35 = .ok (.aload_n 3, 1) := by decide +kernel
theorem dX10_obeyAll_36 : decode cX10_obeyAll 36 = .ok (.ifnull 20, 3) := by decide +kernel
theorem dX10_obeyAll_39 : decode cX10_obeyAll 39 = .ok (.aload_n 0, 1) := by decide +kernel
theorem dX10_obeyAll_40 : decode cX10_obeyAll 40 = .ok (.aload_n 0, 1) := by decide +kernel
theorem dX10_obeyAll_41 : decode cX10_obeyAll 41 = .ok (.getfield 20, 3) := by decide +kernel
theorem dX10_obeyAll_44 : decode cX10_obeyAll 44 = .ok (.iload_n 2, 1) := by decide +kernel
theorem dX10_obeyAll_45 : decode cX10_obeyAll 45 = .ok (.aaload, 1) := by decide +kernel
