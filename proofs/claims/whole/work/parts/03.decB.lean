theorem dX3_init_0 : decode cX3_init 0 = .ok (.aload_n 0, 1) := by decide +kernel
theorem dX3_init_1 : decode cX3_init 1 = .ok (.invokespecial 1, 3) := by decide +kernel
theorem dX3_init_4 : decode cX3_init 4 = .ok (.aload_n 0, 1) := by decide +kernel
theorem dX3_init_5 : decode cX3_init 5 = .ok (.bipush 8, 2) := by decide +kernel
theorem dX3_init_7 : decode cX3_init 7 = .ok (.newarray .boolean, 2) := by decide +kernel
theorem dX3_init_9 : decode cX3_init 9 = .ok (.putfield 7, 3) := by decide +kernel
theorem dX3_init_12 : decode cX3_init 12 = .ok (.aload_n 0, 1) := by decide +kernel
theorem dX3_init_13 : decode cX3_init 13 = .ok (.bipush 8, 2) := by decide +kernel
theorem dX3_init_15 : decode cX3_init 15 = .ok (.newarray .int, 2) := by decide +kernel
theorem dX3_init_17 : decode cX3_init 17 = .ok (.putfield 13, 3) := by decide +kernel
theorem dX3_init_20 : decode cX3_init 20 = .ok (.aload_n 0, 1) := by decide +kernel
theorem dX3_init_21 : decode cX3_init 21 = .ok (.bipush 64, 2) := by decide +kernel
theorem dX3_init_23 : decode cX3_init 23 = .ok (.newarray .boolean, 2) := by decide +kernel
theorem dX3_init_25 : decode cX3_init 25 = .ok (.putfield 17, 3) := by decide +kernel
theorem dX3_init_28 : decode cX3_init 28 = .ok (.aload_n 0, 1) := by decide +kernel
theorem dX3_init_29 : decode cX3_init 29 = .ok (.bipush 64, 2) := by decide +kernel
theorem dX3_init_31 : decode cX3_init 31 = .ok (.newarray .int, 2) := by decide +kernel
theorem dX3_init_33 : decode cX3_init 33 = .ok (.putfield 20, 3) := by decide +kernel
theorem dX3_init_36 : decode cX3_init 36 = .ok (.aload_n 0, 1) := by decide +kernel
theorem dX3_init_37 : decode cX3_init 37 = .ok (.bipush 64, 2) := by decide +kernel
theorem dX3_init_39 : decode cX3_init 39 = .ok (.newarray .int, 2) := by decide +kernel
theorem dX3_init_41 : decode cX3_init 41 = .ok (.putfield 23, 3) := by decide +kernel
theorem dX3_init_44 : decode cX3_init 44 = .ok (.aload_n 0, 1) := by decide +kernel
theorem dX3_init_45 : decode cX3_init 45 = .ok (.bipush 64, 2) := by decide +kernel
theorem dX3_init_47 : decode cX3_init 47 = .ok (.newarray .boolean, 2) := by decide +kernel
theorem dX3_init_49 : decode cX3_init 49 = .ok (.putfield 26, 3) := by decide +kernel
theorem dX3_init_52 : decode cX3_init 52 = .ok (.aload_n 0, 1) := by decide +kernel
theorem dX3_init_53 : decode cX3_init 53 = .ok (.bipush 64, 2) := by decide +kernel
theorem dX3_init_55 : decode cX3_init 55 = .ok (.newarray .int, 2) := by decide +kernel
theorem dX3_init_57 : decode cX3_init 57 = .ok (.putfield 29, 3) := by decide +kernel
theorem dX3_init_60 : decode cX3_init 60 = .ok (.aload_n 0, 1) := by decide +kernel
theorem dX3_init_61 : decode cX3_init 61 = .ok (.bipush 64, 2) := by decide +kernel
theorem dX3_init_63 : decode cX3_init 63 = .ok (.newarray .int, 2) := by decide +kernel
theorem dX3_init_65 : decode cX3_init 65 = .ok (.putfield 32, 3) := by decide +kernel
theorem dX3_init_68 : decode cX3_init 68 = .ok (.aload_n 0, 1) := by decide +kernel
theorem dX3_init_69 : decode cX3_init 69 = .ok (.sipush 512, 3) := by decide +kernel
theorem dX3_init_72 : decode cX3_init 72 = .ok (.newarray .int, 2) := by decide +kernel
theorem dX3_init_74 : decode cX3_init 74 = .ok (.putfield 35, 3) := by decide +kernel
theorem dX3_init_77 : decode cX3_init 77 = .ok (.aload_n 0, 1) := by decide +kernel
theorem dX3_init_78 : decode cX3_init 78 = .ok (.sipush 512, 3) := by decide +kernel
theorem dX3_init_81 : decode cX3_init 81 = .ok (.newarray .int, 2) := by decide +kernel
theorem dX3_init_83 : decode cX3_init 83 = .ok (.putfield 38, 3) := by decide +kernel
theorem dX3_init_86 : decode cX3_init 86 = .ok (.aload_n 0, 1) := by decide +kernel
theorem dX3_init_87 : decode cX3_init 87 = .ok (.sipush 512, 3) := by decide +kernel
theorem dX3_init_90 : decode cX3_init 90 = .ok (.newarray .int, 2) := by decide +kernel
theorem dX3_init_92 : decode cX3_init 92 = .ok (.putfield 41, 3) := by decide +kernel
theorem dX3_init_95 : decode cX3_init 95 = .ok (.aload_n 0, 1) := by decide +kernel
theorem dX3_init_96 : decode cX3_init 96 = .ok (.sipush 512, 3) := by decide +kernel
theorem dX3_init_99 : decode cX3_init 99 = .ok (.newarray .int, 2) := by decide +kernel
theorem dX3_init_101 : decode cX3_init 101 = .ok (.putfield 44, 3) := by decide +kernel
theorem dX3_init_104 : decode cX3_init 104 = .ok (.aload_n 0, 1) := by decide +kernel
theorem dX3_init_105 : decode cX3_init 105 = .ok (.sipush 4096, 3) := by decide +kernel
theorem dX3_init_108 : decode cX3_init 108 = .ok (.newarray .int, 2) := by decide +kernel
theorem dX3_init_110 : decode cX3_init 110 = .ok (.putfield 47, 3) := by decide +kernel
theorem dX3_init_113 : decode cX3_init 113 = .ok (.aload_n 0, 1) := by decide +kernel
theorem dX3_init_114 : decode cX3_init 114 = .ok (.bipush 20, 2) := by decide +kernel
theorem dX3_init_116 : decode cX3_init 116 = .ok (.newarray .int, 2) := by decide +kernel
theorem dX3_init_118 : decode cX3_init 118 = .ok (.putfield 50, 3) := by decide +kernel
theorem dX3_init_121 : decode cX3_init 121 = .ok (.aload_n 0, 1) := by decide +kernel
theorem dX3_init_122 : decode cX3_init 122 = .ok (.bipush 20, 2) := by decide +kernel
theorem dX3_init_124 : decode cX3_init 124 = .ok (.newarray .int, 2) := by decide +kernel
theorem dX3_init_126 : decode cX3_init 126 = .ok (.putfield 53, 3) := by decide +kernel
theorem dX3_init_129 : decode cX3_init 129 = .ok (.aload_n 0, 1) := by decide +kernel
theorem dX3_init_130 : decode cX3_init 130 = .ok (.bipush 20, 2) := by decide +kernel
theorem dX3_init_132 : decode cX3_init 132 = .ok (.newarray .int, 2) := by decide +kernel
theorem dX3_init_134 : decode cX3_init 134 = .ok (.putfield 56, 3) := by decide +kernel
theorem dX3_init_137 : decode cX3_init 137 = .ok (.aload_n 0, 1) := by decide +kernel
theorem dX3_init_138 : decode cX3_init 138 = .ok (.bipush 20, 2) := by decide +kernel
theorem dX3_init_140 : decode cX3_init 140 = .ok (.newarray .int, 2) := by decide +kernel
theorem dX3_init_142 : decode cX3_init 142 = .ok (.putfield 59, 3) := by decide +kernel
theorem dX3_init_145 : decode cX3_init 145 = .ok (.aload_n 0, 1) := by decide +kernel
theorem dX3_init_146 : decode cX3_init 146 = .ok (.bipush 20, 2) := by decide +kernel
theorem dX3_init_148 : decode cX3_init 148 = .ok (.newarray .int, 2) := by decide +kernel
theorem dX3_init_150 : decode cX3_init 150 = .ok (.putfield 62, 3) := by decide +kernel
theorem dX3_init_153 : decode cX3_init 153 = .ok (.aload_n 0, 1) := by decide +kernel
theorem dX3_init_154 : decode cX3_init 154 = .ok (.bipush 20, 2) := by decide +kernel
theorem dX3_init_156 : decode cX3_init 156 = .ok (.newarray .int, 2) := by decide +kernel
theorem dX3_init_158 : decode cX3_init 158 = .ok (.putfield 65, 3) := by decide +kernel
theorem dX3_init_161 : decode cX3_init 161 = .ok (.aload_n 0, 1) := by decide +kernel
theorem dX3_init_162 : decode cX3_init 162 = .ok (.bipush 20, 2) := by decide +kernel
theorem dX3_init_164 : decode cX3_init 164 = .ok (.newarray .int, 2) := by decide +kernel
theorem dX3_init_166 : decode cX3_init 166 = .ok (.putfield 68, 3) := by decide +kernel
theorem dX3_init_169 : decode cX3_init 169 = .ok (.aload_n 0, 1) := by decide +kernel
theorem dX3_init_170 : decode cX3_init 170 = .ok (.sipush 800, 3) := by decide +kernel
theorem dX3_init_173 : decode cX3_init 173 = .ok (.newarray .int, 2) := by decide +kernel
theorem dX3_init_175 : decode cX3_init 175 = .ok (.putfield 71, 3) := by decide +kernel
theorem dX3_init_178 : decode cX3_init 178 = .ok (.aload_n 0, 1) := by decide +kernel
theorem dX3_init_179 : decode cX3_init 179 = .ok (.bipush 8, 2) := by decide +kernel
theorem dX3_init_181 : decode cX3_init 181 = .ok (.newarray .int, 2) := by decide +kernel
theorem dX3_init_183 : decode cX3_init 183 = .ok (.putfield 74, 3) := by decide +kernel
theorem dX3_init_186 : decode cX3_init 186 = .ok (.aload_n 0, 1) := by decide +kernel
theorem dX3_init_187 : decode cX3_init 187 = .ok (.bipush 64, 2) := by decide +kernel
theorem dX3_init_189 : decode cX3_init 189 = .ok (.newarray .boolean, 2) := by decide +kernel
theorem dX3_init_191 : decode cX3_init 191 = .ok (.putfield 77, 3) := by decide +kernel
theorem dX3_init_194 : decode cX3_init 194 = .ok (.return_, 1) := by decide +kernel
theorem dX3_thrown_0 : decode cX3_thrown 0 = .ok (.aload_n 0, 1) := by decide +kernel
theorem dX3_thrown_1 : decode cX3_thrown 1 = .ok (.getfield 80, 3) := by decide +kernel
theorem dX3_thrown_4 : decode cX3_thrown 4 = .ok (.ireturn, 1) := by decide +kernel
theorem dX3_goes_0 : decode cX3_goes 0 = .ok (.aload_n 0, 1) := by decide +kernel
theorem dX3_goes_1 : decode cX3_goes 1 = .ok (.iload_n 1, 1) := by decide +kernel
theorem dX3_goes_2 : decode cX3_goes 2 = .ok (.ifCond .ne 7, 3) := by decide +kernel
theorem dX3_goes_5 : decode cX3_goes 5 = .ok (.iconst 1, 1) := by decide +kernel
theorem dX3_goes_6 : decode cX3_goes 6 = .ok (.goto 12, 3) := by decide +kernel
theorem dX3_goes_9 : decode cX3_goes 9 = .ok (.iload_n 2, 1) := by decide +kernel
theorem dX3_goes_10 : decode cX3_goes 10 = .ok (.ifCond .ne 7, 3) := by decide +kernel
theorem dX3_goes_13 : decode cX3_goes 13 = .ok (.iconst 2, 1) := by decide +kernel
theorem dX3_goes_14 : decode cX3_goes 14 = .ok (.goto 4, 3) := by decide +kernel
theorem dX3_goes_17 : decode cX3_goes 17 = .ok (.iconst 0, 1) := by decide +kernel
theorem dX3_goes_18 : decode cX3_goes 18 = .ok (.putfield 80, 3) := by decide +kernel
theorem dX3_goes_21 : decode cX3_goes 21 = .ok (.aload_n 0, 1) := by decide +kernel
theorem dX3_goes_22 : decode cX3_goes 22 = .ok (.getfield 80, 3) := by decide +kernel
theorem dX3_goes_25 : decode cX3_goes 25 = .ok (.ifCond .ne 7, 3) := by decide +kernel
theorem dX3_goes_28 : decode cX3_goes 28 = .ok (.iconst 1, 1) := by decide +kernel
theorem dX3_goes_29 : decode cX3_goes 29 = .ok (.goto 4, 3) := by decide +kernel
theorem dX3_goes_32 : decode cX3_goes 32 = .ok (.iconst 0, 1) := by decide +kernel
theorem dX3_goes_33 : decode cX3_goes 33 = .ok (.ireturn, 1) := by decide +kernel
theorem dX3_in_0 : decode cX3_in 0 = .ok (.iload_n 0, 1) := by decide +kernel
theorem dX3_in_1 : decode cX3_in 1 = .ok (.iload_n 1, 1) := by decide +kernel
theorem dX3_in_2 : decode cX3_in 2 = .ok (.if_icmp .lt 12, 3) := by decide +kernel
theorem dX3_in_5 : decode cX3_in 5 = .ok (.iload_n 0, 1) := by decide +kernel
theorem dX3_in_6 : decode cX3_in 6 = .ok (.iload_n 2, 1) := by decide +kernel
theorem dX3_in_7 : decode cX3_in 7 = .ok (.if_icmp .gt 7, 3) := by decide +kernel
theorem dX3_in_10 : decode cX3_in 10 = .ok (.iconst 1, 1) := by decide +kernel
theorem dX3_in_11 : decode cX3_in 11 = .ok (.goto 4, 3) := by decide +kernel
theorem dX3_in_14 : decode cX3_in 14 = .ok (.iconst 0, 1) := by decide +kernel
theorem dX3_in_15 : decode cX3_in 15 = .ok (.ireturn, 1) := by decide +kernel
theorem dX3_isNode_0 : decode cX3_isNode 0 = .ok (.iload_n 0, 1) := by decide +kernel
theorem dX3_isNode_1 : decode cX3_isNode 1 = .ok (.iconst 0, 1) := by decide +kernel
theorem dX3_isNode_2 : decode cX3_isNode 2 = .ok (.bipush 7, 2) := by decide +kernel
theorem dX3_isNode_4 : decode cX3_isNode 4 = .ok (.invokestatic 84, 3) := by decide +kernel
theorem dX3_isNode_7 : decode cX3_isNode 7 = .ok (.ireturn, 1) := by decide +kernel
theorem dX3_haveLink_0 : decode cX3_haveLink 0 = .ok (.iload_n 1, 1) := by decide +kernel
theorem dX3_haveLink_1 : decode cX3_haveLink 1 = .ok (.invokestatic 88, 3) := by decide +kernel
theorem dX3_haveLink_4 : decode cX3_haveLink 4 = .ok (.ifCond .eq 28, 3) := by decide +kernel
theorem dX3_haveLink_7 : decode cX3_haveLink 7 = .ok (.iload_n 2, 1) := by decide +kernel
theorem dX3_haveLink_8 : decode cX3_haveLink 8 = .ok (.invokestatic 88, 3) := by decide +kernel
theorem dX3_haveLink_11 : decode cX3_haveLink 11 = .ok (.ifCond .eq 21, 3) := by decide +kernel
theorem dX3_haveLink_14 : decode cX3_haveLink 14 = .ok (.aload_n 0, 1) := by decide +kernel
theorem dX3_haveLink_15 : decode cX3_haveLink 15 = .ok (.getfield 17, 3) := by decide +kernel
theorem dX3_haveLink_18 : decode cX3_haveLink 18 = .ok (.bipush 8, 2) := by decide +kernel
theorem dX3_haveLink_20 : decode cX3_haveLink 20 = .ok (.iload_n 1, 1) := by decide +kernel
theorem dX3_haveLink_21 : decode cX3_haveLink 21 = .ok (.imul, 1) := by decide +kernel
theorem dX3_haveLink_22 : decode cX3_haveLink 22 = .ok (.iload_n 2, 1) := by decide +kernel
theorem dX3_haveLink_23 : decode cX3_haveLink 23 = .ok (.iadd, 1) := by decide +kernel
theorem dX3_haveLink_24 : decode cX3_haveLink 24 = .ok (.baload, 1) := by decide +kernel
theorem dX3_haveLink_25 : decode cX3_haveLink 25 = .ok (.ifCond .eq 7, 3) := by decide +kernel
theorem dX3_haveLink_28 : decode cX3_haveLink 28 = .ok (.iconst 1, 1) := by decide +kernel
theorem dX3_haveLink_29 : decode cX3_haveLink 29 = .ok (.goto 4, 3) := by decide +kernel
theorem dX3_haveLink_32 : decode cX3_haveLink 32 = .ok (.iconst 0, 1) := by decide +kernel
theorem dX3_haveLink_33 : decode cX3_haveLink 33 = .ok (.ireturn, 1) := by decide +kernel
theorem dX3_carries_0 : decode cX3_carries 0 = .ok (.aload_n 0, 1) := by decide +kernel
theorem dX3_carries_1 : decode cX3_carries 1 = .ok (.getfield 17, 3) := by decide +kernel
theorem dX3_carries_4 : decode cX3_carries 4 = .ok (.bipush 8, 2) := by decide +kernel
theorem dX3_carries_6 : decode cX3_carries 6 = .ok (.iload_n 1, 1) := by decide +kernel
theorem dX3_carries_7 : decode cX3_carries 7 = .ok (.imul, 1) := by decide +kernel
theorem dX3_carries_8 : decode cX3_carries 8 = .ok (.iload_n 2, 1) := by decide +kernel
theorem dX3_carries_9 : decode cX3_carries 9 = .ok (.iadd, 1) := by decide +kernel
theorem dX3_carries_10 : decode cX3_carries 10 = .ok (.baload, 1) := by decide +kernel
theorem dX3_carries_11 : decode cX3_carries 11 = .ok (.ifCond .eq 39, 3) := by decide +kernel
theorem dX3_carries_14 : decode cX3_carries 14 = .ok (.aload_n 0, 1) := by decide +kernel
theorem dX3_carries_15 : decode cX3_carries 15 = .ok (.getfield 26, 3) := by decide +kernel
theorem dX3_carries_18 : decode cX3_carries 18 = .ok (.bipush 8, 2) := by decide +kernel
theorem dX3_carries_20 : decode cX3_carries 20 = .ok (.iload_n 1, 1) := by decide +kernel
theorem dX3_carries_21 : decode cX3_carries 21 = .ok (.imul, 1) := by decide +kernel
theorem dX3_carries_22 : decode cX3_carries 22 = .ok (.iload_n 2, 1) := by decide +kernel
theorem dX3_carries_23 : decode cX3_carries 23 = .ok (.iadd, 1) := by decide +kernel
theorem dX3_carries_24 : decode cX3_carries 24 = .ok (.baload, 1) := by decide +kernel
theorem dX3_carries_25 : decode cX3_carries 25 = .ok (.ifCond .eq 25, 3) := by decide +kernel
theorem dX3_carries_28 : decode cX3_carries 28 = .ok (.aload_n 0, 1) := by decide +kernel
theorem dX3_carries_29 : decode cX3_carries 29 = .ok (.getfield 7, 3) := by decide +kernel
theorem dX3_carries_32 : decode cX3_carries 32 = .ok (.iload_n 1, 1) := by decide +kernel
theorem dX3_carries_33 : decode cX3_carries 33 = .ok (.baload, 1) := by decide +kernel
theorem dX3_carries_34 : decode cX3_carries 34 = .ok (.ifCond .eq 16, 3) := by decide +kernel
theorem dX3_carries_37 : decode cX3_carries 37 = .ok (.aload_n 0, 1) := by decide +kernel
theorem dX3_carries_38 : decode cX3_carries 38 = .ok (.getfield 7, 3) := by decide +kernel
theorem dX3_carries_41 : decode cX3_carries 41 = .ok (.iload_n 2, 1) := by decide +kernel
theorem dX3_carries_42 : decode cX3_carries 42 = .ok (.baload, 1) := by decide +kernel
theorem dX3_carries_43 : decode cX3_carries 43 = .ok (.ifCond .eq 7, 3) := by decide +kernel
theorem dX3_carries_46 : decode cX3_carries 46 = .ok (.iconst 1, 1) := by decide +kernel
theorem dX3_carries_47 : decode cX3_carries 47 = .ok (.goto 4, 3) := by decide +kernel
theorem dX3_carries_50 : decode cX3_carries 50 = .ok (.iconst 0, 1) := by decide +kernel
theorem dX3_carries_51 : decode cX3_carries 51 = .ok (.ireturn, 1) := by decide +kernel
theorem dX3_pass_0 : decode cX3_pass 0 = .ok (.bipush 8, 2) := by decide +kernel
theorem dX3_pass_2 : decode cX3_pass 2 = .ok (.iload_n 1, 1) := by decide +kernel
theorem dX3_pass_3 : decode cX3_pass 3 = .ok (.imul, 1) := by decide +kernel
theorem dX3_pass_4 : decode cX3_pass 4 = .ok (.iload_n 3, 1) := by decide +kernel
theorem dX3_pass_5 : decode cX3_pass 5 = .ok (.iadd, 1) := by decide +kernel
theorem dX3_pass_6 : decode cX3_pass 6 = .ok (.istore 4, 2) := by decide +kernel
theorem dX3_pass_8 : decode cX3_pass 8 = .ok (.bipush 64, 2) := by decide +kernel
theorem dX3_pass_10 : decode cX3_pass 10 = .ok (.iload_n 1, 1) := by decide +kernel
theorem dX3_pass_11 : decode cX3_pass 11 = .ok (.imul, 1) := by decide +kernel
theorem dX3_pass_12 : decode cX3_pass 12 = .ok (.bipush 8, 2) := by decide +kernel
theorem dX3_pass_14 : decode cX3_pass 14 = .ok (.iload_n 2, 1) := by decide +kernel
theorem dX3_pass_15 : decode cX3_pass 15 = .ok (.imul, 1) := by decide +kernel
theorem dX3_pass_16 : decode cX3_pass 16 = .ok (.iadd, 1) := by decide +kernel
theorem dX3_pass_17 : decode cX3_pass 17 = .ok (.iload_n 3, 1) := by decide +kernel
theorem dX3_pass_18 : decode cX3_pass 18 = .ok (.iadd, 1) := by decide +kernel
theorem dX3_pass_19 : decode cX3_pass 19 = .ok (.istore 5, 2) := by decide +kernel
theorem dX3_pass_21 : decode cX3_pass 21 = .ok (.aload_n 0, 1) := by decide +kernel
theorem dX3_pass_22 : decode cX3_pass 22 = .ok (.getfield 29, 3) := by decide +kernel
theorem dX3_pass_25 : decode cX3_pass 25 = .ok (.iload 4, 2) := by decide +kernel
theorem dX3_pass_27 : decode cX3_pass 27 = .ok (.iaload, 1) := by decide +kernel
theorem dX3_pass_28 : decode cX3_pass 28 = .ok (.ifCond .eq 29, 3) := by decide +kernel
theorem dX3_pass_31 : decode cX3_pass 31 = .ok (.aload_n 0, 1) := by decide +kernel
theorem dX3_pass_32 : decode cX3_pass 32 = .ok (.iload_n 1, 1) := by decide +kernel
theorem dX3_pass_33 : decode cX3_pass 33 = .ok (.iload_n 2, 1) := by decide +kernel
theorem dX3_pass_34 : decode cX3_pass 34 = .ok (.invokevirtual 92, 3) := by decide +kernel
theorem dX3_pass_37 : decode cX3_pass 37 = .ok (.ifCond .eq 20, 3) := by decide +kernel
theorem dX3_pass_40 : decode cX3_pass 40 = .ok (.aload_n 0, 1) := by decide +kernel
theorem dX3_pass_41 : decode cX3_pass 41 = .ok (.getfield 38, 3) := by decide +kernel
theorem dX3_pass_44 : decode cX3_pass 44 = .ok (.iload 5, 2) := by decide +kernel
theorem dX3_pass_46 : decode cX3_pass 46 = .ok (.iaload, 1) := by decide +kernel
theorem dX3_pass_47 : decode cX3_pass 47 = .ok (.aload_n 0, 1) := by decide +kernel
theorem dX3_pass_48 : decode cX3_pass 48 = .ok (.getfield 29, 3) := by decide +kernel
theorem dX3_pass_51 : decode cX3_pass 51 = .ok (.iload 4, 2) := by decide +kernel
theorem dX3_pass_53 : decode cX3_pass 53 = .ok (.iaload, 1) := by decide +kernel
theorem dX3_pass_54 : decode cX3_pass 54 = .ok (.if_icmp .lt 4, 3) := by decide +kernel
theorem dX3_pass_57 : decode cX3_pass 57 = .ok (.return_, 1) := by decide +kernel
theorem dX3_pass_58 : decode cX3_pass 58 = .ok (.aload_n 0, 1) := by decide +kernel
theorem dX3_pass_59 : decode cX3_pass 59 = .ok (.getfield 38, 3) := by decide +kernel
theorem dX3_pass_62 : decode cX3_pass 62 = .ok (.iload 5, 2) := by decide +kernel
theorem dX3_pass_64 : decode cX3_pass 64 = .ok (.aload_n 0, 1) := by decide +kernel
theorem dX3_pass_65 : decode cX3_pass 65 = .ok (.getfield 29, 3) := by decide +kernel
theorem dX3_pass_68 : decode cX3_pass 68 = .ok (.iload 4, 2) := by decide +kernel
theorem dX3_pass_70 : decode cX3_pass 70 = .ok (.iaload, 1) := by decide +kernel
theorem dX3_pass_71 : decode cX3_pass 71 = .ok (.iastore, 1) := by decide +kernel
theorem dX3_pass_72 : decode cX3_pass 72 = .ok (.aload_n 0, 1) := by decide +kernel
theorem dX3_pass_73 : decode cX3_pass 73 = .ok (.getfield 41, 3) := by decide +kernel
theorem dX3_pass_76 : decode cX3_pass 76 = .ok (.iload 5, 2) := by decide +kernel
theorem dX3_pass_78 : decode cX3_pass 78 = .ok (.aload_n 0, 1) := by decide +kernel
theorem dX3_pass_79 : decode cX3_pass 79 = .ok (.getfield 32, 3) := by decide +kernel
theorem dX3_pass_82 : decode cX3_pass 82 = .ok (.iload 4, 2) := by decide +kernel
theorem dX3_pass_84 : decode cX3_pass 84 = .ok (.iaload, 1) := by decide +kernel
theorem dX3_pass_85 : decode cX3_pass 85 = .ok (.iastore, 1) := by decide +kernel
theorem dX3_pass_86 : decode cX3_pass 86 = .ok (.aload_n 0, 1) := by decide +kernel
theorem dX3_pass_87 : decode cX3_pass 87 = .ok (.getfield 44, 3) := by decide +kernel
theorem dX3_pass_90 : decode cX3_pass 90 = .ok (.iload 5, 2) := by decide +kernel
theorem dX3_pass_92 : decode cX3_pass 92 = .ok (.aload_n 0, 1) := by decide +kernel
theorem dX3_pass_93 : decode cX3_pass 93 = .ok (.getfield 96, 3) := by decide +kernel
theorem dX3_pass_96 : decode cX3_pass 96 = .ok (.aload_n 0, 1) := by decide +kernel
theorem dX3_pass_97 : decode cX3_pass 97 = .ok (.getfield 23, 3) := by decide +kernel
theorem dX3_pass_100 : decode cX3_pass 100 = .ok (.bipush 8, 2) := by decide +kernel
theorem dX3_pass_102 : decode cX3_pass 102 = .ok (.iload_n 1, 1) := by decide +kernel
theorem dX3_pass_103 : decode cX3_pass 103 = .ok (.imul, 1) := by decide +kernel
theorem dX3_pass_104 : decode cX3_pass 104 = .ok (.iload_n 2, 1) := by decide +kernel
theorem dX3_pass_105 : decode cX3_pass 105 = .ok (.iadd, 1) := by decide +kernel
theorem dX3_pass_106 : decode cX3_pass 106 = .ok (.iaload, 1) := by decide +kernel
theorem dX3_pass_107 : decode cX3_pass 107 = .ok (.iadd, 1) := by decide +kernel
theorem dX3_pass_108 : decode cX3_pass 108 = .ok (.iastore, 1) := by decide +kernel
theorem dX3_pass_109 : decode cX3_pass 109 = .ok (.iconst 0, 1) := by decide +kernel
theorem dX3_pass_110 : decode cX3_pass 110 = .ok (.istore 6, 2) := by decide +kernel
theorem dX3_pass_112 : decode cX3_pass 112 = .ok (.iload 6, 2) := by decide +kernel
theorem dX3_pass_114 : decode cX3_pass 114 = .ok (.bipush 8, 2) := by decide +kernel
theorem dX3_pass_116 : decode cX3_pass 116 = .ok (.if_icmp .ge 35, 3) := by decide +kernel
theorem dX3_pass_119 : decode cX3_pass 119 = .ok (.aload_n 0, 1) := by decide +kernel
theorem dX3_pass_120 : decode cX3_pass 120 = .ok (.getfield 47, 3) := by decide +kernel
theorem dX3_pass_123 : decode cX3_pass 123 = .ok (.bipush 8, 2) := by decide +kernel
theorem dX3_pass_125 : decode cX3_pass 125 = .ok (.iload 5, 2) := by decide +kernel
theorem dX3_pass_127 : decode cX3_pass 127 = .ok (.imul, 1) := by decide +kernel
theorem dX3_pass_128 : decode cX3_pass 128 = .ok (.iload 6, 2) := by decide +kernel
theorem dX3_pass_130 : decode cX3_pass 130 = .ok (.iadd, 1) := by decide +kernel
theorem dX3_pass_131 : decode cX3_pass 131 = .ok (.aload_n 0, 1) := by decide +kernel
theorem dX3_pass_132 : decode cX3_pass 132 = .ok (.getfield 35, 3) := by decide +kernel
theorem dX3_pass_135 : decode cX3_pass 135 = .ok (.bipush 8, 2) := by decide +kernel
theorem dX3_pass_137 : decode cX3_pass 137 = .ok (.iload 4, 2) := by decide +kernel
theorem dX3_pass_139 : decode cX3_pass 139 = .ok (.imul, 1) := by decide +kernel
theorem dX3_pass_140 : decode cX3_pass 140 = .ok (.iload 6, 2) := by decide +kernel
theorem dX3_pass_142 : decode cX3_pass 142 = .ok (.iadd, 1) := by decide +kernel
theorem dX3_pass_143 : decode cX3_pass 143 = .ok (.iaload, 1) := by decide +kernel
theorem dX3_pass_144 : decode cX3_pass 144 = .ok (.iastore, 1) := by decide +kernel
theorem dX3_pass_145 : decode cX3_pass 145 = .ok (.iinc 6 1, 3) := by decide +kernel
theorem dX3_pass_148 : decode cX3_pass 148 = .ok (.goto (-36), 3) := by decide +kernel
theorem dX3_pass_151 : decode cX3_pass 151 = .ok (.return_, 1) := by decide +kernel
theorem dX3_tell_0 : decode cX3_tell 0 = .ok (.aload_n 0, 1) := by decide +kernel
theorem dX3_tell_1 : decode cX3_tell 1 = .ok (.getfield 13, 3) := by decide +kernel
theorem dX3_tell_4 : decode cX3_tell 4 = .ok (.iload_n 1, 1) := by decide +kernel
theorem dX3_tell_5 : decode cX3_tell 5 = .ok (.dup2, 1) := by decide +kernel
theorem dX3_tell_6 : decode cX3_tell 6 = .ok (.iaload, 1) := by decide +kernel
theorem dX3_tell_7 : decode cX3_tell 7 = .ok (.iconst 1, 1) := by decide +kernel
theorem dX3_tell_8 : decode cX3_tell 8 = .ok (.iadd, 1) := by decide +kernel
theorem dX3_tell_9 : decode cX3_tell 9 = .ok (.iastore, 1) := by decide +kernel
theorem dX3_tell_10 : decode cX3_tell 10 = .ok (.bipush 8, 2) := by decide +kernel
theorem dX3_tell_12 : decode cX3_tell 12 = .ok (.iload_n 1, 1) := by decide +kernel
theorem dX3_tell_13 : decode cX3_tell 13 = .ok (.imul, 1) := by decide +kernel
theorem dX3_tell_14 : decode cX3_tell 14 = .ok (.iload_n 1, 1) := by decide +kernel
theorem dX3_tell_15 : decode cX3_tell 15 = .ok (.iadd, 1) := by decide +kernel
theorem dX3_tell_16 : decode cX3_tell 16 = .ok (.istore_n 2, 1) := by decide +kernel
theorem dX3_tell_17 : decode cX3_tell 17 = .ok (.aload_n 0, 1) := by decide +kernel
theorem dX3_tell_18 : decode cX3_tell 18 = .ok (.getfield 29, 3) := by decide +kernel
theorem dX3_tell_21 : decode cX3_tell 21 = .ok (.iload_n 2, 1) := by decide +kernel
theorem dX3_tell_22 : decode cX3_tell 22 = .ok (.aload_n 0, 1) := by decide +kernel
theorem dX3_tell_23 : decode cX3_tell 23 = .ok (.getfield 13, 3) := by decide +kernel
theorem dX3_tell_26 : decode cX3_tell 26 = .ok (.iload_n 1, 1) := by decide +kernel
theorem dX3_tell_27 : decode cX3_tell 27 = .ok (.iaload, 1) := by decide +kernel
theorem dX3_tell_28 : decode cX3_tell 28 = .ok (.iastore, 1) := by decide +kernel
theorem dX3_tell_29 : decode cX3_tell 29 = .ok (.aload_n 0, 1) := by decide +kernel
theorem dX3_tell_30 : decode cX3_tell 30 = .ok (.getfield 32, 3) := by decide +kernel
theorem dX3_tell_33 : decode cX3_tell 33 = .ok (.iload_n 2, 1) := by decide +kernel
theorem dX3_tell_34 : decode cX3_tell 34 = .ok (.iconst 0, 1) := by decide +kernel
theorem dX3_tell_35 : decode cX3_tell 35 = .ok (.iastore, 1) := by decide +kernel
theorem dX3_tell_36 : decode cX3_tell 36 = .ok (.iconst 0, 1) := by decide +kernel
theorem dX3_tell_37 : decode cX3_tell 37 = .ok (.istore_n 3, 1) := by decide +kernel
theorem dX3_tell_38 : decode cX3_tell 38 = .ok (.iload_n 3, 1) := by decide +kernel
theorem dX3_tell_39 : decode cX3_tell 39 = .ok (.bipush 8, 2) := by decide +kernel
theorem dX3_tell_41 : decode cX3_tell 41 = .ok (.if_icmp .ge 44, 3) := by decide +kernel
theorem dX3_tell_44 : decode cX3_tell 44 = .ok (.aload_n 0, 1) := by decide +kernel
theorem dX3_tell_45 : decode cX3_tell 45 = .ok (.getfield 35, 3) := by decide +kernel
theorem dX3_tell_48 : decode cX3_tell 48 = .ok (.bipush 8, 2) := by decide +kernel
theorem dX3_tell_50 : decode cX3_tell 50 = .ok (.iload_n 2, 1) := by decide +kernel
theorem dX3_tell_51 : decode cX3_tell 51 = .ok (.imul, 1) := by decide +kernel
theorem dX3_tell_52 : decode cX3_tell 52 = .ok (.iload_n 3, 1) := by decide +kernel
theorem dX3_tell_53 : decode cX3_tell 53 = .ok (.iadd, 1) := by decide +kernel
theorem dX3_tell_54 : decode cX3_tell 54 = .ok (.aload_n 0, 1) := by decide +kernel
theorem dX3_tell_55 : decode cX3_tell 55 = .ok (.iload_n 1, 1) := by decide +kernel
theorem dX3_tell_56 : decode cX3_tell 56 = .ok (.iload_n 3, 1) := by decide +kernel
theorem dX3_tell_57 : decode cX3_tell 57 = .ok (.invokevirtual 92, 3) := by decide +kernel
theorem dX3_tell_60 : decode cX3_tell 60 = .ok (.ifCond .eq 17, 3) := by decide +kernel
theorem dX3_tell_63 : decode cX3_tell 63 = .ok (.aload_n 0, 1) := by decide +kernel
theorem dX3_tell_64 : decode cX3_tell 64 = .ok (.getfield 20, 3) := by decide +kernel
theorem dX3_tell_67 : decode cX3_tell 67 = .ok (.bipush 8, 2) := by decide +kernel
theorem dX3_tell_69 : decode cX3_tell 69 = .ok (.iload_n 1, 1) := by decide +kernel
theorem dX3_tell_70 : decode cX3_tell 70 = .ok (.imul, 1) := by decide +kernel
theorem dX3_tell_71 : decode cX3_tell 71 = .ok (.iload_n 3, 1) := by decide +kernel
theorem dX3_tell_72 : decode cX3_tell 72 = .ok (.iadd, 1) := by decide +kernel
theorem dX3_tell_73 : decode cX3_tell 73 = .ok (.iaload, 1) := by decide +kernel
theorem dX3_tell_74 : decode cX3_tell 74 = .ok (.goto 4, 3) := by decide +kernel
theorem dX3_tell_77 : decode cX3_tell 77 = .ok (.iconst 0, 1) := by decide +kernel
theorem dX3_tell_78 : decode cX3_tell 78 = .ok (.iastore, 1) := by decide +kernel
theorem dX3_tell_79 : decode cX3_tell 79 = .ok (.iinc 3 1, 3) := by decide +kernel
theorem dX3_tell_82 : decode cX3_tell 82 = .ok (.goto (-44), 3) := by decide +kernel
theorem dX3_tell_85 : decode cX3_tell 85 = .ok (.iconst 0, 1) := by decide +kernel
theorem dX3_tell_86 : decode cX3_tell 86 = .ok (.istore_n 3, 1) := by decide +kernel
theorem dX3_tell_87 : decode cX3_tell 87 = .ok (.iload_n 3, 1) := by decide +kernel
theorem dX3_tell_88 : decode cX3_tell 88 = .ok (.bipush 8, 2) := by decide +kernel
theorem dX3_tell_90 : decode cX3_tell 90 = .ok (.if_icmp .ge 16, 3) := by decide +kernel
theorem dX3_tell_93 : decode cX3_tell 93 = .ok (.aload_n 0, 1) := by decide +kernel
theorem dX3_tell_94 : decode cX3_tell 94 = .ok (.iload_n 1, 1) := by decide +kernel
theorem dX3_tell_95 : decode cX3_tell 95 = .ok (.iload_n 3, 1) := by decide +kernel
theorem dX3_tell_96 : decode cX3_tell 96 = .ok (.iload_n 1, 1) := by decide +kernel
theorem dX3_tell_97 : decode cX3_tell 97 = .ok (.invokevirtual 99, 3) := by decide +kernel
theorem dX3_tell_100 : decode cX3_tell 100 = .ok (.iinc 3 1, 3) := by decide +kernel
theorem dX3_tell_103 : decode cX3_tell 103 = .ok (.goto (-16), 3) := by decide +kernel
theorem dX3_tell_106 : decode cX3_tell 106 = .ok (.return_, 1) := by decide +kernel
theorem dX3_sendAll_0 : decode cX3_sendAll 0 = .ok (.iconst 0, 1) := by decide +kernel
theorem dX3_sendAll_1 : decode cX3_sendAll 1 = .ok (.istore_n 3, 1) := by decide +kernel
theorem dX3_sendAll_2 : decode cX3_sendAll 2 = .ok (.iload_n 3, 1) := by decide +kernel
theorem dX3_sendAll_3 : decode cX3_sendAll 3 = .ok (.bipush 8, 2) := by decide +kernel
theorem dX3_sendAll_5 : decode cX3_sendAll 5 = .ok (.if_icmp .ge 16, 3) := by decide +kernel
theorem dX3_sendAll_8 : decode cX3_sendAll 8 = .ok (.aload_n 0, 1) := by decide +kernel
theorem dX3_sendAll_9 : decode cX3_sendAll 9 = .ok (.iload_n 1, 1) := by decide +kernel
theorem dX3_sendAll_10 : decode cX3_sendAll 10 = .ok (.iload_n 2, 1) := by decide +kernel
theorem dX3_sendAll_11 : decode cX3_sendAll 11 = .ok (.iload_n 3, 1) := by decide +kernel
theorem dX3_sendAll_12 : decode cX3_sendAll 12 = .ok (.invokevirtual 99, 3) := by decide +kernel
theorem dX3_sendAll_15 : decode cX3_sendAll 15 = .ok (.iinc 3 1, 3) := by decide +kernel
theorem dX3_sendAll_18 : decode cX3_sendAll 18 = .ok (.goto (-16), 3) := by decide +kernel
theorem dX3_sendAll_21 : decode cX3_sendAll 21 = .ok (.return_, 1) := by decide +kernel
theorem dX3_receive_0 : decode cX3_receive 0 = .ok (.bipush 64, 2) := by decide +kernel
theorem dX3_receive_2 : decode cX3_receive 2 = .ok (.iload_n 1, 1) := by decide +kernel
theorem dX3_receive_3 : decode cX3_receive 3 = .ok (.imul, 1) := by decide +kernel
theorem dX3_receive_4 : decode cX3_receive 4 = .ok (.bipush 8, 2) := by decide +kernel
theorem dX3_receive_6 : decode cX3_receive 6 = .ok (.iload_n 2, 1) := by decide +kernel
theorem dX3_receive_7 : decode cX3_receive 7 = .ok (.imul, 1) := by decide +kernel
theorem dX3_receive_8 : decode cX3_receive 8 = .ok (.iadd, 1) := by decide +kernel
theorem dX3_receive_9 : decode cX3_receive 9 = .ok (.iload_n 3, 1) := by decide +kernel
theorem dX3_receive_10 : decode cX3_receive 10 = .ok (.iadd, 1) := by decide +kernel
theorem dX3_receive_11 : decode cX3_receive 11 = .ok (.istore 4, 2) := by decide +kernel
theorem dX3_receive_13 : decode cX3_receive 13 = .ok (.bipush 8, 2) := by decide +kernel
theorem dX3_receive_15 : decode cX3_receive 15 = .ok (.iload_n 2, 1) := by decide +kernel
theorem dX3_receive_16 : decode cX3_receive 16 = .ok (.imul, 1) := by decide +kernel
theorem dX3_receive_17 : decode cX3_receive 17 = .ok (.iload_n 3, 1) := by decide +kernel
theorem dX3_receive_18 : decode cX3_receive 18 = .ok (.iadd, 1) := by decide +kernel
theorem dX3_receive_19 : decode cX3_receive 19 = .ok (.istore 5, 2) := by decide +kernel
theorem dX3_receive_21 : decode cX3_receive 21 = .ok (.aload_n 0, 1) := by decide +kernel
theorem dX3_receive_22 : decode cX3_receive 22 = .ok (.getfield 38, 3) := by decide +kernel
theorem dX3_receive_25 : decode cX3_receive 25 = .ok (.iload 4, 2) := by decide +kernel
theorem dX3_receive_27 : decode cX3_receive 27 = .ok (.iaload, 1) := by decide +kernel
theorem dX3_receive_28 : decode cX3_receive 28 = .ok (.istore 6, 2) := by decide +kernel
theorem dX3_receive_30 : decode cX3_receive 30 = .ok (.aload_n 0, 1) := by decide +kernel
theorem dX3_receive_31 : decode cX3_receive 31 = .ok (.getfield 38, 3) := by decide +kernel
theorem dX3_receive_34 : decode cX3_receive 34 = .ok (.iload 4, 2) := by decide +kernel
theorem dX3_receive_36 : decode cX3_receive 36 = .ok (.iconst 0, 1) := by decide +kernel
theorem dX3_receive_37 : decode cX3_receive 37 = .ok (.iastore, 1) := by decide +kernel
theorem dX3_receive_38 : decode cX3_receive 38 = .ok (.iload_n 3, 1) := by decide +kernel
theorem dX3_receive_39 : decode cX3_receive 39 = .ok (.iload_n 2, 1) := by decide +kernel
theorem dX3_receive_40 : decode cX3_receive 40 = .ok (.if_icmp .ne 30, 3) := by decide +kernel
theorem dX3_receive_43 : decode cX3_receive 43 = .ok (.iload 6, 2) := by decide +kernel
theorem dX3_receive_45 : decode cX3_receive 45 = .ok (.aload_n 0, 1) := by decide +kernel
theorem dX3_receive_46 : decode cX3_receive 46 = .ok (.getfield 13, 3) := by decide +kernel
theorem dX3_receive_49 : decode cX3_receive 49 = .ok (.iload_n 2, 1) := by decide +kernel
theorem dX3_receive_50 : decode cX3_receive 50 = .ok (.iaload, 1) := by decide +kernel
theorem dX3_receive_51 : decode cX3_receive 51 = .ok (.if_icmp .le 148, 3) := by decide +kernel
theorem dX3_receive_54 : decode cX3_receive 54 = .ok (.aload_n 0, 1) := by decide +kernel
theorem dX3_receive_55 : decode cX3_receive 55 = .ok (.getfield 13, 3) := by decide +kernel
theorem dX3_receive_58 : decode cX3_receive 58 = .ok (.iload_n 2, 1) := by decide +kernel
theorem dX3_receive_59 : decode cX3_receive 59 = .ok (.iload 6, 2) := by decide +kernel
theorem dX3_receive_61 : decode cX3_receive 61 = .ok (.iastore, 1) := by decide +kernel
theorem dX3_receive_62 : decode cX3_receive 62 = .ok (.aload_n 0, 1) := by decide +kernel
theorem dX3_receive_63 : decode cX3_receive 63 = .ok (.iload_n 2, 1) := by decide +kernel
theorem dX3_receive_64 : decode cX3_receive 64 = .ok (.invokevirtual 103, 3) := by decide +kernel
theorem dX3_receive_67 : decode cX3_receive 67 = .ok (.goto 132, 3) := by decide +kernel
theorem dX3_receive_70 : decode cX3_receive 70 = .ok (.aload_n 0, 1) := by decide +kernel
theorem dX3_receive_71 : decode cX3_receive 71 = .ok (.getfield 29, 3) := by decide +kernel
theorem dX3_receive_74 : decode cX3_receive 74 = .ok (.iload 5, 2) := by decide +kernel
theorem dX3_receive_76 : decode cX3_receive 76 = .ok (.iaload, 1) := by decide +kernel
theorem dX3_receive_77 : decode cX3_receive 77 = .ok (.iload 6, 2) := by decide +kernel
theorem dX3_receive_79 : decode cX3_receive 79 = .ok (.if_icmp .ge 101, 3) := by decide +kernel
theorem dX3_receive_82 : decode cX3_receive 82 = .ok (.aload_n 0, 1) := by decide +kernel
theorem dX3_receive_83 : decode cX3_receive 83 = .ok (.getfield 29, 3) := by decide +kernel
theorem dX3_receive_86 : decode cX3_receive 86 = .ok (.iload 5, 2) := by decide +kernel
theorem dX3_receive_88 : decode cX3_receive 88 = .ok (.iload 6, 2) := by decide +kernel
theorem dX3_receive_90 : decode cX3_receive 90 = .ok (.iastore, 1) := by decide +kernel
theorem dX3_receive_91 : decode cX3_receive 91 = .ok (.aload_n 0, 1) := by decide +kernel
theorem dX3_receive_92 : decode cX3_receive 92 = .ok (.getfield 32, 3) := by decide +kernel
theorem dX3_receive_95 : decode cX3_receive 95 = .ok (.iload 5, 2) := by decide +kernel
theorem dX3_receive_97 : decode cX3_receive 97 = .ok (.aload_n 0, 1) := by decide +kernel
theorem dX3_receive_98 : decode cX3_receive 98 = .ok (.getfield 41, 3) := by decide +kernel
theorem dX3_receive_101 : decode cX3_receive 101 = .ok (.iload 4, 2) := by decide +kernel
theorem dX3_receive_103 : decode cX3_receive 103 = .ok (.iaload, 1) := by decide +kernel
theorem dX3_receive_104 : decode cX3_receive 104 = .ok (.iastore, 1) := by decide +kernel
theorem dX3_receive_105 : decode cX3_receive 105 = .ok (.iconst 0, 1) := by decide +kernel
theorem dX3_receive_106 : decode cX3_receive 106 = .ok (.istore 7, 2) := by decide +kernel
theorem dX3_receive_108 : decode cX3_receive 108 = .ok (.iload 7, 2) := by decide +kernel
theorem dX3_receive_110 : decode cX3_receive 110 = .ok (.bipush 8, 2) := by decide +kernel
theorem dX3_receive_112 : decode cX3_receive 112 = .ok (.if_icmp .ge 35, 3) := by decide +kernel
theorem dX3_receive_115 : decode cX3_receive 115 = .ok (.aload_n 0, 1) := by decide +kernel
theorem dX3_receive_116 : decode cX3_receive 116 = .ok (.getfield 35, 3) := by decide +kernel
theorem dX3_receive_119 : decode cX3_receive 119 = .ok (.bipush 8, 2) := by decide +kernel
theorem dX3_receive_121 : decode cX3_receive 121 = .ok (.iload 5, 2) := by decide +kernel
theorem dX3_receive_123 : decode cX3_receive 123 = .ok (.imul, 1) := by decide +kernel
theorem dX3_receive_124 : decode cX3_receive 124 = .ok (.iload 7, 2) := by decide +kernel
theorem dX3_receive_126 : decode cX3_receive 126 = .ok (.iadd, 1) := by decide +kernel
theorem dX3_receive_127 : decode cX3_receive 127 = .ok (.aload_n 0, 1) := by decide +kernel
theorem dX3_receive_128 : decode cX3_receive 128 = .ok (.getfield 47, 3) := by decide +kernel
theorem dX3_receive_131 : decode cX3_receive 131 = .ok (.bipush 8, 2) := by decide +kernel
theorem dX3_receive_133 : decode cX3_receive 133 = .ok (.iload 4, 2) := by decide +kernel
theorem dX3_receive_135 : decode cX3_receive 135 = .ok (.imul, 1) := by decide +kernel
theorem dX3_receive_136 : decode cX3_receive 136 = .ok (.iload 7, 2) := by decide +kernel
theorem dX3_receive_138 : decode cX3_receive 138 = .ok (.iadd, 1) := by decide +kernel
theorem dX3_receive_139 : decode cX3_receive 139 = .ok (.iaload, 1) := by decide +kernel
theorem dX3_receive_140 : decode cX3_receive 140 = .ok (.iastore, 1) := by decide +kernel
theorem dX3_receive_141 : decode cX3_receive 141 = .ok (.iinc 7 1, 3) := by decide +kernel
theorem dX3_receive_144 : decode cX3_receive 144 = .ok (.goto (-36), 3) := by decide +kernel
theorem dX3_receive_147 : decode cX3_receive 147 = .ok (.iconst 0, 1) := by decide +kernel
theorem dX3_receive_148 : decode cX3_receive 148 = .ok (.istore 7, 2) := by decide +kernel
theorem dX3_receive_150 : decode cX3_receive 150 = .ok (.iload 7, 2) := by decide +kernel
theorem dX3_receive_152 : decode cX3_receive 152 = .ok (.bipush 8, 2) := by decide +kernel
theorem dX3_receive_154 : decode cX3_receive 154 = .ok (.if_icmp .ge 23, 3) := by decide +kernel
theorem dX3_receive_157 : decode cX3_receive 157 = .ok (.iload 7, 2) := by decide +kernel
theorem dX3_receive_159 : decode cX3_receive 159 = .ok (.iload_n 1, 1) := by decide +kernel
theorem dX3_receive_160 : decode cX3_receive 160 = .ok (.if_icmp .eq 11, 3) := by decide +kernel
theorem dX3_receive_163 : decode cX3_receive 163 = .ok (.aload_n 0, 1) := by decide +kernel
theorem dX3_receive_164 : decode cX3_receive 164 = .ok (.iload_n 2, 1) := by decide +kernel
theorem dX3_receive_165 : decode cX3_receive 165 = .ok (.iload 7, 2) := by decide +kernel
theorem dX3_receive_167 : decode cX3_receive 167 = .ok (.iload_n 3, 1) := by decide +kernel
theorem dX3_receive_168 : decode cX3_receive 168 = .ok (.invokevirtual 99, 3) := by decide +kernel
theorem dX3_receive_171 : decode cX3_receive 171 = .ok (.iinc 7 1, 3) := by decide +kernel
theorem dX3_receive_174 : decode cX3_receive 174 = .ok (.goto (-24), 3) := by decide +kernel
theorem dX3_receive_177 : decode cX3_receive 177 = .ok (.goto 22, 3) := by decide +kernel
theorem dX3_receive_180 : decode cX3_receive 180 = .ok (.aload_n 0, 1) := by decide +kernel
theorem dX3_receive_181 : decode cX3_receive 181 = .ok (.getfield 29, 3) := by decide +kernel
theorem dX3_receive_184 : decode cX3_receive 184 = .ok (.iload 5, 2) := by decide +kernel
theorem dX3_receive_186 : decode cX3_receive 186 = .ok (.iaload, 1) := by decide +kernel
theorem dX3_receive_187 : decode cX3_receive 187 = .ok (.iload 6, 2) := by decide +kernel
theorem dX3_receive_189 : decode cX3_receive 189 = .ok (.if_icmp .le 10, 3) := by decide +kernel
theorem dX3_receive_192 : decode cX3_receive 192 = .ok (.aload_n 0, 1) := by decide +kernel
theorem dX3_receive_193 : decode cX3_receive 193 = .ok (.iload_n 2, 1) := by decide +kernel
theorem dX3_receive_194 : decode cX3_receive 194 = .ok (.iload_n 1, 1) := by decide +kernel
theorem dX3_receive_195 : decode cX3_receive 195 = .ok (.iload_n 3, 1) := by decide +kernel
theorem dX3_receive_196 : decode cX3_receive 196 = .ok (.invokevirtual 99, 3) := by decide +kernel
theorem dX3_receive_199 : decode cX3_receive 199 = .ok (.return_, 1) := by decide +kernel
theorem dX3_cut_0 : decode cX3_cut 0 = .ok (.iconst 0, 1) := by decide +kernel
theorem dX3_cut_1 : decode cX3_cut 1 = .ok (.istore_n 3, 1) := by decide +kernel
theorem dX3_cut_2 : decode cX3_cut 2 = .ok (.iload_n 3, 1) := by decide +kernel
theorem dX3_cut_3 : decode cX3_cut 3 = .ok (.bipush 8, 2) := by decide +kernel
theorem dX3_cut_5 : decode cX3_cut 5 = .ok (.if_icmp .ge 43, 3) := by decide +kernel
theorem dX3_cut_8 : decode cX3_cut 8 = .ok (.aload_n 0, 1) := by decide +kernel
theorem dX3_cut_9 : decode cX3_cut 9 = .ok (.getfield 38, 3) := by decide +kernel
theorem dX3_cut_12 : decode cX3_cut 12 = .ok (.bipush 64, 2) := by decide +kernel
theorem dX3_cut_14 : decode cX3_cut 14 = .ok (.iload_n 1, 1) := by decide +kernel
theorem dX3_cut_15 : decode cX3_cut 15 = .ok (.imul, 1) := by decide +kernel
theorem dX3_cut_16 : decode cX3_cut 16 = .ok (.bipush 8, 2) := by decide +kernel
theorem dX3_cut_18 : decode cX3_cut 18 = .ok (.iload_n 2, 1) := by decide +kernel
theorem dX3_cut_19 : decode cX3_cut 19 = .ok (.imul, 1) := by decide +kernel
theorem dX3_cut_20 : decode cX3_cut 20 = .ok (.iadd, 1) := by decide +kernel
theorem dX3_cut_21 : decode cX3_cut 21 = .ok (.iload_n 3, 1) := by decide +kernel
theorem dX3_cut_22 : decode cX3_cut 22 = .ok (.iadd, 1) := by decide +kernel
theorem dX3_cut_23 : decode cX3_cut 23 = .ok (.iconst 0, 1) := by decide +kernel
theorem dX3_cut_24 : decode cX3_cut 24 = .ok (.iastore, 1) := by decide +kernel
theorem dX3_cut_25 : decode cX3_cut 25 = .ok (.aload_n 0, 1) := by decide +kernel
theorem dX3_cut_26 : decode cX3_cut 26 = .ok (.getfield 38, 3) := by decide +kernel
theorem dX3_cut_29 : decode cX3_cut 29 = .ok (.bipush 64, 2) := by decide +kernel
theorem dX3_cut_31 : decode cX3_cut 31 = .ok (.iload_n 2, 1) := by decide +kernel
theorem dX3_cut_32 : decode cX3_cut 32 = .ok (.imul, 1) := by decide +kernel
theorem dX3_cut_33 : decode cX3_cut 33 = .ok (.bipush 8, 2) := by decide +kernel
theorem dX3_cut_35 : decode cX3_cut 35 = .ok (.iload_n 1, 1) := by decide +kernel
theorem dX3_cut_36 : decode cX3_cut 36 = .ok (.imul, 1) := by decide +kernel
theorem dX3_cut_37 : decode cX3_cut 37 = .ok (.iadd, 1) := by decide +kernel
theorem dX3_cut_38 : decode cX3_cut 38 = .ok (.iload_n 3, 1) := by decide +kernel
theorem dX3_cut_39 : decode cX3_cut 39 = .ok (.iadd, 1) := by decide +kernel
theorem dX3_cut_40 : decode cX3_cut 40 = .ok (.iconst 0, 1) := by decide +kernel
theorem dX3_cut_41 : decode cX3_cut 41 = .ok (.iastore, 1) := by decide +kernel
theorem dX3_cut_42 : decode cX3_cut 42 = .ok (.iinc 3 1, 3) := by decide +kernel
theorem dX3_cut_45 : decode cX3_cut 45 = .ok (.goto (-43), 3) := by decide +kernel
theorem dX3_cut_48 : decode cX3_cut 48 = .ok (.iconst 0, 1) := by decide +kernel
theorem dX3_cut_49 : decode cX3_cut 49 = .ok (.istore_n 3, 1) := by decide +kernel
theorem dX3_cut_50 : decode cX3_cut 50 = .ok (.iload_n 3, 1) := by decide +kernel
theorem dX3_cut_51 : decode cX3_cut 51 = .ok (.aload_n 0, 1) := by decide +kernel
theorem dX3_cut_52 : decode cX3_cut 52 = .ok (.getfield 107, 3) := by decide +kernel
theorem dX3_cut_55 : decode cX3_cut 55 = .ok (.if_icmp .ge 86, 3) := by decide +kernel
theorem dX3_cut_58 : decode cX3_cut 58 = .ok (.aload_n 0, 1) := by decide +kernel
theorem dX3_cut_59 : decode cX3_cut 59 = .ok (.getfield 59, 3) := by decide +kernel
theorem dX3_cut_62 : decode cX3_cut 62 = .ok (.iload_n 3, 1) := by decide +kernel
theorem dX3_cut_63 : decode cX3_cut 63 = .ok (.iaload, 1) := by decide +kernel
theorem dX3_cut_64 : decode cX3_cut 64 = .ok (.iload_n 1, 1) := by decide +kernel
theorem dX3_cut_65 : decode cX3_cut 65 = .ok (.if_icmp .ne 13, 3) := by decide +kernel
theorem dX3_cut_68 : decode cX3_cut 68 = .ok (.aload_n 0, 1) := by decide +kernel
theorem dX3_cut_69 : decode cX3_cut 69 = .ok (.getfield 62, 3) := by decide +kernel
theorem dX3_cut_72 : decode cX3_cut 72 = .ok (.iload_n 3, 1) := by decide +kernel
theorem dX3_cut_73 : decode cX3_cut 73 = .ok (.iaload, 1) := by decide +kernel
theorem dX3_cut_74 : decode cX3_cut 74 = .ok (.iload_n 2, 1) := by decide +kernel
theorem dX3_cut_75 : decode cX3_cut 75 = .ok (.if_icmp .eq 23, 3) := by decide +kernel
theorem dX3_cut_78 : decode cX3_cut 78 = .ok (.aload_n 0, 1) := by decide +kernel
theorem dX3_cut_79 : decode cX3_cut 79 = .ok (.getfield 59, 3) := by decide +kernel
theorem dX3_cut_82 : decode cX3_cut 82 = .ok (.iload_n 3, 1) := by decide +kernel
theorem dX3_cut_83 : decode cX3_cut 83 = .ok (.iaload, 1) := by decide +kernel
theorem dX3_cut_84 : decode cX3_cut 84 = .ok (.iload_n 2, 1) := by decide +kernel
theorem dX3_cut_85 : decode cX3_cut 85 = .ok (.if_icmp .ne 17, 3) := by decide +kernel
theorem dX3_cut_88 : decode cX3_cut 88 = .ok (.aload_n 0, 1) := by decide +kernel
theorem dX3_cut_89 : decode cX3_cut 89 = .ok (.getfield 62, 3) := by decide +kernel
theorem dX3_cut_92 : decode cX3_cut 92 = .ok (.iload_n 3, 1) := by decide +kernel
theorem dX3_cut_93 : decode cX3_cut 93 = .ok (.iaload, 1) := by decide +kernel
theorem dX3_cut_94 : decode cX3_cut 94 = .ok (.iload_n 1, 1) := by decide +kernel
theorem dX3_cut_95 : decode cX3_cut 95 = .ok (.if_icmp .ne 7, 3) := by decide +kernel
theorem dX3_cut_98 : decode cX3_cut 98 = .ok (.iconst 1, 1) := by decide +kernel
theorem dX3_cut_99 : decode cX3_cut 99 = .ok (.goto 4, 3) := by decide +kernel
theorem dX3_cut_102 : decode cX3_cut 102 = .ok (.iconst 0, 1) := by decide +kernel
theorem dX3_cut_103 : decode cX3_cut 103 = .ok (.istore 4, 2) := by decide +kernel
theorem dX3_cut_105 : decode cX3_cut 105 = .ok (.aload_n 0, 1) := by decide +kernel
theorem dX3_cut_106 : decode cX3_cut 106 = .ok (.getfield 56, 3) := by decide +kernel
theorem dX3_cut_109 : decode cX3_cut 109 = .ok (.iload_n 3, 1) := by decide +kernel
theorem dX3_cut_110 : decode cX3_cut 110 = .ok (.aload_n 0, 1) := by decide +kernel
theorem dX3_cut_111 : decode cX3_cut 111 = .ok (.getfield 56, 3) := by decide +kernel
theorem dX3_cut_114 : decode cX3_cut 114 = .ok (.iload_n 3, 1) := by decide +kernel
theorem dX3_cut_115 : decode cX3_cut 115 = .ok (.iaload, 1) := by decide +kernel
theorem dX3_cut_116 : decode cX3_cut 116 = .ok (.ifCond .ne 12, 3) := by decide +kernel
theorem dX3_cut_119 : decode cX3_cut 119 = .ok (.iload 4, 2) := by decide +kernel
theorem dX3_cut_121 : decode cX3_cut 121 = .ok (.ifCond .eq 7, 3) := by decide +kernel
theorem dX3_cut_124 : decode cX3_cut 124 = .ok (.iconst 3, 1) := by decide +kernel
theorem dX3_cut_125 : decode cX3_cut 125 = .ok (.goto 9, 3) := by decide +kernel
theorem dX3_cut_128 : decode cX3_cut 128 = .ok (.aload_n 0, 1) := by decide +kernel
theorem dX3_cut_129 : decode cX3_cut 129 = .ok (.getfield 56, 3) := by decide +kernel
theorem dX3_cut_132 : decode cX3_cut 132 = .ok (.iload_n 3, 1) := by decide +kernel
theorem dX3_cut_133 : decode cX3_cut 133 = .ok (.iaload, 1) := by decide +kernel
theorem dX3_cut_134 : decode cX3_cut 134 = .ok (.iastore, 1) := by decide +kernel
theorem dX3_cut_135 : decode cX3_cut 135 = .ok (.iinc 3 1, 3) := by decide +kernel
theorem dX3_cut_138 : decode cX3_cut 138 = .ok (.goto (-88), 3) := by decide +kernel
theorem dX3_cut_141 : decode cX3_cut 141 = .ok (.return_, 1) := by decide +kernel
theorem dX3_comeUp_0 : decode cX3_comeUp 0 = .ok (.aload_n 0, 1) := by decide +kernel
theorem dX3_comeUp_1 : decode cX3_comeUp 1 = .ok (.getfield 26, 3) := by decide +kernel
theorem dX3_comeUp_4 : decode cX3_comeUp 4 = .ok (.bipush 8, 2) := by decide +kernel
theorem dX3_comeUp_6 : decode cX3_comeUp 6 = .ok (.iload_n 1, 1) := by decide +kernel
theorem dX3_comeUp_7 : decode cX3_comeUp 7 = .ok (.imul, 1) := by decide +kernel
theorem dX3_comeUp_8 : decode cX3_comeUp 8 = .ok (.iload_n 2, 1) := by decide +kernel
theorem dX3_comeUp_9 : decode cX3_comeUp 9 = .ok (.iadd, 1) := by decide +kernel
theorem dX3_comeUp_10 : decode cX3_comeUp 10 = .ok (.iconst 1, 1) := by decide +kernel
theorem dX3_comeUp_11 : decode cX3_comeUp 11 = .ok (.bastore, 1) := by decide +kernel
theorem dX3_comeUp_12 : decode cX3_comeUp 12 = .ok (.aload_n 0, 1) := by decide +kernel
theorem dX3_comeUp_13 : decode cX3_comeUp 13 = .ok (.getfield 26, 3) := by decide +kernel
theorem dX3_comeUp_16 : decode cX3_comeUp 16 = .ok (.bipush 8, 2) := by decide +kernel
theorem dX3_comeUp_18 : decode cX3_comeUp 18 = .ok (.iload_n 2, 1) := by decide +kernel
theorem dX3_comeUp_19 : decode cX3_comeUp 19 = .ok (.imul, 1) := by decide +kernel
theorem dX3_comeUp_20 : decode cX3_comeUp 20 = .ok (.iload_n 1, 1) := by decide +kernel
theorem dX3_comeUp_21 : decode cX3_comeUp 21 = .ok (.iadd, 1) := by decide +kernel
theorem dX3_comeUp_22 : decode cX3_comeUp 22 = .ok (.iconst 1, 1) := by decide +kernel
theorem dX3_comeUp_23 : decode cX3_comeUp 23 = .ok (.bastore, 1) := by decide +kernel
theorem dX3_comeUp_24 : decode cX3_comeUp 24 = .ok (.aload_n 0, 1) := by decide +kernel
theorem dX3_comeUp_25 : decode cX3_comeUp 25 = .ok (.getfield 7, 3) := by decide +kernel
theorem dX3_comeUp_28 : decode cX3_comeUp 28 = .ok (.iload_n 1, 1) := by decide +kernel
theorem dX3_comeUp_29 : decode cX3_comeUp 29 = .ok (.baload, 1) := by decide +kernel
theorem dX3_comeUp_30 : decode cX3_comeUp 30 = .ok (.ifCond .eq 55, 3) := by decide +kernel
theorem dX3_comeUp_33 : decode cX3_comeUp 33 = .ok (.aload_n 0, 1) := by decide +kernel
theorem dX3_comeUp_34 : decode cX3_comeUp 34 = .ok (.getfield 7, 3) := by decide +kernel
theorem dX3_comeUp_37 : decode cX3_comeUp 37 = .ok (.iload_n 2, 1) := by decide +kernel
theorem dX3_comeUp_38 : decode cX3_comeUp 38 = .ok (.baload, 1) := by decide +kernel
theorem dX3_comeUp_39 : decode cX3_comeUp 39 = .ok (.ifCond .eq 46, 3) := by decide +kernel
theorem dX3_comeUp_42 : decode cX3_comeUp 42 = .ok (.iload_n 1, 1) := by decide +kernel
theorem dX3_comeUp_43 : decode cX3_comeUp 43 = .ok (.iload_n 2, 1) := by decide +kernel
theorem dX3_comeUp_44 : decode cX3_comeUp 44 = .ok (.if_icmp .ge 7, 3) := by decide +kernel
theorem dX3_comeUp_47 : decode cX3_comeUp 47 = .ok (.iload_n 1, 1) := by decide +kernel
theorem dX3_comeUp_48 : decode cX3_comeUp 48 = .ok (.goto 4, 3) := by decide +kernel
theorem dX3_comeUp_51 : decode cX3_comeUp 51 = .ok (.iload_n 2, 1) := by decide +kernel
theorem dX3_comeUp_52 : decode cX3_comeUp 52 = .ok (.istore_n 3, 1) := by decide +kernel
theorem dX3_comeUp_53 : decode cX3_comeUp 53 = .ok (.iload_n 1, 1) := by decide +kernel
theorem dX3_comeUp_54 : decode cX3_comeUp 54 = .ok (.iload_n 2, 1) := by decide +kernel
theorem dX3_comeUp_55 : decode cX3_comeUp 55 = .ok (.iadd, 1) := by decide +kernel
theorem dX3_comeUp_56 : decode cX3_comeUp 56 = .ok (.iload_n 3, 1) := by decide +kernel
theorem dX3_comeUp_57 : decode cX3_comeUp 57 = .ok (.isub, 1) := by decide +kernel
theorem dX3_comeUp_58 : decode cX3_comeUp 58 = .ok (.istore 4, 2) := by decide +kernel
theorem dX3_comeUp_60 : decode cX3_comeUp 60 = .ok (.aload_n 0, 1) := by decide +kernel
theorem dX3_comeUp_61 : decode cX3_comeUp 61 = .ok (.iload_n 3, 1) := by decide +kernel
theorem dX3_comeUp_62 : decode cX3_comeUp 62 = .ok (.invokevirtual 103, 3) := by decide +kernel
theorem dX3_comeUp_65 : decode cX3_comeUp 65 = .ok (.aload_n 0, 1) := by decide +kernel
theorem dX3_comeUp_66 : decode cX3_comeUp 66 = .ok (.iload 4, 2) := by decide +kernel
theorem dX3_comeUp_68 : decode cX3_comeUp 68 = .ok (.invokevirtual 103, 3) := by decide +kernel
theorem dX3_comeUp_71 : decode cX3_comeUp 71 = .ok (.aload_n 0, 1) := by decide +kernel
theorem dX3_comeUp_72 : decode cX3_comeUp 72 = .ok (.iload_n 3, 1) := by decide +kernel
theorem dX3_comeUp_73 : decode cX3_comeUp 73 = .ok (.iload 4, 2) := by decide +kernel
theorem dX3_comeUp_75 : decode cX3_comeUp 75 = .ok (.invokevirtual 110, 3) := by decide +kernel
theorem dX3_comeUp_78 : decode cX3_comeUp 78 = .ok (.aload_n 0, 1) := by decide +kernel
theorem dX3_comeUp_79 : decode cX3_comeUp 79 = .ok (.iload 4, 2) := by decide +kernel
theorem dX3_comeUp_81 : decode cX3_comeUp 81 = .ok (.iload_n 3, 1) := by decide +kernel
theorem dX3_comeUp_82 : decode cX3_comeUp 82 = .ok (.invokevirtual 110, 3) := by decide +kernel
theorem dX3_comeUp_85 : decode cX3_comeUp 85 = .ok (.return_, 1) := by decide +kernel
theorem dX3_link_0 : decode cX3_link 0 = .ok (.iload_n 1, 1) := by decide +kernel
theorem dX3_link_1 : decode cX3_link 1 = .ok (.invokestatic 88, 3) := by decide +kernel
theorem dX3_link_4 : decode cX3_link 4 = .ok (.ifCond .eq 40, 3) := by decide +kernel
theorem dX3_link_7 : decode cX3_link 7 = .ok (.iload_n 2, 1) := by decide +kernel
theorem dX3_link_8 : decode cX3_link 8 = .ok (.invokestatic 88, 3) := by decide +kernel
theorem dX3_link_11 : decode cX3_link 11 = .ok (.ifCond .eq 33, 3) := by decide +kernel
theorem dX3_link_14 : decode cX3_link 14 = .ok (.iload_n 1, 1) := by decide +kernel
theorem dX3_link_15 : decode cX3_link 15 = .ok (.iload_n 2, 1) := by decide +kernel
theorem dX3_link_16 : decode cX3_link 16 = .ok (.if_icmp .eq 28, 3) := by decide +kernel
theorem dX3_link_19 : decode cX3_link 19 = .ok (.iload_n 3, 1) := by decide +kernel
theorem dX3_link_20 : decode cX3_link 20 = .ok (.iconst 1, 1) := by decide +kernel
theorem dX3_link_21 : decode cX3_link 21 = .ok (.bipush 50, 2) := by decide +kernel
theorem dX3_link_23 : decode cX3_link 23 = .ok (.invokestatic 84, 3) := by decide +kernel
theorem dX3_link_26 : decode cX3_link 26 = .ok (.ifCond .eq 18, 3) := by decide +kernel
theorem dX3_link_29 : decode cX3_link 29 = .ok (.iload 4, 2) := by decide +kernel
theorem dX3_link_31 : decode cX3_link 31 = .ok (.iconst 1, 1) := by decide +kernel
theorem dX3_link_32 : decode cX3_link 32 = .ok (.bipush 8, 2) := by decide +kernel
theorem dX3_link_34 : decode cX3_link 34 = .ok (.invokestatic 84, 3) := by decide +kernel
theorem dX3_link_37 : decode cX3_link 37 = .ok (.ifCond .eq 7, 3) := by decide +kernel
theorem dX3_link_40 : decode cX3_link 40 = .ok (.iconst 1, 1) := by decide +kernel
theorem dX3_link_41 : decode cX3_link 41 = .ok (.goto 4, 3) := by decide +kernel
theorem dX3_link_44 : decode cX3_link 44 = .ok (.iconst 0, 1) := by decide +kernel
theorem dX3_link_45 : decode cX3_link 45 = .ok (.istore 5, 2) := by decide +kernel
theorem dX3_link_47 : decode cX3_link 47 = .ok (.aload_n 0, 1) := by decide +kernel
theorem dX3_link_48 : decode cX3_link 48 = .ok (.iload 5, 2) := by decide +kernel
theorem dX3_link_50 : decode cX3_link 50 = .ok (.iload 5, 2) := by decide +kernel
theorem dX3_link_52 : decode cX3_link 52 = .ok (.ifCond .eq 30, 3) := by decide +kernel
theorem dX3_link_55 : decode cX3_link 55 = .ok (.aload_n 0, 1) := by decide +kernel
theorem dX3_link_56 : decode cX3_link 56 = .ok (.getfield 17, 3) := by decide +kernel
theorem dX3_link_59 : decode cX3_link 59 = .ok (.bipush 8, 2) := by decide +kernel
theorem dX3_link_61 : decode cX3_link 61 = .ok (.iload_n 1, 1) := by decide +kernel
theorem dX3_link_62 : decode cX3_link 62 = .ok (.imul, 1) := by decide +kernel
theorem dX3_link_63 : decode cX3_link 63 = .ok (.iload_n 2, 1) := by decide +kernel
theorem dX3_link_64 : decode cX3_link 64 = .ok (.iadd, 1) := by decide +kernel
theorem dX3_link_65 : decode cX3_link 65 = .ok (.baload, 1) := by decide +kernel
theorem dX3_link_66 : decode cX3_link 66 = .ok (.ifCond .ne 16, 3) := by decide +kernel
theorem dX3_link_69 : decode cX3_link 69 = .ok (.aload_n 0, 1) := by decide +kernel
theorem dX3_link_70 : decode cX3_link 70 = .ok (.getfield 114, 3) := by decide +kernel
theorem dX3_link_73 : decode cX3_link 73 = .ok (.bipush 12, 2) := by decide +kernel
theorem dX3_link_75 : decode cX3_link 75 = .ok (.if_icmp .ge 7, 3) := by decide +kernel
theorem dX3_link_78 : decode cX3_link 78 = .ok (.iconst 1, 1) := by decide +kernel
theorem dX3_link_79 : decode cX3_link 79 = .ok (.goto 4, 3) := by decide +kernel
theorem dX3_link_82 : decode cX3_link 82 = .ok (.iconst 0, 1) := by decide +kernel
theorem dX3_link_83 : decode cX3_link 83 = .ok (.invokevirtual 117, 3) := by decide +kernel
theorem dX3_link_86 : decode cX3_link 86 = .ok (.ifCond .ne 5, 3) := by decide +kernel
theorem dX3_link_89 : decode cX3_link 89 = .ok (.iconst 0, 1) := by decide +kernel
theorem dX3_link_90 : decode cX3_link 90 = .ok (.ireturn, 1) := by decide +kernel
theorem dX3_link_91 : decode cX3_link 91 = .ok (.aload_n 0, 1) := by decide +kernel
theorem dX3_link_92 : decode cX3_link 92 = .ok (.dup, 1) := by decide +kernel
theorem dX3_link_93 : decode cX3_link 93 = .ok (.getfield 114, 3) := by decide +kernel
theorem dX3_link_96 : decode cX3_link 96 = .ok (.iconst 1, 1) := by decide +kernel
theorem dX3_link_97 : decode cX3_link 97 = .ok (.iadd, 1) := by decide +kernel
theorem dX3_link_98 : decode cX3_link 98 = .ok (.putfield 114, 3) := by decide +kernel
theorem dX3_link_101 : decode cX3_link 101 = .ok (.aload_n 0, 1) := by decide +kernel
theorem dX3_link_102 : decode cX3_link 102 = .ok (.getfield 17, 3) := by decide +kernel
theorem dX3_link_105 : decode cX3_link 105 = .ok (.bipush 8, 2) := by decide +kernel
theorem dX3_link_107 : decode cX3_link 107 = .ok (.iload_n 1, 1) := by decide +kernel
theorem dX3_link_108 : decode cX3_link 108 = .ok (.imul, 1) := by decide +kernel
theorem dX3_link_109 : decode cX3_link 109 = .ok (.iload_n 2, 1) := by decide +kernel
theorem dX3_link_110 : decode cX3_link 110 = .ok (.iadd, 1) := by decide +kernel
theorem dX3_link_111 : decode cX3_link 111 = .ok (.iconst 1, 1) := by decide +kernel
theorem dX3_link_112 : decode cX3_link 112 = .ok (.bastore, 1) := by decide +kernel
theorem dX3_link_113 : decode cX3_link 113 = .ok (.aload_n 0, 1) := by decide +kernel
theorem dX3_link_114 : decode cX3_link 114 = .ok (.getfield 17, 3) := by decide +kernel
theorem dX3_link_117 : decode cX3_link 117 = .ok (.bipush 8, 2) := by decide +kernel
theorem dX3_link_119 : decode cX3_link 119 = .ok (.iload_n 2, 1) := by decide +kernel
theorem dX3_link_120 : decode cX3_link 120 = .ok (.imul, 1) := by decide +kernel
theorem dX3_link_121 : decode cX3_link 121 = .ok (.iload_n 1, 1) := by decide +kernel
theorem dX3_link_122 : decode cX3_link 122 = .ok (.iadd, 1) := by decide +kernel
theorem dX3_link_123 : decode cX3_link 123 = .ok (.iconst 1, 1) := by decide +kernel
theorem dX3_link_124 : decode cX3_link 124 = .ok (.bastore, 1) := by decide +kernel
theorem dX3_link_125 : decode cX3_link 125 = .ok (.aload_n 0, 1) := by decide +kernel
theorem dX3_link_126 : decode cX3_link 126 = .ok (.getfield 20, 3) := by decide +kernel
theorem dX3_link_129 : decode cX3_link 129 = .ok (.bipush 8, 2) := by decide +kernel
theorem dX3_link_131 : decode cX3_link 131 = .ok (.iload_n 1, 1) := by decide +kernel
theorem dX3_link_132 : decode cX3_link 132 = .ok (.imul, 1) := by decide +kernel
theorem dX3_link_133 : decode cX3_link 133 = .ok (.iload_n 2, 1) := by decide +kernel
theorem dX3_link_134 : decode cX3_link 134 = .ok (.iadd, 1) := by decide +kernel
theorem dX3_link_135 : decode cX3_link 135 = .ok (.iload_n 3, 1) := by decide +kernel
theorem dX3_link_136 : decode cX3_link 136 = .ok (.iastore, 1) := by decide +kernel
theorem dX3_link_137 : decode cX3_link 137 = .ok (.aload_n 0, 1) := by decide +kernel
theorem dX3_link_138 : decode cX3_link 138 = .ok (.getfield 20, 3) := by decide +kernel
theorem dX3_link_141 : decode cX3_link 141 = .ok (.bipush 8, 2) := by decide +kernel
theorem dX3_link_143 : decode cX3_link 143 = .ok (.iload_n 2, 1) := by decide +kernel
theorem dX3_link_144 : decode cX3_link 144 = .ok (.imul, 1) := by decide +kernel
theorem dX3_link_145 : decode cX3_link 145 = .ok (.iload_n 1, 1) := by decide +kernel
theorem dX3_link_146 : decode cX3_link 146 = .ok (.iadd, 1) := by decide +kernel
theorem dX3_link_147 : decode cX3_link 147 = .ok (.iload_n 3, 1) := by decide +kernel
theorem dX3_link_148 : decode cX3_link 148 = .ok (.iastore, 1) := by decide +kernel
theorem dX3_link_149 : decode cX3_link 149 = .ok (.aload_n 0, 1) := by decide +kernel
theorem dX3_link_150 : decode cX3_link 150 = .ok (.getfield 23, 3) := by decide +kernel
theorem dX3_link_153 : decode cX3_link 153 = .ok (.bipush 8, 2) := by decide +kernel
theorem dX3_link_155 : decode cX3_link 155 = .ok (.iload_n 1, 1) := by decide +kernel
theorem dX3_link_156 : decode cX3_link 156 = .ok (.imul, 1) := by decide +kernel
theorem dX3_link_157 : decode cX3_link 157 = .ok (.iload_n 2, 1) := by decide +kernel
theorem dX3_link_158 : decode cX3_link 158 = .ok (.iadd, 1) := by decide +kernel
theorem dX3_link_159 : decode cX3_link 159 = .ok (.iload 4, 2) := by decide +kernel
theorem dX3_link_161 : decode cX3_link 161 = .ok (.iastore, 1) := by decide +kernel
theorem dX3_link_162 : decode cX3_link 162 = .ok (.aload_n 0, 1) := by decide +kernel
theorem dX3_link_163 : decode cX3_link 163 = .ok (.getfield 23, 3) := by decide +kernel
theorem dX3_link_166 : decode cX3_link 166 = .ok (.bipush 8, 2) := by decide +kernel
theorem dX3_link_168 : decode cX3_link 168 = .ok (.iload_n 2, 1) := by decide +kernel
theorem dX3_link_169 : decode cX3_link 169 = .ok (.imul, 1) := by decide +kernel
theorem dX3_link_170 : decode cX3_link 170 = .ok (.iload_n 1, 1) := by decide +kernel
theorem dX3_link_171 : decode cX3_link 171 = .ok (.iadd, 1) := by decide +kernel
theorem dX3_link_172 : decode cX3_link 172 = .ok (.iload 4, 2) := by decide +kernel
theorem dX3_link_174 : decode cX3_link 174 = .ok (.iastore, 1) := by decide +kernel
theorem dX3_link_175 : decode cX3_link 175 = .ok (.aload_n 0, 1) := by decide +kernel
theorem dX3_link_176 : decode cX3_link 176 = .ok (.iload_n 1, 1) := by decide +kernel
theorem dX3_link_177 : decode cX3_link 177 = .ok (.iload_n 2, 1) := by decide +kernel
theorem dX3_link_178 : decode cX3_link 178 = .ok (.invokevirtual 121, 3) := by decide +kernel
theorem dX3_link_181 : decode cX3_link 181 = .ok (.aload_n 0, 1) := by decide +kernel
theorem dX3_link_182 : decode cX3_link 182 = .ok (.getfield 114, 3) := by decide +kernel
theorem dX3_link_185 : decode cX3_link 185 = .ok (.ireturn, 1) := by decide +kernel
theorem dX3_fail_0 : decode cX3_fail 0 = .ok (.aload_n 0, 1) := by decide +kernel
theorem dX3_fail_1 : decode cX3_fail 1 = .ok (.aload_n 0, 1) := by decide +kernel
theorem dX3_fail_2 : decode cX3_fail 2 = .ok (.iload_n 1, 1) := by decide +kernel
theorem dX3_fail_3 : decode cX3_fail 3 = .ok (.iload_n 2, 1) := by decide +kernel
theorem dX3_fail_4 : decode cX3_fail 4 = .ok (.invokevirtual 124, 3) := by decide +kernel
theorem dX3_fail_7 : decode cX3_fail 7 = .ok (.iconst 1, 1) := by decide +kernel
theorem dX3_fail_8 : decode cX3_fail 8 = .ok (.invokevirtual 117, 3) := by decide +kernel
theorem dX3_fail_11 : decode cX3_fail 11 = .ok (.ifCond .eq 17, 3) := by decide +kernel
theorem dX3_fail_14 : decode cX3_fail 14 = .ok (.aload_n 0, 1) := by decide +kernel
theorem dX3_fail_15 : decode cX3_fail 15 = .ok (.getfield 26, 3) := by decide +kernel
theorem dX3_fail_18 : decode cX3_fail 18 = .ok (.bipush 8, 2) := by decide +kernel
theorem dX3_fail_20 : decode cX3_fail 20 = .ok (.iload_n 1, 1) := by decide +kernel
theorem dX3_fail_21 : decode cX3_fail 21 = .ok (.imul, 1) := by decide +kernel
theorem dX3_fail_22 : decode cX3_fail 22 = .ok (.iload_n 2, 1) := by decide +kernel
theorem dX3_fail_23 : decode cX3_fail 23 = .ok (.iadd, 1) := by decide +kernel
theorem dX3_fail_24 : decode cX3_fail 24 = .ok (.baload, 1) := by decide +kernel
theorem dX3_fail_25 : decode cX3_fail 25 = .ok (.ifCond .ne 5, 3) := by decide +kernel
theorem dX3_fail_28 : decode cX3_fail 28 = .ok (.iconst 0, 1) := by decide +kernel
theorem dX3_fail_29 : decode cX3_fail 29 = .ok (.ireturn, 1) := by decide +kernel
theorem dX3_fail_30 : decode cX3_fail 30 = .ok (.aload_n 0, 1) := by decide +kernel
theorem dX3_fail_31 : decode cX3_fail 31 = .ok (.getfield 26, 3) := by decide +kernel
theorem dX3_fail_34 : decode cX3_fail 34 = .ok (.bipush 8, 2) := by decide +kernel
theorem dX3_fail_36 : decode cX3_fail 36 = .ok (.iload_n 1, 1) := by decide +kernel
theorem dX3_fail_37 : decode cX3_fail 37 = .ok (.imul, 1) := by decide +kernel
theorem dX3_fail_38 : decode cX3_fail 38 = .ok (.iload_n 2, 1) := by decide +kernel
theorem dX3_fail_39 : decode cX3_fail 39 = .ok (.iadd, 1) := by decide +kernel
theorem dX3_fail_40 : decode cX3_fail 40 = .ok (.iconst 0, 1) := by decide +kernel
theorem dX3_fail_41 : decode cX3_fail 41 = .ok (.bastore, 1) := by decide +kernel
theorem dX3_fail_42 : decode cX3_fail 42 = .ok (.aload_n 0, 1) := by decide +kernel
theorem dX3_fail_43 : decode cX3_fail 43 = .ok (.getfield 26, 3) := by decide +kernel
theorem dX3_fail_46 : decode cX3_fail 46 = .ok (.bipush 8, 2) := by decide +kernel
theorem dX3_fail_48 : decode cX3_fail 48 = .ok (.iload_n 2, 1) := by decide +kernel
theorem dX3_fail_49 : decode cX3_fail 49 = .ok (.imul, 1) := by decide +kernel
theorem dX3_fail_50 : decode cX3_fail 50 = .ok (.iload_n 1, 1) := by decide +kernel
theorem dX3_fail_51 : decode cX3_fail 51 = .ok (.iadd, 1) := by decide +kernel
theorem dX3_fail_52 : decode cX3_fail 52 = .ok (.iconst 0, 1) := by decide +kernel
theorem dX3_fail_53 : decode cX3_fail 53 = .ok (.bastore, 1) := by decide +kernel
theorem dX3_fail_54 : decode cX3_fail 54 = .ok (.aload_n 0, 1) := by decide +kernel
theorem dX3_fail_55 : decode cX3_fail 55 = .ok (.getfield 7, 3) := by decide +kernel
theorem dX3_fail_58 : decode cX3_fail 58 = .ok (.iload_n 1, 1) := by decide +kernel
theorem dX3_fail_59 : decode cX3_fail 59 = .ok (.baload, 1) := by decide +kernel
theorem dX3_fail_60 : decode cX3_fail 60 = .ok (.ifCond .eq 46, 3) := by decide +kernel
theorem dX3_fail_63 : decode cX3_fail 63 = .ok (.aload_n 0, 1) := by decide +kernel
theorem dX3_fail_64 : decode cX3_fail 64 = .ok (.getfield 7, 3) := by decide +kernel
theorem dX3_fail_67 : decode cX3_fail 67 = .ok (.iload_n 2, 1) := by decide +kernel
theorem dX3_fail_68 : decode cX3_fail 68 = .ok (.baload, 1) := by decide +kernel
theorem dX3_fail_69 : decode cX3_fail 69 = .ok (.ifCond .eq 37, 3) := by decide +kernel
theorem dX3_fail_72 : decode cX3_fail 72 = .ok (.aload_n 0, 1) := by decide +kernel
theorem dX3_fail_73 : decode cX3_fail 73 = .ok (.iload_n 1, 1) := by decide +kernel
theorem dX3_fail_74 : decode cX3_fail 74 = .ok (.iload_n 2, 1) := by decide +kernel
theorem dX3_fail_75 : decode cX3_fail 75 = .ok (.invokevirtual 127, 3) := by decide +kernel
theorem dX3_fail_78 : decode cX3_fail 78 = .ok (.aload_n 0, 1) := by decide +kernel
theorem dX3_fail_79 : decode cX3_fail 79 = .ok (.iload_n 1, 1) := by decide +kernel
theorem dX3_fail_80 : decode cX3_fail 80 = .ok (.iload_n 2, 1) := by decide +kernel
theorem dX3_fail_81 : decode cX3_fail 81 = .ok (.if_icmp .ge 7, 3) := by decide +kernel
theorem dX3_fail_84 : decode cX3_fail 84 = .ok (.iload_n 1, 1) := by decide +kernel
theorem dX3_fail_85 : decode cX3_fail 85 = .ok (.goto 4, 3) := by decide +kernel
theorem dX3_fail_88 : decode cX3_fail 88 = .ok (.iload_n 2, 1) := by decide +kernel
theorem dX3_fail_89 : decode cX3_fail 89 = .ok (.invokevirtual 103, 3) := by decide +kernel
theorem dX3_fail_92 : decode cX3_fail 92 = .ok (.aload_n 0, 1) := by decide +kernel
theorem dX3_fail_93 : decode cX3_fail 93 = .ok (.iload_n 1, 1) := by decide +kernel
theorem dX3_fail_94 : decode cX3_fail 94 = .ok (.iload_n 2, 1) := by decide +kernel
theorem dX3_fail_95 : decode cX3_fail 95 = .ok (.if_icmp .ge 7, 3) := by decide +kernel
theorem dX3_fail_98 : decode cX3_fail 98 = .ok (.iload_n 2, 1) := by decide +kernel
theorem dX3_fail_99 : decode cX3_fail 99 = .ok (.goto 4, 3) := by decide +kernel
theorem dX3_fail_102 : decode cX3_fail 102 = .ok (.iload_n 1, 1) := by decide +kernel
theorem dX3_fail_103 : decode cX3_fail 103 = .ok (.invokevirtual 103, 3) := by decide +kernel
theorem dX3_fail_106 : decode cX3_fail 106 = .ok (.iconst 1, 1) := by decide +kernel
theorem dX3_fail_107 : decode cX3_fail 107 = .ok (.ireturn, 1) := by decide +kernel
theorem dX3_restore_0 : decode cX3_restore 0 = .ok (.aload_n 0, 1) := by decide +kernel
theorem dX3_restore_1 : decode cX3_restore 1 = .ok (.aload_n 0, 1) := by decide +kernel
theorem dX3_restore_2 : decode cX3_restore 2 = .ok (.iload_n 1, 1) := by decide +kernel
theorem dX3_restore_3 : decode cX3_restore 3 = .ok (.iload_n 2, 1) := by decide +kernel
theorem dX3_restore_4 : decode cX3_restore 4 = .ok (.invokevirtual 124, 3) := by decide +kernel
theorem dX3_restore_7 : decode cX3_restore 7 = .ok (.iconst 1, 1) := by decide +kernel
theorem dX3_restore_8 : decode cX3_restore 8 = .ok (.invokevirtual 117, 3) := by decide +kernel
theorem dX3_restore_11 : decode cX3_restore 11 = .ok (.ifCond .eq 17, 3) := by decide +kernel
theorem dX3_restore_14 : decode cX3_restore 14 = .ok (.aload_n 0, 1) := by decide +kernel
theorem dX3_restore_15 : decode cX3_restore 15 = .ok (.getfield 26, 3) := by decide +kernel
theorem dX3_restore_18 : decode cX3_restore 18 = .ok (.bipush 8, 2) := by decide +kernel
theorem dX3_restore_20 : decode cX3_restore 20 = .ok (.iload_n 1, 1) := by decide +kernel
theorem dX3_restore_21 : decode cX3_restore 21 = .ok (.imul, 1) := by decide +kernel
theorem dX3_restore_22 : decode cX3_restore 22 = .ok (.iload_n 2, 1) := by decide +kernel
theorem dX3_restore_23 : decode cX3_restore 23 = .ok (.iadd, 1) := by decide +kernel
theorem dX3_restore_24 : decode cX3_restore 24 = .ok (.baload, 1) := by decide +kernel
theorem dX3_restore_25 : decode cX3_restore 25 = .ok (.ifCond .eq 5, 3) := by decide +kernel
theorem dX3_restore_28 : decode cX3_restore 28 = .ok (.iconst 0, 1) := by decide +kernel
theorem dX3_restore_29 : decode cX3_restore 29 = .ok (.ireturn, 1) := by decide +kernel
theorem dX3_restore_30 : decode cX3_restore 30 = .ok (.aload_n 0, 1) := by decide +kernel
theorem dX3_restore_31 : decode cX3_restore 31 = .ok (.iload_n 1, 1) := by decide +kernel
theorem dX3_restore_32 : decode cX3_restore 32 = .ok (.iload_n 2, 1) := by decide +kernel
theorem dX3_restore_33 : decode cX3_restore 33 = .ok (.invokevirtual 121, 3) := by decide +kernel
theorem dX3_restore_36 : decode cX3_restore 36 = .ok (.iconst 1, 1) := by decide +kernel
theorem dX3_restore_37 : decode cX3_restore 37 = .ok (.ireturn, 1) := by decide +kernel
theorem dX3_forget_0 : decode cX3_forget 0 = .ok (.iconst 0, 1) := by decide +kernel
theorem dX3_forget_1 : decode cX3_forget 1 = .ok (.istore_n 2, 1) := by decide +kernel
theorem dX3_forget_2 : decode cX3_forget 2 = .ok (.iload_n 2, 1) := by decide +kernel
theorem dX3_forget_3 : decode cX3_forget 3 = .ok (.bipush 8, 2) := by decide +kernel
theorem dX3_forget_5 : decode cX3_forget 5 = .ok (.if_icmp .ge 21, 3) := by decide +kernel
theorem dX3_forget_8 : decode cX3_forget 8 = .ok (.aload_n 0, 1) := by decide +kernel
theorem dX3_forget_9 : decode cX3_forget 9 = .ok (.getfield 29, 3) := by decide +kernel
theorem dX3_forget_12 : decode cX3_forget 12 = .ok (.bipush 8, 2) := by decide +kernel
theorem dX3_forget_14 : decode cX3_forget 14 = .ok (.iload_n 1, 1) := by decide +kernel
theorem dX3_forget_15 : decode cX3_forget 15 = .ok (.imul, 1) := by decide +kernel
theorem dX3_forget_16 : decode cX3_forget 16 = .ok (.iload_n 2, 1) := by decide +kernel
theorem dX3_forget_17 : decode cX3_forget 17 = .ok (.iadd, 1) := by decide +kernel
theorem dX3_forget_18 : decode cX3_forget 18 = .ok (.iconst 0, 1) := by decide +kernel
theorem dX3_forget_19 : decode cX3_forget 19 = .ok (.iastore, 1) := by decide +kernel
theorem dX3_forget_20 : decode cX3_forget 20 = .ok (.iinc 2 1, 3) := by decide +kernel
theorem dX3_forget_23 : decode cX3_forget 23 = .ok (.goto (-21), 3) := by decide +kernel
theorem dX3_forget_26 : decode cX3_forget 26 = .ok (.aload_n 0, 1) := by decide +kernel
theorem dX3_forget_27 : decode cX3_forget 27 = .ok (.getfield 13, 3) := by decide +kernel
theorem dX3_forget_30 : decode cX3_forget 30 = .ok (.iload_n 1, 1) := by decide +kernel
theorem dX3_forget_31 : decode cX3_forget 31 = .ok (.iconst 0, 1) := by decide +kernel
theorem dX3_forget_32 : decode cX3_forget 32 = .ok (.iastore, 1) := by decide +kernel
theorem dX3_forget_33 : decode cX3_forget 33 = .ok (.return_, 1) := by decide +kernel
theorem dX3_start_0 : decode cX3_start 0 = .ok (.aload_n 0, 1) := by decide +kernel
theorem dX3_start_1 : decode cX3_start 1 = .ok (.iload_n 1, 1) := by decide +kernel
theorem dX3_start_2 : decode cX3_start 2 = .ok (.invokestatic 88, 3) := by decide +kernel
theorem dX3_start_5 : decode cX3_start 5 = .ok (.iconst 1, 1) := by decide +kernel
theorem dX3_start_6 : decode cX3_start 6 = .ok (.invokevirtual 117, 3) := by decide +kernel
theorem dX3_start_9 : decode cX3_start 9 = .ok (.ifCond .eq 12, 3) := by decide +kernel
theorem dX3_start_12 : decode cX3_start 12 = .ok (.aload_n 0, 1) := by decide +kernel
theorem dX3_start_13 : decode cX3_start 13 = .ok (.getfield 7, 3) := by decide +kernel
theorem dX3_start_16 : decode cX3_start 16 = .ok (.iload_n 1, 1) := by decide +kernel
theorem dX3_start_17 : decode cX3_start 17 = .ok (.baload, 1) := by decide +kernel
theorem dX3_start_18 : decode cX3_start 18 = .ok (.ifCond .eq 5, 3) := by decide +kernel
theorem dX3_start_21 : decode cX3_start 21 = .ok (.iconst 0, 1) := by decide +kernel
theorem dX3_start_22 : decode cX3_start 22 = .ok (.ireturn, 1) := by decide +kernel
theorem dX3_start_23 : decode cX3_start 23 = .ok (.aload_n 0, 1) := by decide +kernel
theorem dX3_start_24 : decode cX3_start 24 = .ok (.iload_n 1, 1) := by decide +kernel
theorem dX3_start_25 : decode cX3_start 25 = .ok (.invokevirtual 130, 3) := by decide +kernel
theorem dX3_start_28 : decode cX3_start 28 = .ok (.aload_n 0, 1) := by decide +kernel
theorem dX3_start_29 : decode cX3_start 29 = .ok (.getfield 7, 3) := by decide +kernel
theorem dX3_start_32 : decode cX3_start 32 = .ok (.iload_n 1, 1) := by decide +kernel
theorem dX3_start_33 : decode cX3_start 33 = .ok (.iconst 1, 1) := by decide +kernel
theorem dX3_start_34 : decode cX3_start 34 = .ok (.bastore, 1) := by decide +kernel
theorem dX3_start_35 : decode cX3_start 35 = .ok (.iconst 0, 1) := by decide +kernel
theorem dX3_start_36 : decode cX3_start 36 = .ok (.istore_n 2, 1) := by decide +kernel
theorem dX3_start_37 : decode cX3_start 37 = .ok (.iload_n 2, 1) := by decide +kernel
theorem dX3_start_38 : decode cX3_start 38 = .ok (.bipush 8, 2) := by decide +kernel
theorem dX3_start_40 : decode cX3_start 40 = .ok (.if_icmp .ge 23, 3) := by decide +kernel
theorem dX3_start_43 : decode cX3_start 43 = .ok (.aload_n 0, 1) := by decide +kernel
theorem dX3_start_44 : decode cX3_start 44 = .ok (.iload_n 1, 1) := by decide +kernel
theorem dX3_start_45 : decode cX3_start 45 = .ok (.iload_n 2, 1) := by decide +kernel
theorem dX3_start_46 : decode cX3_start 46 = .ok (.invokevirtual 92, 3) := by decide +kernel
theorem dX3_start_49 : decode cX3_start 49 = .ok (.ifCond .eq 8, 3) := by decide +kernel
theorem dX3_start_52 : decode cX3_start 52 = .ok (.aload_n 0, 1) := by decide +kernel
theorem dX3_start_53 : decode cX3_start 53 = .ok (.iload_n 2, 1) := by decide +kernel
theorem dX3_start_54 : decode cX3_start 54 = .ok (.invokevirtual 103, 3) := by decide +kernel
theorem dX3_start_57 : decode cX3_start 57 = .ok (.iinc 2 1, 3) := by decide +kernel
theorem dX3_start_60 : decode cX3_start 60 = .ok (.goto (-23), 3) := by decide +kernel
theorem dX3_start_63 : decode cX3_start 63 = .ok (.aload_n 0, 1) := by decide +kernel
theorem dX3_start_64 : decode cX3_start 64 = .ok (.iload_n 1, 1) := by decide +kernel
theorem dX3_start_65 : decode cX3_start 65 = .ok (.invokevirtual 103, 3) := by decide +kernel
theorem dX3_start_68 : decode cX3_start 68 = .ok (.iconst 0, 1) := by decide +kernel
theorem dX3_start_69 : decode cX3_start 69 = .ok (.istore_n 2, 1) := by decide +kernel
theorem dX3_start_70 : decode cX3_start 70 = .ok (.iload_n 2, 1) := by decide +kernel
theorem dX3_start_71 : decode cX3_start 71 = .ok (.bipush 8, 2) := by decide +kernel
theorem dX3_start_73 : decode cX3_start 73 = .ok (.if_icmp .ge 24, 3) := by decide +kernel
theorem dX3_start_76 : decode cX3_start 76 = .ok (.aload_n 0, 1) := by decide +kernel
theorem dX3_start_77 : decode cX3_start 77 = .ok (.iload_n 1, 1) := by decide +kernel
theorem dX3_start_78 : decode cX3_start 78 = .ok (.iload_n 2, 1) := by decide +kernel
theorem dX3_start_79 : decode cX3_start 79 = .ok (.invokevirtual 92, 3) := by decide +kernel
theorem dX3_start_82 : decode cX3_start 82 = .ok (.ifCond .eq 9, 3) := by decide +kernel
theorem dX3_start_85 : decode cX3_start 85 = .ok (.aload_n 0, 1) := by decide +kernel
theorem dX3_start_86 : decode cX3_start 86 = .ok (.iload_n 2, 1) := by decide +kernel
theorem dX3_start_87 : decode cX3_start 87 = .ok (.iload_n 1, 1) := by decide +kernel
theorem dX3_start_88 : decode cX3_start 88 = .ok (.invokevirtual 110, 3) := by decide +kernel
theorem dX3_start_91 : decode cX3_start 91 = .ok (.iinc 2 1, 3) := by decide +kernel
theorem dX3_start_94 : decode cX3_start 94 = .ok (.goto (-24), 3) := by decide +kernel
theorem dX3_start_97 : decode cX3_start 97 = .ok (.iconst 1, 1) := by decide +kernel
theorem dX3_start_98 : decode cX3_start 98 = .ok (.ireturn, 1) := by decide +kernel
theorem dX3_crash_0 : decode cX3_crash 0 = .ok (.aload_n 0, 1) := by decide +kernel
theorem dX3_crash_1 : decode cX3_crash 1 = .ok (.iload_n 1, 1) := by decide +kernel
theorem dX3_crash_2 : decode cX3_crash 2 = .ok (.invokestatic 88, 3) := by decide +kernel
theorem dX3_crash_5 : decode cX3_crash 5 = .ok (.iconst 1, 1) := by decide +kernel
theorem dX3_crash_6 : decode cX3_crash 6 = .ok (.invokevirtual 117, 3) := by decide +kernel
theorem dX3_crash_9 : decode cX3_crash 9 = .ok (.ifCond .eq 12, 3) := by decide +kernel
theorem dX3_crash_12 : decode cX3_crash 12 = .ok (.aload_n 0, 1) := by decide +kernel
theorem dX3_crash_13 : decode cX3_crash 13 = .ok (.getfield 7, 3) := by decide +kernel
theorem dX3_crash_16 : decode cX3_crash 16 = .ok (.iload_n 1, 1) := by decide +kernel
theorem dX3_crash_17 : decode cX3_crash 17 = .ok (.baload, 1) := by decide +kernel
theorem dX3_crash_18 : decode cX3_crash 18 = .ok (.ifCond .ne 5, 3) := by decide +kernel
theorem dX3_crash_21 : decode cX3_crash 21 = .ok (.iconst 0, 1) := by decide +kernel
theorem dX3_crash_22 : decode cX3_crash 22 = .ok (.ireturn, 1) := by decide +kernel
theorem dX3_crash_23 : decode cX3_crash 23 = .ok (.iconst 0, 1) := by decide +kernel
theorem dX3_crash_24 : decode cX3_crash 24 = .ok (.istore_n 2, 1) := by decide +kernel
theorem dX3_crash_25 : decode cX3_crash 25 = .ok (.iconst 0, 1) := by decide +kernel
theorem dX3_crash_26 : decode cX3_crash 26 = .ok (.istore_n 3, 1) := by decide +kernel
theorem dX3_crash_27 : decode cX3_crash 27 = .ok (.iload_n 3, 1) := by decide +kernel
theorem dX3_crash_28 : decode cX3_crash 28 = .ok (.bipush 8, 2) := by decide +kernel
theorem dX3_crash_30 : decode cX3_crash 30 = .ok (.if_icmp .ge 28, 3) := by decide +kernel
theorem dX3_crash_33 : decode cX3_crash 33 = .ok (.aload_n 0, 1) := by decide +kernel
theorem dX3_crash_34 : decode cX3_crash 34 = .ok (.iload_n 1, 1) := by decide +kernel
theorem dX3_crash_35 : decode cX3_crash 35 = .ok (.iload_n 3, 1) := by decide +kernel
theorem dX3_crash_36 : decode cX3_crash 36 = .ok (.invokevirtual 92, 3) := by decide +kernel
theorem dX3_crash_39 : decode cX3_crash 39 = .ok (.ifCond .eq 11, 3) := by decide +kernel
theorem dX3_crash_42 : decode cX3_crash 42 = .ok (.iload_n 2, 1) := by decide +kernel
theorem dX3_crash_43 : decode cX3_crash 43 = .ok (.iconst 1, 1) := by decide +kernel
theorem dX3_crash_44 : decode cX3_crash 44 = .ok (.iload_n 3, 1) := by decide +kernel
theorem dX3_crash_45 : decode cX3_crash 45 = .ok (.ishl, 1) := by decide +kernel
theorem dX3_crash_46 : decode cX3_crash 46 = .ok (.ior, 1) := by decide +kernel
theorem dX3_crash_47 : decode cX3_crash 47 = .ok (.goto 4, 3) := by decide +kernel
theorem dX3_crash_50 : decode cX3_crash 50 = .ok (.iload_n 2, 1) := by decide +kernel
theorem dX3_crash_51 : decode cX3_crash 51 = .ok (.istore_n 2, 1) := by decide +kernel
theorem dX3_crash_52 : decode cX3_crash 52 = .ok (.iinc 3 1, 3) := by decide +kernel
theorem dX3_crash_55 : decode cX3_crash 55 = .ok (.goto (-28), 3) := by decide +kernel
theorem dX3_crash_58 : decode cX3_crash 58 = .ok (.aload_n 0, 1) := by decide +kernel
theorem dX3_crash_59 : decode cX3_crash 59 = .ok (.getfield 7, 3) := by decide +kernel
theorem dX3_crash_62 : decode cX3_crash 62 = .ok (.iload_n 1, 1) := by decide +kernel
theorem dX3_crash_63 : decode cX3_crash 63 = .ok (.iconst 0, 1) := by decide +kernel
theorem dX3_crash_64 : decode cX3_crash 64 = .ok (.bastore, 1) := by decide +kernel
theorem dX3_crash_65 : decode cX3_crash 65 = .ok (.aload_n 0, 1) := by decide +kernel
theorem dX3_crash_66 : decode cX3_crash 66 = .ok (.iload_n 1, 1) := by decide +kernel
theorem dX3_crash_67 : decode cX3_crash 67 = .ok (.invokevirtual 130, 3) := by decide +kernel
theorem dX3_crash_70 : decode cX3_crash 70 = .ok (.iconst 0, 1) := by decide +kernel
theorem dX3_crash_71 : decode cX3_crash 71 = .ok (.istore_n 3, 1) := by decide +kernel
theorem dX3_crash_72 : decode cX3_crash 72 = .ok (.iload_n 3, 1) := by decide +kernel
theorem dX3_crash_73 : decode cX3_crash 73 = .ok (.bipush 8, 2) := by decide +kernel
theorem dX3_crash_75 : decode cX3_crash 75 = .ok (.if_icmp .ge 15, 3) := by decide +kernel
theorem dX3_crash_78 : decode cX3_crash 78 = .ok (.aload_n 0, 1) := by decide +kernel
theorem dX3_crash_79 : decode cX3_crash 79 = .ok (.iload_n 1, 1) := by decide +kernel
theorem dX3_crash_80 : decode cX3_crash 80 = .ok (.iload_n 3, 1) := by decide +kernel
theorem dX3_crash_81 : decode cX3_crash 81 = .ok (.invokevirtual 127, 3) := by decide +kernel
theorem dX3_crash_84 : decode cX3_crash 84 = .ok (.iinc 3 1, 3) := by decide +kernel
theorem dX3_crash_87 : decode cX3_crash 87 = .ok (.goto (-15), 3) := by decide +kernel
theorem dX3_crash_90 : decode cX3_crash 90 = .ok (.iconst 0, 1) := by decide +kernel
theorem dX3_crash_91 : decode cX3_crash 91 = .ok (.istore_n 3, 1) := by decide +kernel
theorem dX3_crash_92 : decode cX3_crash 92 = .ok (.iload_n 3, 1) := by decide +kernel
theorem dX3_crash_93 : decode cX3_crash 93 = .ok (.bipush 8, 2) := by decide +kernel
theorem dX3_crash_95 : decode cX3_crash 95 = .ok (.if_icmp .ge 23, 3) := by decide +kernel
theorem dX3_crash_98 : decode cX3_crash 98 = .ok (.iload_n 2, 1) := by decide +kernel
theorem dX3_crash_99 : decode cX3_crash 99 = .ok (.iload_n 3, 1) := by decide +kernel
theorem dX3_crash_100 : decode cX3_crash 100 = .ok (.ishr, 1) := by decide +kernel
theorem dX3_crash_101 : decode cX3_crash 101 = .ok (.iconst 1, 1) := by decide +kernel
theorem dX3_crash_102 : decode cX3_crash 102 = .ok (.iand, 1) := by decide +kernel
theorem dX3_crash_103 : decode cX3_crash 103 = .ok (.iconst 1, 1) := by decide +kernel
theorem dX3_crash_104 : decode cX3_crash 104 = .ok (.if_icmp .ne 8, 3) := by decide +kernel
theorem dX3_crash_107 : decode cX3_crash 107 = .ok (.aload_n 0, 1) := by decide +kernel
theorem dX3_crash_108 : decode cX3_crash 108 = .ok (.iload_n 3, 1) := by decide +kernel
theorem dX3_crash_109 : decode cX3_crash 109 = .ok (.invokevirtual 103, 3) := by decide +kernel
theorem dX3_crash_112 : decode cX3_crash 112 = .ok (.iinc 3 1, 3) := by decide +kernel
theorem dX3_crash_115 : decode cX3_crash 115 = .ok (.goto (-23), 3) := by decide +kernel
theorem dX3_crash_118 : decode cX3_crash 118 = .ok (.iconst 1, 1) := by decide +kernel
theorem dX3_crash_119 : decode cX3_crash 119 = .ok (.ireturn, 1) := by decide +kernel
theorem dX3_grow_0 : decode cX3_grow 0 = .ok (.iconst 0, 1) := by decide +kernel
theorem dX3_grow_1 : decode cX3_grow 1 = .ok (.istore_n 1, 1) := by decide +kernel
theorem dX3_grow_2 : decode cX3_grow 2 = .ok (.iload_n 1, 1) := by decide +kernel
theorem dX3_grow_3 : decode cX3_grow 3 = .ok (.bipush 64, 2) := by decide +kernel
theorem dX3_grow_5 : decode cX3_grow 5 = .ok (.if_icmp .ge 46, 3) := by decide +kernel
theorem dX3_grow_8 : decode cX3_grow 8 = .ok (.aload_n 0, 1) := by decide +kernel
theorem dX3_grow_9 : decode cX3_grow 9 = .ok (.getfield 32, 3) := by decide +kernel
theorem dX3_grow_12 : decode cX3_grow 12 = .ok (.iload_n 1, 1) := by decide +kernel
theorem dX3_grow_13 : decode cX3_grow 13 = .ok (.dup2, 1) := by decide +kernel
theorem dX3_grow_14 : decode cX3_grow 14 = .ok (.iaload, 1) := by decide +kernel
theorem dX3_grow_15 : decode cX3_grow 15 = .ok (.iconst 1, 1) := by decide +kernel
theorem dX3_grow_16 : decode cX3_grow 16 = .ok (.iadd, 1) := by decide +kernel
theorem dX3_grow_17 : decode cX3_grow 17 = .ok (.iastore, 1) := by decide +kernel
theorem dX3_grow_18 : decode cX3_grow 18 = .ok (.aload_n 0, 1) := by decide +kernel
theorem dX3_grow_19 : decode cX3_grow 19 = .ok (.getfield 29, 3) := by decide +kernel
theorem dX3_grow_22 : decode cX3_grow 22 = .ok (.iload_n 1, 1) := by decide +kernel
theorem dX3_grow_23 : decode cX3_grow 23 = .ok (.aload_n 0, 1) := by decide +kernel
theorem dX3_grow_24 : decode cX3_grow 24 = .ok (.getfield 32, 3) := by decide +kernel
theorem dX3_grow_27 : decode cX3_grow 27 = .ok (.iload_n 1, 1) := by decide +kernel
theorem dX3_grow_28 : decode cX3_grow 28 = .ok (.iaload, 1) := by decide +kernel
theorem dX3_grow_29 : decode cX3_grow 29 = .ok (.bipush 60, 2) := by decide +kernel
theorem dX3_grow_31 : decode cX3_grow 31 = .ok (.if_icmp .lt 7, 3) := by decide +kernel
theorem dX3_grow_34 : decode cX3_grow 34 = .ok (.iconst 0, 1) := by decide +kernel
theorem dX3_grow_35 : decode cX3_grow 35 = .ok (.goto 9, 3) := by decide +kernel
theorem dX3_grow_38 : decode cX3_grow 38 = .ok (.aload_n 0, 1) := by decide +kernel
theorem dX3_grow_39 : decode cX3_grow 39 = .ok (.getfield 29, 3) := by decide +kernel
theorem dX3_grow_42 : decode cX3_grow 42 = .ok (.iload_n 1, 1) := by decide +kernel
theorem dX3_grow_43 : decode cX3_grow 43 = .ok (.iaload, 1) := by decide +kernel
theorem dX3_grow_44 : decode cX3_grow 44 = .ok (.iastore, 1) := by decide +kernel
theorem dX3_grow_45 : decode cX3_grow 45 = .ok (.iinc 1 1, 3) := by decide +kernel
theorem dX3_grow_48 : decode cX3_grow 48 = .ok (.goto (-46), 3) := by decide +kernel
theorem dX3_grow_51 : decode cX3_grow 51 = .ok (.iconst 0, 1) := by decide +kernel
theorem dX3_grow_52 : decode cX3_grow 52 = .ok (.istore_n 1, 1) := by decide +kernel
theorem dX3_grow_53 : decode cX3_grow 53 = .ok (.iload_n 1, 1) := by decide +kernel
theorem dX3_grow_54 : decode cX3_grow 54 = .ok (.sipush 512, 3) := by decide +kernel
theorem dX3_grow_57 : decode cX3_grow 57 = .ok (.if_icmp .ge 46, 3) := by decide +kernel
theorem dX3_grow_60 : decode cX3_grow 60 = .ok (.aload_n 0, 1) := by decide +kernel
theorem dX3_grow_61 : decode cX3_grow 61 = .ok (.getfield 41, 3) := by decide +kernel
theorem dX3_grow_64 : decode cX3_grow 64 = .ok (.iload_n 1, 1) := by decide +kernel
theorem dX3_grow_65 : decode cX3_grow 65 = .ok (.dup2, 1) := by decide +kernel
theorem dX3_grow_66 : decode cX3_grow 66 = .ok (.iaload, 1) := by decide +kernel
theorem dX3_grow_67 : decode cX3_grow 67 = .ok (.iconst 1, 1) := by decide +kernel
theorem dX3_grow_68 : decode cX3_grow 68 = .ok (.iadd, 1) := by decide +kernel
theorem dX3_grow_69 : decode cX3_grow 69 = .ok (.iastore, 1) := by decide +kernel
theorem dX3_grow_70 : decode cX3_grow 70 = .ok (.aload_n 0, 1) := by decide +kernel
theorem dX3_grow_71 : decode cX3_grow 71 = .ok (.getfield 38, 3) := by decide +kernel
theorem dX3_grow_74 : decode cX3_grow 74 = .ok (.iload_n 1, 1) := by decide +kernel
theorem dX3_grow_75 : decode cX3_grow 75 = .ok (.aload_n 0, 1) := by decide +kernel
theorem dX3_grow_76 : decode cX3_grow 76 = .ok (.getfield 41, 3) := by decide +kernel
theorem dX3_grow_79 : decode cX3_grow 79 = .ok (.iload_n 1, 1) := by decide +kernel
theorem dX3_grow_80 : decode cX3_grow 80 = .ok (.iaload, 1) := by decide +kernel
theorem dX3_grow_81 : decode cX3_grow 81 = .ok (.bipush 60, 2) := by decide +kernel
theorem dX3_grow_83 : decode cX3_grow 83 = .ok (.if_icmp .lt 7, 3) := by decide +kernel
theorem dX3_grow_86 : decode cX3_grow 86 = .ok (.iconst 0, 1) := by decide +kernel
theorem dX3_grow_87 : decode cX3_grow 87 = .ok (.goto 9, 3) := by decide +kernel
theorem dX3_grow_90 : decode cX3_grow 90 = .ok (.aload_n 0, 1) := by decide +kernel
theorem dX3_grow_91 : decode cX3_grow 91 = .ok (.getfield 38, 3) := by decide +kernel
theorem dX3_grow_94 : decode cX3_grow 94 = .ok (.iload_n 1, 1) := by decide +kernel
theorem dX3_grow_95 : decode cX3_grow 95 = .ok (.iaload, 1) := by decide +kernel
theorem dX3_grow_96 : decode cX3_grow 96 = .ok (.iastore, 1) := by decide +kernel
theorem dX3_grow_97 : decode cX3_grow 97 = .ok (.iinc 1 1, 3) := by decide +kernel
theorem dX3_grow_100 : decode cX3_grow 100 = .ok (.goto (-47), 3) := by decide +kernel
theorem dX3_grow_103 : decode cX3_grow 103 = .ok (.return_, 1) := by decide +kernel
theorem dX3_oneTick_0 : decode cX3_oneTick 0 = .ok (.aload_n 0, 1) := by decide +kernel
theorem dX3_oneTick_1 : decode cX3_oneTick 1 = .ok (.dup, 1) := by decide +kernel
theorem dX3_oneTick_2 : decode cX3_oneTick 2 = .ok (.getfield 96, 3) := by decide +kernel
theorem dX3_oneTick_5 : decode cX3_oneTick 5 = .ok (.iconst 1, 1) := by decide +kernel
theorem dX3_oneTick_6 : decode cX3_oneTick 6 = .ok (.iadd, 1) := by decide +kernel
theorem dX3_oneTick_7 : decode cX3_oneTick 7 = .ok (.putfield 96, 3) := by decide +kernel
theorem dX3_oneTick_10 : decode cX3_oneTick 10 = .ok (.aload_n 0, 1) := by decide +kernel
theorem dX3_oneTick_11 : decode cX3_oneTick 11 = .ok (.invokevirtual 133, 3) := by decide +kernel
theorem dX3_oneTick_14 : decode cX3_oneTick 14 = .ok (.iconst 0, 1) := by decide +kernel
theorem dX3_oneTick_15 : decode cX3_oneTick 15 = .ok (.istore_n 1, 1) := by decide +kernel
theorem dX3_oneTick_16 : decode cX3_oneTick 16 = .ok (.iload_n 1, 1) := by decide +kernel
theorem dX3_oneTick_17 : decode cX3_oneTick 17 = .ok (.bipush 8, 2) := by decide +kernel
theorem dX3_oneTick_19 : decode cX3_oneTick 19 = .ok (.if_icmp .ge 53, 3) := by decide +kernel
theorem dX3_oneTick_22 : decode cX3_oneTick 22 = .ok (.aload_n 0, 1) := by decide +kernel
theorem dX3_oneTick_23 : decode cX3_oneTick 23 = .ok (.getfield 7, 3) := by decide +kernel
theorem dX3_oneTick_26 : decode cX3_oneTick 26 = .ok (.iload_n 1, 1) := by decide +kernel
theorem dX3_oneTick_27 : decode cX3_oneTick 27 = .ok (.baload, 1) := by decide +kernel
theorem dX3_oneTick_28 : decode cX3_oneTick 28 = .ok (.ifCond .eq 38, 3) := by decide +kernel
theorem dX3_oneTick_31 : decode cX3_oneTick 31 = .ok (.aload_n 0, 1) := by decide +kernel
theorem dX3_oneTick_32 : decode cX3_oneTick 32 = .ok (.getfield 29, 3) := by decide +kernel
theorem dX3_oneTick_35 : decode cX3_oneTick 35 = .ok (.bipush 8, 2) := by decide +kernel
theorem dX3_oneTick_37 : decode cX3_oneTick 37 = .ok (.iload_n 1, 1) := by decide +kernel
theorem dX3_oneTick_38 : decode cX3_oneTick 38 = .ok (.imul, 1) := by decide +kernel
theorem dX3_oneTick_39 : decode cX3_oneTick 39 = .ok (.iload_n 1, 1) := by decide +kernel
theorem dX3_oneTick_40 : decode cX3_oneTick 40 = .ok (.iadd, 1) := by decide +kernel
theorem dX3_oneTick_41 : decode cX3_oneTick 41 = .ok (.iaload, 1) := by decide +kernel
theorem dX3_oneTick_42 : decode cX3_oneTick 42 = .ok (.ifCond .le 24, 3) := by decide +kernel
theorem dX3_oneTick_45 : decode cX3_oneTick 45 = .ok (.aload_n 0, 1) := by decide +kernel
theorem dX3_oneTick_46 : decode cX3_oneTick 46 = .ok (.getfield 32, 3) := by decide +kernel
theorem dX3_oneTick_49 : decode cX3_oneTick 49 = .ok (.bipush 8, 2) := by decide +kernel
theorem dX3_oneTick_51 : decode cX3_oneTick 51 = .ok (.iload_n 1, 1) := by decide +kernel
theorem dX3_oneTick_52 : decode cX3_oneTick 52 = .ok (.imul, 1) := by decide +kernel
theorem dX3_oneTick_53 : decode cX3_oneTick 53 = .ok (.iload_n 1, 1) := by decide +kernel
theorem dX3_oneTick_54 : decode cX3_oneTick 54 = .ok (.iadd, 1) := by decide +kernel
theorem dX3_oneTick_55 : decode cX3_oneTick 55 = .ok (.iaload, 1) := by decide +kernel
theorem dX3_oneTick_56 : decode cX3_oneTick 56 = .ok (.bipush 40, 2) := by decide +kernel
theorem dX3_oneTick_58 : decode cX3_oneTick 58 = .ok (.if_icmp .ne 8, 3) := by decide +kernel
theorem dX3_oneTick_61 : decode cX3_oneTick 61 = .ok (.aload_n 0, 1) := by decide +kernel
theorem dX3_oneTick_62 : decode cX3_oneTick 62 = .ok (.iload_n 1, 1) := by decide +kernel
theorem dX3_oneTick_63 : decode cX3_oneTick 63 = .ok (.invokevirtual 103, 3) := by decide +kernel
theorem dX3_oneTick_66 : decode cX3_oneTick 66 = .ok (.iinc 1 1, 3) := by decide +kernel
theorem dX3_oneTick_69 : decode cX3_oneTick 69 = .ok (.goto (-53), 3) := by decide +kernel
theorem dX3_oneTick_72 : decode cX3_oneTick 72 = .ok (.iconst 0, 1) := by decide +kernel
theorem dX3_oneTick_73 : decode cX3_oneTick 73 = .ok (.istore_n 1, 1) := by decide +kernel
theorem dX3_oneTick_74 : decode cX3_oneTick 74 = .ok (.iload_n 1, 1) := by decide +kernel
theorem dX3_oneTick_75 : decode cX3_oneTick 75 = .ok (.sipush 512, 3) := by decide +kernel
theorem dX3_oneTick_78 : decode cX3_oneTick 78 = .ok (.if_icmp .ge 50, 3) := by decide +kernel
theorem dX3_oneTick_81 : decode cX3_oneTick 81 = .ok (.aload_n 0, 1) := by decide +kernel
theorem dX3_oneTick_82 : decode cX3_oneTick 82 = .ok (.getfield 38, 3) := by decide +kernel
theorem dX3_oneTick_85 : decode cX3_oneTick 85 = .ok (.iload_n 1, 1) := by decide +kernel
theorem dX3_oneTick_86 : decode cX3_oneTick 86 = .ok (.iaload, 1) := by decide +kernel
theorem dX3_oneTick_87 : decode cX3_oneTick 87 = .ok (.ifCond .le 35, 3) := by decide +kernel
theorem dX3_oneTick_90 : decode cX3_oneTick 90 = .ok (.aload_n 0, 1) := by decide +kernel
theorem dX3_oneTick_91 : decode cX3_oneTick 91 = .ok (.getfield 44, 3) := by decide +kernel
theorem dX3_oneTick_94 : decode cX3_oneTick 94 = .ok (.iload_n 1, 1) := by decide +kernel
theorem dX3_oneTick_95 : decode cX3_oneTick 95 = .ok (.iaload, 1) := by decide +kernel
theorem dX3_oneTick_96 : decode cX3_oneTick 96 = .ok (.aload_n 0, 1) := by decide +kernel
theorem dX3_oneTick_97 : decode cX3_oneTick 97 = .ok (.getfield 96, 3) := by decide +kernel
theorem dX3_oneTick_100 : decode cX3_oneTick 100 = .ok (.if_icmp .ne 22, 3) := by decide +kernel
theorem dX3_oneTick_103 : decode cX3_oneTick 103 = .ok (.aload_n 0, 1) := by decide +kernel
theorem dX3_oneTick_104 : decode cX3_oneTick 104 = .ok (.iload_n 1, 1) := by decide +kernel
theorem dX3_oneTick_105 : decode cX3_oneTick 105 = .ok (.bipush 64, 2) := by decide +kernel
theorem dX3_oneTick_107 : decode cX3_oneTick 107 = .ok (.idiv, 1) := by decide +kernel
theorem dX3_oneTick_108 : decode cX3_oneTick 108 = .ok (.iload_n 1, 1) := by decide +kernel
theorem dX3_oneTick_109 : decode cX3_oneTick 109 = .ok (.bipush 8, 2) := by decide +kernel
theorem dX3_oneTick_111 : decode cX3_oneTick 111 = .ok (.idiv, 1) := by decide +kernel
theorem dX3_oneTick_112 : decode cX3_oneTick 112 = .ok (.bipush 8, 2) := by decide +kernel
theorem dX3_oneTick_114 : decode cX3_oneTick 114 = .ok (.irem, 1) := by decide +kernel
theorem dX3_oneTick_115 : decode cX3_oneTick 115 = .ok (.iload_n 1, 1) := by decide +kernel
theorem dX3_oneTick_116 : decode cX3_oneTick 116 = .ok (.bipush 8, 2) := by decide +kernel
theorem dX3_oneTick_118 : decode cX3_oneTick 118 = .ok (.irem, 1) := by decide +kernel
theorem dX3_oneTick_119 : decode cX3_oneTick 119 = .ok (.invokevirtual 136, 3) := by decide +kernel
theorem dX3_oneTick_122 : decode cX3_oneTick 122 = .ok (.iinc 1 1, 3) := by decide +kernel
theorem dX3_oneTick_125 : decode cX3_oneTick 125 = .ok (.goto (-51), 3) := by decide +kernel
theorem dX3_oneTick_128 : decode cX3_oneTick 128 = .ok (.iconst 0, 1) := by decide +kernel
theorem dX3_oneTick_129 : decode cX3_oneTick 129 = .ok (.istore_n 1, 1) := by decide +kernel
theorem dX3_oneTick_130 : decode cX3_oneTick 130 = .ok (.iload_n 1, 1) := by decide +kernel
theorem dX3_oneTick_131 : decode cX3_oneTick 131 = .ok (.aload_n 0, 1) := by decide +kernel
theorem dX3_oneTick_132 : decode cX3_oneTick 132 = .ok (.getfield 107, 3) := by decide +kernel
theorem dX3_oneTick_135 : decode cX3_oneTick 135 = .ok (.if_icmp .ge 42, 3) := by decide +kernel
theorem dX3_oneTick_138 : decode cX3_oneTick 138 = .ok (.aload_n 0, 1) := by decide +kernel
theorem dX3_oneTick_139 : decode cX3_oneTick 139 = .ok (.getfield 56, 3) := by decide +kernel
theorem dX3_oneTick_142 : decode cX3_oneTick 142 = .ok (.iload_n 1, 1) := by decide +kernel
theorem dX3_oneTick_143 : decode cX3_oneTick 143 = .ok (.iaload, 1) := by decide +kernel
theorem dX3_oneTick_144 : decode cX3_oneTick 144 = .ok (.ifCond .ne 27, 3) := by decide +kernel
theorem dX3_oneTick_147 : decode cX3_oneTick 147 = .ok (.aload_n 0, 1) := by decide +kernel
theorem dX3_oneTick_148 : decode cX3_oneTick 148 = .ok (.getfield 65, 3) := by decide +kernel
theorem dX3_oneTick_151 : decode cX3_oneTick 151 = .ok (.iload_n 1, 1) := by decide +kernel
theorem dX3_oneTick_152 : decode cX3_oneTick 152 = .ok (.iaload, 1) := by decide +kernel
theorem dX3_oneTick_153 : decode cX3_oneTick 153 = .ok (.aload_n 0, 1) := by decide +kernel
theorem dX3_oneTick_154 : decode cX3_oneTick 154 = .ok (.getfield 96, 3) := by decide +kernel
theorem dX3_oneTick_157 : decode cX3_oneTick 157 = .ok (.if_icmp .ne 14, 3) := by decide +kernel
theorem dX3_oneTick_160 : decode cX3_oneTick 160 = .ok (.aload_n 0, 1) := by decide +kernel
theorem dX3_oneTick_161 : decode cX3_oneTick 161 = .ok (.iload_n 1, 1) := by decide +kernel
theorem dX3_oneTick_162 : decode cX3_oneTick 162 = .ok (.aload_n 0, 1) := by decide +kernel
theorem dX3_oneTick_163 : decode cX3_oneTick 163 = .ok (.getfield 62, 3) := by decide +kernel
theorem dX3_oneTick_166 : decode cX3_oneTick 166 = .ok (.iload_n 1, 1) := by decide +kernel
theorem dX3_oneTick_167 : decode cX3_oneTick 167 = .ok (.iaload, 1) := by decide +kernel
theorem dX3_oneTick_168 : decode cX3_oneTick 168 = .ok (.invokevirtual 139, 3) := by decide +kernel
theorem dX3_oneTick_171 : decode cX3_oneTick 171 = .ok (.iinc 1 1, 3) := by decide +kernel
theorem dX3_oneTick_174 : decode cX3_oneTick 174 = .ok (.goto (-44), 3) := by decide +kernel
theorem dX3_oneTick_177 : decode cX3_oneTick 177 = .ok (.return_, 1) := by decide +kernel
theorem dX3_tick_0 : decode cX3_tick 0 = .ok (.aload_n 0, 1) := by decide +kernel
theorem dX3_tick_1 : decode cX3_tick 1 = .ok (.iload_n 1, 1) := by decide +kernel
theorem dX3_tick_2 : decode cX3_tick 2 = .ok (.iconst 1, 1) := by decide +kernel
theorem dX3_tick_3 : decode cX3_tick 3 = .ok (.bipush 50, 2) := by decide +kernel
theorem dX3_tick_5 : decode cX3_tick 5 = .ok (.invokestatic 84, 3) := by decide +kernel
theorem dX3_tick_8 : decode cX3_tick 8 = .ok (.iconst 1, 1) := by decide +kernel
theorem dX3_tick_9 : decode cX3_tick 9 = .ok (.invokevirtual 117, 3) := by decide +kernel
theorem dX3_tick_12 : decode cX3_tick 12 = .ok (.ifCond .ne 5, 3) := by decide +kernel
theorem dX3_tick_15 : decode cX3_tick 15 = .ok (.iconst 0, 1) := by decide +kernel
theorem dX3_tick_16 : decode cX3_tick 16 = .ok (.ireturn, 1) := by decide +kernel
theorem dX3_tick_17 : decode cX3_tick 17 = .ok (.iconst 0, 1) := by decide +kernel
theorem dX3_tick_18 : decode cX3_tick 18 = .ok (.istore_n 2, 1) := by decide +kernel
theorem dX3_tick_19 : decode cX3_tick 19 = .ok (.iload_n 2, 1) := by decide +kernel
theorem dX3_tick_20 : decode cX3_tick 20 = .ok (.iload_n 1, 1) := by decide +kernel
theorem dX3_tick_21 : decode cX3_tick 21 = .ok (.if_icmp .ge 13, 3) := by decide +kernel
theorem dX3_tick_24 : decode cX3_tick 24 = .ok (.aload_n 0, 1) := by decide +kernel
theorem dX3_tick_25 : decode cX3_tick 25 = .ok (.invokevirtual 142, 3) := by decide +kernel
theorem dX3_tick_28 : decode cX3_tick 28 = .ok (.iinc 2 1, 3) := by decide +kernel
theorem dX3_tick_31 : decode cX3_tick 31 = .ok (.goto (-12), 3) := by decide +kernel
theorem dX3_tick_34 : decode cX3_tick 34 = .ok (.aload_n 0, 1) := by decide +kernel
theorem dX3_tick_35 : decode cX3_tick 35 = .ok (.getfield 96, 3) := by decide +kernel
theorem dX3_tick_38 : decode cX3_tick 38 = .ok (.ireturn, 1) := by decide +kernel
theorem dX3_step_0 : decode cX3_step 0 = .ok (.bipush 8, 2) := by decide +kernel
theorem dX3_step_2 : decode cX3_step 2 = .ok (.iload_n 1, 1) := by decide +kernel
theorem dX3_step_3 : decode cX3_step 3 = .ok (.imul, 1) := by decide +kernel
theorem dX3_step_4 : decode cX3_step 4 = .ok (.iload_n 2, 1) := by decide +kernel
theorem dX3_step_5 : decode cX3_step 5 = .ok (.iadd, 1) := by decide +kernel
theorem dX3_step_6 : decode cX3_step 6 = .ok (.istore 4, 2) := by decide +kernel
theorem dX3_step_8 : decode cX3_step 8 = .ok (.bipush 8, 2) := by decide +kernel
theorem dX3_step_10 : decode cX3_step 10 = .ok (.iload_n 1, 1) := by decide +kernel
theorem dX3_step_11 : decode cX3_step 11 = .ok (.imul, 1) := by decide +kernel
theorem dX3_step_12 : decode cX3_step 12 = .ok (.iload_n 3, 1) := by decide +kernel
theorem dX3_step_13 : decode cX3_step 13 = .ok (.iadd, 1) := by decide +kernel
theorem dX3_step_14 : decode cX3_step 14 = .ok (.istore 5, 2) := by decide +kernel
theorem dX3_step_16 : decode cX3_step 16 = .ok (.aload_n 0, 1) := by decide +kernel
theorem dX3_step_17 : decode cX3_step 17 = .ok (.getfield 29, 3) := by decide +kernel
theorem dX3_step_20 : decode cX3_step 20 = .ok (.iload 4, 2) := by decide +kernel
theorem dX3_step_22 : decode cX3_step 22 = .ok (.iaload, 1) := by decide +kernel
theorem dX3_step_23 : decode cX3_step 23 = .ok (.ifCond .le 32, 3) := by decide +kernel
theorem dX3_step_26 : decode cX3_step 26 = .ok (.aload_n 0, 1) := by decide +kernel
theorem dX3_step_27 : decode cX3_step 27 = .ok (.getfield 29, 3) := by decide +kernel
theorem dX3_step_30 : decode cX3_step 30 = .ok (.iload 5, 2) := by decide +kernel
theorem dX3_step_32 : decode cX3_step 32 = .ok (.iaload, 1) := by decide +kernel
theorem dX3_step_33 : decode cX3_step 33 = .ok (.ifCond .le 22, 3) := by decide +kernel
theorem dX3_step_36 : decode cX3_step 36 = .ok (.aload_n 0, 1) := by decide +kernel
theorem dX3_step_37 : decode cX3_step 37 = .ok (.getfield 35, 3) := by decide +kernel
theorem dX3_step_40 : decode cX3_step 40 = .ok (.bipush 8, 2) := by decide +kernel
theorem dX3_step_42 : decode cX3_step 42 = .ok (.iload 5, 2) := by decide +kernel
theorem dX3_step_44 : decode cX3_step 44 = .ok (.imul, 1) := by decide +kernel
theorem dX3_step_45 : decode cX3_step 45 = .ok (.iload_n 2, 1) := by decide +kernel
theorem dX3_step_46 : decode cX3_step 46 = .ok (.iadd, 1) := by decide +kernel
theorem dX3_step_47 : decode cX3_step 47 = .ok (.iaload, 1) := by decide +kernel
theorem dX3_step_48 : decode cX3_step 48 = .ok (.ifCond .le 7, 3) := by decide +kernel
theorem dX3_step_51 : decode cX3_step 51 = .ok (.iconst 1, 1) := by decide +kernel
theorem dX3_step_52 : decode cX3_step 52 = .ok (.goto 4, 3) := by decide +kernel
theorem dX3_step_55 : decode cX3_step 55 = .ok (.iconst 0, 1) := by decide +kernel
theorem dX3_step_56 : decode cX3_step 56 = .ok (.istore 6, 2) := by decide +kernel
theorem dX3_step_58 : decode cX3_step 58 = .ok (.iload 6, 2) := by decide +kernel
theorem dX3_step_60 : decode cX3_step 60 = .ok (.ifCond .eq 18, 3) := by decide +kernel
theorem dX3_step_63 : decode cX3_step 63 = .ok (.aload_n 0, 1) := by decide +kernel
theorem dX3_step_64 : decode cX3_step 64 = .ok (.getfield 35, 3) := by decide +kernel
theorem dX3_step_67 : decode cX3_step 67 = .ok (.bipush 8, 2) := by decide +kernel
theorem dX3_step_69 : decode cX3_step 69 = .ok (.iload 4, 2) := by decide +kernel
theorem dX3_step_71 : decode cX3_step 71 = .ok (.imul, 1) := by decide +kernel
theorem dX3_step_72 : decode cX3_step 72 = .ok (.iload_n 3, 1) := by decide +kernel
theorem dX3_step_73 : decode cX3_step 73 = .ok (.iadd, 1) := by decide +kernel
theorem dX3_step_74 : decode cX3_step 74 = .ok (.iaload, 1) := by decide +kernel
theorem dX3_step_75 : decode cX3_step 75 = .ok (.goto 4, 3) := by decide +kernel
theorem dX3_step_78 : decode cX3_step 78 = .ok (.iconst 0, 1) := by decide +kernel
theorem dX3_step_79 : decode cX3_step 79 = .ok (.ireturn, 1) := by decide +kernel
theorem dX3_measure_0 : decode cX3_measure 0 = .ok (.iconst 0, 1) := by decide +kernel
theorem dX3_measure_1 : decode cX3_measure 1 = .ok (.istore_n 3, 1) := by decide +kernel
theorem dX3_measure_2 : decode cX3_measure 2 = .ok (.iload_n 3, 1) := by decide +kernel
theorem dX3_measure_3 : decode cX3_measure 3 = .ok (.bipush 8, 2) := by decide +kernel
theorem dX3_measure_5 : decode cX3_measure 5 = .ok (.if_icmp .ge 25, 3) := by decide +kernel
theorem dX3_measure_8 : decode cX3_measure 8 = .ok (.aload_n 0, 1) := by decide +kernel
theorem dX3_measure_9 : decode cX3_measure 9 = .ok (.getfield 74, 3) := by decide +kernel
theorem dX3_measure_12 : decode cX3_measure 12 = .ok (.iload_n 3, 1) := by decide +kernel
theorem dX3_measure_13 : decode cX3_measure 13 = .ok (.iload_n 3, 1) := by decide +kernel
theorem dX3_measure_14 : decode cX3_measure 14 = .ok (.iload_n 2, 1) := by decide +kernel
theorem dX3_measure_15 : decode cX3_measure 15 = .ok (.if_icmp .ne 7, 3) := by decide +kernel
theorem dX3_measure_18 : decode cX3_measure 18 = .ok (.iconst 0, 1) := by decide +kernel
theorem dX3_measure_19 : decode cX3_measure 19 = .ok (.goto 4, 3) := by decide +kernel
theorem dX3_measure_22 : decode cX3_measure 22 = .ok (.iconst (-1), 1) := by decide +kernel
theorem dX3_measure_23 : decode cX3_measure 23 = .ok (.iastore, 1) := by decide +kernel
theorem dX3_measure_24 : decode cX3_measure 24 = .ok (.iinc 3 1, 3) := by decide +kernel
theorem dX3_measure_27 : decode cX3_measure 27 = .ok (.goto (-25), 3) := by decide +kernel
theorem dX3_measure_30 : decode cX3_measure 30 = .ok (.iconst 1, 1) := by decide +kernel
theorem dX3_measure_31 : decode cX3_measure 31 = .ok (.istore_n 3, 1) := by decide +kernel
theorem dX3_measure_32 : decode cX3_measure 32 = .ok (.iload_n 3, 1) := by decide +kernel
theorem dX3_measure_33 : decode cX3_measure 33 = .ok (.ifCond .eq 117, 3) := by decide +kernel
theorem dX3_measure_36 : decode cX3_measure 36 = .ok (.iconst 0, 1) := by decide +kernel
theorem dX3_measure_37 : decode cX3_measure 37 = .ok (.istore_n 3, 1) := by decide +kernel
theorem dX3_measure_38 : decode cX3_measure 38 = .ok (.iconst 0, 1) := by decide +kernel
theorem dX3_measure_39 : decode cX3_measure 39 = .ok (.istore 4, 2) := by decide +kernel
theorem dX3_measure_41 : decode cX3_measure 41 = .ok (.iload 4, 2) := by decide +kernel
theorem dX3_measure_43 : decode cX3_measure 43 = .ok (.bipush 8, 2) := by decide +kernel
theorem dX3_measure_45 : decode cX3_measure 45 = .ok (.if_icmp .ge 102, 3) := by decide +kernel
theorem dX3_measure_48 : decode cX3_measure 48 = .ok (.iconst 0, 1) := by decide +kernel
theorem dX3_measure_49 : decode cX3_measure 49 = .ok (.istore 5, 2) := by decide +kernel
theorem dX3_measure_51 : decode cX3_measure 51 = .ok (.iload 5, 2) := by decide +kernel
theorem dX3_measure_53 : decode cX3_measure 53 = .ok (.bipush 8, 2) := by decide +kernel
theorem dX3_measure_55 : decode cX3_measure 55 = .ok (.if_icmp .ge 86, 3) := by decide +kernel
theorem dX3_measure_58 : decode cX3_measure 58 = .ok (.aload_n 0, 1) := by decide +kernel
theorem dX3_measure_59 : decode cX3_measure 59 = .ok (.iload_n 1, 1) := by decide +kernel
theorem dX3_measure_60 : decode cX3_measure 60 = .ok (.iload 4, 2) := by decide +kernel
theorem dX3_measure_62 : decode cX3_measure 62 = .ok (.iload 5, 2) := by decide +kernel
theorem dX3_measure_64 : decode cX3_measure 64 = .ok (.invokevirtual 145, 3) := by decide +kernel
theorem dX3_measure_67 : decode cX3_measure 67 = .ok (.istore 6, 2) := by decide +kernel
theorem dX3_measure_69 : decode cX3_measure 69 = .ok (.iload 6, 2) := by decide +kernel
theorem dX3_measure_71 : decode cX3_measure 71 = .ok (.ifCond .le 64, 3) := by decide +kernel
theorem dX3_measure_74 : decode cX3_measure 74 = .ok (.aload_n 0, 1) := by decide +kernel
theorem dX3_measure_75 : decode cX3_measure 75 = .ok (.getfield 74, 3) := by decide +kernel
theorem dX3_measure_78 : decode cX3_measure 78 = .ok (.iload 5, 2) := by decide +kernel
theorem dX3_measure_80 : decode cX3_measure 80 = .ok (.iaload, 1) := by decide +kernel
theorem dX3_measure_81 : decode cX3_measure 81 = .ok (.iconst (-1), 1) := by decide +kernel
theorem dX3_measure_82 : decode cX3_measure 82 = .ok (.if_icmp .eq 53, 3) := by decide +kernel
theorem dX3_measure_85 : decode cX3_measure 85 = .ok (.aload_n 0, 1) := by decide +kernel
theorem dX3_measure_86 : decode cX3_measure 86 = .ok (.getfield 74, 3) := by decide +kernel
theorem dX3_measure_89 : decode cX3_measure 89 = .ok (.iload 4, 2) := by decide +kernel
theorem dX3_measure_91 : decode cX3_measure 91 = .ok (.iaload, 1) := by decide +kernel
theorem dX3_measure_92 : decode cX3_measure 92 = .ok (.iconst (-1), 1) := by decide +kernel
theorem dX3_measure_93 : decode cX3_measure 93 = .ok (.if_icmp .eq 23, 3) := by decide +kernel
theorem dX3_measure_96 : decode cX3_measure 96 = .ok (.aload_n 0, 1) := by decide +kernel
theorem dX3_measure_97 : decode cX3_measure 97 = .ok (.getfield 74, 3) := by decide +kernel
theorem dX3_measure_100 : decode cX3_measure 100 = .ok (.iload 5, 2) := by decide +kernel
theorem dX3_measure_102 : decode cX3_measure 102 = .ok (.iaload, 1) := by decide +kernel
theorem dX3_measure_103 : decode cX3_measure 103 = .ok (.iload 6, 2) := by decide +kernel
theorem dX3_measure_105 : decode cX3_measure 105 = .ok (.iadd, 1) := by decide +kernel
theorem dX3_measure_106 : decode cX3_measure 106 = .ok (.aload_n 0, 1) := by decide +kernel
theorem dX3_measure_107 : decode cX3_measure 107 = .ok (.getfield 74, 3) := by decide +kernel
theorem dX3_measure_110 : decode cX3_measure 110 = .ok (.iload 4, 2) := by decide +kernel
theorem dX3_measure_112 : decode cX3_measure 112 = .ok (.iaload, 1) := by decide +kernel
theorem dX3_measure_113 : decode cX3_measure 113 = .ok (.if_icmp .ge 22, 3) := by decide +kernel
theorem dX3_measure_116 : decode cX3_measure 116 = .ok (.aload_n 0, 1) := by decide +kernel
theorem dX3_measure_117 : decode cX3_measure 117 = .ok (.getfield 74, 3) := by decide +kernel
theorem dX3_measure_120 : decode cX3_measure 120 = .ok (.iload 4, 2) := by decide +kernel
theorem dX3_measure_122 : decode cX3_measure 122 = .ok (.aload_n 0, 1) := by decide +kernel
theorem dX3_measure_123 : decode cX3_measure 123 = .ok (.getfield 74, 3) := by decide +kernel
theorem dX3_measure_126 : decode cX3_measure 126 = .ok (.iload 5, 2) := by decide +kernel
theorem dX3_measure_128 : decode cX3_measure 128 = .ok (.iaload, 1) := by decide +kernel
theorem dX3_measure_129 : decode cX3_measure 129 = .ok (.iload 6, 2) := by decide +kernel
theorem dX3_measure_131 : decode cX3_measure 131 = .ok (.iadd, 1) := by decide +kernel
theorem dX3_measure_132 : decode cX3_measure 132 = .ok (.iastore, 1) := by decide +kernel
theorem dX3_measure_133 : decode cX3_measure 133 = .ok (.iconst 1, 1) := by decide +kernel
theorem dX3_measure_134 : decode cX3_measure 134 = .ok (.istore_n 3, 1) := by decide +kernel
theorem dX3_measure_135 : decode cX3_measure 135 = .ok (.iinc 5 1, 3) := by decide +kernel
theorem dX3_measure_138 : decode cX3_measure 138 = .ok (.goto (-87), 3) := by decide +kernel
theorem dX3_measure_141 : decode cX3_measure 141 = .ok (.iinc 4 1, 3) := by decide +kernel
theorem dX3_measure_144 : decode cX3_measure 144 = .ok (.goto (-103), 3) := by decide +kernel
theorem dX3_measure_147 : decode cX3_measure 147 = .ok (.goto (-115), 3) := by decide +kernel
theorem dX3_measure_150 : decode cX3_measure 150 = .ok (.return_, 1) := by decide +kernel
theorem dX3_nextOf_0 : decode cX3_nextOf 0 = .ok (.aload_n 0, 1) := by decide +kernel
theorem dX3_nextOf_1 : decode cX3_nextOf 1 = .ok (.iload_n 1, 1) := by decide +kernel
theorem dX3_nextOf_2 : decode cX3_nextOf 2 = .ok (.iload_n 2, 1) := by decide +kernel
theorem dX3_nextOf_3 : decode cX3_nextOf 3 = .ok (.invokevirtual 149, 3) := by decide +kernel
theorem dX3_nextOf_6 : decode cX3_nextOf 6 = .ok (.aload_n 0, 1) := by decide +kernel
theorem dX3_nextOf_7 : decode cX3_nextOf 7 = .ok (.getfield 74, 3) := by decide +kernel
theorem dX3_nextOf_10 : decode cX3_nextOf 10 = .ok (.iload_n 1, 1) := by decide +kernel
theorem dX3_nextOf_11 : decode cX3_nextOf 11 = .ok (.iaload, 1) := by decide +kernel
theorem dX3_nextOf_12 : decode cX3_nextOf 12 = .ok (.iconst (-1), 1) := by decide +kernel
theorem dX3_nextOf_13 : decode cX3_nextOf 13 = .ok (.if_icmp .ne 5, 3) := by decide +kernel
theorem dX3_nextOf_16 : decode cX3_nextOf 16 = .ok (.iconst (-1), 1) := by decide +kernel
theorem dX3_nextOf_17 : decode cX3_nextOf 17 = .ok (.ireturn, 1) := by decide +kernel
theorem dX3_nextOf_18 : decode cX3_nextOf 18 = .ok (.iconst (-1), 1) := by decide +kernel
theorem dX3_nextOf_19 : decode cX3_nextOf 19 = .ok (.istore_n 3, 1) := by decide +kernel
theorem dX3_nextOf_20 : decode cX3_nextOf 20 = .ok (.bipush 7, 2) := by decide +kernel
theorem dX3_nextOf_22 : decode cX3_nextOf 22 = .ok (.istore 4, 2) := by decide +kernel
theorem dX3_nextOf_24 : decode cX3_nextOf 24 = .ok (.iload 4, 2) := by decide +kernel
theorem dX3_nextOf_26 : decode cX3_nextOf 26 = .ok (.ifCond .lt 61, 3) := by decide +kernel
theorem dX3_nextOf_29 : decode cX3_nextOf 29 = .ok (.aload_n 0, 1) := by decide +kernel
theorem dX3_nextOf_30 : decode cX3_nextOf 30 = .ok (.iload_n 1, 1) := by decide +kernel
theorem dX3_nextOf_31 : decode cX3_nextOf 31 = .ok (.iload_n 1, 1) := by decide +kernel
theorem dX3_nextOf_32 : decode cX3_nextOf 32 = .ok (.iload 4, 2) := by decide +kernel
theorem dX3_nextOf_34 : decode cX3_nextOf 34 = .ok (.invokevirtual 145, 3) := by decide +kernel
theorem dX3_nextOf_37 : decode cX3_nextOf 37 = .ok (.istore 5, 2) := by decide +kernel
theorem dX3_nextOf_39 : decode cX3_nextOf 39 = .ok (.iload 5, 2) := by decide +kernel
theorem dX3_nextOf_41 : decode cX3_nextOf 41 = .ok (.ifCond .le 38, 3) := by decide +kernel
theorem dX3_nextOf_44 : decode cX3_nextOf 44 = .ok (.aload_n 0, 1) := by decide +kernel
theorem dX3_nextOf_45 : decode cX3_nextOf 45 = .ok (.getfield 74, 3) := by decide +kernel
theorem dX3_nextOf_48 : decode cX3_nextOf 48 = .ok (.iload 4, 2) := by decide +kernel
theorem dX3_nextOf_50 : decode cX3_nextOf 50 = .ok (.iaload, 1) := by decide +kernel
theorem dX3_nextOf_51 : decode cX3_nextOf 51 = .ok (.iconst (-1), 1) := by decide +kernel
theorem dX3_nextOf_52 : decode cX3_nextOf 52 = .ok (.if_icmp .eq 27, 3) := by decide +kernel
theorem dX3_nextOf_55 : decode cX3_nextOf 55 = .ok (.aload_n 0, 1) := by decide +kernel
theorem dX3_nextOf_56 : decode cX3_nextOf 56 = .ok (.getfield 74, 3) := by decide +kernel
theorem dX3_nextOf_59 : decode cX3_nextOf 59 = .ok (.iload 4, 2) := by decide +kernel
theorem dX3_nextOf_61 : decode cX3_nextOf 61 = .ok (.iaload, 1) := by decide +kernel
theorem dX3_nextOf_62 : decode cX3_nextOf 62 = .ok (.iload 5, 2) := by decide +kernel
theorem dX3_nextOf_64 : decode cX3_nextOf 64 = .ok (.iadd, 1) := by decide +kernel
theorem dX3_nextOf_65 : decode cX3_nextOf 65 = .ok (.aload_n 0, 1) := by decide +kernel
theorem dX3_nextOf_66 : decode cX3_nextOf 66 = .ok (.getfield 74, 3) := by decide +kernel
theorem dX3_nextOf_69 : decode cX3_nextOf 69 = .ok (.iload_n 1, 1) := by decide +kernel
theorem dX3_nextOf_70 : decode cX3_nextOf 70 = .ok (.iaload, 1) := by decide +kernel
theorem dX3_nextOf_71 : decode cX3_nextOf 71 = .ok (.if_icmp .ne 8, 3) := by decide +kernel
theorem dX3_nextOf_74 : decode cX3_nextOf 74 = .ok (.iload 4, 2) := by decide +kernel
theorem dX3_nextOf_76 : decode cX3_nextOf 76 = .ok (.goto 4, 3) := by decide +kernel
theorem dX3_nextOf_79 : decode cX3_nextOf 79 = .ok (.iload_n 3, 1) := by decide +kernel
theorem dX3_nextOf_80 : decode cX3_nextOf 80 = .ok (.istore_n 3, 1) := by decide +kernel
theorem dX3_nextOf_81 : decode cX3_nextOf 81 = .ok (.iinc 4 (-1), 3) := by decide +kernel
theorem dX3_nextOf_84 : decode cX3_nextOf 84 = .ok (.goto (-60), 3) := by decide +kernel
theorem dX3_nextOf_87 : decode cX3_nextOf 87 = .ok (.iload_n 3, 1) := by decide +kernel
theorem dX3_nextOf_88 : decode cX3_nextOf 88 = .ok (.ireturn, 1) := by decide +kernel
theorem dX3_distance_0 : decode cX3_distance 0 = .ok (.aload_n 0, 1) := by decide +kernel
theorem dX3_distance_1 : decode cX3_distance 1 = .ok (.iconst 0, 1) := by decide +kernel
theorem dX3_distance_2 : decode cX3_distance 2 = .ok (.putfield 80, 3) := by decide +kernel
theorem dX3_distance_5 : decode cX3_distance 5 = .ok (.iload_n 1, 1) := by decide +kernel
theorem dX3_distance_6 : decode cX3_distance 6 = .ok (.invokestatic 88, 3) := by decide +kernel
theorem dX3_distance_9 : decode cX3_distance 9 = .ok (.ifCond .eq 19, 3) := by decide +kernel
theorem dX3_distance_12 : decode cX3_distance 12 = .ok (.iload_n 2, 1) := by decide +kernel
theorem dX3_distance_13 : decode cX3_distance 13 = .ok (.invokestatic 88, 3) := by decide +kernel
theorem dX3_distance_16 : decode cX3_distance 16 = .ok (.ifCond .eq 12, 3) := by decide +kernel
theorem dX3_distance_19 : decode cX3_distance 19 = .ok (.aload_n 0, 1) := by decide +kernel
theorem dX3_distance_20 : decode cX3_distance 20 = .ok (.getfield 7, 3) := by decide +kernel
theorem dX3_distance_23 : decode cX3_distance 23 = .ok (.iload_n 1, 1) := by decide +kernel
theorem dX3_distance_24 : decode cX3_distance 24 = .ok (.baload, 1) := by decide +kernel
theorem dX3_distance_25 : decode cX3_distance 25 = .ok (.ifCond .ne 5, 3) := by decide +kernel
theorem dX3_distance_28 : decode cX3_distance 28 = .ok (.iconst (-1), 1) := by decide +kernel
theorem dX3_distance_29 : decode cX3_distance 29 = .ok (.ireturn, 1) := by decide +kernel
theorem dX3_distance_30 : decode cX3_distance 30 = .ok (.aload_n 0, 1) := by decide +kernel
theorem dX3_distance_31 : decode cX3_distance 31 = .ok (.iload_n 1, 1) := by decide +kernel
theorem dX3_distance_32 : decode cX3_distance 32 = .ok (.iload_n 2, 1) := by decide +kernel
theorem dX3_distance_33 : decode cX3_distance 33 = .ok (.invokevirtual 149, 3) := by decide +kernel
theorem dX3_distance_36 : decode cX3_distance 36 = .ok (.aload_n 0, 1) := by decide +kernel
theorem dX3_distance_37 : decode cX3_distance 37 = .ok (.getfield 74, 3) := by decide +kernel
theorem dX3_distance_40 : decode cX3_distance 40 = .ok (.iload_n 1, 1) := by decide +kernel
theorem dX3_distance_41 : decode cX3_distance 41 = .ok (.iaload, 1) := by decide +kernel
theorem dX3_distance_42 : decode cX3_distance 42 = .ok (.ireturn, 1) := by decide +kernel
theorem dX3_next_0 : decode cX3_next 0 = .ok (.aload_n 0, 1) := by decide +kernel
theorem dX3_next_1 : decode cX3_next 1 = .ok (.iconst 0, 1) := by decide +kernel
theorem dX3_next_2 : decode cX3_next 2 = .ok (.putfield 80, 3) := by decide +kernel
theorem dX3_next_5 : decode cX3_next 5 = .ok (.iload_n 1, 1) := by decide +kernel
theorem dX3_next_6 : decode cX3_next 6 = .ok (.invokestatic 88, 3) := by decide +kernel
theorem dX3_next_9 : decode cX3_next 9 = .ok (.ifCond .eq 24, 3) := by decide +kernel
theorem dX3_next_12 : decode cX3_next 12 = .ok (.iload_n 2, 1) := by decide +kernel
theorem dX3_next_13 : decode cX3_next 13 = .ok (.invokestatic 88, 3) := by decide +kernel
theorem dX3_next_16 : decode cX3_next 16 = .ok (.ifCond .eq 17, 3) := by decide +kernel
theorem dX3_next_19 : decode cX3_next 19 = .ok (.iload_n 1, 1) := by decide +kernel
theorem dX3_next_20 : decode cX3_next 20 = .ok (.iload_n 2, 1) := by decide +kernel
theorem dX3_next_21 : decode cX3_next 21 = .ok (.if_icmp .eq 12, 3) := by decide +kernel
theorem dX3_next_24 : decode cX3_next 24 = .ok (.aload_n 0, 1) := by decide +kernel
theorem dX3_next_25 : decode cX3_next 25 = .ok (.getfield 7, 3) := by decide +kernel
theorem dX3_next_28 : decode cX3_next 28 = .ok (.iload_n 1, 1) := by decide +kernel
theorem dX3_next_29 : decode cX3_next 29 = .ok (.baload, 1) := by decide +kernel
theorem dX3_next_30 : decode cX3_next 30 = .ok (.ifCond .ne 5, 3) := by decide +kernel
theorem dX3_next_33 : decode cX3_next 33 = .ok (.iconst (-1), 1) := by decide +kernel
theorem dX3_next_34 : decode cX3_next 34 = .ok (.ireturn, 1) := by decide +kernel
theorem dX3_next_35 : decode cX3_next 35 = .ok (.aload_n 0, 1) := by decide +kernel
theorem dX3_next_36 : decode cX3_next 36 = .ok (.iload_n 1, 1) := by decide +kernel
theorem dX3_next_37 : decode cX3_next 37 = .ok (.iload_n 2, 1) := by decide +kernel
theorem dX3_next_38 : decode cX3_next 38 = .ok (.invokevirtual 152, 3) := by decide +kernel
theorem dX3_next_41 : decode cX3_next 41 = .ok (.ireturn, 1) := by decide +kernel
theorem dX3_isAt_0 : decode cX3_isAt 0 = .ok (.aload_n 0, 1) := by decide +kernel
theorem dX3_isAt_1 : decode cX3_isAt 1 = .ok (.getfield 71, 3) := by decide +kernel
theorem dX3_isAt_4 : decode cX3_isAt 4 = .ok (.bipush 40, 2) := by decide +kernel
theorem dX3_isAt_6 : decode cX3_isAt 6 = .ok (.iload_n 1, 1) := by decide +kernel
theorem dX3_isAt_7 : decode cX3_isAt 7 = .ok (.imul, 1) := by decide +kernel
theorem dX3_isAt_8 : decode cX3_isAt 8 = .ok (.aload_n 0, 1) := by decide +kernel
theorem dX3_isAt_9 : decode cX3_isAt 9 = .ok (.getfield 68, 3) := by decide +kernel
theorem dX3_isAt_12 : decode cX3_isAt 12 = .ok (.iload_n 1, 1) := by decide +kernel
theorem dX3_isAt_13 : decode cX3_isAt 13 = .ok (.iaload, 1) := by decide +kernel
theorem dX3_isAt_14 : decode cX3_isAt 14 = .ok (.iadd, 1) := by decide +kernel
theorem dX3_isAt_15 : decode cX3_isAt 15 = .ok (.iload_n 2, 1) := by decide +kernel
theorem dX3_isAt_16 : decode cX3_isAt 16 = .ok (.iastore, 1) := by decide +kernel
theorem dX3_isAt_17 : decode cX3_isAt 17 = .ok (.aload_n 0, 1) := by decide +kernel
theorem dX3_isAt_18 : decode cX3_isAt 18 = .ok (.getfield 68, 3) := by decide +kernel
theorem dX3_isAt_21 : decode cX3_isAt 21 = .ok (.iload_n 1, 1) := by decide +kernel
theorem dX3_isAt_22 : decode cX3_isAt 22 = .ok (.dup2, 1) := by decide +kernel
theorem dX3_isAt_23 : decode cX3_isAt 23 = .ok (.iaload, 1) := by decide +kernel
theorem dX3_isAt_24 : decode cX3_isAt 24 = .ok (.iconst 1, 1) := by decide +kernel
theorem dX3_isAt_25 : decode cX3_isAt 25 = .ok (.iadd, 1) := by decide +kernel
theorem dX3_isAt_26 : decode cX3_isAt 26 = .ok (.iastore, 1) := by decide +kernel
theorem dX3_isAt_27 : decode cX3_isAt 27 = .ok (.iload_n 2, 1) := by decide +kernel
theorem dX3_isAt_28 : decode cX3_isAt 28 = .ok (.aload_n 0, 1) := by decide +kernel
theorem dX3_isAt_29 : decode cX3_isAt 29 = .ok (.getfield 50, 3) := by decide +kernel
theorem dX3_isAt_32 : decode cX3_isAt 32 = .ok (.iload_n 1, 1) := by decide +kernel
theorem dX3_isAt_33 : decode cX3_isAt 33 = .ok (.iaload, 1) := by decide +kernel
theorem dX3_isAt_34 : decode cX3_isAt 34 = .ok (.if_icmp .ne 11, 3) := by decide +kernel
theorem dX3_isAt_37 : decode cX3_isAt 37 = .ok (.aload_n 0, 1) := by decide +kernel
theorem dX3_isAt_38 : decode cX3_isAt 38 = .ok (.getfield 56, 3) := by decide +kernel
theorem dX3_isAt_41 : decode cX3_isAt 41 = .ok (.iload_n 1, 1) := by decide +kernel
theorem dX3_isAt_42 : decode cX3_isAt 42 = .ok (.iconst 1, 1) := by decide +kernel
theorem dX3_isAt_43 : decode cX3_isAt 43 = .ok (.iastore, 1) := by decide +kernel
theorem dX3_isAt_44 : decode cX3_isAt 44 = .ok (.return_, 1) := by decide +kernel
theorem dX3_isAt_45 : decode cX3_isAt 45 = .ok (.aload_n 0, 1) := by decide +kernel
theorem dX3_isAt_46 : decode cX3_isAt 46 = .ok (.getfield 53, 3) := by decide +kernel
theorem dX3_isAt_49 : decode cX3_isAt 49 = .ok (.iload_n 1, 1) := by decide +kernel
theorem dX3_isAt_50 : decode cX3_isAt 50 = .ok (.iaload, 1) := by decide +kernel
theorem dX3_isAt_51 : decode cX3_isAt 51 = .ok (.ifCond .ne 11, 3) := by decide +kernel
theorem dX3_isAt_54 : decode cX3_isAt 54 = .ok (.aload_n 0, 1) := by decide +kernel
theorem dX3_isAt_55 : decode cX3_isAt 55 = .ok (.getfield 56, 3) := by decide +kernel
theorem dX3_isAt_58 : decode cX3_isAt 58 = .ok (.iload_n 1, 1) := by decide +kernel
theorem dX3_isAt_59 : decode cX3_isAt 59 = .ok (.iconst 2, 1) := by decide +kernel
theorem dX3_isAt_60 : decode cX3_isAt 60 = .ok (.iastore, 1) := by decide +kernel
theorem dX3_isAt_61 : decode cX3_isAt 61 = .ok (.return_, 1) := by decide +kernel
theorem dX3_isAt_62 : decode cX3_isAt 62 = .ok (.aload_n 0, 1) := by decide +kernel
theorem dX3_isAt_63 : decode cX3_isAt 63 = .ok (.iload_n 2, 1) := by decide +kernel
theorem dX3_isAt_64 : decode cX3_isAt 64 = .ok (.aload_n 0, 1) := by decide +kernel
theorem dX3_isAt_65 : decode cX3_isAt 65 = .ok (.getfield 50, 3) := by decide +kernel
theorem dX3_isAt_68 : decode cX3_isAt 68 = .ok (.iload_n 1, 1) := by decide +kernel
theorem dX3_isAt_69 : decode cX3_isAt 69 = .ok (.iaload, 1) := by decide +kernel
theorem dX3_isAt_70 : decode cX3_isAt 70 = .ok (.invokevirtual 152, 3) := by decide +kernel
theorem dX3_isAt_73 : decode cX3_isAt 73 = .ok (.istore_n 3, 1) := by decide +kernel
theorem dX3_isAt_74 : decode cX3_isAt 74 = .ok (.iload_n 3, 1) := by decide +kernel
theorem dX3_isAt_75 : decode cX3_isAt 75 = .ok (.iconst (-1), 1) := by decide +kernel
theorem dX3_isAt_76 : decode cX3_isAt 76 = .ok (.if_icmp .eq 12, 3) := by decide +kernel
theorem dX3_isAt_79 : decode cX3_isAt 79 = .ok (.aload_n 0, 1) := by decide +kernel
theorem dX3_isAt_80 : decode cX3_isAt 80 = .ok (.iload_n 2, 1) := by decide +kernel
theorem dX3_isAt_81 : decode cX3_isAt 81 = .ok (.iload_n 3, 1) := by decide +kernel
theorem dX3_isAt_82 : decode cX3_isAt 82 = .ok (.invokevirtual 92, 3) := by decide +kernel
theorem dX3_isAt_85 : decode cX3_isAt 85 = .ok (.ifCond .ne 11, 3) := by decide +kernel
theorem dX3_isAt_88 : decode cX3_isAt 88 = .ok (.aload_n 0, 1) := by decide +kernel
theorem dX3_isAt_89 : decode cX3_isAt 89 = .ok (.getfield 56, 3) := by decide +kernel
theorem dX3_isAt_92 : decode cX3_isAt 92 = .ok (.iload_n 1, 1) := by decide +kernel
theorem dX3_isAt_93 : decode cX3_isAt 93 = .ok (.iconst 3, 1) := by decide +kernel
theorem dX3_isAt_94 : decode cX3_isAt 94 = .ok (.iastore, 1) := by decide +kernel
theorem dX3_isAt_95 : decode cX3_isAt 95 = .ok (.return_, 1) := by decide +kernel
theorem dX3_isAt_96 : decode cX3_isAt 96 = .ok (.aload_n 0, 1) := by decide +kernel
theorem dX3_isAt_97 : decode cX3_isAt 97 = .ok (.getfield 53, 3) := by decide +kernel
theorem dX3_isAt_100 : decode cX3_isAt 100 = .ok (.iload_n 1, 1) := by decide +kernel
theorem dX3_isAt_101 : decode cX3_isAt 101 = .ok (.dup2, 1) := by decide +kernel
theorem dX3_isAt_102 : decode cX3_isAt 102 = .ok (.iaload, 1) := by decide +kernel
theorem dX3_isAt_103 : decode cX3_isAt 103 = .ok (.iconst 1, 1) := by decide +kernel
theorem dX3_isAt_104 : decode cX3_isAt 104 = .ok (.isub, 1) := by decide +kernel
theorem dX3_isAt_105 : decode cX3_isAt 105 = .ok (.iastore, 1) := by decide +kernel
theorem dX3_isAt_106 : decode cX3_isAt 106 = .ok (.aload_n 0, 1) := by decide +kernel
theorem dX3_isAt_107 : decode cX3_isAt 107 = .ok (.getfield 59, 3) := by decide +kernel
theorem dX3_isAt_110 : decode cX3_isAt 110 = .ok (.iload_n 1, 1) := by decide +kernel
theorem dX3_isAt_111 : decode cX3_isAt 111 = .ok (.iload_n 2, 1) := by decide +kernel
theorem dX3_isAt_112 : decode cX3_isAt 112 = .ok (.iastore, 1) := by decide +kernel
theorem dX3_isAt_113 : decode cX3_isAt 113 = .ok (.aload_n 0, 1) := by decide +kernel
theorem dX3_isAt_114 : decode cX3_isAt 114 = .ok (.getfield 62, 3) := by decide +kernel
theorem dX3_isAt_117 : decode cX3_isAt 117 = .ok (.iload_n 1, 1) := by decide +kernel
theorem dX3_isAt_118 : decode cX3_isAt 118 = .ok (.iload_n 3, 1) := by decide +kernel
theorem dX3_isAt_119 : decode cX3_isAt 119 = .ok (.iastore, 1) := by decide +kernel
theorem dX3_isAt_120 : decode cX3_isAt 120 = .ok (.aload_n 0, 1) := by decide +kernel
theorem dX3_isAt_121 : decode cX3_isAt 121 = .ok (.getfield 65, 3) := by decide +kernel
theorem dX3_isAt_124 : decode cX3_isAt 124 = .ok (.iload_n 1, 1) := by decide +kernel
theorem dX3_isAt_125 : decode cX3_isAt 125 = .ok (.aload_n 0, 1) := by decide +kernel
theorem dX3_isAt_126 : decode cX3_isAt 126 = .ok (.getfield 96, 3) := by decide +kernel
theorem dX3_isAt_129 : decode cX3_isAt 129 = .ok (.aload_n 0, 1) := by decide +kernel
theorem dX3_isAt_130 : decode cX3_isAt 130 = .ok (.getfield 23, 3) := by decide +kernel
theorem dX3_isAt_133 : decode cX3_isAt 133 = .ok (.bipush 8, 2) := by decide +kernel
theorem dX3_isAt_135 : decode cX3_isAt 135 = .ok (.iload_n 2, 1) := by decide +kernel
theorem dX3_isAt_136 : decode cX3_isAt 136 = .ok (.imul, 1) := by decide +kernel
theorem dX3_isAt_137 : decode cX3_isAt 137 = .ok (.iload_n 3, 1) := by decide +kernel
theorem dX3_isAt_138 : decode cX3_isAt 138 = .ok (.iadd, 1) := by decide +kernel
theorem dX3_isAt_139 : decode cX3_isAt 139 = .ok (.iaload, 1) := by decide +kernel
theorem dX3_isAt_140 : decode cX3_isAt 140 = .ok (.iadd, 1) := by decide +kernel
theorem dX3_isAt_141 : decode cX3_isAt 141 = .ok (.iastore, 1) := by decide +kernel
theorem dX3_isAt_142 : decode cX3_isAt 142 = .ok (.return_, 1) := by decide +kernel
theorem dX3_send_0 : decode cX3_send 0 = .ok (.iload_n 1, 1) := by decide +kernel
theorem dX3_send_1 : decode cX3_send 1 = .ok (.invokestatic 88, 3) := by decide +kernel
theorem dX3_send_4 : decode cX3_send 4 = .ok (.ifCond .eq 24, 3) := by decide +kernel
theorem dX3_send_7 : decode cX3_send 7 = .ok (.iload_n 2, 1) := by decide +kernel
theorem dX3_send_8 : decode cX3_send 8 = .ok (.invokestatic 88, 3) := by decide +kernel
theorem dX3_send_11 : decode cX3_send 11 = .ok (.ifCond .eq 17, 3) := by decide +kernel
theorem dX3_send_14 : decode cX3_send 14 = .ok (.iload_n 3, 1) := by decide +kernel
theorem dX3_send_15 : decode cX3_send 15 = .ok (.iconst 0, 1) := by decide +kernel
theorem dX3_send_16 : decode cX3_send 16 = .ok (.bipush 30, 2) := by decide +kernel
theorem dX3_send_18 : decode cX3_send 18 = .ok (.invokestatic 84, 3) := by decide +kernel
theorem dX3_send_21 : decode cX3_send 21 = .ok (.ifCond .eq 7, 3) := by decide +kernel
theorem dX3_send_24 : decode cX3_send 24 = .ok (.iconst 1, 1) := by decide +kernel
theorem dX3_send_25 : decode cX3_send 25 = .ok (.goto 4, 3) := by decide +kernel
theorem dX3_send_28 : decode cX3_send 28 = .ok (.iconst 0, 1) := by decide +kernel
theorem dX3_send_29 : decode cX3_send 29 = .ok (.istore 4, 2) := by decide +kernel
theorem dX3_send_31 : decode cX3_send 31 = .ok (.aload_n 0, 1) := by decide +kernel
theorem dX3_send_32 : decode cX3_send 32 = .ok (.iload 4, 2) := by decide +kernel
theorem dX3_send_34 : decode cX3_send 34 = .ok (.iload 4, 2) := by decide +kernel
theorem dX3_send_36 : decode cX3_send 36 = .ok (.ifCond .eq 25, 3) := by decide +kernel
theorem dX3_send_39 : decode cX3_send 39 = .ok (.aload_n 0, 1) := by decide +kernel
theorem dX3_send_40 : decode cX3_send 40 = .ok (.getfield 7, 3) := by decide +kernel
theorem dX3_send_43 : decode cX3_send 43 = .ok (.iload_n 1, 1) := by decide +kernel
theorem dX3_send_44 : decode cX3_send 44 = .ok (.baload, 1) := by decide +kernel
theorem dX3_send_45 : decode cX3_send 45 = .ok (.ifCond .eq 16, 3) := by decide +kernel
theorem dX3_send_48 : decode cX3_send 48 = .ok (.aload_n 0, 1) := by decide +kernel
theorem dX3_send_49 : decode cX3_send 49 = .ok (.getfield 107, 3) := by decide +kernel
theorem dX3_send_52 : decode cX3_send 52 = .ok (.bipush 20, 2) := by decide +kernel
theorem dX3_send_54 : decode cX3_send 54 = .ok (.if_icmp .ge 7, 3) := by decide +kernel
theorem dX3_send_57 : decode cX3_send 57 = .ok (.iconst 1, 1) := by decide +kernel
theorem dX3_send_58 : decode cX3_send 58 = .ok (.goto 4, 3) := by decide +kernel
theorem dX3_send_61 : decode cX3_send 61 = .ok (.iconst 0, 1) := by decide +kernel
theorem dX3_send_62 : decode cX3_send 62 = .ok (.invokevirtual 117, 3) := by decide +kernel
theorem dX3_send_65 : decode cX3_send 65 = .ok (.ifCond .ne 5, 3) := by decide +kernel
theorem dX3_send_68 : decode cX3_send 68 = .ok (.iconst 0, 1) := by decide +kernel
theorem dX3_send_69 : decode cX3_send 69 = .ok (.ireturn, 1) := by decide +kernel
theorem dX3_send_70 : decode cX3_send 70 = .ok (.aload_n 0, 1) := by decide +kernel
theorem dX3_send_71 : decode cX3_send 71 = .ok (.getfield 107, 3) := by decide +kernel
theorem dX3_send_74 : decode cX3_send 74 = .ok (.istore 5, 2) := by decide +kernel
theorem dX3_send_76 : decode cX3_send 76 = .ok (.aload_n 0, 1) := by decide +kernel
theorem dX3_send_77 : decode cX3_send 77 = .ok (.dup, 1) := by decide +kernel
theorem dX3_send_78 : decode cX3_send 78 = .ok (.getfield 107, 3) := by decide +kernel
theorem dX3_send_81 : decode cX3_send 81 = .ok (.iconst 1, 1) := by decide +kernel
theorem dX3_send_82 : decode cX3_send 82 = .ok (.iadd, 1) := by decide +kernel
theorem dX3_send_83 : decode cX3_send 83 = .ok (.putfield 107, 3) := by decide +kernel
theorem dX3_send_86 : decode cX3_send 86 = .ok (.aload_n 0, 1) := by decide +kernel
theorem dX3_send_87 : decode cX3_send 87 = .ok (.getfield 50, 3) := by decide +kernel
theorem dX3_send_90 : decode cX3_send 90 = .ok (.iload 5, 2) := by decide +kernel
theorem dX3_send_92 : decode cX3_send 92 = .ok (.iload_n 2, 1) := by decide +kernel
theorem dX3_send_93 : decode cX3_send 93 = .ok (.iastore, 1) := by decide +kernel
theorem dX3_send_94 : decode cX3_send 94 = .ok (.aload_n 0, 1) := by decide +kernel
theorem dX3_send_95 : decode cX3_send 95 = .ok (.getfield 53, 3) := by decide +kernel
theorem dX3_send_98 : decode cX3_send 98 = .ok (.iload 5, 2) := by decide +kernel
theorem dX3_send_100 : decode cX3_send 100 = .ok (.iload_n 3, 1) := by decide +kernel
theorem dX3_send_101 : decode cX3_send 101 = .ok (.iastore, 1) := by decide +kernel
theorem dX3_send_102 : decode cX3_send 102 = .ok (.aload_n 0, 1) := by decide +kernel
theorem dX3_send_103 : decode cX3_send 103 = .ok (.iload 5, 2) := by decide +kernel
theorem dX3_send_105 : decode cX3_send 105 = .ok (.iload_n 1, 1) := by decide +kernel
theorem dX3_send_106 : decode cX3_send 106 = .ok (.invokevirtual 139, 3) := by decide +kernel
theorem dX3_send_109 : decode cX3_send 109 = .ok (.iload 5, 2) := by decide +kernel
theorem dX3_send_111 : decode cX3_send 111 = .ok (.ireturn, 1) := by decide +kernel
theorem dX3_packet_0 : decode cX3_packet 0 = .ok (.aload_n 0, 1) := by decide +kernel
theorem dX3_packet_1 : decode cX3_packet 1 = .ok (.iconst 0, 1) := by decide +kernel
theorem dX3_packet_2 : decode cX3_packet 2 = .ok (.putfield 80, 3) := by decide +kernel
theorem dX3_packet_5 : decode cX3_packet 5 = .ok (.iload_n 1, 1) := by decide +kernel
theorem dX3_packet_6 : decode cX3_packet 6 = .ok (.iconst 0, 1) := by decide +kernel
theorem dX3_packet_7 : decode cX3_packet 7 = .ok (.aload_n 0, 1) := by decide +kernel
theorem dX3_packet_8 : decode cX3_packet 8 = .ok (.getfield 107, 3) := by decide +kernel
theorem dX3_packet_11 : decode cX3_packet 11 = .ok (.iconst 1, 1) := by decide +kernel
theorem dX3_packet_12 : decode cX3_packet 12 = .ok (.isub, 1) := by decide +kernel
theorem dX3_packet_13 : decode cX3_packet 13 = .ok (.invokestatic 84, 3) := by decide +kernel
theorem dX3_packet_16 : decode cX3_packet 16 = .ok (.ifCond .ne 5, 3) := by decide +kernel
theorem dX3_packet_19 : decode cX3_packet 19 = .ok (.iconst (-1), 1) := by decide +kernel
theorem dX3_packet_20 : decode cX3_packet 20 = .ok (.ireturn, 1) := by decide +kernel
theorem dX3_packet_21 : decode cX3_packet 21 = .ok (.iload_n 2, 1) := by decide +kernel
theorem dX3_packet_22 : decode cX3_packet 22 = .ok (.bipush 10, 2) := by decide +kernel
theorem dX3_packet_24 : decode cX3_packet 24 = .ok (.if_icmp .lt 35, 3) := by decide +kernel
theorem dX3_packet_27 : decode cX3_packet 27 = .ok (.iload_n 2, 1) := by decide +kernel
theorem dX3_packet_28 : decode cX3_packet 28 = .ok (.bipush 10, 2) := by decide +kernel
theorem dX3_packet_30 : decode cX3_packet 30 = .ok (.isub, 1) := by decide +kernel
theorem dX3_packet_31 : decode cX3_packet 31 = .ok (.aload_n 0, 1) := by decide +kernel
theorem dX3_packet_32 : decode cX3_packet 32 = .ok (.getfield 68, 3) := by decide +kernel
theorem dX3_packet_35 : decode cX3_packet 35 = .ok (.iload_n 1, 1) := by decide +kernel
theorem dX3_packet_36 : decode cX3_packet 36 = .ok (.iaload, 1) := by decide +kernel
theorem dX3_packet_37 : decode cX3_packet 37 = .ok (.if_icmp .ge 20, 3) := by decide +kernel
theorem dX3_packet_40 : decode cX3_packet 40 = .ok (.aload_n 0, 1) := by decide +kernel
theorem dX3_packet_41 : decode cX3_packet 41 = .ok (.getfield 71, 3) := by decide +kernel
theorem dX3_packet_44 : decode cX3_packet 44 = .ok (.bipush 40, 2) := by decide +kernel
theorem dX3_packet_46 : decode cX3_packet 46 = .ok (.iload_n 1, 1) := by decide +kernel
theorem dX3_packet_47 : decode cX3_packet 47 = .ok (.imul, 1) := by decide +kernel
theorem dX3_packet_48 : decode cX3_packet 48 = .ok (.iload_n 2, 1) := by decide +kernel
theorem dX3_packet_49 : decode cX3_packet 49 = .ok (.iadd, 1) := by decide +kernel
theorem dX3_packet_50 : decode cX3_packet 50 = .ok (.bipush 10, 2) := by decide +kernel
theorem dX3_packet_52 : decode cX3_packet 52 = .ok (.isub, 1) := by decide +kernel
theorem dX3_packet_53 : decode cX3_packet 53 = .ok (.iaload, 1) := by decide +kernel
theorem dX3_packet_54 : decode cX3_packet 54 = .ok (.goto 4, 3) := by decide +kernel
theorem dX3_packet_57 : decode cX3_packet 57 = .ok (.iconst (-1), 1) := by decide +kernel
theorem dX3_packet_58 : decode cX3_packet 58 = .ok (.ireturn, 1) := by decide +kernel
theorem dX3_packet_59 : decode cX3_packet 59 = .ok (.iload_n 2, 1) := by decide +kernel
theorem dX3_packet_60 : decode cX3_packet 60 = .ok (.ifCond .ne 12, 3) := by decide +kernel
theorem dX3_packet_63 : decode cX3_packet 63 = .ok (.aload_n 0, 1) := by decide +kernel
theorem dX3_packet_64 : decode cX3_packet 64 = .ok (.getfield 56, 3) := by decide +kernel
theorem dX3_packet_67 : decode cX3_packet 67 = .ok (.iload_n 1, 1) := by decide +kernel
theorem dX3_packet_68 : decode cX3_packet 68 = .ok (.iaload, 1) := by decide +kernel
theorem dX3_packet_69 : decode cX3_packet 69 = .ok (.goto 32, 3) := by decide +kernel
theorem dX3_packet_72 : decode cX3_packet 72 = .ok (.iload_n 2, 1) := by decide +kernel
theorem dX3_packet_73 : decode cX3_packet 73 = .ok (.iconst 1, 1) := by decide +kernel
theorem dX3_packet_74 : decode cX3_packet 74 = .ok (.if_icmp .ne 12, 3) := by decide +kernel
theorem dX3_packet_77 : decode cX3_packet 77 = .ok (.aload_n 0, 1) := by decide +kernel
theorem dX3_packet_78 : decode cX3_packet 78 = .ok (.getfield 53, 3) := by decide +kernel
theorem dX3_packet_81 : decode cX3_packet 81 = .ok (.iload_n 1, 1) := by decide +kernel
theorem dX3_packet_82 : decode cX3_packet 82 = .ok (.iaload, 1) := by decide +kernel
theorem dX3_packet_83 : decode cX3_packet 83 = .ok (.goto 18, 3) := by decide +kernel
theorem dX3_packet_86 : decode cX3_packet 86 = .ok (.iload_n 2, 1) := by decide +kernel
theorem dX3_packet_87 : decode cX3_packet 87 = .ok (.iconst 2, 1) := by decide +kernel
theorem dX3_packet_88 : decode cX3_packet 88 = .ok (.if_icmp .ne 12, 3) := by decide +kernel
theorem dX3_packet_91 : decode cX3_packet 91 = .ok (.aload_n 0, 1) := by decide +kernel
theorem dX3_packet_92 : decode cX3_packet 92 = .ok (.getfield 68, 3) := by decide +kernel
theorem dX3_packet_95 : decode cX3_packet 95 = .ok (.iload_n 1, 1) := by decide +kernel
theorem dX3_packet_96 : decode cX3_packet 96 = .ok (.iaload, 1) := by decide +kernel
theorem dX3_packet_97 : decode cX3_packet 97 = .ok (.goto 4, 3) := by decide +kernel
theorem dX3_packet_100 : decode cX3_packet 100 = .ok (.iconst (-1), 1) := by decide +kernel
theorem dX3_packet_101 : decode cX3_packet 101 = .ok (.ireturn, 1) := by decide +kernel
theorem dX3_news_0 : decode cX3_news 0 = .ok (.aload_n 0, 1) := by decide +kernel
theorem dX3_news_1 : decode cX3_news 1 = .ok (.iconst 0, 1) := by decide +kernel
theorem dX3_news_2 : decode cX3_news 2 = .ok (.putfield 80, 3) := by decide +kernel
theorem dX3_news_5 : decode cX3_news 5 = .ok (.iload_n 1, 1) := by decide +kernel
theorem dX3_news_6 : decode cX3_news 6 = .ok (.invokestatic 88, 3) := by decide +kernel
theorem dX3_news_9 : decode cX3_news 9 = .ok (.ifCond .eq 24, 3) := by decide +kernel
theorem dX3_news_12 : decode cX3_news 12 = .ok (.iload_n 2, 1) := by decide +kernel
theorem dX3_news_13 : decode cX3_news 13 = .ok (.invokestatic 88, 3) := by decide +kernel
theorem dX3_news_16 : decode cX3_news 16 = .ok (.ifCond .eq 17, 3) := by decide +kernel
theorem dX3_news_19 : decode cX3_news 19 = .ok (.aload_n 0, 1) := by decide +kernel
theorem dX3_news_20 : decode cX3_news 20 = .ok (.getfield 29, 3) := by decide +kernel
theorem dX3_news_23 : decode cX3_news 23 = .ok (.bipush 8, 2) := by decide +kernel
theorem dX3_news_25 : decode cX3_news 25 = .ok (.iload_n 1, 1) := by decide +kernel
theorem dX3_news_26 : decode cX3_news 26 = .ok (.imul, 1) := by decide +kernel
theorem dX3_news_27 : decode cX3_news 27 = .ok (.iload_n 2, 1) := by decide +kernel
theorem dX3_news_28 : decode cX3_news 28 = .ok (.iadd, 1) := by decide +kernel
theorem dX3_news_29 : decode cX3_news 29 = .ok (.iaload, 1) := by decide +kernel
theorem dX3_news_30 : decode cX3_news 30 = .ok (.ifCond .ne 5, 3) := by decide +kernel
theorem dX3_news_33 : decode cX3_news 33 = .ok (.iconst (-1), 1) := by decide +kernel
theorem dX3_news_34 : decode cX3_news 34 = .ok (.ireturn, 1) := by decide +kernel
theorem dX3_news_35 : decode cX3_news 35 = .ok (.bipush 8, 2) := by decide +kernel
theorem dX3_news_37 : decode cX3_news 37 = .ok (.iload_n 1, 1) := by decide +kernel
theorem dX3_news_38 : decode cX3_news 38 = .ok (.imul, 1) := by decide +kernel
theorem dX3_news_39 : decode cX3_news 39 = .ok (.iload_n 2, 1) := by decide +kernel
theorem dX3_news_40 : decode cX3_news 40 = .ok (.iadd, 1) := by decide +kernel
theorem dX3_news_41 : decode cX3_news 41 = .ok (.istore 4, 2) := by decide +kernel
theorem dX3_news_43 : decode cX3_news 43 = .ok (.iload_n 3, 1) := by decide +kernel
theorem dX3_news_44 : decode cX3_news 44 = .ok (.bipush 10, 2) := by decide +kernel
theorem dX3_news_46 : decode cX3_news 46 = .ok (.bipush 17, 2) := by decide +kernel
theorem dX3_news_48 : decode cX3_news 48 = .ok (.invokestatic 84, 3) := by decide +kernel
theorem dX3_news_51 : decode cX3_news 51 = .ok (.ifCond .eq 19, 3) := by decide +kernel
theorem dX3_news_54 : decode cX3_news 54 = .ok (.aload_n 0, 1) := by decide +kernel
theorem dX3_news_55 : decode cX3_news 55 = .ok (.getfield 35, 3) := by decide +kernel
theorem dX3_news_58 : decode cX3_news 58 = .ok (.bipush 8, 2) := by decide +kernel
theorem dX3_news_60 : decode cX3_news 60 = .ok (.iload 4, 2) := by decide +kernel
theorem dX3_news_62 : decode cX3_news 62 = .ok (.imul, 1) := by decide +kernel
theorem dX3_news_63 : decode cX3_news 63 = .ok (.iload_n 3, 1) := by decide +kernel
theorem dX3_news_64 : decode cX3_news 64 = .ok (.iadd, 1) := by decide +kernel
theorem dX3_news_65 : decode cX3_news 65 = .ok (.bipush 10, 2) := by decide +kernel
theorem dX3_news_67 : decode cX3_news 67 = .ok (.isub, 1) := by decide +kernel
theorem dX3_news_68 : decode cX3_news 68 = .ok (.iaload, 1) := by decide +kernel
theorem dX3_news_69 : decode cX3_news 69 = .ok (.ireturn, 1) := by decide +kernel
theorem dX3_news_70 : decode cX3_news 70 = .ok (.iconst 0, 1) := by decide +kernel
theorem dX3_news_71 : decode cX3_news 71 = .ok (.istore 5, 2) := by decide +kernel
theorem dX3_news_73 : decode cX3_news 73 = .ok (.iconst 0, 1) := by decide +kernel
theorem dX3_news_74 : decode cX3_news 74 = .ok (.istore 6, 2) := by decide +kernel
theorem dX3_news_76 : decode cX3_news 76 = .ok (.iload 6, 2) := by decide +kernel
theorem dX3_news_78 : decode cX3_news 78 = .ok (.bipush 8, 2) := by decide +kernel
theorem dX3_news_80 : decode cX3_news 80 = .ok (.if_icmp .ge 36, 3) := by decide +kernel
theorem dX3_news_83 : decode cX3_news 83 = .ok (.aload_n 0, 1) := by decide +kernel
theorem dX3_news_84 : decode cX3_news 84 = .ok (.getfield 35, 3) := by decide +kernel
theorem dX3_news_87 : decode cX3_news 87 = .ok (.bipush 8, 2) := by decide +kernel
theorem dX3_news_89 : decode cX3_news 89 = .ok (.iload 4, 2) := by decide +kernel
theorem dX3_news_91 : decode cX3_news 91 = .ok (.imul, 1) := by decide +kernel
theorem dX3_news_92 : decode cX3_news 92 = .ok (.iload 6, 2) := by decide +kernel
theorem dX3_news_94 : decode cX3_news 94 = .ok (.iadd, 1) := by decide +kernel
theorem dX3_news_95 : decode cX3_news 95 = .ok (.iaload, 1) := by decide +kernel
theorem dX3_news_96 : decode cX3_news 96 = .ok (.ifCond .le 10, 3) := by decide +kernel
theorem dX3_news_99 : decode cX3_news 99 = .ok (.iload 5, 2) := by decide +kernel
theorem dX3_news_101 : decode cX3_news 101 = .ok (.iconst 1, 1) := by decide +kernel
theorem dX3_news_102 : decode cX3_news 102 = .ok (.iadd, 1) := by decide +kernel
theorem dX3_news_103 : decode cX3_news 103 = .ok (.goto 5, 3) := by decide +kernel
theorem dX3_news_106 : decode cX3_news 106 = .ok (.iload 5, 2) := by decide +kernel
theorem dX3_news_108 : decode cX3_news 108 = .ok (.istore 5, 2) := by decide +kernel
theorem dX3_news_110 : decode cX3_news 110 = .ok (.iinc 6 1, 3) := by decide +kernel
theorem dX3_news_113 : decode cX3_news 113 = .ok (.goto (-37), 3) := by decide +kernel
theorem dX3_news_116 : decode cX3_news 116 = .ok (.iload_n 3, 1) := by decide +kernel
theorem dX3_news_117 : decode cX3_news 117 = .ok (.ifCond .ne 13, 3) := by decide +kernel
theorem dX3_news_120 : decode cX3_news 120 = .ok (.aload_n 0, 1) := by decide +kernel
theorem dX3_news_121 : decode cX3_news 121 = .ok (.getfield 29, 3) := by decide +kernel
theorem dX3_news_124 : decode cX3_news 124 = .ok (.iload 4, 2) := by decide +kernel
theorem dX3_news_126 : decode cX3_news 126 = .ok (.iaload, 1) := by decide +kernel
theorem dX3_news_127 : decode cX3_news 127 = .ok (.goto 29, 3) := by decide +kernel
theorem dX3_news_130 : decode cX3_news 130 = .ok (.iload_n 3, 1) := by decide +kernel
theorem dX3_news_131 : decode cX3_news 131 = .ok (.iconst 1, 1) := by decide +kernel
theorem dX3_news_132 : decode cX3_news 132 = .ok (.if_icmp .ne 13, 3) := by decide +kernel
theorem dX3_news_135 : decode cX3_news 135 = .ok (.aload_n 0, 1) := by decide +kernel
theorem dX3_news_136 : decode cX3_news 136 = .ok (.getfield 32, 3) := by decide +kernel
theorem dX3_news_139 : decode cX3_news 139 = .ok (.iload 4, 2) := by decide +kernel
theorem dX3_news_141 : decode cX3_news 141 = .ok (.iaload, 1) := by decide +kernel
theorem dX3_news_142 : decode cX3_news 142 = .ok (.goto 14, 3) := by decide +kernel
theorem dX3_news_145 : decode cX3_news 145 = .ok (.iload_n 3, 1) := by decide +kernel
theorem dX3_news_146 : decode cX3_news 146 = .ok (.iconst 2, 1) := by decide +kernel
theorem dX3_news_147 : decode cX3_news 147 = .ok (.if_icmp .ne 8, 3) := by decide +kernel
theorem dX3_news_150 : decode cX3_news 150 = .ok (.iload 5, 2) := by decide +kernel
theorem dX3_news_152 : decode cX3_news 152 = .ok (.goto 4, 3) := by decide +kernel
theorem dX3_news_155 : decode cX3_news 155 = .ok (.iconst (-1), 1) := by decide +kernel
theorem dX3_news_156 : decode cX3_news 156 = .ok (.ireturn, 1) := by decide +kernel
theorem dX3_flying_0 : decode cX3_flying 0 = .ok (.aload_n 0, 1) := by decide +kernel
theorem dX3_flying_1 : decode cX3_flying 1 = .ok (.iconst 0, 1) := by decide +kernel
theorem dX3_flying_2 : decode cX3_flying 2 = .ok (.putfield 80, 3) := by decide +kernel
theorem dX3_flying_5 : decode cX3_flying 5 = .ok (.iconst 0, 1) := by decide +kernel
theorem dX3_flying_6 : decode cX3_flying 6 = .ok (.istore_n 1, 1) := by decide +kernel
theorem dX3_flying_7 : decode cX3_flying 7 = .ok (.iconst 0, 1) := by decide +kernel
theorem dX3_flying_8 : decode cX3_flying 8 = .ok (.istore_n 2, 1) := by decide +kernel
theorem dX3_flying_9 : decode cX3_flying 9 = .ok (.iload_n 2, 1) := by decide +kernel
theorem dX3_flying_10 : decode cX3_flying 10 = .ok (.sipush 512, 3) := by decide +kernel
theorem dX3_flying_13 : decode cX3_flying 13 = .ok (.if_icmp .ge 26, 3) := by decide +kernel
theorem dX3_flying_16 : decode cX3_flying 16 = .ok (.aload_n 0, 1) := by decide +kernel
theorem dX3_flying_17 : decode cX3_flying 17 = .ok (.getfield 38, 3) := by decide +kernel
theorem dX3_flying_20 : decode cX3_flying 20 = .ok (.iload_n 2, 1) := by decide +kernel
theorem dX3_flying_21 : decode cX3_flying 21 = .ok (.iaload, 1) := by decide +kernel
theorem dX3_flying_22 : decode cX3_flying 22 = .ok (.ifCond .le 9, 3) := by decide +kernel
theorem dX3_flying_25 : decode cX3_flying 25 = .ok (.iload_n 1, 1) := by decide +kernel
theorem dX3_flying_26 : decode cX3_flying 26 = .ok (.iconst 1, 1) := by decide +kernel
theorem dX3_flying_27 : decode cX3_flying 27 = .ok (.iadd, 1) := by decide +kernel
theorem dX3_flying_28 : decode cX3_flying 28 = .ok (.goto 4, 3) := by decide +kernel
theorem dX3_flying_31 : decode cX3_flying 31 = .ok (.iload_n 1, 1) := by decide +kernel
theorem dX3_flying_32 : decode cX3_flying 32 = .ok (.istore_n 1, 1) := by decide +kernel
theorem dX3_flying_33 : decode cX3_flying 33 = .ok (.iinc 2 1, 3) := by decide +kernel
theorem dX3_flying_36 : decode cX3_flying 36 = .ok (.goto (-27), 3) := by decide +kernel
theorem dX3_flying_39 : decode cX3_flying 39 = .ok (.iload_n 1, 1) := by decide +kernel
theorem dX3_flying_40 : decode cX3_flying 40 = .ok (.ireturn, 1) := by decide +kernel
theorem dX3_settled_0 : decode cX3_settled 0 = .ok (.aload_n 0, 1) := by decide +kernel
theorem dX3_settled_1 : decode cX3_settled 1 = .ok (.invokevirtual 156, 3) := by decide +kernel
theorem dX3_settled_4 : decode cX3_settled 4 = .ok (.ifCond .le 5, 3) := by decide +kernel
theorem dX3_settled_7 : decode cX3_settled 7 = .ok (.iconst 0, 1) := by decide +kernel
theorem dX3_settled_8 : decode cX3_settled 8 = .ok (.ireturn, 1) := by decide +kernel
theorem dX3_settled_9 : decode cX3_settled 9 = .ok (.iconst 0, 1) := by decide +kernel
theorem dX3_settled_10 : decode cX3_settled 10 = .ok (.istore_n 1, 1) := by decide +kernel
theorem dX3_settled_11 : decode cX3_settled 11 = .ok (.iload_n 1, 1) := by decide +kernel
theorem dX3_settled_12 : decode cX3_settled 12 = .ok (.bipush 8, 2) := by decide +kernel
theorem dX3_settled_14 : decode cX3_settled 14 = .ok (.if_icmp .ge 67, 3) := by decide +kernel
theorem dX3_settled_17 : decode cX3_settled 17 = .ok (.iconst 0, 1) := by decide +kernel
theorem dX3_settled_18 : decode cX3_settled 18 = .ok (.istore_n 2, 1) := by decide +kernel
theorem dX3_settled_19 : decode cX3_settled 19 = .ok (.iload_n 2, 1) := by decide +kernel
theorem dX3_settled_20 : decode cX3_settled 20 = .ok (.bipush 8, 2) := by decide +kernel
theorem dX3_settled_22 : decode cX3_settled 22 = .ok (.if_icmp .ge 53, 3) := by decide +kernel
theorem dX3_settled_25 : decode cX3_settled 25 = .ok (.aload_n 0, 1) := by decide +kernel
theorem dX3_settled_26 : decode cX3_settled 26 = .ok (.getfield 77, 3) := by decide +kernel
theorem dX3_settled_29 : decode cX3_settled 29 = .ok (.bipush 8, 2) := by decide +kernel
theorem dX3_settled_31 : decode cX3_settled 31 = .ok (.iload_n 1, 1) := by decide +kernel
theorem dX3_settled_32 : decode cX3_settled 32 = .ok (.imul, 1) := by decide +kernel
theorem dX3_settled_33 : decode cX3_settled 33 = .ok (.iload_n 2, 1) := by decide +kernel
theorem dX3_settled_34 : decode cX3_settled 34 = .ok (.iadd, 1) := by decide +kernel
theorem dX3_settled_35 : decode cX3_settled 35 = .ok (.aload_n 0, 1) := by decide +kernel
theorem dX3_settled_36 : decode cX3_settled 36 = .ok (.getfield 7, 3) := by decide +kernel
theorem dX3_settled_39 : decode cX3_settled 39 = .ok (.iload_n 1, 1) := by decide +kernel
theorem dX3_settled_40 : decode cX3_settled 40 = .ok (.baload, 1) := by decide +kernel
theorem dX3_settled_41 : decode cX3_settled 41 = .ok (.ifCond .eq 8, 3) := by decide +kernel
theorem dX3_settled_44 : decode cX3_settled 44 = .ok (.iload_n 1, 1) := by decide +kernel
theorem dX3_settled_45 : decode cX3_settled 45 = .ok (.iload_n 2, 1) := by decide +kernel
theorem dX3_settled_46 : decode cX3_settled 46 = .ok (.if_icmp .eq 17, 3) := by decide +kernel
theorem dX3_settled_49 : decode cX3_settled 49 = .ok (.iload_n 1, 1) := by decide +kernel
theorem dX3_settled_50 : decode cX3_settled 50 = .ok (.iload_n 2, 1) := by decide +kernel
theorem dX3_settled_51 : decode cX3_settled 51 = .ok (.if_icmp .eq 16, 3) := by decide +kernel
theorem dX3_settled_54 : decode cX3_settled 54 = .ok (.aload_n 0, 1) := by decide +kernel
theorem dX3_settled_55 : decode cX3_settled 55 = .ok (.iload_n 1, 1) := by decide +kernel
theorem dX3_settled_56 : decode cX3_settled 56 = .ok (.iload_n 2, 1) := by decide +kernel
theorem dX3_settled_57 : decode cX3_settled 57 = .ok (.invokevirtual 92, 3) := by decide +kernel
theorem dX3_settled_60 : decode cX3_settled 60 = .ok (.ifCond .eq 7, 3) := by decide +kernel
theorem dX3_settled_63 : decode cX3_settled 63 = .ok (.iconst 1, 1) := by decide +kernel
theorem dX3_settled_64 : decode cX3_settled 64 = .ok (.goto 4, 3) := by decide +kernel
theorem dX3_settled_67 : decode cX3_settled 67 = .ok (.iconst 0, 1) := by decide +kernel
theorem dX3_settled_68 : decode cX3_settled 68 = .ok (.bastore, 1) := by decide +kernel
theorem dX3_settled_69 : decode cX3_settled 69 = .ok (.iinc 2 1, 3) := by decide +kernel
theorem dX3_settled_72 : decode cX3_settled 72 = .ok (.goto (-53), 3) := by decide +kernel
theorem dX3_settled_75 : decode cX3_settled 75 = .ok (.iinc 1 1, 3) := by decide +kernel
theorem dX3_settled_78 : decode cX3_settled 78 = .ok (.goto (-67), 3) := by decide +kernel
theorem dX3_settled_81 : decode cX3_settled 81 = .ok (.iconst 0, 1) := by decide +kernel
theorem dX3_settled_82 : decode cX3_settled 82 = .ok (.istore_n 1, 1) := by decide +kernel
theorem dX3_settled_83 : decode cX3_settled 83 = .ok (.iload_n 1, 1) := by decide +kernel
theorem dX3_settled_84 : decode cX3_settled 84 = .ok (.bipush 8, 2) := by decide +kernel
theorem dX3_settled_86 : decode cX3_settled 86 = .ok (.if_icmp .ge 77, 3) := by decide +kernel
theorem dX3_settled_89 : decode cX3_settled 89 = .ok (.iconst 0, 1) := by decide +kernel
theorem dX3_settled_90 : decode cX3_settled 90 = .ok (.istore_n 2, 1) := by decide +kernel
theorem dX3_settled_91 : decode cX3_settled 91 = .ok (.iload_n 2, 1) := by decide +kernel
theorem dX3_settled_92 : decode cX3_settled 92 = .ok (.bipush 64, 2) := by decide +kernel
theorem dX3_settled_94 : decode cX3_settled 94 = .ok (.if_icmp .ge 63, 3) := by decide +kernel
theorem dX3_settled_97 : decode cX3_settled 97 = .ok (.aload_n 0, 1) := by decide +kernel
theorem dX3_settled_98 : decode cX3_settled 98 = .ok (.getfield 77, 3) := by decide +kernel
theorem dX3_settled_101 : decode cX3_settled 101 = .ok (.iload_n 2, 1) := by decide +kernel
theorem dX3_settled_102 : decode cX3_settled 102 = .ok (.aload_n 0, 1) := by decide +kernel
theorem dX3_settled_103 : decode cX3_settled 103 = .ok (.getfield 77, 3) := by decide +kernel
theorem dX3_settled_106 : decode cX3_settled 106 = .ok (.iload_n 2, 1) := by decide +kernel
theorem dX3_settled_107 : decode cX3_settled 107 = .ok (.baload, 1) := by decide +kernel
theorem dX3_settled_108 : decode cX3_settled 108 = .ok (.ifCond .ne 37, 3) := by decide +kernel
theorem dX3_settled_111 : decode cX3_settled 111 = .ok (.aload_n 0, 1) := by decide +kernel
theorem dX3_settled_112 : decode cX3_settled 112 = .ok (.getfield 77, 3) := by decide +kernel
theorem dX3_settled_115 : decode cX3_settled 115 = .ok (.iload_n 2, 1) := by decide +kernel
theorem dX3_settled_116 : decode cX3_settled 116 = .ok (.bipush 8, 2) := by decide +kernel
theorem dX3_settled_118 : decode cX3_settled 118 = .ok (.idiv, 1) := by decide +kernel
theorem dX3_settled_119 : decode cX3_settled 119 = .ok (.bipush 8, 2) := by decide +kernel
theorem dX3_settled_121 : decode cX3_settled 121 = .ok (.imul, 1) := by decide +kernel
theorem dX3_settled_122 : decode cX3_settled 122 = .ok (.iload_n 1, 1) := by decide +kernel
theorem dX3_settled_123 : decode cX3_settled 123 = .ok (.iadd, 1) := by decide +kernel
theorem dX3_settled_124 : decode cX3_settled 124 = .ok (.baload, 1) := by decide +kernel
theorem dX3_settled_125 : decode cX3_settled 125 = .ok (.ifCond .eq 24, 3) := by decide +kernel
theorem dX3_settled_128 : decode cX3_settled 128 = .ok (.aload_n 0, 1) := by decide +kernel
theorem dX3_settled_129 : decode cX3_settled 129 = .ok (.getfield 77, 3) := by decide +kernel
theorem dX3_settled_132 : decode cX3_settled 132 = .ok (.bipush 8, 2) := by decide +kernel
theorem dX3_settled_134 : decode cX3_settled 134 = .ok (.iload_n 1, 1) := by decide +kernel
theorem dX3_settled_135 : decode cX3_settled 135 = .ok (.imul, 1) := by decide +kernel
theorem dX3_settled_136 : decode cX3_settled 136 = .ok (.iload_n 2, 1) := by decide +kernel
theorem dX3_settled_137 : decode cX3_settled 137 = .ok (.bipush 8, 2) := by decide +kernel
theorem dX3_settled_139 : decode cX3_settled 139 = .ok (.irem, 1) := by decide +kernel
theorem dX3_settled_140 : decode cX3_settled 140 = .ok (.iadd, 1) := by decide +kernel
theorem dX3_settled_141 : decode cX3_settled 141 = .ok (.baload, 1) := by decide +kernel
theorem dX3_settled_142 : decode cX3_settled 142 = .ok (.ifCond .eq 7, 3) := by decide +kernel
theorem dX3_settled_145 : decode cX3_settled 145 = .ok (.iconst 1, 1) := by decide +kernel
theorem dX3_settled_146 : decode cX3_settled 146 = .ok (.goto 4, 3) := by decide +kernel
theorem dX3_settled_149 : decode cX3_settled 149 = .ok (.iconst 0, 1) := by decide +kernel
theorem dX3_settled_150 : decode cX3_settled 150 = .ok (.bastore, 1) := by decide +kernel
theorem dX3_settled_151 : decode cX3_settled 151 = .ok (.iinc 2 1, 3) := by decide +kernel
theorem dX3_settled_154 : decode cX3_settled 154 = .ok (.goto (-63), 3) := by decide +kernel
theorem dX3_settled_157 : decode cX3_settled 157 = .ok (.iinc 1 1, 3) := by decide +kernel
theorem dX3_settled_160 : decode cX3_settled 160 = .ok (.goto (-77), 3) := by decide +kernel
theorem dX3_settled_163 : decode cX3_settled 163 = .ok (.iconst 1, 1) := by decide +kernel
theorem dX3_settled_164 : decode cX3_settled 164 = .ok (.istore_n 1, 1) := by decide +kernel
theorem dX3_settled_165 : decode cX3_settled 165 = .ok (.iconst 0, 1) := by decide +kernel
theorem dX3_settled_166 : decode cX3_settled 166 = .ok (.istore_n 2, 1) := by decide +kernel
theorem dX3_settled_167 : decode cX3_settled 167 = .ok (.iload_n 2, 1) := by decide +kernel
theorem dX3_settled_168 : decode cX3_settled 168 = .ok (.bipush 64, 2) := by decide +kernel
theorem dX3_settled_170 : decode cX3_settled 170 = .ok (.if_icmp .ge 94, 3) := by decide +kernel
theorem dX3_settled_173 : decode cX3_settled 173 = .ok (.iconst 0, 1) := by decide +kernel
theorem dX3_settled_174 : decode cX3_settled 174 = .ok (.istore_n 3, 1) := by decide +kernel
theorem dX3_settled_175 : decode cX3_settled 175 = .ok (.iload_n 3, 1) := by decide +kernel
theorem dX3_settled_176 : decode cX3_settled 176 = .ok (.bipush 8, 2) := by decide +kernel
theorem dX3_settled_178 : decode cX3_settled 178 = .ok (.if_icmp .ge 80, 3) := by decide +kernel
theorem dX3_settled_181 : decode cX3_settled 181 = .ok (.aload_n 0, 1) := by decide +kernel
theorem dX3_settled_182 : decode cX3_settled 182 = .ok (.getfield 77, 3) := by decide +kernel
theorem dX3_settled_185 : decode cX3_settled 185 = .ok (.iload_n 2, 1) := by decide +kernel
theorem dX3_settled_186 : decode cX3_settled 186 = .ok (.baload, 1) := by decide +kernel
theorem dX3_settled_187 : decode cX3_settled 187 = .ok (.ifCond .eq 71, 3) := by decide +kernel
theorem dX3_settled_190 : decode cX3_settled 190 = .ok (.aload_n 0, 1) := by decide +kernel
theorem dX3_settled_191 : decode cX3_settled 191 = .ok (.getfield 77, 3) := by decide +kernel
theorem dX3_settled_194 : decode cX3_settled 194 = .ok (.iload_n 2, 1) := by decide +kernel
theorem dX3_settled_195 : decode cX3_settled 195 = .ok (.bipush 8, 2) := by decide +kernel
theorem dX3_settled_197 : decode cX3_settled 197 = .ok (.idiv, 1) := by decide +kernel
theorem dX3_settled_198 : decode cX3_settled 198 = .ok (.bipush 8, 2) := by decide +kernel
theorem dX3_settled_200 : decode cX3_settled 200 = .ok (.imul, 1) := by decide +kernel
theorem dX3_settled_201 : decode cX3_settled 201 = .ok (.iload_n 3, 1) := by decide +kernel
theorem dX3_settled_202 : decode cX3_settled 202 = .ok (.iadd, 1) := by decide +kernel
theorem dX3_settled_203 : decode cX3_settled 203 = .ok (.baload, 1) := by decide +kernel
theorem dX3_settled_204 : decode cX3_settled 204 = .ok (.istore 4, 2) := by decide +kernel
theorem dX3_settled_206 : decode cX3_settled 206 = .ok (.iload_n 1, 1) := by decide +kernel
theorem dX3_settled_207 : decode cX3_settled 207 = .ok (.ifCond .eq 43, 3) := by decide +kernel
theorem dX3_settled_210 : decode cX3_settled 210 = .ok (.iload 4, 2) := by decide +kernel
theorem dX3_settled_212 : decode cX3_settled 212 = .ok (.ifCond .eq 34, 3) := by decide +kernel
theorem dX3_settled_215 : decode cX3_settled 215 = .ok (.aload_n 0, 1) := by decide +kernel
theorem dX3_settled_216 : decode cX3_settled 216 = .ok (.getfield 29, 3) := by decide +kernel
theorem dX3_settled_219 : decode cX3_settled 219 = .ok (.iload_n 2, 1) := by decide +kernel
theorem dX3_settled_220 : decode cX3_settled 220 = .ok (.bipush 8, 2) := by decide +kernel
theorem dX3_settled_222 : decode cX3_settled 222 = .ok (.idiv, 1) := by decide +kernel
theorem dX3_settled_223 : decode cX3_settled 223 = .ok (.bipush 8, 2) := by decide +kernel
theorem dX3_settled_225 : decode cX3_settled 225 = .ok (.imul, 1) := by decide +kernel
theorem dX3_settled_226 : decode cX3_settled 226 = .ok (.iload_n 3, 1) := by decide +kernel
theorem dX3_settled_227 : decode cX3_settled 227 = .ok (.iadd, 1) := by decide +kernel
theorem dX3_settled_228 : decode cX3_settled 228 = .ok (.iaload, 1) := by decide +kernel
theorem dX3_settled_229 : decode cX3_settled 229 = .ok (.aload_n 0, 1) := by decide +kernel
theorem dX3_settled_230 : decode cX3_settled 230 = .ok (.getfield 29, 3) := by decide +kernel
theorem dX3_settled_233 : decode cX3_settled 233 = .ok (.iload_n 2, 1) := by decide +kernel
theorem dX3_settled_234 : decode cX3_settled 234 = .ok (.bipush 8, 2) := by decide +kernel
theorem dX3_settled_236 : decode cX3_settled 236 = .ok (.irem, 1) := by decide +kernel
theorem dX3_settled_237 : decode cX3_settled 237 = .ok (.bipush 8, 2) := by decide +kernel
theorem dX3_settled_239 : decode cX3_settled 239 = .ok (.imul, 1) := by decide +kernel
theorem dX3_settled_240 : decode cX3_settled 240 = .ok (.iload_n 3, 1) := by decide +kernel
theorem dX3_settled_241 : decode cX3_settled 241 = .ok (.iadd, 1) := by decide +kernel
theorem dX3_settled_242 : decode cX3_settled 242 = .ok (.iaload, 1) := by decide +kernel
theorem dX3_settled_243 : decode cX3_settled 243 = .ok (.if_icmp .ne 7, 3) := by decide +kernel
theorem dX3_settled_246 : decode cX3_settled 246 = .ok (.iconst 1, 1) := by decide +kernel
theorem dX3_settled_247 : decode cX3_settled 247 = .ok (.goto 4, 3) := by decide +kernel
theorem dX3_settled_250 : decode cX3_settled 250 = .ok (.iconst 0, 1) := by decide +kernel
theorem dX3_settled_251 : decode cX3_settled 251 = .ok (.istore_n 1, 1) := by decide +kernel
theorem dX3_settled_252 : decode cX3_settled 252 = .ok (.iinc 3 1, 3) := by decide +kernel
theorem dX3_settled_255 : decode cX3_settled 255 = .ok (.goto (-80), 3) := by decide +kernel
theorem dX3_settled_258 : decode cX3_settled 258 = .ok (.iinc 2 1, 3) := by decide +kernel
theorem dX3_settled_261 : decode cX3_settled 261 = .ok (.goto (-94), 3) := by decide +kernel
theorem dX3_settled_264 : decode cX3_settled 264 = .ok (.iload_n 1, 1) := by decide +kernel
theorem dX3_settled_265 : decode cX3_settled 265 = .ok (.ireturn, 1) := by decide +kernel
