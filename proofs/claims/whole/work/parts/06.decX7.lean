theorem dX7_init_0 : decode cX7_init 0 = .ok (.aload_n 0, 1) := by decide +kernel
theorem dX7_init_1 : decode cX7_init 1 = .ok (.invokespecial 1, 3) := by decide +kernel
theorem dX7_init_4 : decode cX7_init 4 = .ok (.aload_n 0, 1) := by decide +kernel
theorem dX7_init_5 : decode cX7_init 5 = .ok (.bipush 36, 2) := by decide +kernel
theorem dX7_init_7 : decode cX7_init 7 = .ok (.newarray .int, 2) := by decide +kernel
theorem dX7_init_9 : decode cX7_init 9 = .ok (.putfield 7, 3) := by decide +kernel
theorem dX7_init_12 : decode cX7_init 12 = .ok (.aload_n 0, 1) := by decide +kernel
theorem dX7_init_13 : decode cX7_init 13 = .ok (.bipush 72, 2) := by decide +kernel
theorem dX7_init_15 : decode cX7_init 15 = .ok (.newarray .int, 2) := by decide +kernel
theorem dX7_init_17 : decode cX7_init 17 = .ok (.putfield 13, 3) := by decide +kernel
theorem dX7_init_20 : decode cX7_init 20 = .ok (.aload_n 0, 1) := by decide +kernel
theorem dX7_init_21 : decode cX7_init 21 = .ok (.iconst 2, 1) := by decide +kernel
theorem dX7_init_22 : decode cX7_init 22 = .ok (.newarray .boolean, 2) := by decide +kernel
theorem dX7_init_24 : decode cX7_init 24 = .ok (.putfield 16, 3) := by decide +kernel
theorem dX7_init_27 : decode cX7_init 27 = .ok (.aload_n 0, 1) := by decide +kernel
theorem dX7_init_28 : decode cX7_init 28 = .ok (.bipush 20, 2) := by decide +kernel
theorem dX7_init_30 : decode cX7_init 30 = .ok (.newarray .int, 2) := by decide +kernel
theorem dX7_init_32 : decode cX7_init 32 = .ok (.putfield 20, 3) := by decide +kernel
theorem dX7_init_35 : decode cX7_init 35 = .ok (.aload_n 0, 1) := by decide +kernel
theorem dX7_init_36 : decode cX7_init 36 = .ok (.bipush 121, 2) := by decide +kernel
theorem dX7_init_38 : decode cX7_init 38 = .ok (.newarray .long, 2) := by decide +kernel
theorem dX7_init_40 : decode cX7_init 40 = .ok (.putfield 23, 3) := by decide +kernel
theorem dX7_init_43 : decode cX7_init 43 = .ok (.aload_n 0, 1) := by decide +kernel
theorem dX7_init_44 : decode cX7_init 44 = .ok (.bipush 10, 2) := by decide +kernel
theorem dX7_init_46 : decode cX7_init 46 = .ok (.newarray .int, 2) := by decide +kernel
theorem dX7_init_48 : decode cX7_init 48 = .ok (.putfield 27, 3) := by decide +kernel
theorem dX7_init_51 : decode cX7_init 51 = .ok (.aload_n 0, 1) := by decide +kernel
theorem dX7_init_52 : decode cX7_init 52 = .ok (.bipush 64, 2) := by decide +kernel
theorem dX7_init_54 : decode cX7_init 54 = .ok (.newarray .int, 2) := by decide +kernel
theorem dX7_init_56 : decode cX7_init 56 = .ok (.putfield 30, 3) := by decide +kernel
theorem dX7_init_59 : decode cX7_init 59 = .ok (.aload_n 0, 1) := by decide +kernel
theorem dX7_init_60 : decode cX7_init 60 = .ok (.bipush 64, 2) := by decide +kernel
theorem dX7_init_62 : decode cX7_init 62 = .ok (.newarray .int, 2) := by decide +kernel
theorem dX7_init_64 : decode cX7_init 64 = .ok (.putfield 33, 3) := by decide +kernel
theorem dX7_init_67 : decode cX7_init 67 = .ok (.aload_n 0, 1) := by decide +kernel
theorem dX7_init_68 : decode cX7_init 68 = .ok (.bipush 64, 2) := by decide +kernel
theorem dX7_init_70 : decode cX7_init 70 = .ok (.newarray .long, 2) := by decide +kernel
theorem dX7_init_72 : decode cX7_init 72 = .ok (.putfield 36, 3) := by decide +kernel
theorem dX7_init_75 : decode cX7_init 75 = .ok (.aload_n 0, 1) := by decide +kernel
theorem dX7_init_76 : decode cX7_init 76 = .ok (.bipush 64, 2) := by decide +kernel
theorem dX7_init_78 : decode cX7_init 78 = .ok (.newarray .long, 2) := by decide +kernel
theorem dX7_init_80 : decode cX7_init 80 = .ok (.putfield 39, 3) := by decide +kernel
theorem dX7_init_83 : decode cX7_init 83 = .ok (.aload_n 0, 1) := by decide +kernel
theorem dX7_init_84 : decode cX7_init 84 = .ok (.bipush 64, 2) := by decide +kernel
theorem dX7_init_86 : decode cX7_init 86 = .ok (.newarray .int, 2) := by decide +kernel
theorem dX7_init_88 : decode cX7_init 88 = .ok (.putfield 42, 3) := by decide +kernel
theorem dX7_init_91 : decode cX7_init 91 = .ok (.aload_n 0, 1) := by decide +kernel
theorem dX7_init_92 : decode cX7_init 92 = .ok (.getfield 7, 3) := by decide +kernel
theorem dX7_init_95 : decode cX7_init 95 = .ok (.bipush 35, 2) := by decide +kernel
theorem dX7_init_97 : decode cX7_init 97 = .ok (.iconst 0, 1) := by decide +kernel
theorem dX7_init_98 : decode cX7_init 98 = .ok (.iastore, 1) := by decide +kernel
theorem dX7_init_99 : decode cX7_init 99 = .ok (.return_, 1) := by decide +kernel
theorem dX7_thrown_0 : decode cX7_thrown 0 = .ok (.aload_n 0, 1) := by decide +kernel
theorem dX7_thrown_1 : decode cX7_thrown 1 = .ok (.getfield 45, 3) := by decide +kernel
theorem dX7_thrown_4 : decode cX7_thrown 4 = .ok (.ireturn, 1) := by decide +kernel
theorem dX7_in_0 : decode cX7_in 0 = .ok (.iload_n 0, 1) := by decide +kernel
theorem dX7_in_1 : decode cX7_in 1 = .ok (.iload_n 1, 1) := by decide +kernel
theorem dX7_in_2 : decode cX7_in 2 = .ok (.if_icmp .lt 12, 3) := by decide +kernel
theorem dX7_in_5 : decode cX7_in 5 = .ok (.iload_n 0, 1) := by decide +kernel
theorem dX7_in_6 : decode cX7_in 6 = .ok (.iload_n 2, 1) := by decide +kernel
theorem dX7_in_7 : decode cX7_in 7 = .ok (.if_icmp .gt 7, 3) := by decide +kernel
theorem dX7_in_10 : decode cX7_in 10 = .ok (.iconst 1, 1) := by decide +kernel
theorem dX7_in_11 : decode cX7_in 11 = .ok (.goto 4, 3) := by decide +kernel
theorem dX7_in_14 : decode cX7_in 14 = .ok (.iconst 0, 1) := by decide +kernel
theorem dX7_in_15 : decode cX7_in 15 = .ok (.ireturn, 1) := by decide +kernel
theorem dX7_isShaft_0 : decode cX7_isShaft 0 = .ok (.iload_n 0, 1) := by decide +kernel
theorem dX7_isShaft_1 : decode cX7_isShaft 1 = .ok (.iconst 0, 1) := by decide +kernel
theorem dX7_isShaft_2 : decode cX7_isShaft 2 = .ok (.iconst 5, 1) := by decide +kernel
theorem dX7_isShaft_3 : decode cX7_isShaft 3 = .ok (.invokestatic 49, 3) := by decide +kernel
theorem dX7_isShaft_6 : decode cX7_isShaft 6 = .ok (.ireturn, 1) := by decide +kernel
theorem dX7_isPart_0 : decode cX7_isPart 0 = .ok (.iload_n 0, 1) := by decide +kernel
theorem dX7_isPart_1 : decode cX7_isPart 1 = .ok (.iconst 0, 1) := by decide +kernel
theorem dX7_isPart_2 : decode cX7_isPart 2 = .ok (.iconst 1, 1) := by decide +kernel
theorem dX7_isPart_3 : decode cX7_isPart 3 = .ok (.invokestatic 49, 3) := by decide +kernel
theorem dX7_isPart_6 : decode cX7_isPart 6 = .ok (.ireturn, 1) := by decide +kernel
theorem dX7_isElement_0 : decode cX7_isElement 0 = .ok (.iload_n 1, 1) := by decide +kernel
theorem dX7_isElement_1 : decode cX7_isElement 1 = .ok (.iconst 0, 1) := by decide +kernel
theorem dX7_isElement_2 : decode cX7_isElement 2 = .ok (.aload_n 0, 1) := by decide +kernel
theorem dX7_isElement_3 : decode cX7_isElement 3 = .ok (.getfield 7, 3) := by decide +kernel
theorem dX7_isElement_6 : decode cX7_isElement 6 = .ok (.bipush 34, 2) := by decide +kernel
theorem dX7_isElement_8 : decode cX7_isElement 8 = .ok (.iaload, 1) := by decide +kernel
theorem dX7_isElement_9 : decode cX7_isElement 9 = .ok (.iconst 1, 1) := by decide +kernel
theorem dX7_isElement_10 : decode cX7_isElement 10 = .ok (.isub, 1) := by decide +kernel
theorem dX7_isElement_11 : decode cX7_isElement 11 = .ok (.invokestatic 49, 3) := by decide +kernel
theorem dX7_isElement_14 : decode cX7_isElement 14 = .ok (.ireturn, 1) := by decide +kernel
theorem dX7_isMask_0 : decode cX7_isMask 0 = .ok (.iload_n 1, 1) := by decide +kernel
theorem dX7_isMask_1 : decode cX7_isMask 1 = .ok (.iconst 0, 1) := by decide +kernel
theorem dX7_isMask_2 : decode cX7_isMask 2 = .ok (.iconst 1, 1) := by decide +kernel
theorem dX7_isMask_3 : decode cX7_isMask 3 = .ok (.aload_n 0, 1) := by decide +kernel
theorem dX7_isMask_4 : decode cX7_isMask 4 = .ok (.getfield 7, 3) := by decide +kernel
theorem dX7_isMask_7 : decode cX7_isMask 7 = .ok (.bipush 34, 2) := by decide +kernel
theorem dX7_isMask_9 : decode cX7_isMask 9 = .ok (.iaload, 1) := by decide +kernel
theorem dX7_isMask_10 : decode cX7_isMask 10 = .ok (.ishl, 1) := by decide +kernel
theorem dX7_isMask_11 : decode cX7_isMask 11 = .ok (.iconst 1, 1) := by decide +kernel
theorem dX7_isMask_12 : decode cX7_isMask 12 = .ok (.isub, 1) := by decide +kernel
theorem dX7_isMask_13 : decode cX7_isMask 13 = .ok (.invokestatic 49, 3) := by decide +kernel
theorem dX7_isMask_16 : decode cX7_isMask 16 = .ok (.ireturn, 1) := by decide +kernel
theorem dX7_has_0 : decode cX7_has 0 = .ok (.iload_n 0, 1) := by decide +kernel
theorem dX7_has_1 : decode cX7_has 1 = .ok (.iload_n 1, 1) := by decide +kernel
theorem dX7_has_2 : decode cX7_has 2 = .ok (.ishr, 1) := by decide +kernel
theorem dX7_has_3 : decode cX7_has 3 = .ok (.iconst 1, 1) := by decide +kernel
theorem dX7_has_4 : decode cX7_has 4 = .ok (.iand, 1) := by decide +kernel
theorem dX7_has_5 : decode cX7_has 5 = .ok (.iconst 1, 1) := by decide +kernel
theorem dX7_has_6 : decode cX7_has 6 = .ok (.if_icmp .ne 7, 3) := by decide +kernel
theorem dX7_has_9 : decode cX7_has 9 = .ok (.iconst 1, 1) := by decide +kernel
theorem dX7_has_10 : decode cX7_has 10 = .ok (.goto 4, 3) := by decide +kernel
theorem dX7_has_13 : decode cX7_has 13 = .ok (.iconst 0, 1) := by decide +kernel
theorem dX7_has_14 : decode cX7_has 14 = .ok (.ireturn, 1) := by decide +kernel
theorem dX7_addSet_0 : decode cX7_addSet 0 = .ok (.iload_n 1, 1) := by decide +kernel
theorem dX7_addSet_1 : decode cX7_addSet 1 = .ok (.iload_n 2, 1) := by decide +kernel
theorem dX7_addSet_2 : decode cX7_addSet 2 = .ok (.if_icmp .eq 43, 3) := by decide +kernel
theorem dX7_addSet_5 : decode cX7_addSet 5 = .ok (.iload_n 2, 1) := by decide +kernel
theorem dX7_addSet_6 : decode cX7_addSet 6 = .ok (.iload_n 3, 1) := by decide +kernel
theorem dX7_addSet_7 : decode cX7_addSet 7 = .ok (.if_icmp .eq 38, 3) := by decide +kernel
theorem dX7_addSet_10 : decode cX7_addSet 10 = .ok (.iload_n 1, 1) := by decide +kernel
theorem dX7_addSet_11 : decode cX7_addSet 11 = .ok (.iload_n 3, 1) := by decide +kernel
theorem dX7_addSet_12 : decode cX7_addSet 12 = .ok (.if_icmp .eq 33, 3) := by decide +kernel
theorem dX7_addSet_15 : decode cX7_addSet 15 = .ok (.iload 4, 2) := by decide +kernel
theorem dX7_addSet_17 : decode cX7_addSet 17 = .ok (.bipush 10, 2) := by decide +kernel
theorem dX7_addSet_19 : decode cX7_addSet 19 = .ok (.bipush 40, 2) := by decide +kernel
theorem dX7_addSet_21 : decode cX7_addSet 21 = .ok (.invokestatic 49, 3) := by decide +kernel
theorem dX7_addSet_24 : decode cX7_addSet 24 = .ok (.ifCond .eq 21, 3) := by decide +kernel
theorem dX7_addSet_27 : decode cX7_addSet 27 = .ok (.iload 5, 2) := by decide +kernel
theorem dX7_addSet_29 : decode cX7_addSet 29 = .ok (.iload 4, 2) := by decide +kernel
theorem dX7_addSet_31 : decode cX7_addSet 31 = .ok (.iconst 1, 1) := by decide +kernel
theorem dX7_addSet_32 : decode cX7_addSet 32 = .ok (.iadd, 1) := by decide +kernel
theorem dX7_addSet_33 : decode cX7_addSet 33 = .ok (.bipush 100, 2) := by decide +kernel
theorem dX7_addSet_35 : decode cX7_addSet 35 = .ok (.invokestatic 49, 3) := by decide +kernel
theorem dX7_addSet_38 : decode cX7_addSet 38 = .ok (.ifCond .eq 7, 3) := by decide +kernel
theorem dX7_addSet_41 : decode cX7_addSet 41 = .ok (.iconst 1, 1) := by decide +kernel
theorem dX7_addSet_42 : decode cX7_addSet 42 = .ok (.goto 4, 3) := by decide +kernel
theorem dX7_addSet_45 : decode cX7_addSet 45 = .ok (.iconst 0, 1) := by decide +kernel
theorem dX7_addSet_46 : decode cX7_addSet 46 = .ok (.istore 6, 2) := by decide +kernel
theorem dX7_addSet_48 : decode cX7_addSet 48 = .ok (.aload_n 0, 1) := by decide +kernel
theorem dX7_addSet_49 : decode cX7_addSet 49 = .ok (.iload_n 1, 1) := by decide +kernel
theorem dX7_addSet_50 : decode cX7_addSet 50 = .ok (.invokestatic 53, 3) := by decide +kernel
theorem dX7_addSet_53 : decode cX7_addSet 53 = .ok (.ifCond .eq 17, 3) := by decide +kernel
theorem dX7_addSet_56 : decode cX7_addSet 56 = .ok (.iload_n 2, 1) := by decide +kernel
theorem dX7_addSet_57 : decode cX7_addSet 57 = .ok (.invokestatic 53, 3) := by decide +kernel
theorem dX7_addSet_60 : decode cX7_addSet 60 = .ok (.ifCond .eq 10, 3) := by decide +kernel
theorem dX7_addSet_63 : decode cX7_addSet 63 = .ok (.iload_n 3, 1) := by decide +kernel
theorem dX7_addSet_64 : decode cX7_addSet 64 = .ok (.invokestatic 53, 3) := by decide +kernel
theorem dX7_addSet_67 : decode cX7_addSet 67 = .ok (.ifCond .ne 7, 3) := by decide +kernel
theorem dX7_addSet_70 : decode cX7_addSet 70 = .ok (.iconst 1, 1) := by decide +kernel
theorem dX7_addSet_71 : decode cX7_addSet 71 = .ok (.goto 28, 3) := by decide +kernel
theorem dX7_addSet_74 : decode cX7_addSet 74 = .ok (.iload 6, 2) := by decide +kernel
theorem dX7_addSet_76 : decode cX7_addSet 76 = .ok (.ifCond .ne 7, 3) := by decide +kernel
theorem dX7_addSet_79 : decode cX7_addSet 79 = .ok (.iconst 2, 1) := by decide +kernel
theorem dX7_addSet_80 : decode cX7_addSet 80 = .ok (.goto 19, 3) := by decide +kernel
theorem dX7_addSet_83 : decode cX7_addSet 83 = .ok (.aload_n 0, 1) := by decide +kernel
theorem dX7_addSet_84 : decode cX7_addSet 84 = .ok (.getfield 7, 3) := by decide +kernel
theorem dX7_addSet_87 : decode cX7_addSet 87 = .ok (.bipush 33, 2) := by decide +kernel
theorem dX7_addSet_89 : decode cX7_addSet 89 = .ok (.iaload, 1) := by decide +kernel
theorem dX7_addSet_90 : decode cX7_addSet 90 = .ok (.iconst 3, 1) := by decide +kernel
theorem dX7_addSet_91 : decode cX7_addSet 91 = .ok (.if_icmp .ne 7, 3) := by decide +kernel
theorem dX7_addSet_94 : decode cX7_addSet 94 = .ok (.iconst 3, 1) := by decide +kernel
theorem dX7_addSet_95 : decode cX7_addSet 95 = .ok (.goto 4, 3) := by decide +kernel
theorem dX7_addSet_98 : decode cX7_addSet 98 = .ok (.iconst 0, 1) := by decide +kernel
theorem dX7_addSet_99 : decode cX7_addSet 99 = .ok (.putfield 45, 3) := by decide +kernel
theorem dX7_addSet_102 : decode cX7_addSet 102 = .ok (.aload_n 0, 1) := by decide +kernel
theorem dX7_addSet_103 : decode cX7_addSet 103 = .ok (.getfield 45, 3) := by decide +kernel
theorem dX7_addSet_106 : decode cX7_addSet 106 = .ok (.ifCond .eq 5, 3) := by decide +kernel
theorem dX7_addSet_109 : decode cX7_addSet 109 = .ok (.iconst 0, 1) := by decide +kernel
theorem dX7_addSet_110 : decode cX7_addSet 110 = .ok (.ireturn, 1) := by decide +kernel
theorem dX7_addSet_111 : decode cX7_addSet 111 = .ok (.iconst 0, 1) := by decide +kernel
theorem dX7_addSet_112 : decode cX7_addSet 112 = .ok (.iconst 5, 1) := by decide +kernel
theorem dX7_addSet_113 : decode cX7_addSet 113 = .ok (.aload_n 0, 1) := by decide +kernel
theorem dX7_addSet_114 : decode cX7_addSet 114 = .ok (.getfield 7, 3) := by decide +kernel
theorem dX7_addSet_117 : decode cX7_addSet 117 = .ok (.bipush 33, 2) := by decide +kernel
theorem dX7_addSet_119 : decode cX7_addSet 119 = .ok (.iaload, 1) := by decide +kernel
theorem dX7_addSet_120 : decode cX7_addSet 120 = .ok (.imul, 1) := by decide +kernel
theorem dX7_addSet_121 : decode cX7_addSet 121 = .ok (.iadd, 1) := by decide +kernel
theorem dX7_addSet_122 : decode cX7_addSet 122 = .ok (.istore 7, 2) := by decide +kernel
theorem dX7_addSet_124 : decode cX7_addSet 124 = .ok (.aload_n 0, 1) := by decide +kernel
theorem dX7_addSet_125 : decode cX7_addSet 125 = .ok (.getfield 7, 3) := by decide +kernel
theorem dX7_addSet_128 : decode cX7_addSet 128 = .ok (.iload 7, 2) := by decide +kernel
theorem dX7_addSet_130 : decode cX7_addSet 130 = .ok (.iload_n 1, 1) := by decide +kernel
theorem dX7_addSet_131 : decode cX7_addSet 131 = .ok (.iastore, 1) := by decide +kernel
theorem dX7_addSet_132 : decode cX7_addSet 132 = .ok (.aload_n 0, 1) := by decide +kernel
theorem dX7_addSet_133 : decode cX7_addSet 133 = .ok (.getfield 7, 3) := by decide +kernel
theorem dX7_addSet_136 : decode cX7_addSet 136 = .ok (.iload 7, 2) := by decide +kernel
theorem dX7_addSet_138 : decode cX7_addSet 138 = .ok (.iconst 1, 1) := by decide +kernel
theorem dX7_addSet_139 : decode cX7_addSet 139 = .ok (.iadd, 1) := by decide +kernel
theorem dX7_addSet_140 : decode cX7_addSet 140 = .ok (.iload_n 2, 1) := by decide +kernel
theorem dX7_addSet_141 : decode cX7_addSet 141 = .ok (.iastore, 1) := by decide +kernel
theorem dX7_addSet_142 : decode cX7_addSet 142 = .ok (.aload_n 0, 1) := by decide +kernel
theorem dX7_addSet_143 : decode cX7_addSet 143 = .ok (.getfield 7, 3) := by decide +kernel
theorem dX7_addSet_146 : decode cX7_addSet 146 = .ok (.iload 7, 2) := by decide +kernel
theorem dX7_addSet_148 : decode cX7_addSet 148 = .ok (.iconst 2, 1) := by decide +kernel
theorem dX7_addSet_149 : decode cX7_addSet 149 = .ok (.iadd, 1) := by decide +kernel
theorem dX7_addSet_150 : decode cX7_addSet 150 = .ok (.iload_n 3, 1) := by decide +kernel
theorem dX7_addSet_151 : decode cX7_addSet 151 = .ok (.iastore, 1) := by decide +kernel
theorem dX7_addSet_152 : decode cX7_addSet 152 = .ok (.aload_n 0, 1) := by decide +kernel
theorem dX7_addSet_153 : decode cX7_addSet 153 = .ok (.getfield 7, 3) := by decide +kernel
theorem dX7_addSet_156 : decode cX7_addSet 156 = .ok (.iload 7, 2) := by decide +kernel
theorem dX7_addSet_158 : decode cX7_addSet 158 = .ok (.iconst 3, 1) := by decide +kernel
theorem dX7_addSet_159 : decode cX7_addSet 159 = .ok (.iadd, 1) := by decide +kernel
theorem dX7_addSet_160 : decode cX7_addSet 160 = .ok (.iload 4, 2) := by decide +kernel
theorem dX7_addSet_162 : decode cX7_addSet 162 = .ok (.iastore, 1) := by decide +kernel
theorem dX7_addSet_163 : decode cX7_addSet 163 = .ok (.aload_n 0, 1) := by decide +kernel
theorem dX7_addSet_164 : decode cX7_addSet 164 = .ok (.getfield 7, 3) := by decide +kernel
theorem dX7_addSet_167 : decode cX7_addSet 167 = .ok (.iload 7, 2) := by decide +kernel
theorem dX7_addSet_169 : decode cX7_addSet 169 = .ok (.iconst 4, 1) := by decide +kernel
theorem dX7_addSet_170 : decode cX7_addSet 170 = .ok (.iadd, 1) := by decide +kernel
theorem dX7_addSet_171 : decode cX7_addSet 171 = .ok (.iload 5, 2) := by decide +kernel
theorem dX7_addSet_173 : decode cX7_addSet 173 = .ok (.iastore, 1) := by decide +kernel
theorem dX7_addSet_174 : decode cX7_addSet 174 = .ok (.aload_n 0, 1) := by decide +kernel
theorem dX7_addSet_175 : decode cX7_addSet 175 = .ok (.getfield 7, 3) := by decide +kernel
theorem dX7_addSet_178 : decode cX7_addSet 178 = .ok (.bipush 33, 2) := by decide +kernel
theorem dX7_addSet_180 : decode cX7_addSet 180 = .ok (.dup2, 1) := by decide +kernel
theorem dX7_addSet_181 : decode cX7_addSet 181 = .ok (.iaload, 1) := by decide +kernel
theorem dX7_addSet_182 : decode cX7_addSet 182 = .ok (.iconst 1, 1) := by decide +kernel
theorem dX7_addSet_183 : decode cX7_addSet 183 = .ok (.iadd, 1) := by decide +kernel
theorem dX7_addSet_184 : decode cX7_addSet 184 = .ok (.iastore, 1) := by decide +kernel
theorem dX7_addSet_185 : decode cX7_addSet 185 = .ok (.aload_n 0, 1) := by decide +kernel
theorem dX7_addSet_186 : decode cX7_addSet 186 = .ok (.getfield 7, 3) := by decide +kernel
theorem dX7_addSet_189 : decode cX7_addSet 189 = .ok (.bipush 33, 2) := by decide +kernel
theorem dX7_addSet_191 : decode cX7_addSet 191 = .ok (.iaload, 1) := by decide +kernel
theorem dX7_addSet_192 : decode cX7_addSet 192 = .ok (.ireturn, 1) := by decide +kernel
theorem dX7_addElement_0 : decode cX7_addElement 0 = .ok (.aload_n 0, 1) := by decide +kernel
theorem dX7_addElement_1 : decode cX7_addElement 1 = .ok (.getfield 7, 3) := by decide +kernel
theorem dX7_addElement_4 : decode cX7_addElement 4 = .ok (.bipush 34, 2) := by decide +kernel
theorem dX7_addElement_6 : decode cX7_addElement 6 = .ok (.iaload, 1) := by decide +kernel
theorem dX7_addElement_7 : decode cX7_addElement 7 = .ok (.istore_n 3, 1) := by decide +kernel
theorem dX7_addElement_8 : decode cX7_addElement 8 = .ok (.aload_n 0, 1) := by decide +kernel
theorem dX7_addElement_9 : decode cX7_addElement 9 = .ok (.getfield 7, 3) := by decide +kernel
theorem dX7_addElement_12 : decode cX7_addElement 12 = .ok (.bipush 15, 2) := by decide +kernel
theorem dX7_addElement_14 : decode cX7_addElement 14 = .ok (.iload_n 3, 1) := by decide +kernel
theorem dX7_addElement_15 : decode cX7_addElement 15 = .ok (.iadd, 1) := by decide +kernel
theorem dX7_addElement_16 : decode cX7_addElement 16 = .ok (.iload_n 1, 1) := by decide +kernel
theorem dX7_addElement_17 : decode cX7_addElement 17 = .ok (.iastore, 1) := by decide +kernel
theorem dX7_addElement_18 : decode cX7_addElement 18 = .ok (.aload_n 0, 1) := by decide +kernel
theorem dX7_addElement_19 : decode cX7_addElement 19 = .ok (.getfield 7, 3) := by decide +kernel
theorem dX7_addElement_22 : decode cX7_addElement 22 = .ok (.bipush 21, 2) := by decide +kernel
theorem dX7_addElement_24 : decode cX7_addElement 24 = .ok (.iload_n 3, 1) := by decide +kernel
theorem dX7_addElement_25 : decode cX7_addElement 25 = .ok (.iadd, 1) := by decide +kernel
theorem dX7_addElement_26 : decode cX7_addElement 26 = .ok (.iload_n 2, 1) := by decide +kernel
theorem dX7_addElement_27 : decode cX7_addElement 27 = .ok (.iastore, 1) := by decide +kernel
theorem dX7_addElement_28 : decode cX7_addElement 28 = .ok (.aload_n 0, 1) := by decide +kernel
theorem dX7_addElement_29 : decode cX7_addElement 29 = .ok (.getfield 7, 3) := by decide +kernel
theorem dX7_addElement_32 : decode cX7_addElement 32 = .ok (.bipush 27, 2) := by decide +kernel
theorem dX7_addElement_34 : decode cX7_addElement 34 = .ok (.iload_n 3, 1) := by decide +kernel
theorem dX7_addElement_35 : decode cX7_addElement 35 = .ok (.iadd, 1) := by decide +kernel
theorem dX7_addElement_36 : decode cX7_addElement 36 = .ok (.sipush 1000, 3) := by decide +kernel
theorem dX7_addElement_39 : decode cX7_addElement 39 = .ok (.iastore, 1) := by decide +kernel
theorem dX7_addElement_40 : decode cX7_addElement 40 = .ok (.aload_n 0, 1) := by decide +kernel
theorem dX7_addElement_41 : decode cX7_addElement 41 = .ok (.getfield 7, 3) := by decide +kernel
theorem dX7_addElement_44 : decode cX7_addElement 44 = .ok (.bipush 34, 2) := by decide +kernel
theorem dX7_addElement_46 : decode cX7_addElement 46 = .ok (.dup2, 1) := by decide +kernel
theorem dX7_addElement_47 : decode cX7_addElement 47 = .ok (.iaload, 1) := by decide +kernel
theorem dX7_addElement_48 : decode cX7_addElement 48 = .ok (.iconst 1, 1) := by decide +kernel
theorem dX7_addElement_49 : decode cX7_addElement 49 = .ok (.iadd, 1) := by decide +kernel
theorem dX7_addElement_50 : decode cX7_addElement 50 = .ok (.iastore, 1) := by decide +kernel
theorem dX7_addElement_51 : decode cX7_addElement 51 = .ok (.iload_n 3, 1) := by decide +kernel
theorem dX7_addElement_52 : decode cX7_addElement 52 = .ok (.ireturn, 1) := by decide +kernel
theorem dX7_addBrake_0 : decode cX7_addBrake 0 = .ok (.aload_n 0, 1) := by decide +kernel
theorem dX7_addBrake_1 : decode cX7_addBrake 1 = .ok (.iload_n 1, 1) := by decide +kernel
theorem dX7_addBrake_2 : decode cX7_addBrake 2 = .ok (.invokestatic 53, 3) := by decide +kernel
theorem dX7_addBrake_5 : decode cX7_addBrake 5 = .ok (.ifCond .ne 7, 3) := by decide +kernel
theorem dX7_addBrake_8 : decode cX7_addBrake 8 = .ok (.iconst 1, 1) := by decide +kernel
theorem dX7_addBrake_9 : decode cX7_addBrake 9 = .ok (.goto 20, 3) := by decide +kernel
theorem dX7_addBrake_12 : decode cX7_addBrake 12 = .ok (.aload_n 0, 1) := by decide +kernel
theorem dX7_addBrake_13 : decode cX7_addBrake 13 = .ok (.getfield 7, 3) := by decide +kernel
theorem dX7_addBrake_16 : decode cX7_addBrake 16 = .ok (.bipush 34, 2) := by decide +kernel
theorem dX7_addBrake_18 : decode cX7_addBrake 18 = .ok (.iaload, 1) := by decide +kernel
theorem dX7_addBrake_19 : decode cX7_addBrake 19 = .ok (.bipush 6, 2) := by decide +kernel
theorem dX7_addBrake_21 : decode cX7_addBrake 21 = .ok (.if_icmp .ne 7, 3) := by decide +kernel
theorem dX7_addBrake_24 : decode cX7_addBrake 24 = .ok (.iconst 2, 1) := by decide +kernel
theorem dX7_addBrake_25 : decode cX7_addBrake 25 = .ok (.goto 4, 3) := by decide +kernel
theorem dX7_addBrake_28 : decode cX7_addBrake 28 = .ok (.iconst 0, 1) := by decide +kernel
theorem dX7_addBrake_29 : decode cX7_addBrake 29 = .ok (.putfield 45, 3) := by decide +kernel
theorem dX7_addBrake_32 : decode cX7_addBrake 32 = .ok (.aload_n 0, 1) := by decide +kernel
theorem dX7_addBrake_33 : decode cX7_addBrake 33 = .ok (.getfield 45, 3) := by decide +kernel
theorem dX7_addBrake_36 : decode cX7_addBrake 36 = .ok (.ifCond .eq 7, 3) := by decide +kernel
theorem dX7_addBrake_39 : decode cX7_addBrake 39 = .ok (.iconst 0, 1) := by decide +kernel
theorem dX7_addBrake_40 : decode cX7_addBrake 40 = .ok (.goto 9, 3) := by decide +kernel
theorem dX7_addBrake_43 : decode cX7_addBrake 43 = .ok (.aload_n 0, 1) := by decide +kernel
theorem dX7_addBrake_44 : decode cX7_addBrake 44 = .ok (.iload_n 1, 1) := by decide +kernel
theorem dX7_addBrake_45 : decode cX7_addBrake 45 = .ok (.iconst (-1), 1) := by decide +kernel
theorem dX7_addBrake_46 : decode cX7_addBrake 46 = .ok (.invokevirtual 57, 3) := by decide +kernel
theorem dX7_addBrake_49 : decode cX7_addBrake 49 = .ok (.ireturn, 1) := by decide +kernel
theorem dX7_addClutch_0 : decode cX7_addClutch 0 = .ok (.aload_n 0, 1) := by decide +kernel
theorem dX7_addClutch_1 : decode cX7_addClutch 1 = .ok (.iload_n 1, 1) := by decide +kernel
theorem dX7_addClutch_2 : decode cX7_addClutch 2 = .ok (.invokestatic 53, 3) := by decide +kernel
theorem dX7_addClutch_5 : decode cX7_addClutch 5 = .ok (.ifCond .eq 10, 3) := by decide +kernel
theorem dX7_addClutch_8 : decode cX7_addClutch 8 = .ok (.iload_n 2, 1) := by decide +kernel
theorem dX7_addClutch_9 : decode cX7_addClutch 9 = .ok (.invokestatic 53, 3) := by decide +kernel
theorem dX7_addClutch_12 : decode cX7_addClutch 12 = .ok (.ifCond .ne 7, 3) := by decide +kernel
theorem dX7_addClutch_15 : decode cX7_addClutch 15 = .ok (.iconst 1, 1) := by decide +kernel
theorem dX7_addClutch_16 : decode cX7_addClutch 16 = .ok (.goto 29, 3) := by decide +kernel
theorem dX7_addClutch_19 : decode cX7_addClutch 19 = .ok (.iload_n 1, 1) := by decide +kernel
theorem dX7_addClutch_20 : decode cX7_addClutch 20 = .ok (.iload_n 2, 1) := by decide +kernel
theorem dX7_addClutch_21 : decode cX7_addClutch 21 = .ok (.if_icmp .ne 7, 3) := by decide +kernel
theorem dX7_addClutch_24 : decode cX7_addClutch 24 = .ok (.iconst 2, 1) := by decide +kernel
theorem dX7_addClutch_25 : decode cX7_addClutch 25 = .ok (.goto 20, 3) := by decide +kernel
theorem dX7_addClutch_28 : decode cX7_addClutch 28 = .ok (.aload_n 0, 1) := by decide +kernel
theorem dX7_addClutch_29 : decode cX7_addClutch 29 = .ok (.getfield 7, 3) := by decide +kernel
theorem dX7_addClutch_32 : decode cX7_addClutch 32 = .ok (.bipush 34, 2) := by decide +kernel
theorem dX7_addClutch_34 : decode cX7_addClutch 34 = .ok (.iaload, 1) := by decide +kernel
theorem dX7_addClutch_35 : decode cX7_addClutch 35 = .ok (.bipush 6, 2) := by decide +kernel
theorem dX7_addClutch_37 : decode cX7_addClutch 37 = .ok (.if_icmp .ne 7, 3) := by decide +kernel
theorem dX7_addClutch_40 : decode cX7_addClutch 40 = .ok (.iconst 3, 1) := by decide +kernel
theorem dX7_addClutch_41 : decode cX7_addClutch 41 = .ok (.goto 4, 3) := by decide +kernel
theorem dX7_addClutch_44 : decode cX7_addClutch 44 = .ok (.iconst 0, 1) := by decide +kernel
theorem dX7_addClutch_45 : decode cX7_addClutch 45 = .ok (.putfield 45, 3) := by decide +kernel
theorem dX7_addClutch_48 : decode cX7_addClutch 48 = .ok (.aload_n 0, 1) := by decide +kernel
theorem dX7_addClutch_49 : decode cX7_addClutch 49 = .ok (.getfield 45, 3) := by decide +kernel
theorem dX7_addClutch_52 : decode cX7_addClutch 52 = .ok (.ifCond .eq 7, 3) := by decide +kernel
theorem dX7_addClutch_55 : decode cX7_addClutch 55 = .ok (.iconst 0, 1) := by decide +kernel
theorem dX7_addClutch_56 : decode cX7_addClutch 56 = .ok (.goto 9, 3) := by decide +kernel
theorem dX7_addClutch_59 : decode cX7_addClutch 59 = .ok (.aload_n 0, 1) := by decide +kernel
theorem dX7_addClutch_60 : decode cX7_addClutch 60 = .ok (.iload_n 1, 1) := by decide +kernel
theorem dX7_addClutch_61 : decode cX7_addClutch 61 = .ok (.iload_n 2, 1) := by decide +kernel
theorem dX7_addClutch_62 : decode cX7_addClutch 62 = .ok (.invokevirtual 57, 3) := by decide +kernel
theorem dX7_addClutch_65 : decode cX7_addClutch 65 = .ok (.ireturn, 1) := by decide +kernel
theorem dX7_setCapacity_0 : decode cX7_setCapacity 0 = .ok (.aload_n 0, 1) := by decide +kernel
theorem dX7_setCapacity_1 : decode cX7_setCapacity 1 = .ok (.aload_n 0, 1) := by decide +kernel
theorem dX7_setCapacity_2 : decode cX7_setCapacity 2 = .ok (.iload_n 1, 1) := by decide +kernel
theorem dX7_setCapacity_3 : decode cX7_setCapacity 3 = .ok (.invokevirtual 61, 3) := by decide +kernel
theorem dX7_setCapacity_6 : decode cX7_setCapacity 6 = .ok (.ifCond .ne 7, 3) := by decide +kernel
theorem dX7_setCapacity_9 : decode cX7_setCapacity 9 = .ok (.iconst 1, 1) := by decide +kernel
theorem dX7_setCapacity_10 : decode cX7_setCapacity 10 = .ok (.goto 19, 3) := by decide +kernel
theorem dX7_setCapacity_13 : decode cX7_setCapacity 13 = .ok (.iload_n 2, 1) := by decide +kernel
theorem dX7_setCapacity_14 : decode cX7_setCapacity 14 = .ok (.iconst 1, 1) := by decide +kernel
theorem dX7_setCapacity_15 : decode cX7_setCapacity 15 = .ok (.sipush 10000, 3) := by decide +kernel
theorem dX7_setCapacity_18 : decode cX7_setCapacity 18 = .ok (.invokestatic 49, 3) := by decide +kernel
theorem dX7_setCapacity_21 : decode cX7_setCapacity 21 = .ok (.ifCond .ne 7, 3) := by decide +kernel
theorem dX7_setCapacity_24 : decode cX7_setCapacity 24 = .ok (.iconst 2, 1) := by decide +kernel
theorem dX7_setCapacity_25 : decode cX7_setCapacity 25 = .ok (.goto 4, 3) := by decide +kernel
theorem dX7_setCapacity_28 : decode cX7_setCapacity 28 = .ok (.iconst 0, 1) := by decide +kernel
theorem dX7_setCapacity_29 : decode cX7_setCapacity 29 = .ok (.putfield 45, 3) := by decide +kernel
theorem dX7_setCapacity_32 : decode cX7_setCapacity 32 = .ok (.aload_n 0, 1) := by decide +kernel
theorem dX7_setCapacity_33 : decode cX7_setCapacity 33 = .ok (.getfield 45, 3) := by decide +kernel
theorem dX7_setCapacity_36 : decode cX7_setCapacity 36 = .ok (.ifCond .eq 5, 3) := by decide +kernel
theorem dX7_setCapacity_39 : decode cX7_setCapacity 39 = .ok (.iconst 0, 1) := by decide +kernel
theorem dX7_setCapacity_40 : decode cX7_setCapacity 40 = .ok (.ireturn, 1) := by decide +kernel
theorem dX7_setCapacity_41 : decode cX7_setCapacity 41 = .ok (.aload_n 0, 1) := by decide +kernel
theorem dX7_setCapacity_42 : decode cX7_setCapacity 42 = .ok (.getfield 7, 3) := by decide +kernel
theorem dX7_setCapacity_45 : decode cX7_setCapacity 45 = .ok (.bipush 27, 2) := by decide +kernel
theorem dX7_setCapacity_47 : decode cX7_setCapacity 47 = .ok (.iload_n 1, 1) := by decide +kernel
theorem dX7_setCapacity_48 : decode cX7_setCapacity 48 = .ok (.iadd, 1) := by decide +kernel
theorem dX7_setCapacity_49 : decode cX7_setCapacity 49 = .ok (.iaload, 1) := by decide +kernel
theorem dX7_setCapacity_50 : decode cX7_setCapacity 50 = .ok (.istore_n 3, 1) := by decide +kernel
theorem dX7_setCapacity_51 : decode cX7_setCapacity 51 = .ok (.aload_n 0, 1) := by decide +kernel
theorem dX7_setCapacity_52 : decode cX7_setCapacity 52 = .ok (.getfield 7, 3) := by decide +kernel
theorem dX7_setCapacity_55 : decode cX7_setCapacity 55 = .ok (.bipush 27, 2) := by decide +kernel
theorem dX7_setCapacity_57 : decode cX7_setCapacity 57 = .ok (.iload_n 1, 1) := by decide +kernel
theorem dX7_setCapacity_58 : decode cX7_setCapacity 58 = .ok (.iadd, 1) := by decide +kernel
theorem dX7_setCapacity_59 : decode cX7_setCapacity 59 = .ok (.iload_n 2, 1) := by decide +kernel
theorem dX7_setCapacity_60 : decode cX7_setCapacity 60 = .ok (.iastore, 1) := by decide +kernel
theorem dX7_setCapacity_61 : decode cX7_setCapacity 61 = .ok (.iload_n 3, 1) := by decide +kernel
theorem dX7_setCapacity_62 : decode cX7_setCapacity 62 = .ok (.ireturn, 1) := by decide +kernel
theorem dX7_count_0 : decode cX7_count 0 = .ok (.aload_n 0, 1) := by decide +kernel
theorem dX7_count_1 : decode cX7_count 1 = .ok (.iload_n 1, 1) := by decide +kernel
theorem dX7_count_2 : decode cX7_count 2 = .ok (.iconst 0, 1) := by decide +kernel
theorem dX7_count_3 : decode cX7_count 3 = .ok (.iconst 2, 1) := by decide +kernel
theorem dX7_count_4 : decode cX7_count 4 = .ok (.invokestatic 49, 3) := by decide +kernel
theorem dX7_count_7 : decode cX7_count 7 = .ok (.ifCond .eq 7, 3) := by decide +kernel
theorem dX7_count_10 : decode cX7_count 10 = .ok (.iconst 0, 1) := by decide +kernel
theorem dX7_count_11 : decode cX7_count 11 = .ok (.goto 4, 3) := by decide +kernel
theorem dX7_count_14 : decode cX7_count 14 = .ok (.iconst 1, 1) := by decide +kernel
theorem dX7_count_15 : decode cX7_count 15 = .ok (.putfield 45, 3) := by decide +kernel
theorem dX7_count_18 : decode cX7_count 18 = .ok (.aload_n 0, 1) := by decide +kernel
theorem dX7_count_19 : decode cX7_count 19 = .ok (.getfield 45, 3) := by decide +kernel
theorem dX7_count_22 : decode cX7_count 22 = .ok (.ifCond .eq 5, 3) := by decide +kernel
theorem dX7_count_25 : decode cX7_count 25 = .ok (.iconst 0, 1) := by decide +kernel
theorem dX7_count_26 : decode cX7_count 26 = .ok (.ireturn, 1) := by decide +kernel
theorem dX7_count_27 : decode cX7_count 27 = .ok (.iload_n 1, 1) := by decide +kernel
theorem dX7_count_28 : decode cX7_count 28 = .ok (.iconst 2, 1) := by decide +kernel
theorem dX7_count_29 : decode cX7_count 29 = .ok (.if_icmp .ne 7, 3) := by decide +kernel
theorem dX7_count_32 : decode cX7_count 32 = .ok (.aload_n 0, 1) := by decide +kernel
theorem dX7_count_33 : decode cX7_count 33 = .ok (.invokevirtual 64, 3) := by decide +kernel
theorem dX7_count_36 : decode cX7_count 36 = .ok (.iload_n 1, 1) := by decide +kernel
theorem dX7_count_37 : decode cX7_count 37 = .ok (.ifCond .ne 13, 3) := by decide +kernel
theorem dX7_count_40 : decode cX7_count 40 = .ok (.aload_n 0, 1) := by decide +kernel
theorem dX7_count_41 : decode cX7_count 41 = .ok (.getfield 7, 3) := by decide +kernel
theorem dX7_count_44 : decode cX7_count 44 = .ok (.bipush 33, 2) := by decide +kernel
theorem dX7_count_46 : decode cX7_count 46 = .ok (.iaload, 1) := by decide +kernel
theorem dX7_count_47 : decode cX7_count 47 = .ok (.goto 22, 3) := by decide +kernel
theorem dX7_count_50 : decode cX7_count 50 = .ok (.iload_n 1, 1) := by decide +kernel
theorem dX7_count_51 : decode cX7_count 51 = .ok (.iconst 1, 1) := by decide +kernel
theorem dX7_count_52 : decode cX7_count 52 = .ok (.if_icmp .ne 13, 3) := by decide +kernel
theorem dX7_count_55 : decode cX7_count 55 = .ok (.aload_n 0, 1) := by decide +kernel
theorem dX7_count_56 : decode cX7_count 56 = .ok (.getfield 7, 3) := by decide +kernel
theorem dX7_count_59 : decode cX7_count 59 = .ok (.bipush 34, 2) := by decide +kernel
theorem dX7_count_61 : decode cX7_count 61 = .ok (.iaload, 1) := by decide +kernel
theorem dX7_count_62 : decode cX7_count 62 = .ok (.goto 7, 3) := by decide +kernel
theorem dX7_count_65 : decode cX7_count 65 = .ok (.aload_n 0, 1) := by decide +kernel
theorem dX7_count_66 : decode cX7_count 66 = .ok (.getfield 67, 3) := by decide +kernel
theorem dX7_count_69 : decode cX7_count 69 = .ok (.ireturn, 1) := by decide +kernel
theorem dX7_become_0 : decode cX7_become 0 = .ok (.iload_n 1, 1) := by decide +kernel
theorem dX7_become_1 : decode cX7_become 1 = .ok (.aload_n 0, 1) := by decide +kernel
theorem dX7_become_2 : decode cX7_become 2 = .ok (.getfield 7, 3) := by decide +kernel
theorem dX7_become_5 : decode cX7_become 5 = .ok (.bipush 35, 2) := by decide +kernel
theorem dX7_become_7 : decode cX7_become 7 = .ok (.iaload, 1) := by decide +kernel
theorem dX7_become_8 : decode cX7_become 8 = .ok (.if_icmp .ne 4, 3) := by decide +kernel
theorem dX7_become_11 : decode cX7_become 11 = .ok (.return_, 1) := by decide +kernel
theorem dX7_become_12 : decode cX7_become 12 = .ok (.aload_n 0, 1) := by decide +kernel
theorem dX7_become_13 : decode cX7_become 13 = .ok (.getfield 70, 3) := by decide +kernel
theorem dX7_become_16 : decode cX7_become 16 = .ok (.bipush 20, 2) := by decide +kernel
theorem dX7_become_18 : decode cX7_become 18 = .ok (.if_icmp .ne 41, 3) := by decide +kernel
theorem dX7_become_21 : decode cX7_become 21 = .ok (.iconst 1, 1) := by decide +kernel
theorem dX7_become_22 : decode cX7_become 22 = .ok (.istore_n 2, 1) := by decide +kernel
theorem dX7_become_23 : decode cX7_become 23 = .ok (.iload_n 2, 1) := by decide +kernel
theorem dX7_become_24 : decode cX7_become 24 = .ok (.bipush 20, 2) := by decide +kernel
theorem dX7_become_26 : decode cX7_become 26 = .ok (.if_icmp .ge 23, 3) := by decide +kernel
theorem dX7_become_29 : decode cX7_become 29 = .ok (.aload_n 0, 1) := by decide +kernel
theorem dX7_become_30 : decode cX7_become 30 = .ok (.getfield 20, 3) := by decide +kernel
theorem dX7_become_33 : decode cX7_become 33 = .ok (.iload_n 2, 1) := by decide +kernel
theorem dX7_become_34 : decode cX7_become 34 = .ok (.iconst 1, 1) := by decide +kernel
theorem dX7_become_35 : decode cX7_become 35 = .ok (.isub, 1) := by decide +kernel
theorem dX7_become_36 : decode cX7_become 36 = .ok (.aload_n 0, 1) := by decide +kernel
theorem dX7_become_37 : decode cX7_become 37 = .ok (.getfield 20, 3) := by decide +kernel
theorem dX7_become_40 : decode cX7_become 40 = .ok (.iload_n 2, 1) := by decide +kernel
theorem dX7_become_41 : decode cX7_become 41 = .ok (.iaload, 1) := by decide +kernel
theorem dX7_become_42 : decode cX7_become 42 = .ok (.iastore, 1) := by decide +kernel
theorem dX7_become_43 : decode cX7_become 43 = .ok (.iinc 2 1, 3) := by decide +kernel
theorem dX7_become_46 : decode cX7_become 46 = .ok (.goto (-23), 3) := by decide +kernel
theorem dX7_become_49 : decode cX7_become 49 = .ok (.aload_n 0, 1) := by decide +kernel
theorem dX7_become_50 : decode cX7_become 50 = .ok (.dup, 1) := by decide +kernel
theorem dX7_become_51 : decode cX7_become 51 = .ok (.getfield 70, 3) := by decide +kernel
theorem dX7_become_54 : decode cX7_become 54 = .ok (.iconst 1, 1) := by decide +kernel
theorem dX7_become_55 : decode cX7_become 55 = .ok (.isub, 1) := by decide +kernel
theorem dX7_become_56 : decode cX7_become 56 = .ok (.putfield 70, 3) := by decide +kernel
theorem dX7_become_59 : decode cX7_become 59 = .ok (.aload_n 0, 1) := by decide +kernel
theorem dX7_become_60 : decode cX7_become 60 = .ok (.getfield 20, 3) := by decide +kernel
theorem dX7_become_63 : decode cX7_become 63 = .ok (.aload_n 0, 1) := by decide +kernel
theorem dX7_become_64 : decode cX7_become 64 = .ok (.getfield 70, 3) := by decide +kernel
theorem dX7_become_67 : decode cX7_become 67 = .ok (.aload_n 0, 1) := by decide +kernel
theorem dX7_become_68 : decode cX7_become 68 = .ok (.getfield 7, 3) := by decide +kernel
theorem dX7_become_71 : decode cX7_become 71 = .ok (.bipush 35, 2) := by decide +kernel
theorem dX7_become_73 : decode cX7_become 73 = .ok (.iaload, 1) := by decide +kernel
theorem dX7_become_74 : decode cX7_become 74 = .ok (.iastore, 1) := by decide +kernel
theorem dX7_become_75 : decode cX7_become 75 = .ok (.aload_n 0, 1) := by decide +kernel
theorem dX7_become_76 : decode cX7_become 76 = .ok (.dup, 1) := by decide +kernel
theorem dX7_become_77 : decode cX7_become 77 = .ok (.getfield 70, 3) := by decide +kernel
theorem dX7_become_80 : decode cX7_become 80 = .ok (.iconst 1, 1) := by decide +kernel
theorem dX7_become_81 : decode cX7_become 81 = .ok (.iadd, 1) := by decide +kernel
theorem dX7_become_82 : decode cX7_become 82 = .ok (.putfield 70, 3) := by decide +kernel
theorem dX7_become_85 : decode cX7_become 85 = .ok (.aload_n 0, 1) := by decide +kernel
theorem dX7_become_86 : decode cX7_become 86 = .ok (.getfield 7, 3) := by decide +kernel
theorem dX7_become_89 : decode cX7_become 89 = .ok (.bipush 35, 2) := by decide +kernel
theorem dX7_become_91 : decode cX7_become 91 = .ok (.iload_n 1, 1) := by decide +kernel
theorem dX7_become_92 : decode cX7_become 92 = .ok (.iastore, 1) := by decide +kernel
theorem dX7_become_93 : decode cX7_become 93 = .ok (.return_, 1) := by decide +kernel
theorem dX7_engage_0 : decode cX7_engage 0 = .ok (.aload_n 0, 1) := by decide +kernel
theorem dX7_engage_1 : decode cX7_engage 1 = .ok (.aload_n 0, 1) := by decide +kernel
theorem dX7_engage_2 : decode cX7_engage 2 = .ok (.iload_n 1, 1) := by decide +kernel
theorem dX7_engage_3 : decode cX7_engage 3 = .ok (.invokevirtual 61, 3) := by decide +kernel
theorem dX7_engage_6 : decode cX7_engage 6 = .ok (.ifCond .eq 7, 3) := by decide +kernel
theorem dX7_engage_9 : decode cX7_engage 9 = .ok (.iconst 0, 1) := by decide +kernel
theorem dX7_engage_10 : decode cX7_engage 10 = .ok (.goto 4, 3) := by decide +kernel
theorem dX7_engage_13 : decode cX7_engage 13 = .ok (.iconst 1, 1) := by decide +kernel
theorem dX7_engage_14 : decode cX7_engage 14 = .ok (.putfield 45, 3) := by decide +kernel
theorem dX7_engage_17 : decode cX7_engage 17 = .ok (.aload_n 0, 1) := by decide +kernel
theorem dX7_engage_18 : decode cX7_engage 18 = .ok (.getfield 45, 3) := by decide +kernel
theorem dX7_engage_21 : decode cX7_engage 21 = .ok (.ifCond .ne 17, 3) := by decide +kernel
theorem dX7_engage_24 : decode cX7_engage 24 = .ok (.aload_n 0, 1) := by decide +kernel
theorem dX7_engage_25 : decode cX7_engage 25 = .ok (.getfield 7, 3) := by decide +kernel
theorem dX7_engage_28 : decode cX7_engage 28 = .ok (.bipush 35, 2) := by decide +kernel
theorem dX7_engage_30 : decode cX7_engage 30 = .ok (.iaload, 1) := by decide +kernel
theorem dX7_engage_31 : decode cX7_engage 31 = .ok (.iload_n 1, 1) := by decide +kernel
theorem dX7_engage_32 : decode cX7_engage 32 = .ok (.invokestatic 73, 3) := by decide +kernel
theorem dX7_engage_35 : decode cX7_engage 35 = .ok (.ifCond .eq 5, 3) := by decide +kernel
theorem dX7_engage_38 : decode cX7_engage 38 = .ok (.iconst 0, 1) := by decide +kernel
theorem dX7_engage_39 : decode cX7_engage 39 = .ok (.ireturn, 1) := by decide +kernel
theorem dX7_engage_40 : decode cX7_engage 40 = .ok (.aload_n 0, 1) := by decide +kernel
theorem dX7_engage_41 : decode cX7_engage 41 = .ok (.aload_n 0, 1) := by decide +kernel
theorem dX7_engage_42 : decode cX7_engage 42 = .ok (.getfield 7, 3) := by decide +kernel
theorem dX7_engage_45 : decode cX7_engage 45 = .ok (.bipush 35, 2) := by decide +kernel
theorem dX7_engage_47 : decode cX7_engage 47 = .ok (.iaload, 1) := by decide +kernel
theorem dX7_engage_48 : decode cX7_engage 48 = .ok (.iconst 1, 1) := by decide +kernel
theorem dX7_engage_49 : decode cX7_engage 49 = .ok (.iload_n 1, 1) := by decide +kernel
theorem dX7_engage_50 : decode cX7_engage 50 = .ok (.ishl, 1) := by decide +kernel
theorem dX7_engage_51 : decode cX7_engage 51 = .ok (.ior, 1) := by decide +kernel
theorem dX7_engage_52 : decode cX7_engage 52 = .ok (.invokevirtual 77, 3) := by decide +kernel
theorem dX7_engage_55 : decode cX7_engage 55 = .ok (.iconst 1, 1) := by decide +kernel
theorem dX7_engage_56 : decode cX7_engage 56 = .ok (.ireturn, 1) := by decide +kernel
theorem dX7_release_0 : decode cX7_release 0 = .ok (.aload_n 0, 1) := by decide +kernel
theorem dX7_release_1 : decode cX7_release 1 = .ok (.aload_n 0, 1) := by decide +kernel
theorem dX7_release_2 : decode cX7_release 2 = .ok (.iload_n 1, 1) := by decide +kernel
theorem dX7_release_3 : decode cX7_release 3 = .ok (.invokevirtual 61, 3) := by decide +kernel
theorem dX7_release_6 : decode cX7_release 6 = .ok (.ifCond .eq 7, 3) := by decide +kernel
theorem dX7_release_9 : decode cX7_release 9 = .ok (.iconst 0, 1) := by decide +kernel
theorem dX7_release_10 : decode cX7_release 10 = .ok (.goto 4, 3) := by decide +kernel
theorem dX7_release_13 : decode cX7_release 13 = .ok (.iconst 1, 1) := by decide +kernel
theorem dX7_release_14 : decode cX7_release 14 = .ok (.putfield 45, 3) := by decide +kernel
theorem dX7_release_17 : decode cX7_release 17 = .ok (.aload_n 0, 1) := by decide +kernel
theorem dX7_release_18 : decode cX7_release 18 = .ok (.getfield 45, 3) := by decide +kernel
theorem dX7_release_21 : decode cX7_release 21 = .ok (.ifCond .ne 17, 3) := by decide +kernel
theorem dX7_release_24 : decode cX7_release 24 = .ok (.aload_n 0, 1) := by decide +kernel
theorem dX7_release_25 : decode cX7_release 25 = .ok (.getfield 7, 3) := by decide +kernel
theorem dX7_release_28 : decode cX7_release 28 = .ok (.bipush 35, 2) := by decide +kernel
theorem dX7_release_30 : decode cX7_release 30 = .ok (.iaload, 1) := by decide +kernel
theorem dX7_release_31 : decode cX7_release 31 = .ok (.iload_n 1, 1) := by decide +kernel
theorem dX7_release_32 : decode cX7_release 32 = .ok (.invokestatic 73, 3) := by decide +kernel
theorem dX7_release_35 : decode cX7_release 35 = .ok (.ifCond .ne 5, 3) := by decide +kernel
theorem dX7_release_38 : decode cX7_release 38 = .ok (.iconst 0, 1) := by decide +kernel
theorem dX7_release_39 : decode cX7_release 39 = .ok (.ireturn, 1) := by decide +kernel
theorem dX7_release_40 : decode cX7_release 40 = .ok (.aload_n 0, 1) := by decide +kernel
theorem dX7_release_41 : decode cX7_release 41 = .ok (.aload_n 0, 1) := by decide +kernel
theorem dX7_release_42 : decode cX7_release 42 = .ok (.getfield 7, 3) := by decide +kernel
theorem dX7_release_45 : decode cX7_release 45 = .ok (.bipush 35, 2) := by decide +kernel
theorem dX7_release_47 : decode cX7_release 47 = .ok (.iaload, 1) := by decide +kernel
theorem dX7_release_48 : decode cX7_release 48 = .ok (.iconst 1, 1) := by decide +kernel
theorem dX7_release_49 : decode cX7_release 49 = .ok (.iload_n 1, 1) := by decide +kernel
theorem dX7_release_50 : decode cX7_release 50 = .ok (.ishl, 1) := by decide +kernel
theorem dX7_release_51 : decode cX7_release 51 = .ok (.iconst (-1), 1) := by decide +kernel
theorem dX7_release_52 : decode cX7_release 52 = .ok (.ixor, 1) := by decide +kernel
theorem dX7_release_53 : decode cX7_release 53 = .ok (.iand, 1) := by decide +kernel
theorem dX7_release_54 : decode cX7_release 54 = .ok (.invokevirtual 77, 3) := by decide +kernel
theorem dX7_release_57 : decode cX7_release 57 = .ok (.iconst 1, 1) := by decide +kernel
theorem dX7_release_58 : decode cX7_release 58 = .ok (.ireturn, 1) := by decide +kernel
theorem dX7_select_0 : decode cX7_select 0 = .ok (.aload_n 0, 1) := by decide +kernel
theorem dX7_select_1 : decode cX7_select 1 = .ok (.aload_n 0, 1) := by decide +kernel
theorem dX7_select_2 : decode cX7_select 2 = .ok (.iload_n 1, 1) := by decide +kernel
theorem dX7_select_3 : decode cX7_select 3 = .ok (.invokevirtual 81, 3) := by decide +kernel
theorem dX7_select_6 : decode cX7_select 6 = .ok (.ifCond .eq 7, 3) := by decide +kernel
theorem dX7_select_9 : decode cX7_select 9 = .ok (.iconst 0, 1) := by decide +kernel
theorem dX7_select_10 : decode cX7_select 10 = .ok (.goto 4, 3) := by decide +kernel
theorem dX7_select_13 : decode cX7_select 13 = .ok (.iconst 1, 1) := by decide +kernel
theorem dX7_select_14 : decode cX7_select 14 = .ok (.putfield 45, 3) := by decide +kernel
theorem dX7_select_17 : decode cX7_select 17 = .ok (.aload_n 0, 1) := by decide +kernel
theorem dX7_select_18 : decode cX7_select 18 = .ok (.getfield 45, 3) := by decide +kernel
theorem dX7_select_21 : decode cX7_select 21 = .ok (.ifCond .eq 5, 3) := by decide +kernel
theorem dX7_select_24 : decode cX7_select 24 = .ok (.iconst 0, 1) := by decide +kernel
theorem dX7_select_25 : decode cX7_select 25 = .ok (.ireturn, 1) := by decide +kernel
theorem dX7_select_26 : decode cX7_select 26 = .ok (.aload_n 0, 1) := by decide +kernel
theorem dX7_select_27 : decode cX7_select 27 = .ok (.getfield 7, 3) := by decide +kernel
theorem dX7_select_30 : decode cX7_select 30 = .ok (.bipush 35, 2) := by decide +kernel
theorem dX7_select_32 : decode cX7_select 32 = .ok (.iaload, 1) := by decide +kernel
theorem dX7_select_33 : decode cX7_select 33 = .ok (.istore_n 2, 1) := by decide +kernel
theorem dX7_select_34 : decode cX7_select 34 = .ok (.aload_n 0, 1) := by decide +kernel
theorem dX7_select_35 : decode cX7_select 35 = .ok (.iload_n 1, 1) := by decide +kernel
theorem dX7_select_36 : decode cX7_select 36 = .ok (.invokevirtual 77, 3) := by decide +kernel
theorem dX7_select_39 : decode cX7_select 39 = .ok (.iload_n 2, 1) := by decide +kernel
theorem dX7_select_40 : decode cX7_select 40 = .ok (.ireturn, 1) := by decide +kernel
theorem dX7_undo_0 : decode cX7_undo 0 = .ok (.aload_n 0, 1) := by decide +kernel
theorem dX7_undo_1 : decode cX7_undo 1 = .ok (.iconst 0, 1) := by decide +kernel
theorem dX7_undo_2 : decode cX7_undo 2 = .ok (.putfield 45, 3) := by decide +kernel
theorem dX7_undo_5 : decode cX7_undo 5 = .ok (.aload_n 0, 1) := by decide +kernel
theorem dX7_undo_6 : decode cX7_undo 6 = .ok (.getfield 70, 3) := by decide +kernel
theorem dX7_undo_9 : decode cX7_undo 9 = .ok (.ifCond .ne 5, 3) := by decide +kernel
theorem dX7_undo_12 : decode cX7_undo 12 = .ok (.iconst 0, 1) := by decide +kernel
theorem dX7_undo_13 : decode cX7_undo 13 = .ok (.ireturn, 1) := by decide +kernel
theorem dX7_undo_14 : decode cX7_undo 14 = .ok (.aload_n 0, 1) := by decide +kernel
theorem dX7_undo_15 : decode cX7_undo 15 = .ok (.dup, 1) := by decide +kernel
theorem dX7_undo_16 : decode cX7_undo 16 = .ok (.getfield 70, 3) := by decide +kernel
theorem dX7_undo_19 : decode cX7_undo 19 = .ok (.iconst 1, 1) := by decide +kernel
theorem dX7_undo_20 : decode cX7_undo 20 = .ok (.isub, 1) := by decide +kernel
theorem dX7_undo_21 : decode cX7_undo 21 = .ok (.putfield 70, 3) := by decide +kernel
theorem dX7_undo_24 : decode cX7_undo 24 = .ok (.aload_n 0, 1) := by decide +kernel
theorem dX7_undo_25 : decode cX7_undo 25 = .ok (.getfield 7, 3) := by decide +kernel
theorem dX7_undo_28 : decode cX7_undo 28 = .ok (.bipush 35, 2) := by decide +kernel
theorem dX7_undo_30 : decode cX7_undo 30 = .ok (.aload_n 0, 1) := by decide +kernel
theorem dX7_undo_31 : decode cX7_undo 31 = .ok (.getfield 20, 3) := by decide +kernel
theorem dX7_undo_34 : decode cX7_undo 34 = .ok (.aload_n 0, 1) := by decide +kernel
theorem dX7_undo_35 : decode cX7_undo 35 = .ok (.getfield 70, 3) := by decide +kernel
theorem dX7_undo_38 : decode cX7_undo 38 = .ok (.iaload, 1) := by decide +kernel
theorem dX7_undo_39 : decode cX7_undo 39 = .ok (.iastore, 1) := by decide +kernel
theorem dX7_undo_40 : decode cX7_undo 40 = .ok (.iconst 1, 1) := by decide +kernel
theorem dX7_undo_41 : decode cX7_undo 41 = .ok (.ireturn, 1) := by decide +kernel
theorem dX7_engaged_0 : decode cX7_engaged 0 = .ok (.aload_n 0, 1) := by decide +kernel
theorem dX7_engaged_1 : decode cX7_engaged 1 = .ok (.iconst 0, 1) := by decide +kernel
theorem dX7_engaged_2 : decode cX7_engaged 2 = .ok (.putfield 45, 3) := by decide +kernel
theorem dX7_engaged_5 : decode cX7_engaged 5 = .ok (.aload_n 0, 1) := by decide +kernel
theorem dX7_engaged_6 : decode cX7_engaged 6 = .ok (.getfield 7, 3) := by decide +kernel
theorem dX7_engaged_9 : decode cX7_engaged 9 = .ok (.bipush 35, 2) := by decide +kernel
theorem dX7_engaged_11 : decode cX7_engaged 11 = .ok (.iaload, 1) := by decide +kernel
theorem dX7_engaged_12 : decode cX7_engaged 12 = .ok (.ireturn, 1) := by decide +kernel
theorem dX7_brakesOnly_0 : decode cX7_brakesOnly 0 = .ok (.aload_n 0, 1) := by decide +kernel
theorem dX7_brakesOnly_1 : decode cX7_brakesOnly 1 = .ok (.iconst 0, 1) := by decide +kernel
theorem dX7_brakesOnly_2 : decode cX7_brakesOnly 2 = .ok (.putfield 45, 3) := by decide +kernel
theorem dX7_brakesOnly_5 : decode cX7_brakesOnly 5 = .ok (.iconst 1, 1) := by decide +kernel
theorem dX7_brakesOnly_6 : decode cX7_brakesOnly 6 = .ok (.istore_n 1, 1) := by decide +kernel
theorem dX7_brakesOnly_7 : decode cX7_brakesOnly 7 = .ok (.iconst 0, 1) := by decide +kernel
theorem dX7_brakesOnly_8 : decode cX7_brakesOnly 8 = .ok (.istore_n 2, 1) := by decide +kernel
theorem dX7_brakesOnly_9 : decode cX7_brakesOnly 9 = .ok (.iload_n 2, 1) := by decide +kernel
theorem dX7_brakesOnly_10 : decode cX7_brakesOnly 10 = .ok (.aload_n 0, 1) := by decide +kernel
theorem dX7_brakesOnly_11 : decode cX7_brakesOnly 11 = .ok (.getfield 7, 3) := by decide +kernel
theorem dX7_brakesOnly_14 : decode cX7_brakesOnly 14 = .ok (.bipush 34, 2) := by decide +kernel
theorem dX7_brakesOnly_16 : decode cX7_brakesOnly 16 = .ok (.iaload, 1) := by decide +kernel
theorem dX7_brakesOnly_17 : decode cX7_brakesOnly 17 = .ok (.if_icmp .ge 46, 3) := by decide +kernel
theorem dX7_brakesOnly_20 : decode cX7_brakesOnly 20 = .ok (.iload_n 1, 1) := by decide +kernel
theorem dX7_brakesOnly_21 : decode cX7_brakesOnly 21 = .ok (.ifCond .eq 34, 3) := by decide +kernel
theorem dX7_brakesOnly_24 : decode cX7_brakesOnly 24 = .ok (.aload_n 0, 1) := by decide +kernel
theorem dX7_brakesOnly_25 : decode cX7_brakesOnly 25 = .ok (.getfield 7, 3) := by decide +kernel
theorem dX7_brakesOnly_28 : decode cX7_brakesOnly 28 = .ok (.bipush 35, 2) := by decide +kernel
theorem dX7_brakesOnly_30 : decode cX7_brakesOnly 30 = .ok (.iaload, 1) := by decide +kernel
theorem dX7_brakesOnly_31 : decode cX7_brakesOnly 31 = .ok (.iload_n 2, 1) := by decide +kernel
theorem dX7_brakesOnly_32 : decode cX7_brakesOnly 32 = .ok (.invokestatic 73, 3) := by decide +kernel
theorem dX7_brakesOnly_35 : decode cX7_brakesOnly 35 = .ok (.ifCond .eq 16, 3) := by decide +kernel
theorem dX7_brakesOnly_38 : decode cX7_brakesOnly 38 = .ok (.aload_n 0, 1) := by decide +kernel
theorem dX7_brakesOnly_39 : decode cX7_brakesOnly 39 = .ok (.getfield 7, 3) := by decide +kernel
theorem dX7_brakesOnly_42 : decode cX7_brakesOnly 42 = .ok (.bipush 21, 2) := by decide +kernel
theorem dX7_brakesOnly_44 : decode cX7_brakesOnly 44 = .ok (.iload_n 2, 1) := by decide +kernel
theorem dX7_brakesOnly_45 : decode cX7_brakesOnly 45 = .ok (.iadd, 1) := by decide +kernel
theorem dX7_brakesOnly_46 : decode cX7_brakesOnly 46 = .ok (.iaload, 1) := by decide +kernel
theorem dX7_brakesOnly_47 : decode cX7_brakesOnly 47 = .ok (.iconst (-1), 1) := by decide +kernel
theorem dX7_brakesOnly_48 : decode cX7_brakesOnly 48 = .ok (.if_icmp .ne 7, 3) := by decide +kernel
theorem dX7_brakesOnly_51 : decode cX7_brakesOnly 51 = .ok (.iconst 1, 1) := by decide +kernel
theorem dX7_brakesOnly_52 : decode cX7_brakesOnly 52 = .ok (.goto 4, 3) := by decide +kernel
theorem dX7_brakesOnly_55 : decode cX7_brakesOnly 55 = .ok (.iconst 0, 1) := by decide +kernel
theorem dX7_brakesOnly_56 : decode cX7_brakesOnly 56 = .ok (.istore_n 1, 1) := by decide +kernel
theorem dX7_brakesOnly_57 : decode cX7_brakesOnly 57 = .ok (.iinc 2 1, 3) := by decide +kernel
theorem dX7_brakesOnly_60 : decode cX7_brakesOnly 60 = .ok (.goto (-51), 3) := by decide +kernel
theorem dX7_brakesOnly_63 : decode cX7_brakesOnly 63 = .ok (.iload_n 1, 1) := by decide +kernel
theorem dX7_brakesOnly_64 : decode cX7_brakesOnly 64 = .ok (.ireturn, 1) := by decide +kernel
theorem dX7_clearRows_0 : decode cX7_clearRows 0 = .ok (.aload_n 0, 1) := by decide +kernel
theorem dX7_clearRows_1 : decode cX7_clearRows 1 = .ok (.iload_n 1, 1) := by decide +kernel
theorem dX7_clearRows_2 : decode cX7_clearRows 2 = .ok (.putfield 84, 3) := by decide +kernel
theorem dX7_clearRows_5 : decode cX7_clearRows 5 = .ok (.aload_n 0, 1) := by decide +kernel
theorem dX7_clearRows_6 : decode cX7_clearRows 6 = .ok (.iload_n 2, 1) := by decide +kernel
theorem dX7_clearRows_7 : decode cX7_clearRows 7 = .ok (.putfield 87, 3) := by decide +kernel
theorem dX7_clearRows_10 : decode cX7_clearRows 10 = .ok (.iconst 0, 1) := by decide +kernel
theorem dX7_clearRows_11 : decode cX7_clearRows 11 = .ok (.istore_n 3, 1) := by decide +kernel
theorem dX7_clearRows_12 : decode cX7_clearRows 12 = .ok (.iload_n 3, 1) := by decide +kernel
theorem dX7_clearRows_13 : decode cX7_clearRows 13 = .ok (.bipush 121, 2) := by decide +kernel
theorem dX7_clearRows_15 : decode cX7_clearRows 15 = .ok (.if_icmp .ge 16, 3) := by decide +kernel
theorem dX7_clearRows_18 : decode cX7_clearRows 18 = .ok (.aload_n 0, 1) := by decide +kernel
theorem dX7_clearRows_19 : decode cX7_clearRows 19 = .ok (.getfield 23, 3) := by decide +kernel
theorem dX7_clearRows_22 : decode cX7_clearRows 22 = .ok (.iload_n 3, 1) := by decide +kernel
theorem dX7_clearRows_23 : decode cX7_clearRows 23 = .ok (.lconst 0, 1) := by decide +kernel
theorem dX7_clearRows_24 : decode cX7_clearRows 24 = .ok (.lastore, 1) := by decide +kernel
theorem dX7_clearRows_25 : decode cX7_clearRows 25 = .ok (.iinc 3 1, 3) := by decide +kernel
theorem dX7_clearRows_28 : decode cX7_clearRows 28 = .ok (.goto (-16), 3) := by decide +kernel
theorem dX7_clearRows_31 : decode cX7_clearRows 31 = .ok (.return_, 1) := by decide +kernel
theorem dX7_divisor_0 : decode cX7_divisor 0 = .ok (.lload_n 0, 1) := by decide +kernel
theorem dX7_divisor_1 : decode cX7_divisor 1 = .ok (.lconst 0, 1) := by decide +kernel
theorem dX7_divisor_2 : decode cX7_divisor 2 = .ok (.lcmp, 1) := by decide +kernel
theorem dX7_divisor_3 : decode cX7_divisor 3 = .ok (.ifCond .ge 8, 3) := by decide +kernel
theorem dX7_divisor_6 : decode cX7_divisor 6 = .ok (.lload_n 0, 1) := by decide +kernel
theorem dX7_divisor_7 : decode cX7_divisor 7 = .ok (.lneg, 1) := by decide +kernel
theorem dX7_divisor_8 : decode cX7_divisor 8 = .ok (.goto 4, 3) := by decide +kernel
theorem dX7_divisor_11 : decode cX7_divisor 11 = .ok (.lload_n 0, 1) := by decide +kernel
theorem dX7_divisor_12 : decode cX7_divisor 12 = .ok (.lstore 4, 2) := by decide +kernel
theorem dX7_divisor_14 : decode cX7_divisor 14 = .ok (.lload_n 2, 1) := by decide +kernel
theorem dX7_divisor_15 : decode cX7_divisor 15 = .ok (.lconst 0, 1) := by decide +kernel
theorem dX7_divisor_16 : decode cX7_divisor 16 = .ok (.lcmp, 1) := by decide +kernel
theorem dX7_divisor_17 : decode cX7_divisor 17 = .ok (.ifCond .ge 8, 3) := by decide +kernel
theorem dX7_divisor_20 : decode cX7_divisor 20 = .ok (.lload_n 2, 1) := by decide +kernel
theorem dX7_divisor_21 : decode cX7_divisor 21 = .ok (.lneg, 1) := by decide +kernel
theorem dX7_divisor_22 : decode cX7_divisor 22 = .ok (.goto 4, 3) := by decide +kernel
theorem dX7_divisor_25 : decode cX7_divisor 25 = .ok (.lload_n 2, 1) := by decide +kernel
theorem dX7_divisor_26 : decode cX7_divisor 26 = .ok (.lstore 6, 2) := by decide +kernel
theorem dX7_divisor_28 : decode cX7_divisor 28 = .ok (.lload 6, 2) := by decide +kernel
theorem dX7_divisor_30 : decode cX7_divisor 30 = .ok (.lconst 0, 1) := by decide +kernel
theorem dX7_divisor_31 : decode cX7_divisor 31 = .ok (.lcmp, 1) := by decide +kernel
theorem dX7_divisor_32 : decode cX7_divisor 32 = .ok (.ifCond .eq 21, 3) := by decide +kernel
theorem dX7_divisor_35 : decode cX7_divisor 35 = .ok (.lload 4, 2) := by decide +kernel
theorem dX7_divisor_37 : decode cX7_divisor 37 = .ok (.lload 6, 2) := by decide +kernel
theorem dX7_divisor_39 : decode cX7_divisor 39 = .ok (.lrem, 1) := by decide +kernel
theorem dX7_divisor_40 : decode cX7_divisor 40 = .ok (.lstore 8, 2) := by decide +kernel
theorem dX7_divisor_42 : decode cX7_divisor 42 = .ok (.lload 6, 2) := by decide +kernel
theorem dX7_divisor_44 : decode cX7_divisor 44 = .ok (.lstore 4, 2) := by decide +kernel
theorem dX7_divisor_46 : decode cX7_divisor 46 = .ok (.lload 8, 2) := by decide +kernel
theorem dX7_divisor_48 : decode cX7_divisor 48 = .ok (.lstore 6, 2) := by decide +kernel
theorem dX7_divisor_50 : decode cX7_divisor 50 = .ok (.goto (-22), 3) := by decide +kernel
theorem dX7_divisor_53 : decode cX7_divisor 53 = .ok (.lload 4, 2) := by decide +kernel
theorem dX7_divisor_55 : decode cX7_divisor 55 = .ok (.lreturn, 1) := by decide +kernel
theorem dX7_lessen_0 : decode cX7_lessen 0 = .ok (.lconst 0, 1) := by decide +kernel
theorem dX7_lessen_1 : decode cX7_lessen 1 = .ok (.lstore_n 2, 1) := by decide +kernel
theorem dX7_lessen_2 : decode cX7_lessen 2 = .ok (.iconst 0, 1) := by decide +kernel
theorem dX7_lessen_3 : decode cX7_lessen 3 = .ok (.istore 4, 2) := by decide +kernel
theorem dX7_lessen_5 : decode cX7_lessen 5 = .ok (.iload 4, 2) := by decide +kernel
theorem dX7_lessen_7 : decode cX7_lessen 7 = .ok (.bipush 11, 2) := by decide +kernel
theorem dX7_lessen_9 : decode cX7_lessen 9 = .ok (.if_icmp .ge 26, 3) := by decide +kernel
theorem dX7_lessen_12 : decode cX7_lessen 12 = .ok (.lload_n 2, 1) := by decide +kernel
theorem dX7_lessen_13 : decode cX7_lessen 13 = .ok (.aload_n 0, 1) := by decide +kernel
theorem dX7_lessen_14 : decode cX7_lessen 14 = .ok (.getfield 23, 3) := by decide +kernel
theorem dX7_lessen_17 : decode cX7_lessen 17 = .ok (.bipush 11, 2) := by decide +kernel
theorem dX7_lessen_19 : decode cX7_lessen 19 = .ok (.iload_n 1, 1) := by decide +kernel
theorem dX7_lessen_20 : decode cX7_lessen 20 = .ok (.imul, 1) := by decide +kernel
theorem dX7_lessen_21 : decode cX7_lessen 21 = .ok (.iload 4, 2) := by decide +kernel
theorem dX7_lessen_23 : decode cX7_lessen 23 = .ok (.iadd, 1) := by decide +kernel
theorem dX7_lessen_24 : decode cX7_lessen 24 = .ok (.laload, 1) := by decide +kernel
theorem dX7_lessen_25 : decode cX7_lessen 25 = .ok (.invokestatic 90, 3) := by decide +kernel
theorem dX7_lessen_28 : decode cX7_lessen 28 = .ok (.lstore_n 2, 1) := by decide +kernel
theorem dX7_lessen_29 : decode cX7_lessen 29 = .ok (.iinc 4 1, 3) := by decide +kernel
theorem dX7_lessen_32 : decode cX7_lessen 32 = .ok (.goto (-27), 3) := by decide +kernel
theorem dX7_lessen_35 : decode cX7_lessen 35 = .ok (.iconst 0, 1) := by decide +kernel
theorem dX7_lessen_36 : decode cX7_lessen 36 = .ok (.istore 4, 2) := by decide +kernel
theorem dX7_lessen_38 : decode cX7_lessen 38 = .ok (.iload 4, 2) := by decide +kernel
theorem dX7_lessen_40 : decode cX7_lessen 40 = .ok (.bipush 11, 2) := by decide +kernel
theorem dX7_lessen_42 : decode cX7_lessen 42 = .ok (.if_icmp .ge 31, 3) := by decide +kernel
theorem dX7_lessen_45 : decode cX7_lessen 45 = .ok (.lload_n 2, 1) := by decide +kernel
theorem dX7_lessen_46 : decode cX7_lessen 46 = .ok (.lconst 1, 1) := by decide +kernel
theorem dX7_lessen_47 : decode cX7_lessen 47 = .ok (.lcmp, 1) := by decide +kernel
theorem dX7_lessen_48 : decode cX7_lessen 48 = .ok (.ifCond .le 25, 3) := by decide +kernel
theorem dX7_lessen_51 : decode cX7_lessen 51 = .ok (.aload_n 0, 1) := by decide +kernel
theorem dX7_lessen_52 : decode cX7_lessen 52 = .ok (.getfield 23, 3) := by decide +kernel
theorem dX7_lessen_55 : decode cX7_lessen 55 = .ok (.bipush 11, 2) := by decide +kernel
theorem dX7_lessen_57 : decode cX7_lessen 57 = .ok (.iload_n 1, 1) := by decide +kernel
theorem dX7_lessen_58 : decode cX7_lessen 58 = .ok (.imul, 1) := by decide +kernel
theorem dX7_lessen_59 : decode cX7_lessen 59 = .ok (.iload 4, 2) := by decide +kernel
theorem dX7_lessen_61 : decode cX7_lessen 61 = .ok (.iadd, 1) := by decide +kernel
theorem dX7_lessen_62 : decode cX7_lessen 62 = .ok (.dup2, 1) := by decide +kernel
theorem dX7_lessen_63 : decode cX7_lessen 63 = .ok (.laload, 1) := by decide +kernel
theorem dX7_lessen_64 : decode cX7_lessen 64 = .ok (.lload_n 2, 1) := by decide +kernel
theorem dX7_lessen_65 : decode cX7_lessen 65 = .ok (.ldiv, 1) := by decide +kernel
theorem dX7_lessen_66 : decode cX7_lessen 66 = .ok (.lastore, 1) := by decide +kernel
theorem dX7_lessen_67 : decode cX7_lessen 67 = .ok (.iinc 4 1, 3) := by decide +kernel
theorem dX7_lessen_70 : decode cX7_lessen 70 = .ok (.goto (-32), 3) := by decide +kernel
theorem dX7_lessen_73 : decode cX7_lessen 73 = .ok (.return_, 1) := by decide +kernel
theorem dX7_swap_0 : decode cX7_swap 0 = .ok (.iconst 0, 1) := by decide +kernel
theorem dX7_swap_1 : decode cX7_swap 1 = .ok (.istore_n 3, 1) := by decide +kernel
theorem dX7_swap_2 : decode cX7_swap 2 = .ok (.iload_n 3, 1) := by decide +kernel
theorem dX7_swap_3 : decode cX7_swap 3 = .ok (.bipush 11, 2) := by decide +kernel
theorem dX7_swap_5 : decode cX7_swap 5 = .ok (.if_icmp .ge 57, 3) := by decide +kernel
theorem dX7_swap_8 : decode cX7_swap 8 = .ok (.aload_n 0, 1) := by decide +kernel
theorem dX7_swap_9 : decode cX7_swap 9 = .ok (.getfield 23, 3) := by decide +kernel
theorem dX7_swap_12 : decode cX7_swap 12 = .ok (.bipush 11, 2) := by decide +kernel
theorem dX7_swap_14 : decode cX7_swap 14 = .ok (.iload_n 1, 1) := by decide +kernel
theorem dX7_swap_15 : decode cX7_swap 15 = .ok (.imul, 1) := by decide +kernel
theorem dX7_swap_16 : decode cX7_swap 16 = .ok (.iload_n 3, 1) := by decide +kernel
theorem dX7_swap_17 : decode cX7_swap 17 = .ok (.iadd, 1) := by decide +kernel
theorem dX7_swap_18 : decode cX7_swap 18 = .ok (.laload, 1) := by decide +kernel
theorem dX7_swap_19 : decode cX7_swap 19 = .ok (.lstore 4, 2) := by decide +kernel
theorem dX7_swap_21 : decode cX7_swap 21 = .ok (.aload_n 0, 1) := by decide +kernel
theorem dX7_swap_22 : decode cX7_swap 22 = .ok (.getfield 23, 3) := by decide +kernel
theorem dX7_swap_25 : decode cX7_swap 25 = .ok (.bipush 11, 2) := by decide +kernel
theorem dX7_swap_27 : decode cX7_swap 27 = .ok (.iload_n 1, 1) := by decide +kernel
theorem dX7_swap_28 : decode cX7_swap 28 = .ok (.imul, 1) := by decide +kernel
theorem dX7_swap_29 : decode cX7_swap 29 = .ok (.iload_n 3, 1) := by decide +kernel
theorem dX7_swap_30 : decode cX7_swap 30 = .ok (.iadd, 1) := by decide +kernel
theorem dX7_swap_31 : decode cX7_swap 31 = .ok (.aload_n 0, 1) := by decide +kernel
theorem dX7_swap_32 : decode cX7_swap 32 = .ok (.getfield 23, 3) := by decide +kernel
theorem dX7_swap_35 : decode cX7_swap 35 = .ok (.bipush 11, 2) := by decide +kernel
theorem dX7_swap_37 : decode cX7_swap 37 = .ok (.iload_n 2, 1) := by decide +kernel
theorem dX7_swap_38 : decode cX7_swap 38 = .ok (.imul, 1) := by decide +kernel
theorem dX7_swap_39 : decode cX7_swap 39 = .ok (.iload_n 3, 1) := by decide +kernel
theorem dX7_swap_40 : decode cX7_swap 40 = .ok (.iadd, 1) := by decide +kernel
theorem dX7_swap_41 : decode cX7_swap 41 = .ok (.laload, 1) := by decide +kernel
theorem dX7_swap_42 : decode cX7_swap 42 = .ok (.lastore, 1) := by decide +kernel
theorem dX7_swap_43 : decode cX7_swap 43 = .ok (.aload_n 0, 1) := by decide +kernel
theorem dX7_swap_44 : decode cX7_swap 44 = .ok (.getfield 23, 3) := by decide +kernel
theorem dX7_swap_47 : decode cX7_swap 47 = .ok (.bipush 11, 2) := by decide +kernel
theorem dX7_swap_49 : decode cX7_swap 49 = .ok (.iload_n 2, 1) := by decide +kernel
theorem dX7_swap_50 : decode cX7_swap 50 = .ok (.imul, 1) := by decide +kernel
theorem dX7_swap_51 : decode cX7_swap 51 = .ok (.iload_n 3, 1) := by decide +kernel
theorem dX7_swap_52 : decode cX7_swap 52 = .ok (.iadd, 1) := by decide +kernel
theorem dX7_swap_53 : decode cX7_swap 53 = .ok (.lload 4, 2) := by decide +kernel
theorem dX7_swap_55 : decode cX7_swap 55 = .ok (.lastore, 1) := by decide +kernel
theorem dX7_swap_56 : decode cX7_swap 56 = .ok (.iinc 3 1, 3) := by decide +kernel
theorem dX7_swap_59 : decode cX7_swap 59 = .ok (.goto (-57), 3) := by decide +kernel
theorem dX7_swap_62 : decode cX7_swap 62 = .ok (.return_, 1) := by decide +kernel
theorem dX7_takeOff_0 : decode cX7_takeOff 0 = .ok (.aload_n 0, 1) := by decide +kernel
theorem dX7_takeOff_1 : decode cX7_takeOff 1 = .ok (.getfield 23, 3) := by decide +kernel
theorem dX7_takeOff_4 : decode cX7_takeOff 4 = .ok (.bipush 11, 2) := by decide +kernel
theorem dX7_takeOff_6 : decode cX7_takeOff 6 = .ok (.iload_n 1, 1) := by decide +kernel
theorem dX7_takeOff_7 : decode cX7_takeOff 7 = .ok (.imul, 1) := by decide +kernel
theorem dX7_takeOff_8 : decode cX7_takeOff 8 = .ok (.iload_n 3, 1) := by decide +kernel
theorem dX7_takeOff_9 : decode cX7_takeOff 9 = .ok (.iadd, 1) := by decide +kernel
theorem dX7_takeOff_10 : decode cX7_takeOff 10 = .ok (.laload, 1) := by decide +kernel
theorem dX7_takeOff_11 : decode cX7_takeOff 11 = .ok (.lstore 4, 2) := by decide +kernel
theorem dX7_takeOff_13 : decode cX7_takeOff 13 = .ok (.aload_n 0, 1) := by decide +kernel
theorem dX7_takeOff_14 : decode cX7_takeOff 14 = .ok (.getfield 23, 3) := by decide +kernel
theorem dX7_takeOff_17 : decode cX7_takeOff 17 = .ok (.bipush 11, 2) := by decide +kernel
theorem dX7_takeOff_19 : decode cX7_takeOff 19 = .ok (.iload_n 2, 1) := by decide +kernel
theorem dX7_takeOff_20 : decode cX7_takeOff 20 = .ok (.imul, 1) := by decide +kernel
theorem dX7_takeOff_21 : decode cX7_takeOff 21 = .ok (.iload_n 3, 1) := by decide +kernel
theorem dX7_takeOff_22 : decode cX7_takeOff 22 = .ok (.iadd, 1) := by decide +kernel
theorem dX7_takeOff_23 : decode cX7_takeOff 23 = .ok (.laload, 1) := by decide +kernel
theorem dX7_takeOff_24 : decode cX7_takeOff 24 = .ok (.lstore 6, 2) := by decide +kernel
theorem dX7_takeOff_26 : decode cX7_takeOff 26 = .ok (.iconst 0, 1) := by decide +kernel
theorem dX7_takeOff_27 : decode cX7_takeOff 27 = .ok (.istore 8, 2) := by decide +kernel
theorem dX7_takeOff_29 : decode cX7_takeOff 29 = .ok (.iload 8, 2) := by decide +kernel
theorem dX7_takeOff_31 : decode cX7_takeOff 31 = .ok (.bipush 11, 2) := by decide +kernel
theorem dX7_takeOff_33 : decode cX7_takeOff 33 = .ok (.if_icmp .ge 52, 3) := by decide +kernel
theorem dX7_takeOff_36 : decode cX7_takeOff 36 = .ok (.aload_n 0, 1) := by decide +kernel
theorem dX7_takeOff_37 : decode cX7_takeOff 37 = .ok (.getfield 23, 3) := by decide +kernel
theorem dX7_takeOff_40 : decode cX7_takeOff 40 = .ok (.bipush 11, 2) := by decide +kernel
theorem dX7_takeOff_42 : decode cX7_takeOff 42 = .ok (.iload_n 1, 1) := by decide +kernel
theorem dX7_takeOff_43 : decode cX7_takeOff 43 = .ok (.imul, 1) := by decide +kernel
theorem dX7_takeOff_44 : decode cX7_takeOff 44 = .ok (.iload 8, 2) := by decide +kernel
theorem dX7_takeOff_46 : decode cX7_takeOff 46 = .ok (.iadd, 1) := by decide +kernel
theorem dX7_takeOff_47 : decode cX7_takeOff 47 = .ok (.aload_n 0, 1) := by decide +kernel
theorem dX7_takeOff_48 : decode cX7_takeOff 48 = .ok (.getfield 23, 3) := by decide +kernel
theorem dX7_takeOff_51 : decode cX7_takeOff 51 = .ok (.bipush 11, 2) := by decide +kernel
theorem dX7_takeOff_53 : decode cX7_takeOff 53 = .ok (.iload_n 1, 1) := by decide +kernel
theorem dX7_takeOff_54 : decode cX7_takeOff 54 = .ok (.imul, 1) := by decide +kernel
theorem dX7_takeOff_55 : decode cX7_takeOff 55 = .ok (.iload 8, 2) := by decide +kernel
theorem dX7_takeOff_57 : decode cX7_takeOff 57 = .ok (.iadd, 1) := by decide +kernel
theorem dX7_takeOff_58 : decode cX7_takeOff 58 = .ok (.laload, 1) := by decide +kernel
theorem dX7_takeOff_59 : decode cX7_takeOff 59 = .ok (.lload 6, 2) := by decide +kernel
theorem dX7_takeOff_61 : decode cX7_takeOff 61 = .ok (.lmul, 1) := by decide +kernel
theorem dX7_takeOff_62 : decode cX7_takeOff 62 = .ok (.aload_n 0, 1) := by decide +kernel
theorem dX7_takeOff_63 : decode cX7_takeOff 63 = .ok (.getfield 23, 3) := by decide +kernel
theorem dX7_takeOff_66 : decode cX7_takeOff 66 = .ok (.bipush 11, 2) := by decide +kernel
theorem dX7_takeOff_68 : decode cX7_takeOff 68 = .ok (.iload_n 2, 1) := by decide +kernel
theorem dX7_takeOff_69 : decode cX7_takeOff 69 = .ok (.imul, 1) := by decide +kernel
theorem dX7_takeOff_70 : decode cX7_takeOff 70 = .ok (.iload 8, 2) := by decide +kernel
theorem dX7_takeOff_72 : decode cX7_takeOff 72 = .ok (.iadd, 1) := by decide +kernel
theorem dX7_takeOff_73 : decode cX7_takeOff 73 = .ok (.laload, 1) := by decide +kernel
theorem dX7_takeOff_74 : decode cX7_takeOff 74 = .ok (.lload 4, 2) := by decide +kernel
theorem dX7_takeOff_76 : decode cX7_takeOff 76 = .ok (.lmul, 1) := by decide +kernel
theorem dX7_takeOff_77 : decode cX7_takeOff 77 = .ok (.lsub, 1) := by decide +kernel
theorem dX7_takeOff_78 : decode cX7_takeOff 78 = .ok (.lastore, 1) := by decide +kernel
theorem dX7_takeOff_79 : decode cX7_takeOff 79 = .ok (.iinc 8 1, 3) := by decide +kernel
theorem dX7_takeOff_82 : decode cX7_takeOff 82 = .ok (.goto (-53), 3) := by decide +kernel
theorem dX7_takeOff_85 : decode cX7_takeOff 85 = .ok (.aload_n 0, 1) := by decide +kernel
theorem dX7_takeOff_86 : decode cX7_takeOff 86 = .ok (.iload_n 1, 1) := by decide +kernel
theorem dX7_takeOff_87 : decode cX7_takeOff 87 = .ok (.invokevirtual 94, 3) := by decide +kernel
theorem dX7_takeOff_90 : decode cX7_takeOff 90 = .ok (.return_, 1) := by decide +kernel
theorem dX7_solve_0 : decode cX7_solve 0 = .ok (.iconst 0, 1) := by decide +kernel
theorem dX7_solve_1 : decode cX7_solve 1 = .ok (.istore_n 1, 1) := by decide +kernel
theorem dX7_solve_2 : decode cX7_solve 2 = .ok (.iconst 0, 1) := by decide +kernel
theorem dX7_solve_3 : decode cX7_solve 3 = .ok (.istore_n 2, 1) := by decide +kernel
theorem dX7_solve_4 : decode cX7_solve 4 = .ok (.iload_n 2, 1) := by decide +kernel
theorem dX7_solve_5 : decode cX7_solve 5 = .ok (.aload_n 0, 1) := by decide +kernel
theorem dX7_solve_6 : decode cX7_solve 6 = .ok (.getfield 87, 3) := by decide +kernel
theorem dX7_solve_9 : decode cX7_solve 9 = .ok (.if_icmp .ge 126, 3) := by decide +kernel
theorem dX7_solve_12 : decode cX7_solve 12 = .ok (.iload_n 1, 1) := by decide +kernel
theorem dX7_solve_13 : decode cX7_solve 13 = .ok (.istore_n 3, 1) := by decide +kernel
theorem dX7_solve_14 : decode cX7_solve 14 = .ok (.iload_n 3, 1) := by decide +kernel
theorem dX7_solve_15 : decode cX7_solve 15 = .ok (.aload_n 0, 1) := by decide +kernel
theorem dX7_solve_16 : decode cX7_solve 16 = .ok (.getfield 84, 3) := by decide +kernel
theorem dX7_solve_19 : decode cX7_solve 19 = .ok (.if_icmp .ge 25, 3) := by decide +kernel
theorem dX7_solve_22 : decode cX7_solve 22 = .ok (.aload_n 0, 1) := by decide +kernel
theorem dX7_solve_23 : decode cX7_solve 23 = .ok (.getfield 23, 3) := by decide +kernel
theorem dX7_solve_26 : decode cX7_solve 26 = .ok (.bipush 11, 2) := by decide +kernel
theorem dX7_solve_28 : decode cX7_solve 28 = .ok (.iload_n 3, 1) := by decide +kernel
theorem dX7_solve_29 : decode cX7_solve 29 = .ok (.imul, 1) := by decide +kernel
theorem dX7_solve_30 : decode cX7_solve 30 = .ok (.iload_n 2, 1) := by decide +kernel
theorem dX7_solve_31 : decode cX7_solve 31 = .ok (.iadd, 1) := by decide +kernel
theorem dX7_solve_32 : decode cX7_solve 32 = .ok (.laload, 1) := by decide +kernel
theorem dX7_solve_33 : decode cX7_solve 33 = .ok (.lconst 0, 1) := by decide +kernel
theorem dX7_solve_34 : decode cX7_solve 34 = .ok (.lcmp, 1) := by decide +kernel
theorem dX7_solve_35 : decode cX7_solve 35 = .ok (.ifCond .ne 9, 3) := by decide +kernel
theorem dX7_solve_38 : decode cX7_solve 38 = .ok (.iinc 3 1, 3) := by decide +kernel
theorem dX7_solve_41 : decode cX7_solve 41 = .ok (.goto (-27), 3) := by decide +kernel
theorem dX7_solve_44 : decode cX7_solve 44 = .ok (.aload_n 0, 1) := by decide +kernel
theorem dX7_solve_45 : decode cX7_solve 45 = .ok (.getfield 27, 3) := by decide +kernel
theorem dX7_solve_48 : decode cX7_solve 48 = .ok (.iload_n 2, 1) := by decide +kernel
theorem dX7_solve_49 : decode cX7_solve 49 = .ok (.iload_n 3, 1) := by decide +kernel
theorem dX7_solve_50 : decode cX7_solve 50 = .ok (.aload_n 0, 1) := by decide +kernel
theorem dX7_solve_51 : decode cX7_solve 51 = .ok (.getfield 84, 3) := by decide +kernel
theorem dX7_solve_54 : decode cX7_solve 54 = .ok (.if_icmp .ge 7, 3) := by decide +kernel
theorem dX7_solve_57 : decode cX7_solve 57 = .ok (.iload_n 1, 1) := by decide +kernel
theorem dX7_solve_58 : decode cX7_solve 58 = .ok (.goto 4, 3) := by decide +kernel
theorem dX7_solve_61 : decode cX7_solve 61 = .ok (.iconst (-1), 1) := by decide +kernel
theorem dX7_solve_62 : decode cX7_solve 62 = .ok (.iastore, 1) := by decide +kernel
theorem dX7_solve_63 : decode cX7_solve 63 = .ok (.iload_n 3, 1) := by decide +kernel
theorem dX7_solve_64 : decode cX7_solve 64 = .ok (.aload_n 0, 1) := by decide +kernel
theorem dX7_solve_65 : decode cX7_solve 65 = .ok (.getfield 84, 3) := by decide +kernel
theorem dX7_solve_68 : decode cX7_solve 68 = .ok (.if_icmp .ge 61, 3) := by decide +kernel
theorem dX7_solve_71 : decode cX7_solve 71 = .ok (.aload_n 0, 1) := by decide +kernel
theorem dX7_solve_72 : decode cX7_solve 72 = .ok (.iload_n 3, 1) := by decide +kernel
theorem dX7_solve_73 : decode cX7_solve 73 = .ok (.iload_n 1, 1) := by decide +kernel
theorem dX7_solve_74 : decode cX7_solve 74 = .ok (.invokevirtual 97, 3) := by decide +kernel
theorem dX7_solve_77 : decode cX7_solve 77 = .ok (.iconst 0, 1) := by decide +kernel
theorem dX7_solve_78 : decode cX7_solve 78 = .ok (.istore 4, 2) := by decide +kernel
theorem dX7_solve_80 : decode cX7_solve 80 = .ok (.iload 4, 2) := by decide +kernel
theorem dX7_solve_82 : decode cX7_solve 82 = .ok (.aload_n 0, 1) := by decide +kernel
theorem dX7_solve_83 : decode cX7_solve 83 = .ok (.getfield 84, 3) := by decide +kernel
theorem dX7_solve_86 : decode cX7_solve 86 = .ok (.if_icmp .ge 40, 3) := by decide +kernel
theorem dX7_solve_89 : decode cX7_solve 89 = .ok (.iload 4, 2) := by decide +kernel
theorem dX7_solve_91 : decode cX7_solve 91 = .ok (.iload_n 1, 1) := by decide +kernel
theorem dX7_solve_92 : decode cX7_solve 92 = .ok (.if_icmp .eq 28, 3) := by decide +kernel
theorem dX7_solve_95 : decode cX7_solve 95 = .ok (.aload_n 0, 1) := by decide +kernel
theorem dX7_solve_96 : decode cX7_solve 96 = .ok (.getfield 23, 3) := by decide +kernel
theorem dX7_solve_99 : decode cX7_solve 99 = .ok (.bipush 11, 2) := by decide +kernel
theorem dX7_solve_101 : decode cX7_solve 101 = .ok (.iload 4, 2) := by decide +kernel
theorem dX7_solve_103 : decode cX7_solve 103 = .ok (.imul, 1) := by decide +kernel
theorem dX7_solve_104 : decode cX7_solve 104 = .ok (.iload_n 2, 1) := by decide +kernel
theorem dX7_solve_105 : decode cX7_solve 105 = .ok (.iadd, 1) := by decide +kernel
theorem dX7_solve_106 : decode cX7_solve 106 = .ok (.laload, 1) := by decide +kernel
theorem dX7_solve_107 : decode cX7_solve 107 = .ok (.lconst 0, 1) := by decide +kernel
theorem dX7_solve_108 : decode cX7_solve 108 = .ok (.lcmp, 1) := by decide +kernel
theorem dX7_solve_109 : decode cX7_solve 109 = .ok (.ifCond .eq 11, 3) := by decide +kernel
theorem dX7_solve_112 : decode cX7_solve 112 = .ok (.aload_n 0, 1) := by decide +kernel
theorem dX7_solve_113 : decode cX7_solve 113 = .ok (.iload 4, 2) := by decide +kernel
theorem dX7_solve_115 : decode cX7_solve 115 = .ok (.iload_n 1, 1) := by decide +kernel
theorem dX7_solve_116 : decode cX7_solve 116 = .ok (.iload_n 2, 1) := by decide +kernel
theorem dX7_solve_117 : decode cX7_solve 117 = .ok (.invokevirtual 101, 3) := by decide +kernel
theorem dX7_solve_120 : decode cX7_solve 120 = .ok (.iinc 4 1, 3) := by decide +kernel
theorem dX7_solve_123 : decode cX7_solve 123 = .ok (.goto (-43), 3) := by decide +kernel
theorem dX7_solve_126 : decode cX7_solve 126 = .ok (.iinc 1 1, 3) := by decide +kernel
theorem dX7_solve_129 : decode cX7_solve 129 = .ok (.iinc 2 1, 3) := by decide +kernel
theorem dX7_solve_132 : decode cX7_solve 132 = .ok (.goto (-128), 3) := by decide +kernel
theorem dX7_solve_135 : decode cX7_solve 135 = .ok (.aload_n 0, 1) := by decide +kernel
theorem dX7_solve_136 : decode cX7_solve 136 = .ok (.iconst 1, 1) := by decide +kernel
theorem dX7_solve_137 : decode cX7_solve 137 = .ok (.putfield 105, 3) := by decide +kernel
theorem dX7_solve_140 : decode cX7_solve 140 = .ok (.iload_n 1, 1) := by decide +kernel
theorem dX7_solve_141 : decode cX7_solve 141 = .ok (.istore_n 2, 1) := by decide +kernel
theorem dX7_solve_142 : decode cX7_solve 142 = .ok (.iload_n 2, 1) := by decide +kernel
theorem dX7_solve_143 : decode cX7_solve 143 = .ok (.aload_n 0, 1) := by decide +kernel
theorem dX7_solve_144 : decode cX7_solve 144 = .ok (.getfield 84, 3) := by decide +kernel
theorem dX7_solve_147 : decode cX7_solve 147 = .ok (.if_icmp .ge 42, 3) := by decide +kernel
theorem dX7_solve_150 : decode cX7_solve 150 = .ok (.aload_n 0, 1) := by decide +kernel
theorem dX7_solve_151 : decode cX7_solve 151 = .ok (.aload_n 0, 1) := by decide +kernel
theorem dX7_solve_152 : decode cX7_solve 152 = .ok (.getfield 105, 3) := by decide +kernel
theorem dX7_solve_155 : decode cX7_solve 155 = .ok (.ifCond .eq 24, 3) := by decide +kernel
theorem dX7_solve_158 : decode cX7_solve 158 = .ok (.aload_n 0, 1) := by decide +kernel
theorem dX7_solve_159 : decode cX7_solve 159 = .ok (.getfield 23, 3) := by decide +kernel
theorem dX7_solve_162 : decode cX7_solve 162 = .ok (.bipush 11, 2) := by decide +kernel
theorem dX7_solve_164 : decode cX7_solve 164 = .ok (.iload_n 2, 1) := by decide +kernel
theorem dX7_solve_165 : decode cX7_solve 165 = .ok (.imul, 1) := by decide +kernel
theorem dX7_solve_166 : decode cX7_solve 166 = .ok (.bipush 10, 2) := by decide +kernel
theorem dX7_solve_168 : decode cX7_solve 168 = .ok (.iadd, 1) := by decide +kernel
theorem dX7_solve_169 : decode cX7_solve 169 = .ok (.laload, 1) := by decide +kernel
theorem dX7_solve_170 : decode cX7_solve 170 = .ok (.lconst 0, 1) := by decide +kernel
theorem dX7_solve_171 : decode cX7_solve 171 = .ok (.lcmp, 1) := by decide +kernel
theorem dX7_solve_172 : decode cX7_solve 172 = .ok (.ifCond .ne 7, 3) := by decide +kernel
theorem dX7_solve_175 : decode cX7_solve 175 = .ok (.iconst 1, 1) := by decide +kernel
theorem dX7_solve_176 : decode cX7_solve 176 = .ok (.goto 4, 3) := by decide +kernel
theorem dX7_solve_179 : decode cX7_solve 179 = .ok (.iconst 0, 1) := by decide +kernel
theorem dX7_solve_180 : decode cX7_solve 180 = .ok (.putfield 105, 3) := by decide +kernel
theorem dX7_solve_183 : decode cX7_solve 183 = .ok (.iinc 2 1, 3) := by decide +kernel
theorem dX7_solve_186 : decode cX7_solve 186 = .ok (.goto (-44), 3) := by decide +kernel
theorem dX7_solve_189 : decode cX7_solve 189 = .ok (.return_, 1) := by decide +kernel
theorem dX7_isDetermined_0 : decode cX7_isDetermined 0 = .ok (.aload_n 0, 1) := by decide +kernel
theorem dX7_isDetermined_1 : decode cX7_isDetermined 1 = .ok (.getfield 105, 3) := by decide +kernel
theorem dX7_isDetermined_4 : decode cX7_isDetermined 4 = .ok (.ifCond .eq 16, 3) := by decide +kernel
theorem dX7_isDetermined_7 : decode cX7_isDetermined 7 = .ok (.aload_n 0, 1) := by decide +kernel
theorem dX7_isDetermined_8 : decode cX7_isDetermined 8 = .ok (.getfield 27, 3) := by decide +kernel
theorem dX7_isDetermined_11 : decode cX7_isDetermined 11 = .ok (.iload_n 1, 1) := by decide +kernel
theorem dX7_isDetermined_12 : decode cX7_isDetermined 12 = .ok (.iaload, 1) := by decide +kernel
theorem dX7_isDetermined_13 : decode cX7_isDetermined 13 = .ok (.ifCond .lt 7, 3) := by decide +kernel
theorem dX7_isDetermined_16 : decode cX7_isDetermined 16 = .ok (.iconst 1, 1) := by decide +kernel
theorem dX7_isDetermined_17 : decode cX7_isDetermined 17 = .ok (.goto 4, 3) := by decide +kernel
theorem dX7_isDetermined_20 : decode cX7_isDetermined 20 = .ok (.iconst 0, 1) := by decide +kernel
theorem dX7_isDetermined_21 : decode cX7_isDetermined 21 = .ok (.istore_n 2, 1) := by decide +kernel
theorem dX7_isDetermined_22 : decode cX7_isDetermined 22 = .ok (.iconst 0, 1) := by decide +kernel
theorem dX7_isDetermined_23 : decode cX7_isDetermined 23 = .ok (.istore_n 3, 1) := by decide +kernel
theorem dX7_isDetermined_24 : decode cX7_isDetermined 24 = .ok (.iload_n 3, 1) := by decide +kernel
theorem dX7_isDetermined_25 : decode cX7_isDetermined 25 = .ok (.aload_n 0, 1) := by decide +kernel
theorem dX7_isDetermined_26 : decode cX7_isDetermined 26 = .ok (.getfield 87, 3) := by decide +kernel
theorem dX7_isDetermined_29 : decode cX7_isDetermined 29 = .ok (.if_icmp .ge 45, 3) := by decide +kernel
theorem dX7_isDetermined_32 : decode cX7_isDetermined 32 = .ok (.iload_n 2, 1) := by decide +kernel
theorem dX7_isDetermined_33 : decode cX7_isDetermined 33 = .ok (.ifCond .eq 41, 3) := by decide +kernel
theorem dX7_isDetermined_36 : decode cX7_isDetermined 36 = .ok (.iload_n 3, 1) := by decide +kernel
theorem dX7_isDetermined_37 : decode cX7_isDetermined 37 = .ok (.iload_n 1, 1) := by decide +kernel
theorem dX7_isDetermined_38 : decode cX7_isDetermined 38 = .ok (.if_icmp .eq 24, 3) := by decide +kernel
theorem dX7_isDetermined_41 : decode cX7_isDetermined 41 = .ok (.aload_n 0, 1) := by decide +kernel
theorem dX7_isDetermined_42 : decode cX7_isDetermined 42 = .ok (.getfield 23, 3) := by decide +kernel
theorem dX7_isDetermined_45 : decode cX7_isDetermined 45 = .ok (.bipush 11, 2) := by decide +kernel
theorem dX7_isDetermined_47 : decode cX7_isDetermined 47 = .ok (.aload_n 0, 1) := by decide +kernel
theorem dX7_isDetermined_48 : decode cX7_isDetermined 48 = .ok (.getfield 27, 3) := by decide +kernel
theorem dX7_isDetermined_51 : decode cX7_isDetermined 51 = .ok (.iload_n 1, 1) := by decide +kernel
theorem dX7_isDetermined_52 : decode cX7_isDetermined 52 = .ok (.iaload, 1) := by decide +kernel
theorem dX7_isDetermined_53 : decode cX7_isDetermined 53 = .ok (.imul, 1) := by decide +kernel
theorem dX7_isDetermined_54 : decode cX7_isDetermined 54 = .ok (.iload_n 3, 1) := by decide +kernel
theorem dX7_isDetermined_55 : decode cX7_isDetermined 55 = .ok (.iadd, 1) := by decide +kernel
theorem dX7_isDetermined_56 : decode cX7_isDetermined 56 = .ok (.laload, 1) := by decide +kernel
theorem dX7_isDetermined_57 : decode cX7_isDetermined 57 = .ok (.lconst 0, 1) := by decide +kernel
theorem dX7_isDetermined_58 : decode cX7_isDetermined 58 = .ok (.lcmp, 1) := by decide +kernel
theorem dX7_isDetermined_59 : decode cX7_isDetermined 59 = .ok (.ifCond .ne 7, 3) := by decide +kernel
theorem dX7_isDetermined_62 : decode cX7_isDetermined 62 = .ok (.iconst 1, 1) := by decide +kernel
theorem dX7_isDetermined_63 : decode cX7_isDetermined 63 = .ok (.goto 4, 3) := by decide +kernel
theorem dX7_isDetermined_66 : decode cX7_isDetermined 66 = .ok (.iconst 0, 1) := by decide +kernel
theorem dX7_isDetermined_67 : decode cX7_isDetermined 67 = .ok (.istore_n 2, 1) := by decide +kernel
theorem dX7_isDetermined_68 : decode cX7_isDetermined 68 = .ok (.iinc 3 1, 3) := by decide +kernel
theorem dX7_isDetermined_71 : decode cX7_isDetermined 71 = .ok (.goto (-47), 3) := by decide +kernel
theorem dX7_isDetermined_74 : decode cX7_isDetermined 74 = .ok (.iload_n 2, 1) := by decide +kernel
theorem dX7_isDetermined_75 : decode cX7_isDetermined 75 = .ok (.ireturn, 1) := by decide +kernel
theorem dX7_upper_0 : decode cX7_upper 0 = .ok (.aload_n 0, 1) := by decide +kernel
theorem dX7_upper_1 : decode cX7_upper 1 = .ok (.getfield 23, 3) := by decide +kernel
theorem dX7_upper_4 : decode cX7_upper 4 = .ok (.bipush 11, 2) := by decide +kernel
theorem dX7_upper_6 : decode cX7_upper 6 = .ok (.aload_n 0, 1) := by decide +kernel
theorem dX7_upper_7 : decode cX7_upper 7 = .ok (.getfield 27, 3) := by decide +kernel
theorem dX7_upper_10 : decode cX7_upper 10 = .ok (.iload_n 1, 1) := by decide +kernel
theorem dX7_upper_11 : decode cX7_upper 11 = .ok (.iaload, 1) := by decide +kernel
theorem dX7_upper_12 : decode cX7_upper 12 = .ok (.imul, 1) := by decide +kernel
theorem dX7_upper_13 : decode cX7_upper 13 = .ok (.bipush 10, 2) := by decide +kernel
theorem dX7_upper_15 : decode cX7_upper 15 = .ok (.iadd, 1) := by decide +kernel
theorem dX7_upper_16 : decode cX7_upper 16 = .ok (.laload, 1) := by decide +kernel
theorem dX7_upper_17 : decode cX7_upper 17 = .ok (.lstore_n 2, 1) := by decide +kernel
theorem dX7_upper_18 : decode cX7_upper 18 = .ok (.aload_n 0, 1) := by decide +kernel
theorem dX7_upper_19 : decode cX7_upper 19 = .ok (.getfield 23, 3) := by decide +kernel
theorem dX7_upper_22 : decode cX7_upper 22 = .ok (.bipush 11, 2) := by decide +kernel
theorem dX7_upper_24 : decode cX7_upper 24 = .ok (.aload_n 0, 1) := by decide +kernel
theorem dX7_upper_25 : decode cX7_upper 25 = .ok (.getfield 27, 3) := by decide +kernel
theorem dX7_upper_28 : decode cX7_upper 28 = .ok (.iload_n 1, 1) := by decide +kernel
theorem dX7_upper_29 : decode cX7_upper 29 = .ok (.iaload, 1) := by decide +kernel
theorem dX7_upper_30 : decode cX7_upper 30 = .ok (.imul, 1) := by decide +kernel
theorem dX7_upper_31 : decode cX7_upper 31 = .ok (.iload_n 1, 1) := by decide +kernel
theorem dX7_upper_32 : decode cX7_upper 32 = .ok (.iadd, 1) := by decide +kernel
theorem dX7_upper_33 : decode cX7_upper 33 = .ok (.laload, 1) := by decide +kernel
theorem dX7_upper_34 : decode cX7_upper 34 = .ok (.lconst 0, 1) := by decide +kernel
theorem dX7_upper_35 : decode cX7_upper 35 = .ok (.lcmp, 1) := by decide +kernel
theorem dX7_upper_36 : decode cX7_upper 36 = .ok (.ifCond .ge 8, 3) := by decide +kernel
theorem dX7_upper_39 : decode cX7_upper 39 = .ok (.lload_n 2, 1) := by decide +kernel
theorem dX7_upper_40 : decode cX7_upper 40 = .ok (.lneg, 1) := by decide +kernel
theorem dX7_upper_41 : decode cX7_upper 41 = .ok (.goto 4, 3) := by decide +kernel
theorem dX7_upper_44 : decode cX7_upper 44 = .ok (.lload_n 2, 1) := by decide +kernel
theorem dX7_upper_45 : decode cX7_upper 45 = .ok (.lreturn, 1) := by decide +kernel
theorem dX7_lower_0 : decode cX7_lower 0 = .ok (.aload_n 0, 1) := by decide +kernel
theorem dX7_lower_1 : decode cX7_lower 1 = .ok (.getfield 23, 3) := by decide +kernel
theorem dX7_lower_4 : decode cX7_lower 4 = .ok (.bipush 11, 2) := by decide +kernel
theorem dX7_lower_6 : decode cX7_lower 6 = .ok (.aload_n 0, 1) := by decide +kernel
theorem dX7_lower_7 : decode cX7_lower 7 = .ok (.getfield 27, 3) := by decide +kernel
theorem dX7_lower_10 : decode cX7_lower 10 = .ok (.iload_n 1, 1) := by decide +kernel
theorem dX7_lower_11 : decode cX7_lower 11 = .ok (.iaload, 1) := by decide +kernel
theorem dX7_lower_12 : decode cX7_lower 12 = .ok (.imul, 1) := by decide +kernel
theorem dX7_lower_13 : decode cX7_lower 13 = .ok (.iload_n 1, 1) := by decide +kernel
theorem dX7_lower_14 : decode cX7_lower 14 = .ok (.iadd, 1) := by decide +kernel
theorem dX7_lower_15 : decode cX7_lower 15 = .ok (.laload, 1) := by decide +kernel
theorem dX7_lower_16 : decode cX7_lower 16 = .ok (.lstore_n 2, 1) := by decide +kernel
theorem dX7_lower_17 : decode cX7_lower 17 = .ok (.lload_n 2, 1) := by decide +kernel
theorem dX7_lower_18 : decode cX7_lower 18 = .ok (.lconst 0, 1) := by decide +kernel
theorem dX7_lower_19 : decode cX7_lower 19 = .ok (.lcmp, 1) := by decide +kernel
theorem dX7_lower_20 : decode cX7_lower 20 = .ok (.ifCond .ge 8, 3) := by decide +kernel
theorem dX7_lower_23 : decode cX7_lower 23 = .ok (.lload_n 2, 1) := by decide +kernel
theorem dX7_lower_24 : decode cX7_lower 24 = .ok (.lneg, 1) := by decide +kernel
theorem dX7_lower_25 : decode cX7_lower 25 = .ok (.goto 4, 3) := by decide +kernel
theorem dX7_lower_28 : decode cX7_lower 28 = .ok (.lload_n 2, 1) := by decide +kernel
theorem dX7_lower_29 : decode cX7_lower 29 = .ok (.lreturn, 1) := by decide +kernel
theorem dX7_part_0 : decode cX7_part 0 = .ok (.lload_n 0, 1) := by decide +kernel
theorem dX7_part_1 : decode cX7_part 1 = .ok (.lload_n 2, 1) := by decide +kernel
theorem dX7_part_2 : decode cX7_part 2 = .ok (.invokestatic 90, 3) := by decide +kernel
theorem dX7_part_5 : decode cX7_part 5 = .ok (.lstore 5, 2) := by decide +kernel
theorem dX7_part_7 : decode cX7_part 7 = .ok (.iload 4, 2) := by decide +kernel
theorem dX7_part_9 : decode cX7_part 9 = .ok (.ifCond .ne 10, 3) := by decide +kernel
theorem dX7_part_12 : decode cX7_part 12 = .ok (.lload_n 0, 1) := by decide +kernel
theorem dX7_part_13 : decode cX7_part 13 = .ok (.lload 5, 2) := by decide +kernel
theorem dX7_part_15 : decode cX7_part 15 = .ok (.ldiv, 1) := by decide +kernel
theorem dX7_part_16 : decode cX7_part 16 = .ok (.goto 7, 3) := by decide +kernel
theorem dX7_part_19 : decode cX7_part 19 = .ok (.lload_n 2, 1) := by decide +kernel
theorem dX7_part_20 : decode cX7_part 20 = .ok (.lload 5, 2) := by decide +kernel
theorem dX7_part_22 : decode cX7_part 22 = .ok (.ldiv, 1) := by decide +kernel
theorem dX7_part_23 : decode cX7_part 23 = .ok (.lreturn, 1) := by decide +kernel
theorem dX7_laySpeeds_0 : decode cX7_laySpeeds 0 = .ok (.aload_n 0, 1) := by decide +kernel
theorem dX7_laySpeeds_1 : decode cX7_laySpeeds 1 = .ok (.iconst 1, 1) := by decide +kernel
theorem dX7_laySpeeds_2 : decode cX7_laySpeeds 2 = .ok (.aload_n 0, 1) := by decide +kernel
theorem dX7_laySpeeds_3 : decode cX7_laySpeeds 3 = .ok (.getfield 7, 3) := by decide +kernel
theorem dX7_laySpeeds_6 : decode cX7_laySpeeds 6 = .ok (.bipush 33, 2) := by decide +kernel
theorem dX7_laySpeeds_8 : decode cX7_laySpeeds 8 = .ok (.iaload, 1) := by decide +kernel
theorem dX7_laySpeeds_9 : decode cX7_laySpeeds 9 = .ok (.iadd, 1) := by decide +kernel
theorem dX7_laySpeeds_10 : decode cX7_laySpeeds 10 = .ok (.aload_n 0, 1) := by decide +kernel
theorem dX7_laySpeeds_11 : decode cX7_laySpeeds 11 = .ok (.getfield 7, 3) := by decide +kernel
theorem dX7_laySpeeds_14 : decode cX7_laySpeeds 14 = .ok (.bipush 34, 2) := by decide +kernel
theorem dX7_laySpeeds_16 : decode cX7_laySpeeds 16 = .ok (.iaload, 1) := by decide +kernel
theorem dX7_laySpeeds_17 : decode cX7_laySpeeds 17 = .ok (.iadd, 1) := by decide +kernel
theorem dX7_laySpeeds_18 : decode cX7_laySpeeds 18 = .ok (.bipush 6, 2) := by decide +kernel
theorem dX7_laySpeeds_20 : decode cX7_laySpeeds 20 = .ok (.invokevirtual 109, 3) := by decide +kernel
theorem dX7_laySpeeds_23 : decode cX7_laySpeeds 23 = .ok (.aload_n 0, 1) := by decide +kernel
theorem dX7_laySpeeds_24 : decode cX7_laySpeeds 24 = .ok (.getfield 23, 3) := by decide +kernel
theorem dX7_laySpeeds_27 : decode cX7_laySpeeds 27 = .ok (.iconst 0, 1) := by decide +kernel
theorem dX7_laySpeeds_28 : decode cX7_laySpeeds 28 = .ok (.lconst 1, 1) := by decide +kernel
theorem dX7_laySpeeds_29 : decode cX7_laySpeeds 29 = .ok (.lastore, 1) := by decide +kernel
theorem dX7_laySpeeds_30 : decode cX7_laySpeeds 30 = .ok (.aload_n 0, 1) := by decide +kernel
theorem dX7_laySpeeds_31 : decode cX7_laySpeeds 31 = .ok (.getfield 23, 3) := by decide +kernel
theorem dX7_laySpeeds_34 : decode cX7_laySpeeds 34 = .ok (.bipush 10, 2) := by decide +kernel
theorem dX7_laySpeeds_36 : decode cX7_laySpeeds 36 = .ok (.lconst 1, 1) := by decide +kernel
theorem dX7_laySpeeds_37 : decode cX7_laySpeeds 37 = .ok (.lastore, 1) := by decide +kernel
theorem dX7_laySpeeds_38 : decode cX7_laySpeeds 38 = .ok (.iconst 0, 1) := by decide +kernel
theorem dX7_laySpeeds_39 : decode cX7_laySpeeds 39 = .ok (.istore_n 2, 1) := by decide +kernel
theorem dX7_laySpeeds_40 : decode cX7_laySpeeds 40 = .ok (.iload_n 2, 1) := by decide +kernel
theorem dX7_laySpeeds_41 : decode cX7_laySpeeds 41 = .ok (.aload_n 0, 1) := by decide +kernel
theorem dX7_laySpeeds_42 : decode cX7_laySpeeds 42 = .ok (.getfield 7, 3) := by decide +kernel
theorem dX7_laySpeeds_45 : decode cX7_laySpeeds 45 = .ok (.bipush 33, 2) := by decide +kernel
theorem dX7_laySpeeds_47 : decode cX7_laySpeeds 47 = .ok (.iaload, 1) := by decide +kernel
theorem dX7_laySpeeds_48 : decode cX7_laySpeeds 48 = .ok (.if_icmp .ge 106, 3) := by decide +kernel
theorem dX7_laySpeeds_51 : decode cX7_laySpeeds 51 = .ok (.iconst 0, 1) := by decide +kernel
theorem dX7_laySpeeds_52 : decode cX7_laySpeeds 52 = .ok (.iconst 5, 1) := by decide +kernel
theorem dX7_laySpeeds_53 : decode cX7_laySpeeds 53 = .ok (.iload_n 2, 1) := by decide +kernel
theorem dX7_laySpeeds_54 : decode cX7_laySpeeds 54 = .ok (.imul, 1) := by decide +kernel
theorem dX7_laySpeeds_55 : decode cX7_laySpeeds 55 = .ok (.iadd, 1) := by decide +kernel
theorem dX7_laySpeeds_56 : decode cX7_laySpeeds 56 = .ok (.istore_n 3, 1) := by decide +kernel
theorem dX7_laySpeeds_57 : decode cX7_laySpeeds 57 = .ok (.bipush 11, 2) := by decide +kernel
theorem dX7_laySpeeds_59 : decode cX7_laySpeeds 59 = .ok (.iconst 1, 1) := by decide +kernel
theorem dX7_laySpeeds_60 : decode cX7_laySpeeds 60 = .ok (.iload_n 2, 1) := by decide +kernel
theorem dX7_laySpeeds_61 : decode cX7_laySpeeds 61 = .ok (.iadd, 1) := by decide +kernel
theorem dX7_laySpeeds_62 : decode cX7_laySpeeds 62 = .ok (.imul, 1) := by decide +kernel
theorem dX7_laySpeeds_63 : decode cX7_laySpeeds 63 = .ok (.istore 4, 2) := by decide +kernel
theorem dX7_laySpeeds_65 : decode cX7_laySpeeds 65 = .ok (.aload_n 0, 1) := by decide +kernel
theorem dX7_laySpeeds_66 : decode cX7_laySpeeds 66 = .ok (.getfield 23, 3) := by decide +kernel
theorem dX7_laySpeeds_69 : decode cX7_laySpeeds 69 = .ok (.iload 4, 2) := by decide +kernel
theorem dX7_laySpeeds_71 : decode cX7_laySpeeds 71 = .ok (.aload_n 0, 1) := by decide +kernel
theorem dX7_laySpeeds_72 : decode cX7_laySpeeds 72 = .ok (.getfield 7, 3) := by decide +kernel
theorem dX7_laySpeeds_75 : decode cX7_laySpeeds 75 = .ok (.iload_n 3, 1) := by decide +kernel
theorem dX7_laySpeeds_76 : decode cX7_laySpeeds 76 = .ok (.iaload, 1) := by decide +kernel
theorem dX7_laySpeeds_77 : decode cX7_laySpeeds 77 = .ok (.iadd, 1) := by decide +kernel
theorem dX7_laySpeeds_78 : decode cX7_laySpeeds 78 = .ok (.aload_n 0, 1) := by decide +kernel
theorem dX7_laySpeeds_79 : decode cX7_laySpeeds 79 = .ok (.getfield 7, 3) := by decide +kernel
theorem dX7_laySpeeds_82 : decode cX7_laySpeeds 82 = .ok (.iload_n 3, 1) := by decide +kernel
theorem dX7_laySpeeds_83 : decode cX7_laySpeeds 83 = .ok (.iconst 3, 1) := by decide +kernel
theorem dX7_laySpeeds_84 : decode cX7_laySpeeds 84 = .ok (.iadd, 1) := by decide +kernel
theorem dX7_laySpeeds_85 : decode cX7_laySpeeds 85 = .ok (.iaload, 1) := by decide +kernel
theorem dX7_laySpeeds_86 : decode cX7_laySpeeds 86 = .ok (.i2l, 1) := by decide +kernel
theorem dX7_laySpeeds_87 : decode cX7_laySpeeds 87 = .ok (.lastore, 1) := by decide +kernel
theorem dX7_laySpeeds_88 : decode cX7_laySpeeds 88 = .ok (.aload_n 0, 1) := by decide +kernel
theorem dX7_laySpeeds_89 : decode cX7_laySpeeds 89 = .ok (.getfield 23, 3) := by decide +kernel
theorem dX7_laySpeeds_92 : decode cX7_laySpeeds 92 = .ok (.iload 4, 2) := by decide +kernel
theorem dX7_laySpeeds_94 : decode cX7_laySpeeds 94 = .ok (.aload_n 0, 1) := by decide +kernel
theorem dX7_laySpeeds_95 : decode cX7_laySpeeds 95 = .ok (.getfield 7, 3) := by decide +kernel
theorem dX7_laySpeeds_98 : decode cX7_laySpeeds 98 = .ok (.iload_n 3, 1) := by decide +kernel
theorem dX7_laySpeeds_99 : decode cX7_laySpeeds 99 = .ok (.iconst 1, 1) := by decide +kernel
theorem dX7_laySpeeds_100 : decode cX7_laySpeeds 100 = .ok (.iadd, 1) := by decide +kernel
theorem dX7_laySpeeds_101 : decode cX7_laySpeeds 101 = .ok (.iaload, 1) := by decide +kernel
theorem dX7_laySpeeds_102 : decode cX7_laySpeeds 102 = .ok (.iadd, 1) := by decide +kernel
theorem dX7_laySpeeds_103 : decode cX7_laySpeeds 103 = .ok (.aload_n 0, 1) := by decide +kernel
theorem dX7_laySpeeds_104 : decode cX7_laySpeeds 104 = .ok (.getfield 7, 3) := by decide +kernel
theorem dX7_laySpeeds_107 : decode cX7_laySpeeds 107 = .ok (.iload_n 3, 1) := by decide +kernel
theorem dX7_laySpeeds_108 : decode cX7_laySpeeds 108 = .ok (.iconst 4, 1) := by decide +kernel
theorem dX7_laySpeeds_109 : decode cX7_laySpeeds 109 = .ok (.iadd, 1) := by decide +kernel
theorem dX7_laySpeeds_110 : decode cX7_laySpeeds 110 = .ok (.iaload, 1) := by decide +kernel
theorem dX7_laySpeeds_111 : decode cX7_laySpeeds 111 = .ok (.i2l, 1) := by decide +kernel
theorem dX7_laySpeeds_112 : decode cX7_laySpeeds 112 = .ok (.lastore, 1) := by decide +kernel
theorem dX7_laySpeeds_113 : decode cX7_laySpeeds 113 = .ok (.aload_n 0, 1) := by decide +kernel
theorem dX7_laySpeeds_114 : decode cX7_laySpeeds 114 = .ok (.getfield 23, 3) := by decide +kernel
theorem dX7_laySpeeds_117 : decode cX7_laySpeeds 117 = .ok (.iload 4, 2) := by decide +kernel
theorem dX7_laySpeeds_119 : decode cX7_laySpeeds 119 = .ok (.aload_n 0, 1) := by decide +kernel
theorem dX7_laySpeeds_120 : decode cX7_laySpeeds 120 = .ok (.getfield 7, 3) := by decide +kernel
theorem dX7_laySpeeds_123 : decode cX7_laySpeeds 123 = .ok (.iload_n 3, 1) := by decide +kernel
theorem dX7_laySpeeds_124 : decode cX7_laySpeeds 124 = .ok (.iconst 2, 1) := by decide +kernel
theorem dX7_laySpeeds_125 : decode cX7_laySpeeds 125 = .ok (.iadd, 1) := by decide +kernel
theorem dX7_laySpeeds_126 : decode cX7_laySpeeds 126 = .ok (.iaload, 1) := by decide +kernel
theorem dX7_laySpeeds_127 : decode cX7_laySpeeds 127 = .ok (.iadd, 1) := by decide +kernel
theorem dX7_laySpeeds_128 : decode cX7_laySpeeds 128 = .ok (.aload_n 0, 1) := by decide +kernel
theorem dX7_laySpeeds_129 : decode cX7_laySpeeds 129 = .ok (.getfield 7, 3) := by decide +kernel
theorem dX7_laySpeeds_132 : decode cX7_laySpeeds 132 = .ok (.iload_n 3, 1) := by decide +kernel
theorem dX7_laySpeeds_133 : decode cX7_laySpeeds 133 = .ok (.iconst 3, 1) := by decide +kernel
theorem dX7_laySpeeds_134 : decode cX7_laySpeeds 134 = .ok (.iadd, 1) := by decide +kernel
theorem dX7_laySpeeds_135 : decode cX7_laySpeeds 135 = .ok (.iaload, 1) := by decide +kernel
theorem dX7_laySpeeds_136 : decode cX7_laySpeeds 136 = .ok (.ineg, 1) := by decide +kernel
theorem dX7_laySpeeds_137 : decode cX7_laySpeeds 137 = .ok (.aload_n 0, 1) := by decide +kernel
theorem dX7_laySpeeds_138 : decode cX7_laySpeeds 138 = .ok (.getfield 7, 3) := by decide +kernel
theorem dX7_laySpeeds_141 : decode cX7_laySpeeds 141 = .ok (.iload_n 3, 1) := by decide +kernel
theorem dX7_laySpeeds_142 : decode cX7_laySpeeds 142 = .ok (.iconst 4, 1) := by decide +kernel
theorem dX7_laySpeeds_143 : decode cX7_laySpeeds 143 = .ok (.iadd, 1) := by decide +kernel
theorem dX7_laySpeeds_144 : decode cX7_laySpeeds 144 = .ok (.iaload, 1) := by decide +kernel
theorem dX7_laySpeeds_145 : decode cX7_laySpeeds 145 = .ok (.isub, 1) := by decide +kernel
theorem dX7_laySpeeds_146 : decode cX7_laySpeeds 146 = .ok (.i2l, 1) := by decide +kernel
theorem dX7_laySpeeds_147 : decode cX7_laySpeeds 147 = .ok (.lastore, 1) := by decide +kernel
theorem dX7_laySpeeds_148 : decode cX7_laySpeeds 148 = .ok (.iinc 2 1, 3) := by decide +kernel
theorem dX7_laySpeeds_151 : decode cX7_laySpeeds 151 = .ok (.goto (-111), 3) := by decide +kernel
theorem dX7_laySpeeds_154 : decode cX7_laySpeeds 154 = .ok (.iconst 0, 1) := by decide +kernel
theorem dX7_laySpeeds_155 : decode cX7_laySpeeds 155 = .ok (.istore_n 2, 1) := by decide +kernel
theorem dX7_laySpeeds_156 : decode cX7_laySpeeds 156 = .ok (.iload_n 2, 1) := by decide +kernel
theorem dX7_laySpeeds_157 : decode cX7_laySpeeds 157 = .ok (.aload_n 0, 1) := by decide +kernel
theorem dX7_laySpeeds_158 : decode cX7_laySpeeds 158 = .ok (.getfield 7, 3) := by decide +kernel
theorem dX7_laySpeeds_161 : decode cX7_laySpeeds 161 = .ok (.bipush 34, 2) := by decide +kernel
theorem dX7_laySpeeds_163 : decode cX7_laySpeeds 163 = .ok (.iaload, 1) := by decide +kernel
theorem dX7_laySpeeds_164 : decode cX7_laySpeeds 164 = .ok (.if_icmp .ge 81, 3) := by decide +kernel
theorem dX7_laySpeeds_167 : decode cX7_laySpeeds 167 = .ok (.bipush 11, 2) := by decide +kernel
theorem dX7_laySpeeds_169 : decode cX7_laySpeeds 169 = .ok (.iconst 1, 1) := by decide +kernel
theorem dX7_laySpeeds_170 : decode cX7_laySpeeds 170 = .ok (.aload_n 0, 1) := by decide +kernel
theorem dX7_laySpeeds_171 : decode cX7_laySpeeds 171 = .ok (.getfield 7, 3) := by decide +kernel
theorem dX7_laySpeeds_174 : decode cX7_laySpeeds 174 = .ok (.bipush 33, 2) := by decide +kernel
theorem dX7_laySpeeds_176 : decode cX7_laySpeeds 176 = .ok (.iaload, 1) := by decide +kernel
theorem dX7_laySpeeds_177 : decode cX7_laySpeeds 177 = .ok (.iadd, 1) := by decide +kernel
theorem dX7_laySpeeds_178 : decode cX7_laySpeeds 178 = .ok (.iload_n 2, 1) := by decide +kernel
theorem dX7_laySpeeds_179 : decode cX7_laySpeeds 179 = .ok (.iadd, 1) := by decide +kernel
theorem dX7_laySpeeds_180 : decode cX7_laySpeeds 180 = .ok (.imul, 1) := by decide +kernel
theorem dX7_laySpeeds_181 : decode cX7_laySpeeds 181 = .ok (.istore_n 3, 1) := by decide +kernel
theorem dX7_laySpeeds_182 : decode cX7_laySpeeds 182 = .ok (.iload_n 1, 1) := by decide +kernel
theorem dX7_laySpeeds_183 : decode cX7_laySpeeds 183 = .ok (.iload_n 2, 1) := by decide +kernel
theorem dX7_laySpeeds_184 : decode cX7_laySpeeds 184 = .ok (.invokestatic 73, 3) := by decide +kernel
theorem dX7_laySpeeds_187 : decode cX7_laySpeeds 187 = .ok (.ifCond .eq 52, 3) := by decide +kernel
theorem dX7_laySpeeds_190 : decode cX7_laySpeeds 190 = .ok (.aload_n 0, 1) := by decide +kernel
theorem dX7_laySpeeds_191 : decode cX7_laySpeeds 191 = .ok (.getfield 23, 3) := by decide +kernel
theorem dX7_laySpeeds_194 : decode cX7_laySpeeds 194 = .ok (.iload_n 3, 1) := by decide +kernel
theorem dX7_laySpeeds_195 : decode cX7_laySpeeds 195 = .ok (.aload_n 0, 1) := by decide +kernel
theorem dX7_laySpeeds_196 : decode cX7_laySpeeds 196 = .ok (.getfield 7, 3) := by decide +kernel
theorem dX7_laySpeeds_199 : decode cX7_laySpeeds 199 = .ok (.bipush 15, 2) := by decide +kernel
theorem dX7_laySpeeds_201 : decode cX7_laySpeeds 201 = .ok (.iload_n 2, 1) := by decide +kernel
theorem dX7_laySpeeds_202 : decode cX7_laySpeeds 202 = .ok (.iadd, 1) := by decide +kernel
theorem dX7_laySpeeds_203 : decode cX7_laySpeeds 203 = .ok (.iaload, 1) := by decide +kernel
theorem dX7_laySpeeds_204 : decode cX7_laySpeeds 204 = .ok (.iadd, 1) := by decide +kernel
theorem dX7_laySpeeds_205 : decode cX7_laySpeeds 205 = .ok (.lconst 1, 1) := by decide +kernel
theorem dX7_laySpeeds_206 : decode cX7_laySpeeds 206 = .ok (.lastore, 1) := by decide +kernel
theorem dX7_laySpeeds_207 : decode cX7_laySpeeds 207 = .ok (.aload_n 0, 1) := by decide +kernel
theorem dX7_laySpeeds_208 : decode cX7_laySpeeds 208 = .ok (.getfield 7, 3) := by decide +kernel
theorem dX7_laySpeeds_211 : decode cX7_laySpeeds 211 = .ok (.bipush 21, 2) := by decide +kernel
theorem dX7_laySpeeds_213 : decode cX7_laySpeeds 213 = .ok (.iload_n 2, 1) := by decide +kernel
theorem dX7_laySpeeds_214 : decode cX7_laySpeeds 214 = .ok (.iadd, 1) := by decide +kernel
theorem dX7_laySpeeds_215 : decode cX7_laySpeeds 215 = .ok (.iaload, 1) := by decide +kernel
theorem dX7_laySpeeds_216 : decode cX7_laySpeeds 216 = .ok (.iconst (-1), 1) := by decide +kernel
theorem dX7_laySpeeds_217 : decode cX7_laySpeeds 217 = .ok (.if_icmp .eq 22, 3) := by decide +kernel
theorem dX7_laySpeeds_220 : decode cX7_laySpeeds 220 = .ok (.aload_n 0, 1) := by decide +kernel
theorem dX7_laySpeeds_221 : decode cX7_laySpeeds 221 = .ok (.getfield 23, 3) := by decide +kernel
theorem dX7_laySpeeds_224 : decode cX7_laySpeeds 224 = .ok (.iload_n 3, 1) := by decide +kernel
theorem dX7_laySpeeds_225 : decode cX7_laySpeeds 225 = .ok (.aload_n 0, 1) := by decide +kernel
theorem dX7_laySpeeds_226 : decode cX7_laySpeeds 226 = .ok (.getfield 7, 3) := by decide +kernel
theorem dX7_laySpeeds_229 : decode cX7_laySpeeds 229 = .ok (.bipush 21, 2) := by decide +kernel
theorem dX7_laySpeeds_231 : decode cX7_laySpeeds 231 = .ok (.iload_n 2, 1) := by decide +kernel
theorem dX7_laySpeeds_232 : decode cX7_laySpeeds 232 = .ok (.iadd, 1) := by decide +kernel
theorem dX7_laySpeeds_233 : decode cX7_laySpeeds 233 = .ok (.iaload, 1) := by decide +kernel
theorem dX7_laySpeeds_234 : decode cX7_laySpeeds 234 = .ok (.iadd, 1) := by decide +kernel
theorem dX7_laySpeeds_235 : decode cX7_laySpeeds 235 = .ok (.ldc2_w 112, 3) := by decide +kernel
theorem dX7_laySpeeds_238 : decode cX7_laySpeeds 238 = .ok (.lastore, 1) := by decide +kernel
theorem dX7_laySpeeds_239 : decode cX7_laySpeeds 239 = .ok (.iinc 2 1, 3) := by decide +kernel
theorem dX7_laySpeeds_242 : decode cX7_laySpeeds 242 = .ok (.goto (-86), 3) := by decide +kernel
theorem dX7_laySpeeds_245 : decode cX7_laySpeeds 245 = .ok (.aload_n 0, 1) := by decide +kernel
theorem dX7_laySpeeds_246 : decode cX7_laySpeeds 246 = .ok (.invokevirtual 114, 3) := by decide +kernel
theorem dX7_laySpeeds_249 : decode cX7_laySpeeds 249 = .ok (.return_, 1) := by decide +kernel
theorem dX7_stateOf_0 : decode cX7_stateOf 0 = .ok (.aload_n 0, 1) := by decide +kernel
theorem dX7_stateOf_1 : decode cX7_stateOf 1 = .ok (.iload_n 1, 1) := by decide +kernel
theorem dX7_stateOf_2 : decode cX7_stateOf 2 = .ok (.invokevirtual 117, 3) := by decide +kernel
theorem dX7_stateOf_5 : decode cX7_stateOf 5 = .ok (.aload_n 0, 1) := by decide +kernel
theorem dX7_stateOf_6 : decode cX7_stateOf 6 = .ok (.getfield 105, 3) := by decide +kernel
theorem dX7_stateOf_9 : decode cX7_stateOf 9 = .ok (.ifCond .ne 7, 3) := by decide +kernel
theorem dX7_stateOf_12 : decode cX7_stateOf 12 = .ok (.iconst 3, 1) := by decide +kernel
theorem dX7_stateOf_13 : decode cX7_stateOf 13 = .ok (.goto 30, 3) := by decide +kernel
theorem dX7_stateOf_16 : decode cX7_stateOf 16 = .ok (.aload_n 0, 1) := by decide +kernel
theorem dX7_stateOf_17 : decode cX7_stateOf 17 = .ok (.iconst 1, 1) := by decide +kernel
theorem dX7_stateOf_18 : decode cX7_stateOf 18 = .ok (.invokevirtual 120, 3) := by decide +kernel
theorem dX7_stateOf_21 : decode cX7_stateOf 21 = .ok (.ifCond .ne 7, 3) := by decide +kernel
theorem dX7_stateOf_24 : decode cX7_stateOf 24 = .ok (.iconst 2, 1) := by decide +kernel
theorem dX7_stateOf_25 : decode cX7_stateOf 25 = .ok (.goto 18, 3) := by decide +kernel
theorem dX7_stateOf_28 : decode cX7_stateOf 28 = .ok (.aload_n 0, 1) := by decide +kernel
theorem dX7_stateOf_29 : decode cX7_stateOf 29 = .ok (.iconst 1, 1) := by decide +kernel
theorem dX7_stateOf_30 : decode cX7_stateOf 30 = .ok (.invokevirtual 123, 3) := by decide +kernel
theorem dX7_stateOf_33 : decode cX7_stateOf 33 = .ok (.lconst 0, 1) := by decide +kernel
theorem dX7_stateOf_34 : decode cX7_stateOf 34 = .ok (.lcmp, 1) := by decide +kernel
theorem dX7_stateOf_35 : decode cX7_stateOf 35 = .ok (.ifCond .ne 7, 3) := by decide +kernel
theorem dX7_stateOf_38 : decode cX7_stateOf 38 = .ok (.iconst 1, 1) := by decide +kernel
theorem dX7_stateOf_39 : decode cX7_stateOf 39 = .ok (.goto 4, 3) := by decide +kernel
theorem dX7_stateOf_42 : decode cX7_stateOf 42 = .ok (.iconst 0, 1) := by decide +kernel
theorem dX7_stateOf_43 : decode cX7_stateOf 43 = .ok (.ireturn, 1) := by decide +kernel
theorem dX7_state_0 : decode cX7_state 0 = .ok (.aload_n 0, 1) := by decide +kernel
theorem dX7_state_1 : decode cX7_state 1 = .ok (.iconst 0, 1) := by decide +kernel
theorem dX7_state_2 : decode cX7_state 2 = .ok (.putfield 45, 3) := by decide +kernel
theorem dX7_state_5 : decode cX7_state 5 = .ok (.aload_n 0, 1) := by decide +kernel
theorem dX7_state_6 : decode cX7_state 6 = .ok (.aload_n 0, 1) := by decide +kernel
theorem dX7_state_7 : decode cX7_state 7 = .ok (.getfield 7, 3) := by decide +kernel
theorem dX7_state_10 : decode cX7_state 10 = .ok (.bipush 35, 2) := by decide +kernel
theorem dX7_state_12 : decode cX7_state 12 = .ok (.iaload, 1) := by decide +kernel
theorem dX7_state_13 : decode cX7_state 13 = .ok (.invokevirtual 127, 3) := by decide +kernel
theorem dX7_state_16 : decode cX7_state 16 = .ok (.ireturn, 1) := by decide +kernel
theorem dX7_speed_0 : decode cX7_speed 0 = .ok (.aload_n 0, 1) := by decide +kernel
theorem dX7_speed_1 : decode cX7_speed 1 = .ok (.iload_n 1, 1) := by decide +kernel
theorem dX7_speed_2 : decode cX7_speed 2 = .ok (.invokestatic 53, 3) := by decide +kernel
theorem dX7_speed_5 : decode cX7_speed 5 = .ok (.ifCond .ne 7, 3) := by decide +kernel
theorem dX7_speed_8 : decode cX7_speed 8 = .ok (.iconst 1, 1) := by decide +kernel
theorem dX7_speed_9 : decode cX7_speed 9 = .ok (.goto 15, 3) := by decide +kernel
theorem dX7_speed_12 : decode cX7_speed 12 = .ok (.iload_n 2, 1) := by decide +kernel
theorem dX7_speed_13 : decode cX7_speed 13 = .ok (.invokestatic 131, 3) := by decide +kernel
theorem dX7_speed_16 : decode cX7_speed 16 = .ok (.ifCond .ne 7, 3) := by decide +kernel
theorem dX7_speed_19 : decode cX7_speed 19 = .ok (.iconst 2, 1) := by decide +kernel
theorem dX7_speed_20 : decode cX7_speed 20 = .ok (.goto 4, 3) := by decide +kernel
theorem dX7_speed_23 : decode cX7_speed 23 = .ok (.iconst 0, 1) := by decide +kernel
theorem dX7_speed_24 : decode cX7_speed 24 = .ok (.putfield 45, 3) := by decide +kernel
theorem dX7_speed_27 : decode cX7_speed 27 = .ok (.aload_n 0, 1) := by decide +kernel
theorem dX7_speed_28 : decode cX7_speed 28 = .ok (.getfield 45, 3) := by decide +kernel
theorem dX7_speed_31 : decode cX7_speed 31 = .ok (.ifCond .eq 5, 3) := by decide +kernel
theorem dX7_speed_34 : decode cX7_speed 34 = .ok (.lconst 0, 1) := by decide +kernel
theorem dX7_speed_35 : decode cX7_speed 35 = .ok (.lreturn, 1) := by decide +kernel
theorem dX7_speed_36 : decode cX7_speed 36 = .ok (.aload_n 0, 1) := by decide +kernel
theorem dX7_speed_37 : decode cX7_speed 37 = .ok (.aload_n 0, 1) := by decide +kernel
theorem dX7_speed_38 : decode cX7_speed 38 = .ok (.getfield 7, 3) := by decide +kernel
theorem dX7_speed_41 : decode cX7_speed 41 = .ok (.bipush 35, 2) := by decide +kernel
theorem dX7_speed_43 : decode cX7_speed 43 = .ok (.iaload, 1) := by decide +kernel
theorem dX7_speed_44 : decode cX7_speed 44 = .ok (.invokevirtual 117, 3) := by decide +kernel
theorem dX7_speed_47 : decode cX7_speed 47 = .ok (.aload_n 0, 1) := by decide +kernel
theorem dX7_speed_48 : decode cX7_speed 48 = .ok (.aload_n 0, 1) := by decide +kernel
theorem dX7_speed_49 : decode cX7_speed 49 = .ok (.iload_n 1, 1) := by decide +kernel
theorem dX7_speed_50 : decode cX7_speed 50 = .ok (.invokevirtual 120, 3) := by decide +kernel
theorem dX7_speed_53 : decode cX7_speed 53 = .ok (.ifCond .eq 7, 3) := by decide +kernel
theorem dX7_speed_56 : decode cX7_speed 56 = .ok (.iconst 0, 1) := by decide +kernel
theorem dX7_speed_57 : decode cX7_speed 57 = .ok (.goto 4, 3) := by decide +kernel
theorem dX7_speed_60 : decode cX7_speed 60 = .ok (.iconst 3, 1) := by decide +kernel
theorem dX7_speed_61 : decode cX7_speed 61 = .ok (.putfield 45, 3) := by decide +kernel
theorem dX7_speed_64 : decode cX7_speed 64 = .ok (.aload_n 0, 1) := by decide +kernel
theorem dX7_speed_65 : decode cX7_speed 65 = .ok (.getfield 45, 3) := by decide +kernel
theorem dX7_speed_68 : decode cX7_speed 68 = .ok (.ifCond .eq 7, 3) := by decide +kernel
theorem dX7_speed_71 : decode cX7_speed 71 = .ok (.lconst 0, 1) := by decide +kernel
theorem dX7_speed_72 : decode cX7_speed 72 = .ok (.goto 17, 3) := by decide +kernel
theorem dX7_speed_75 : decode cX7_speed 75 = .ok (.aload_n 0, 1) := by decide +kernel
theorem dX7_speed_76 : decode cX7_speed 76 = .ok (.iload_n 1, 1) := by decide +kernel
theorem dX7_speed_77 : decode cX7_speed 77 = .ok (.invokevirtual 123, 3) := by decide +kernel
theorem dX7_speed_80 : decode cX7_speed 80 = .ok (.aload_n 0, 1) := by decide +kernel
theorem dX7_speed_81 : decode cX7_speed 81 = .ok (.iload_n 1, 1) := by decide +kernel
theorem dX7_speed_82 : decode cX7_speed 82 = .ok (.invokevirtual 134, 3) := by decide +kernel
theorem dX7_speed_85 : decode cX7_speed 85 = .ok (.iload_n 2, 1) := by decide +kernel
theorem dX7_speed_86 : decode cX7_speed 86 = .ok (.invokestatic 137, 3) := by decide +kernel
theorem dX7_speed_89 : decode cX7_speed 89 = .ok (.lreturn, 1) := by decide +kernel
theorem dX7_ratioPart_0 : decode cX7_ratioPart 0 = .ok (.aload_n 0, 1) := by decide +kernel
theorem dX7_ratioPart_1 : decode cX7_ratioPart 1 = .ok (.iconst 1, 1) := by decide +kernel
theorem dX7_ratioPart_2 : decode cX7_ratioPart 2 = .ok (.invokevirtual 123, 3) := by decide +kernel
theorem dX7_ratioPart_5 : decode cX7_ratioPart 5 = .ok (.lconst 0, 1) := by decide +kernel
theorem dX7_ratioPart_6 : decode cX7_ratioPart 6 = .ok (.lcmp, 1) := by decide +kernel
theorem dX7_ratioPart_7 : decode cX7_ratioPart 7 = .ok (.ifCond .ge 12, 3) := by decide +kernel
theorem dX7_ratioPart_10 : decode cX7_ratioPart 10 = .ok (.aload_n 0, 1) := by decide +kernel
theorem dX7_ratioPart_11 : decode cX7_ratioPart 11 = .ok (.iconst 1, 1) := by decide +kernel
theorem dX7_ratioPart_12 : decode cX7_ratioPart 12 = .ok (.invokevirtual 134, 3) := by decide +kernel
theorem dX7_ratioPart_15 : decode cX7_ratioPart 15 = .ok (.lneg, 1) := by decide +kernel
theorem dX7_ratioPart_16 : decode cX7_ratioPart 16 = .ok (.goto 8, 3) := by decide +kernel
theorem dX7_ratioPart_19 : decode cX7_ratioPart 19 = .ok (.aload_n 0, 1) := by decide +kernel
theorem dX7_ratioPart_20 : decode cX7_ratioPart 20 = .ok (.iconst 1, 1) := by decide +kernel
theorem dX7_ratioPart_21 : decode cX7_ratioPart 21 = .ok (.invokevirtual 134, 3) := by decide +kernel
theorem dX7_ratioPart_24 : decode cX7_ratioPart 24 = .ok (.lstore_n 2, 1) := by decide +kernel
theorem dX7_ratioPart_25 : decode cX7_ratioPart 25 = .ok (.aload_n 0, 1) := by decide +kernel
theorem dX7_ratioPart_26 : decode cX7_ratioPart 26 = .ok (.iconst 1, 1) := by decide +kernel
theorem dX7_ratioPart_27 : decode cX7_ratioPart 27 = .ok (.invokevirtual 123, 3) := by decide +kernel
theorem dX7_ratioPart_30 : decode cX7_ratioPart 30 = .ok (.lconst 0, 1) := by decide +kernel
theorem dX7_ratioPart_31 : decode cX7_ratioPart 31 = .ok (.lcmp, 1) := by decide +kernel
theorem dX7_ratioPart_32 : decode cX7_ratioPart 32 = .ok (.ifCond .ge 12, 3) := by decide +kernel
theorem dX7_ratioPart_35 : decode cX7_ratioPart 35 = .ok (.aload_n 0, 1) := by decide +kernel
theorem dX7_ratioPart_36 : decode cX7_ratioPart 36 = .ok (.iconst 1, 1) := by decide +kernel
theorem dX7_ratioPart_37 : decode cX7_ratioPart 37 = .ok (.invokevirtual 123, 3) := by decide +kernel
theorem dX7_ratioPart_40 : decode cX7_ratioPart 40 = .ok (.lneg, 1) := by decide +kernel
theorem dX7_ratioPart_41 : decode cX7_ratioPart 41 = .ok (.goto 8, 3) := by decide +kernel
theorem dX7_ratioPart_44 : decode cX7_ratioPart 44 = .ok (.aload_n 0, 1) := by decide +kernel
theorem dX7_ratioPart_45 : decode cX7_ratioPart 45 = .ok (.iconst 1, 1) := by decide +kernel
theorem dX7_ratioPart_46 : decode cX7_ratioPart 46 = .ok (.invokevirtual 123, 3) := by decide +kernel
theorem dX7_ratioPart_49 : decode cX7_ratioPart 49 = .ok (.lstore 4, 2) := by decide +kernel
theorem dX7_ratioPart_51 : decode cX7_ratioPart 51 = .ok (.lload_n 2, 1) := by decide +kernel
theorem dX7_ratioPart_52 : decode cX7_ratioPart 52 = .ok (.lload 4, 2) := by decide +kernel
theorem dX7_ratioPart_54 : decode cX7_ratioPart 54 = .ok (.iload_n 1, 1) := by decide +kernel
theorem dX7_ratioPart_55 : decode cX7_ratioPart 55 = .ok (.invokestatic 137, 3) := by decide +kernel
theorem dX7_ratioPart_58 : decode cX7_ratioPart 58 = .ok (.lreturn, 1) := by decide +kernel
theorem dX7_ratio_0 : decode cX7_ratio 0 = .ok (.aload_n 0, 1) := by decide +kernel
theorem dX7_ratio_1 : decode cX7_ratio 1 = .ok (.iload_n 1, 1) := by decide +kernel
theorem dX7_ratio_2 : decode cX7_ratio 2 = .ok (.invokestatic 131, 3) := by decide +kernel
theorem dX7_ratio_5 : decode cX7_ratio 5 = .ok (.ifCond .ne 7, 3) := by decide +kernel
theorem dX7_ratio_8 : decode cX7_ratio 8 = .ok (.iconst 1, 1) := by decide +kernel
theorem dX7_ratio_9 : decode cX7_ratio 9 = .ok (.goto 22, 3) := by decide +kernel
theorem dX7_ratio_12 : decode cX7_ratio 12 = .ok (.aload_n 0, 1) := by decide +kernel
theorem dX7_ratio_13 : decode cX7_ratio 13 = .ok (.aload_n 0, 1) := by decide +kernel
theorem dX7_ratio_14 : decode cX7_ratio 14 = .ok (.getfield 7, 3) := by decide +kernel
theorem dX7_ratio_17 : decode cX7_ratio 17 = .ok (.bipush 35, 2) := by decide +kernel
theorem dX7_ratio_19 : decode cX7_ratio 19 = .ok (.iaload, 1) := by decide +kernel
theorem dX7_ratio_20 : decode cX7_ratio 20 = .ok (.invokevirtual 127, 3) := by decide +kernel
theorem dX7_ratio_23 : decode cX7_ratio 23 = .ok (.ifCond .eq 7, 3) := by decide +kernel
theorem dX7_ratio_26 : decode cX7_ratio 26 = .ok (.iconst 2, 1) := by decide +kernel
theorem dX7_ratio_27 : decode cX7_ratio 27 = .ok (.goto 4, 3) := by decide +kernel
theorem dX7_ratio_30 : decode cX7_ratio 30 = .ok (.iconst 0, 1) := by decide +kernel
theorem dX7_ratio_31 : decode cX7_ratio 31 = .ok (.putfield 45, 3) := by decide +kernel
theorem dX7_ratio_34 : decode cX7_ratio 34 = .ok (.aload_n 0, 1) := by decide +kernel
theorem dX7_ratio_35 : decode cX7_ratio 35 = .ok (.getfield 45, 3) := by decide +kernel
theorem dX7_ratio_38 : decode cX7_ratio 38 = .ok (.ifCond .eq 7, 3) := by decide +kernel
theorem dX7_ratio_41 : decode cX7_ratio 41 = .ok (.lconst 0, 1) := by decide +kernel
theorem dX7_ratio_42 : decode cX7_ratio 42 = .ok (.goto 8, 3) := by decide +kernel
theorem dX7_ratio_45 : decode cX7_ratio 45 = .ok (.aload_n 0, 1) := by decide +kernel
theorem dX7_ratio_46 : decode cX7_ratio 46 = .ok (.iload_n 1, 1) := by decide +kernel
theorem dX7_ratio_47 : decode cX7_ratio 47 = .ok (.invokevirtual 141, 3) := by decide +kernel
theorem dX7_ratio_50 : decode cX7_ratio 50 = .ok (.lreturn, 1) := by decide +kernel
theorem dX7_ratioAsFloat_0 : decode cX7_ratioAsFloat 0 = .ok (.aload_n 0, 1) := by decide +kernel
theorem dX7_ratioAsFloat_1 : decode cX7_ratioAsFloat 1 = .ok (.aload_n 0, 1) := by decide +kernel
theorem dX7_ratioAsFloat_2 : decode cX7_ratioAsFloat 2 = .ok (.aload_n 0, 1) := by decide +kernel
theorem dX7_ratioAsFloat_3 : decode cX7_ratioAsFloat 3 = .ok (.getfield 7, 3) := by decide +kernel
theorem dX7_ratioAsFloat_6 : decode cX7_ratioAsFloat 6 = .ok (.bipush 35, 2) := by decide +kernel
theorem dX7_ratioAsFloat_8 : decode cX7_ratioAsFloat 8 = .ok (.iaload, 1) := by decide +kernel
theorem dX7_ratioAsFloat_9 : decode cX7_ratioAsFloat 9 = .ok (.invokevirtual 127, 3) := by decide +kernel
theorem dX7_ratioAsFloat_12 : decode cX7_ratioAsFloat 12 = .ok (.ifCond .ne 7, 3) := by decide +kernel
theorem dX7_ratioAsFloat_15 : decode cX7_ratioAsFloat 15 = .ok (.iconst 0, 1) := by decide +kernel
theorem dX7_ratioAsFloat_16 : decode cX7_ratioAsFloat 16 = .ok (.goto 4, 3) := by decide +kernel
theorem dX7_ratioAsFloat_19 : decode cX7_ratioAsFloat 19 = .ok (.iconst 1, 1) := by decide +kernel
theorem dX7_ratioAsFloat_20 : decode cX7_ratioAsFloat 20 = .ok (.putfield 45, 3) := by decide +kernel
theorem dX7_ratioAsFloat_23 : decode cX7_ratioAsFloat 23 = .ok (.aload_n 0, 1) := by decide +kernel
theorem dX7_ratioAsFloat_24 : decode cX7_ratioAsFloat 24 = .ok (.getfield 45, 3) := by decide +kernel
theorem dX7_ratioAsFloat_27 : decode cX7_ratioAsFloat 27 = .ok (.ifCond .eq 7, 3) := by decide +kernel
theorem dX7_ratioAsFloat_30 : decode cX7_ratioAsFloat 30 = .ok (.fconst 0, 1) := by decide +kernel
theorem dX7_ratioAsFloat_31 : decode cX7_ratioAsFloat 31 = .ok (.goto 16, 3) := by decide +kernel
theorem dX7_ratioAsFloat_34 : decode cX7_ratioAsFloat 34 = .ok (.aload_n 0, 1) := by decide +kernel
theorem dX7_ratioAsFloat_35 : decode cX7_ratioAsFloat 35 = .ok (.iconst 0, 1) := by decide +kernel
theorem dX7_ratioAsFloat_36 : decode cX7_ratioAsFloat 36 = .ok (.invokevirtual 141, 3) := by decide +kernel
theorem dX7_ratioAsFloat_39 : decode cX7_ratioAsFloat 39 = .ok (.l2f, 1) := by decide +kernel
theorem dX7_ratioAsFloat_40 : decode cX7_ratioAsFloat 40 = .ok (.aload_n 0, 1) := by decide +kernel
theorem dX7_ratioAsFloat_41 : decode cX7_ratioAsFloat 41 = .ok (.iconst 1, 1) := by decide +kernel
theorem dX7_ratioAsFloat_42 : decode cX7_ratioAsFloat 42 = .ok (.invokevirtual 141, 3) := by decide +kernel
theorem dX7_ratioAsFloat_45 : decode cX7_ratioAsFloat 45 = .ok (.l2f, 1) := by decide +kernel
theorem dX7_ratioAsFloat_46 : decode cX7_ratioAsFloat 46 = .ok (.fdiv, 1) := by decide +kernel
theorem dX7_ratioAsFloat_47 : decode cX7_ratioAsFloat 47 = .ok (.freturn, 1) := by decide +kernel
theorem dX7_layTorques_0 : decode cX7_layTorques 0 = .ok (.aload_n 0, 1) := by decide +kernel
theorem dX7_layTorques_1 : decode cX7_layTorques 1 = .ok (.bipush 6, 2) := by decide +kernel
theorem dX7_layTorques_3 : decode cX7_layTorques 3 = .ok (.bipush 10, 2) := by decide +kernel
theorem dX7_layTorques_5 : decode cX7_layTorques 5 = .ok (.invokevirtual 109, 3) := by decide +kernel
theorem dX7_layTorques_8 : decode cX7_layTorques 8 = .ok (.aload_n 0, 1) := by decide +kernel
theorem dX7_layTorques_9 : decode cX7_layTorques 9 = .ok (.getfield 23, 3) := by decide +kernel
theorem dX7_layTorques_12 : decode cX7_layTorques 12 = .ok (.bipush 10, 2) := by decide +kernel
theorem dX7_layTorques_14 : decode cX7_layTorques 14 = .ok (.ldc2_w 112, 3) := by decide +kernel
theorem dX7_layTorques_17 : decode cX7_layTorques 17 = .ok (.lastore, 1) := by decide +kernel
theorem dX7_layTorques_18 : decode cX7_layTorques 18 = .ok (.aload_n 0, 1) := by decide +kernel
theorem dX7_layTorques_19 : decode cX7_layTorques 19 = .ok (.getfield 23, 3) := by decide +kernel
theorem dX7_layTorques_22 : decode cX7_layTorques 22 = .ok (.bipush 11, 2) := by decide +kernel
theorem dX7_layTorques_24 : decode cX7_layTorques 24 = .ok (.lconst 1, 1) := by decide +kernel
theorem dX7_layTorques_25 : decode cX7_layTorques 25 = .ok (.lastore, 1) := by decide +kernel
theorem dX7_layTorques_26 : decode cX7_layTorques 26 = .ok (.iconst 0, 1) := by decide +kernel
theorem dX7_layTorques_27 : decode cX7_layTorques 27 = .ok (.istore_n 1, 1) := by decide +kernel
theorem dX7_layTorques_28 : decode cX7_layTorques 28 = .ok (.iload_n 1, 1) := by decide +kernel
theorem dX7_layTorques_29 : decode cX7_layTorques 29 = .ok (.aload_n 0, 1) := by decide +kernel
theorem dX7_layTorques_30 : decode cX7_layTorques 30 = .ok (.getfield 7, 3) := by decide +kernel
theorem dX7_layTorques_33 : decode cX7_layTorques 33 = .ok (.bipush 33, 2) := by decide +kernel
theorem dX7_layTorques_35 : decode cX7_layTorques 35 = .ok (.iaload, 1) := by decide +kernel
theorem dX7_layTorques_36 : decode cX7_layTorques 36 = .ok (.if_icmp .ge 110, 3) := by decide +kernel
theorem dX7_layTorques_39 : decode cX7_layTorques 39 = .ok (.iconst 0, 1) := by decide +kernel
theorem dX7_layTorques_40 : decode cX7_layTorques 40 = .ok (.iconst 5, 1) := by decide +kernel
theorem dX7_layTorques_41 : decode cX7_layTorques 41 = .ok (.iload_n 1, 1) := by decide +kernel
theorem dX7_layTorques_42 : decode cX7_layTorques 42 = .ok (.imul, 1) := by decide +kernel
theorem dX7_layTorques_43 : decode cX7_layTorques 43 = .ok (.iadd, 1) := by decide +kernel
theorem dX7_layTorques_44 : decode cX7_layTorques 44 = .ok (.istore_n 2, 1) := by decide +kernel
theorem dX7_layTorques_45 : decode cX7_layTorques 45 = .ok (.aload_n 0, 1) := by decide +kernel
theorem dX7_layTorques_46 : decode cX7_layTorques 46 = .ok (.getfield 23, 3) := by decide +kernel
theorem dX7_layTorques_49 : decode cX7_layTorques 49 = .ok (.bipush 11, 2) := by decide +kernel
theorem dX7_layTorques_51 : decode cX7_layTorques 51 = .ok (.aload_n 0, 1) := by decide +kernel
theorem dX7_layTorques_52 : decode cX7_layTorques 52 = .ok (.getfield 7, 3) := by decide +kernel
theorem dX7_layTorques_55 : decode cX7_layTorques 55 = .ok (.iload_n 2, 1) := by decide +kernel
theorem dX7_layTorques_56 : decode cX7_layTorques 56 = .ok (.iaload, 1) := by decide +kernel
theorem dX7_layTorques_57 : decode cX7_layTorques 57 = .ok (.imul, 1) := by decide +kernel
theorem dX7_layTorques_58 : decode cX7_layTorques 58 = .ok (.iconst 1, 1) := by decide +kernel
theorem dX7_layTorques_59 : decode cX7_layTorques 59 = .ok (.iadd, 1) := by decide +kernel
theorem dX7_layTorques_60 : decode cX7_layTorques 60 = .ok (.iload_n 1, 1) := by decide +kernel
theorem dX7_layTorques_61 : decode cX7_layTorques 61 = .ok (.iadd, 1) := by decide +kernel
theorem dX7_layTorques_62 : decode cX7_layTorques 62 = .ok (.aload_n 0, 1) := by decide +kernel
theorem dX7_layTorques_63 : decode cX7_layTorques 63 = .ok (.getfield 7, 3) := by decide +kernel
theorem dX7_layTorques_66 : decode cX7_layTorques 66 = .ok (.iload_n 2, 1) := by decide +kernel
theorem dX7_layTorques_67 : decode cX7_layTorques 67 = .ok (.iconst 3, 1) := by decide +kernel
theorem dX7_layTorques_68 : decode cX7_layTorques 68 = .ok (.iadd, 1) := by decide +kernel
theorem dX7_layTorques_69 : decode cX7_layTorques 69 = .ok (.iaload, 1) := by decide +kernel
theorem dX7_layTorques_70 : decode cX7_layTorques 70 = .ok (.i2l, 1) := by decide +kernel
theorem dX7_layTorques_71 : decode cX7_layTorques 71 = .ok (.lastore, 1) := by decide +kernel
theorem dX7_layTorques_72 : decode cX7_layTorques 72 = .ok (.aload_n 0, 1) := by decide +kernel
theorem dX7_layTorques_73 : decode cX7_layTorques 73 = .ok (.getfield 23, 3) := by decide +kernel
theorem dX7_layTorques_76 : decode cX7_layTorques 76 = .ok (.bipush 11, 2) := by decide +kernel
theorem dX7_layTorques_78 : decode cX7_layTorques 78 = .ok (.aload_n 0, 1) := by decide +kernel
theorem dX7_layTorques_79 : decode cX7_layTorques 79 = .ok (.getfield 7, 3) := by decide +kernel
theorem dX7_layTorques_82 : decode cX7_layTorques 82 = .ok (.iload_n 2, 1) := by decide +kernel
theorem dX7_layTorques_83 : decode cX7_layTorques 83 = .ok (.iconst 1, 1) := by decide +kernel
theorem dX7_layTorques_84 : decode cX7_layTorques 84 = .ok (.iadd, 1) := by decide +kernel
theorem dX7_layTorques_85 : decode cX7_layTorques 85 = .ok (.iaload, 1) := by decide +kernel
theorem dX7_layTorques_86 : decode cX7_layTorques 86 = .ok (.imul, 1) := by decide +kernel
theorem dX7_layTorques_87 : decode cX7_layTorques 87 = .ok (.iconst 1, 1) := by decide +kernel
theorem dX7_layTorques_88 : decode cX7_layTorques 88 = .ok (.iadd, 1) := by decide +kernel
theorem dX7_layTorques_89 : decode cX7_layTorques 89 = .ok (.iload_n 1, 1) := by decide +kernel
theorem dX7_layTorques_90 : decode cX7_layTorques 90 = .ok (.iadd, 1) := by decide +kernel
theorem dX7_layTorques_91 : decode cX7_layTorques 91 = .ok (.aload_n 0, 1) := by decide +kernel
theorem dX7_layTorques_92 : decode cX7_layTorques 92 = .ok (.getfield 7, 3) := by decide +kernel
theorem dX7_layTorques_95 : decode cX7_layTorques 95 = .ok (.iload_n 2, 1) := by decide +kernel
theorem dX7_layTorques_96 : decode cX7_layTorques 96 = .ok (.iconst 4, 1) := by decide +kernel
theorem dX7_layTorques_97 : decode cX7_layTorques 97 = .ok (.iadd, 1) := by decide +kernel
theorem dX7_layTorques_98 : decode cX7_layTorques 98 = .ok (.iaload, 1) := by decide +kernel
theorem dX7_layTorques_99 : decode cX7_layTorques 99 = .ok (.i2l, 1) := by decide +kernel
theorem dX7_layTorques_100 : decode cX7_layTorques 100 = .ok (.lastore, 1) := by decide +kernel
theorem dX7_layTorques_101 : decode cX7_layTorques 101 = .ok (.aload_n 0, 1) := by decide +kernel
theorem dX7_layTorques_102 : decode cX7_layTorques 102 = .ok (.getfield 23, 3) := by decide +kernel
theorem dX7_layTorques_105 : decode cX7_layTorques 105 = .ok (.bipush 11, 2) := by decide +kernel
theorem dX7_layTorques_107 : decode cX7_layTorques 107 = .ok (.aload_n 0, 1) := by decide +kernel
theorem dX7_layTorques_108 : decode cX7_layTorques 108 = .ok (.getfield 7, 3) := by decide +kernel
theorem dX7_layTorques_111 : decode cX7_layTorques 111 = .ok (.iload_n 2, 1) := by decide +kernel
theorem dX7_layTorques_112 : decode cX7_layTorques 112 = .ok (.iconst 2, 1) := by decide +kernel
theorem dX7_layTorques_113 : decode cX7_layTorques 113 = .ok (.iadd, 1) := by decide +kernel
theorem dX7_layTorques_114 : decode cX7_layTorques 114 = .ok (.iaload, 1) := by decide +kernel
theorem dX7_layTorques_115 : decode cX7_layTorques 115 = .ok (.imul, 1) := by decide +kernel
theorem dX7_layTorques_116 : decode cX7_layTorques 116 = .ok (.iconst 1, 1) := by decide +kernel
theorem dX7_layTorques_117 : decode cX7_layTorques 117 = .ok (.iadd, 1) := by decide +kernel
theorem dX7_layTorques_118 : decode cX7_layTorques 118 = .ok (.iload_n 1, 1) := by decide +kernel
theorem dX7_layTorques_119 : decode cX7_layTorques 119 = .ok (.iadd, 1) := by decide +kernel
theorem dX7_layTorques_120 : decode cX7_layTorques 120 = .ok (.aload_n 0, 1) := by decide +kernel
theorem dX7_layTorques_121 : decode cX7_layTorques 121 = .ok (.getfield 7, 3) := by decide +kernel
theorem dX7_layTorques_124 : decode cX7_layTorques 124 = .ok (.iload_n 2, 1) := by decide +kernel
theorem dX7_layTorques_125 : decode cX7_layTorques 125 = .ok (.iconst 3, 1) := by decide +kernel
theorem dX7_layTorques_126 : decode cX7_layTorques 126 = .ok (.iadd, 1) := by decide +kernel
theorem dX7_layTorques_127 : decode cX7_layTorques 127 = .ok (.iaload, 1) := by decide +kernel
theorem dX7_layTorques_128 : decode cX7_layTorques 128 = .ok (.ineg, 1) := by decide +kernel
theorem dX7_layTorques_129 : decode cX7_layTorques 129 = .ok (.aload_n 0, 1) := by decide +kernel
theorem dX7_layTorques_130 : decode cX7_layTorques 130 = .ok (.getfield 7, 3) := by decide +kernel
theorem dX7_layTorques_133 : decode cX7_layTorques 133 = .ok (.iload_n 2, 1) := by decide +kernel
theorem dX7_layTorques_134 : decode cX7_layTorques 134 = .ok (.iconst 4, 1) := by decide +kernel
theorem dX7_layTorques_135 : decode cX7_layTorques 135 = .ok (.iadd, 1) := by decide +kernel
theorem dX7_layTorques_136 : decode cX7_layTorques 136 = .ok (.iaload, 1) := by decide +kernel
theorem dX7_layTorques_137 : decode cX7_layTorques 137 = .ok (.isub, 1) := by decide +kernel
theorem dX7_layTorques_138 : decode cX7_layTorques 138 = .ok (.i2l, 1) := by decide +kernel
theorem dX7_layTorques_139 : decode cX7_layTorques 139 = .ok (.lastore, 1) := by decide +kernel
theorem dX7_layTorques_140 : decode cX7_layTorques 140 = .ok (.iinc 1 1, 3) := by decide +kernel
theorem dX7_layTorques_143 : decode cX7_layTorques 143 = .ok (.goto (-115), 3) := by decide +kernel
theorem dX7_layTorques_146 : decode cX7_layTorques 146 = .ok (.iconst 0, 1) := by decide +kernel
theorem dX7_layTorques_147 : decode cX7_layTorques 147 = .ok (.istore_n 1, 1) := by decide +kernel
theorem dX7_layTorques_148 : decode cX7_layTorques 148 = .ok (.iload_n 1, 1) := by decide +kernel
theorem dX7_layTorques_149 : decode cX7_layTorques 149 = .ok (.aload_n 0, 1) := by decide +kernel
theorem dX7_layTorques_150 : decode cX7_layTorques 150 = .ok (.getfield 7, 3) := by decide +kernel
theorem dX7_layTorques_153 : decode cX7_layTorques 153 = .ok (.bipush 34, 2) := by decide +kernel
theorem dX7_layTorques_155 : decode cX7_layTorques 155 = .ok (.iaload, 1) := by decide +kernel
theorem dX7_layTorques_156 : decode cX7_layTorques 156 = .ok (.if_icmp .ge 82, 3) := by decide +kernel
theorem dX7_layTorques_159 : decode cX7_layTorques 159 = .ok (.aload_n 0, 1) := by decide +kernel
theorem dX7_layTorques_160 : decode cX7_layTorques 160 = .ok (.getfield 7, 3) := by decide +kernel
theorem dX7_layTorques_163 : decode cX7_layTorques 163 = .ok (.bipush 35, 2) := by decide +kernel
theorem dX7_layTorques_165 : decode cX7_layTorques 165 = .ok (.iaload, 1) := by decide +kernel
theorem dX7_layTorques_166 : decode cX7_layTorques 166 = .ok (.iload_n 1, 1) := by decide +kernel
theorem dX7_layTorques_167 : decode cX7_layTorques 167 = .ok (.invokestatic 73, 3) := by decide +kernel
theorem dX7_layTorques_170 : decode cX7_layTorques 170 = .ok (.ifCond .eq 62, 3) := by decide +kernel
theorem dX7_layTorques_173 : decode cX7_layTorques 173 = .ok (.aload_n 0, 1) := by decide +kernel
theorem dX7_layTorques_174 : decode cX7_layTorques 174 = .ok (.getfield 23, 3) := by decide +kernel
theorem dX7_layTorques_177 : decode cX7_layTorques 177 = .ok (.bipush 11, 2) := by decide +kernel
theorem dX7_layTorques_179 : decode cX7_layTorques 179 = .ok (.aload_n 0, 1) := by decide +kernel
theorem dX7_layTorques_180 : decode cX7_layTorques 180 = .ok (.getfield 7, 3) := by decide +kernel
theorem dX7_layTorques_183 : decode cX7_layTorques 183 = .ok (.bipush 15, 2) := by decide +kernel
theorem dX7_layTorques_185 : decode cX7_layTorques 185 = .ok (.iload_n 1, 1) := by decide +kernel
theorem dX7_layTorques_186 : decode cX7_layTorques 186 = .ok (.iadd, 1) := by decide +kernel
theorem dX7_layTorques_187 : decode cX7_layTorques 187 = .ok (.iaload, 1) := by decide +kernel
theorem dX7_layTorques_188 : decode cX7_layTorques 188 = .ok (.imul, 1) := by decide +kernel
theorem dX7_layTorques_189 : decode cX7_layTorques 189 = .ok (.iconst 4, 1) := by decide +kernel
theorem dX7_layTorques_190 : decode cX7_layTorques 190 = .ok (.iadd, 1) := by decide +kernel
theorem dX7_layTorques_191 : decode cX7_layTorques 191 = .ok (.iload_n 1, 1) := by decide +kernel
theorem dX7_layTorques_192 : decode cX7_layTorques 192 = .ok (.iadd, 1) := by decide +kernel
theorem dX7_layTorques_193 : decode cX7_layTorques 193 = .ok (.lconst 1, 1) := by decide +kernel
theorem dX7_layTorques_194 : decode cX7_layTorques 194 = .ok (.lastore, 1) := by decide +kernel
theorem dX7_layTorques_195 : decode cX7_layTorques 195 = .ok (.aload_n 0, 1) := by decide +kernel
theorem dX7_layTorques_196 : decode cX7_layTorques 196 = .ok (.getfield 7, 3) := by decide +kernel
theorem dX7_layTorques_199 : decode cX7_layTorques 199 = .ok (.bipush 21, 2) := by decide +kernel
theorem dX7_layTorques_201 : decode cX7_layTorques 201 = .ok (.iload_n 1, 1) := by decide +kernel
theorem dX7_layTorques_202 : decode cX7_layTorques 202 = .ok (.iadd, 1) := by decide +kernel
theorem dX7_layTorques_203 : decode cX7_layTorques 203 = .ok (.iaload, 1) := by decide +kernel
theorem dX7_layTorques_204 : decode cX7_layTorques 204 = .ok (.iconst (-1), 1) := by decide +kernel
theorem dX7_layTorques_205 : decode cX7_layTorques 205 = .ok (.if_icmp .eq 27, 3) := by decide +kernel
theorem dX7_layTorques_208 : decode cX7_layTorques 208 = .ok (.aload_n 0, 1) := by decide +kernel
theorem dX7_layTorques_209 : decode cX7_layTorques 209 = .ok (.getfield 23, 3) := by decide +kernel
theorem dX7_layTorques_212 : decode cX7_layTorques 212 = .ok (.bipush 11, 2) := by decide +kernel
theorem dX7_layTorques_214 : decode cX7_layTorques 214 = .ok (.aload_n 0, 1) := by decide +kernel
theorem dX7_layTorques_215 : decode cX7_layTorques 215 = .ok (.getfield 7, 3) := by decide +kernel
theorem dX7_layTorques_218 : decode cX7_layTorques 218 = .ok (.bipush 21, 2) := by decide +kernel
theorem dX7_layTorques_220 : decode cX7_layTorques 220 = .ok (.iload_n 1, 1) := by decide +kernel
theorem dX7_layTorques_221 : decode cX7_layTorques 221 = .ok (.iadd, 1) := by decide +kernel
theorem dX7_layTorques_222 : decode cX7_layTorques 222 = .ok (.iaload, 1) := by decide +kernel
theorem dX7_layTorques_223 : decode cX7_layTorques 223 = .ok (.imul, 1) := by decide +kernel
theorem dX7_layTorques_224 : decode cX7_layTorques 224 = .ok (.iconst 4, 1) := by decide +kernel
theorem dX7_layTorques_225 : decode cX7_layTorques 225 = .ok (.iadd, 1) := by decide +kernel
theorem dX7_layTorques_226 : decode cX7_layTorques 226 = .ok (.iload_n 1, 1) := by decide +kernel
theorem dX7_layTorques_227 : decode cX7_layTorques 227 = .ok (.iadd, 1) := by decide +kernel
theorem dX7_layTorques_228 : decode cX7_layTorques 228 = .ok (.ldc2_w 112, 3) := by decide +kernel
theorem dX7_layTorques_231 : decode cX7_layTorques 231 = .ok (.lastore, 1) := by decide +kernel
theorem dX7_layTorques_232 : decode cX7_layTorques 232 = .ok (.iinc 1 1, 3) := by decide +kernel
theorem dX7_layTorques_235 : decode cX7_layTorques 235 = .ok (.goto (-87), 3) := by decide +kernel
theorem dX7_layTorques_238 : decode cX7_layTorques 238 = .ok (.aload_n 0, 1) := by decide +kernel
theorem dX7_layTorques_239 : decode cX7_layTorques 239 = .ok (.invokevirtual 114, 3) := by decide +kernel
theorem dX7_layTorques_242 : decode cX7_layTorques 242 = .ok (.return_, 1) := by decide +kernel
theorem dX7_outputTorque_0 : decode cX7_outputTorque 0 = .ok (.aload_n 0, 1) := by decide +kernel
theorem dX7_outputTorque_1 : decode cX7_outputTorque 1 = .ok (.iload_n 1, 1) := by decide +kernel
theorem dX7_outputTorque_2 : decode cX7_outputTorque 2 = .ok (.invokestatic 131, 3) := by decide +kernel
theorem dX7_outputTorque_5 : decode cX7_outputTorque 5 = .ok (.ifCond .eq 7, 3) := by decide +kernel
theorem dX7_outputTorque_8 : decode cX7_outputTorque 8 = .ok (.iconst 0, 1) := by decide +kernel
theorem dX7_outputTorque_9 : decode cX7_outputTorque 9 = .ok (.goto 4, 3) := by decide +kernel
theorem dX7_outputTorque_12 : decode cX7_outputTorque 12 = .ok (.iconst 1, 1) := by decide +kernel
theorem dX7_outputTorque_13 : decode cX7_outputTorque 13 = .ok (.putfield 45, 3) := by decide +kernel
theorem dX7_outputTorque_16 : decode cX7_outputTorque 16 = .ok (.aload_n 0, 1) := by decide +kernel
theorem dX7_outputTorque_17 : decode cX7_outputTorque 17 = .ok (.getfield 45, 3) := by decide +kernel
theorem dX7_outputTorque_20 : decode cX7_outputTorque 20 = .ok (.ifCond .eq 5, 3) := by decide +kernel
theorem dX7_outputTorque_23 : decode cX7_outputTorque 23 = .ok (.lconst 0, 1) := by decide +kernel
theorem dX7_outputTorque_24 : decode cX7_outputTorque 24 = .ok (.lreturn, 1) := by decide +kernel
theorem dX7_outputTorque_25 : decode cX7_outputTorque 25 = .ok (.aload_n 0, 1) := by decide +kernel
theorem dX7_outputTorque_26 : decode cX7_outputTorque 26 = .ok (.invokevirtual 144, 3) := by decide +kernel
theorem dX7_outputTorque_29 : decode cX7_outputTorque 29 = .ok (.aload_n 0, 1) := by decide +kernel
theorem dX7_outputTorque_30 : decode cX7_outputTorque 30 = .ok (.aload_n 0, 1) := by decide +kernel
theorem dX7_outputTorque_31 : decode cX7_outputTorque 31 = .ok (.iconst 0, 1) := by decide +kernel
theorem dX7_outputTorque_32 : decode cX7_outputTorque 32 = .ok (.invokevirtual 120, 3) := by decide +kernel
theorem dX7_outputTorque_35 : decode cX7_outputTorque 35 = .ok (.ifCond .eq 7, 3) := by decide +kernel
theorem dX7_outputTorque_38 : decode cX7_outputTorque 38 = .ok (.iconst 0, 1) := by decide +kernel
theorem dX7_outputTorque_39 : decode cX7_outputTorque 39 = .ok (.goto 4, 3) := by decide +kernel
theorem dX7_outputTorque_42 : decode cX7_outputTorque 42 = .ok (.iconst 2, 1) := by decide +kernel
theorem dX7_outputTorque_43 : decode cX7_outputTorque 43 = .ok (.putfield 45, 3) := by decide +kernel
theorem dX7_outputTorque_46 : decode cX7_outputTorque 46 = .ok (.aload_n 0, 1) := by decide +kernel
theorem dX7_outputTorque_47 : decode cX7_outputTorque 47 = .ok (.getfield 45, 3) := by decide +kernel
theorem dX7_outputTorque_50 : decode cX7_outputTorque 50 = .ok (.ifCond .eq 7, 3) := by decide +kernel
theorem dX7_outputTorque_53 : decode cX7_outputTorque 53 = .ok (.lconst 0, 1) := by decide +kernel
theorem dX7_outputTorque_54 : decode cX7_outputTorque 54 = .ok (.goto 17, 3) := by decide +kernel
theorem dX7_outputTorque_57 : decode cX7_outputTorque 57 = .ok (.aload_n 0, 1) := by decide +kernel
theorem dX7_outputTorque_58 : decode cX7_outputTorque 58 = .ok (.iconst 0, 1) := by decide +kernel
theorem dX7_outputTorque_59 : decode cX7_outputTorque 59 = .ok (.invokevirtual 123, 3) := by decide +kernel
theorem dX7_outputTorque_62 : decode cX7_outputTorque 62 = .ok (.aload_n 0, 1) := by decide +kernel
theorem dX7_outputTorque_63 : decode cX7_outputTorque 63 = .ok (.iconst 0, 1) := by decide +kernel
theorem dX7_outputTorque_64 : decode cX7_outputTorque 64 = .ok (.invokevirtual 134, 3) := by decide +kernel
theorem dX7_outputTorque_67 : decode cX7_outputTorque 67 = .ok (.iload_n 1, 1) := by decide +kernel
theorem dX7_outputTorque_68 : decode cX7_outputTorque 68 = .ok (.invokestatic 137, 3) := by decide +kernel
theorem dX7_outputTorque_71 : decode cX7_outputTorque 71 = .ok (.lreturn, 1) := by decide +kernel
theorem dX7_torque_0 : decode cX7_torque 0 = .ok (.aload_n 0, 1) := by decide +kernel
theorem dX7_torque_1 : decode cX7_torque 1 = .ok (.aload_n 0, 1) := by decide +kernel
theorem dX7_torque_2 : decode cX7_torque 2 = .ok (.iload_n 1, 1) := by decide +kernel
theorem dX7_torque_3 : decode cX7_torque 3 = .ok (.invokevirtual 61, 3) := by decide +kernel
theorem dX7_torque_6 : decode cX7_torque 6 = .ok (.ifCond .ne 7, 3) := by decide +kernel
theorem dX7_torque_9 : decode cX7_torque 9 = .ok (.iconst 1, 1) := by decide +kernel
theorem dX7_torque_10 : decode cX7_torque 10 = .ok (.goto 33, 3) := by decide +kernel
theorem dX7_torque_13 : decode cX7_torque 13 = .ok (.iload_n 2, 1) := by decide +kernel
theorem dX7_torque_14 : decode cX7_torque 14 = .ok (.invokestatic 131, 3) := by decide +kernel
theorem dX7_torque_17 : decode cX7_torque 17 = .ok (.ifCond .ne 7, 3) := by decide +kernel
theorem dX7_torque_20 : decode cX7_torque 20 = .ok (.iconst 2, 1) := by decide +kernel
theorem dX7_torque_21 : decode cX7_torque 21 = .ok (.goto 22, 3) := by decide +kernel
theorem dX7_torque_24 : decode cX7_torque 24 = .ok (.aload_n 0, 1) := by decide +kernel
theorem dX7_torque_25 : decode cX7_torque 25 = .ok (.getfield 7, 3) := by decide +kernel
theorem dX7_torque_28 : decode cX7_torque 28 = .ok (.bipush 35, 2) := by decide +kernel
theorem dX7_torque_30 : decode cX7_torque 30 = .ok (.iaload, 1) := by decide +kernel
theorem dX7_torque_31 : decode cX7_torque 31 = .ok (.iload_n 1, 1) := by decide +kernel
theorem dX7_torque_32 : decode cX7_torque 32 = .ok (.invokestatic 73, 3) := by decide +kernel
theorem dX7_torque_35 : decode cX7_torque 35 = .ok (.ifCond .ne 7, 3) := by decide +kernel
theorem dX7_torque_38 : decode cX7_torque 38 = .ok (.iconst 3, 1) := by decide +kernel
theorem dX7_torque_39 : decode cX7_torque 39 = .ok (.goto 4, 3) := by decide +kernel
theorem dX7_torque_42 : decode cX7_torque 42 = .ok (.iconst 0, 1) := by decide +kernel
theorem dX7_torque_43 : decode cX7_torque 43 = .ok (.putfield 45, 3) := by decide +kernel
theorem dX7_torque_46 : decode cX7_torque 46 = .ok (.aload_n 0, 1) := by decide +kernel
theorem dX7_torque_47 : decode cX7_torque 47 = .ok (.getfield 45, 3) := by decide +kernel
theorem dX7_torque_50 : decode cX7_torque 50 = .ok (.ifCond .eq 5, 3) := by decide +kernel
theorem dX7_torque_53 : decode cX7_torque 53 = .ok (.lconst 0, 1) := by decide +kernel
theorem dX7_torque_54 : decode cX7_torque 54 = .ok (.lreturn, 1) := by decide +kernel
theorem dX7_torque_55 : decode cX7_torque 55 = .ok (.aload_n 0, 1) := by decide +kernel
theorem dX7_torque_56 : decode cX7_torque 56 = .ok (.invokevirtual 144, 3) := by decide +kernel
theorem dX7_torque_59 : decode cX7_torque 59 = .ok (.aload_n 0, 1) := by decide +kernel
theorem dX7_torque_60 : decode cX7_torque 60 = .ok (.aload_n 0, 1) := by decide +kernel
theorem dX7_torque_61 : decode cX7_torque 61 = .ok (.iconst 4, 1) := by decide +kernel
theorem dX7_torque_62 : decode cX7_torque 62 = .ok (.iload_n 1, 1) := by decide +kernel
theorem dX7_torque_63 : decode cX7_torque 63 = .ok (.iadd, 1) := by decide +kernel
theorem dX7_torque_64 : decode cX7_torque 64 = .ok (.invokevirtual 120, 3) := by decide +kernel
theorem dX7_torque_67 : decode cX7_torque 67 = .ok (.ifCond .eq 7, 3) := by decide +kernel
theorem dX7_torque_70 : decode cX7_torque 70 = .ok (.iconst 0, 1) := by decide +kernel
theorem dX7_torque_71 : decode cX7_torque 71 = .ok (.goto 4, 3) := by decide +kernel
theorem dX7_torque_74 : decode cX7_torque 74 = .ok (.iconst 3, 1) := by decide +kernel
theorem dX7_torque_75 : decode cX7_torque 75 = .ok (.putfield 45, 3) := by decide +kernel
theorem dX7_torque_78 : decode cX7_torque 78 = .ok (.aload_n 0, 1) := by decide +kernel
theorem dX7_torque_79 : decode cX7_torque 79 = .ok (.getfield 45, 3) := by decide +kernel
theorem dX7_torque_82 : decode cX7_torque 82 = .ok (.ifCond .eq 7, 3) := by decide +kernel
theorem dX7_torque_85 : decode cX7_torque 85 = .ok (.lconst 0, 1) := by decide +kernel
theorem dX7_torque_86 : decode cX7_torque 86 = .ok (.goto 21, 3) := by decide +kernel
theorem dX7_torque_89 : decode cX7_torque 89 = .ok (.aload_n 0, 1) := by decide +kernel
theorem dX7_torque_90 : decode cX7_torque 90 = .ok (.iconst 4, 1) := by decide +kernel
theorem dX7_torque_91 : decode cX7_torque 91 = .ok (.iload_n 1, 1) := by decide +kernel
theorem dX7_torque_92 : decode cX7_torque 92 = .ok (.iadd, 1) := by decide +kernel
theorem dX7_torque_93 : decode cX7_torque 93 = .ok (.invokevirtual 123, 3) := by decide +kernel
theorem dX7_torque_96 : decode cX7_torque 96 = .ok (.aload_n 0, 1) := by decide +kernel
theorem dX7_torque_97 : decode cX7_torque 97 = .ok (.iconst 4, 1) := by decide +kernel
theorem dX7_torque_98 : decode cX7_torque 98 = .ok (.iload_n 1, 1) := by decide +kernel
theorem dX7_torque_99 : decode cX7_torque 99 = .ok (.iadd, 1) := by decide +kernel
theorem dX7_torque_100 : decode cX7_torque 100 = .ok (.invokevirtual 134, 3) := by decide +kernel
theorem dX7_torque_103 : decode cX7_torque 103 = .ok (.iload_n 2, 1) := by decide +kernel
theorem dX7_torque_104 : decode cX7_torque 104 = .ok (.invokestatic 137, 3) := by decide +kernel
theorem dX7_torque_107 : decode cX7_torque 107 = .ok (.lreturn, 1) := by decide +kernel
theorem dX7_slips_0 : decode cX7_slips 0 = .ok (.iconst 0, 1) := by decide +kernel
theorem dX7_slips_1 : decode cX7_slips 1 = .ok (.istore_n 2, 1) := by decide +kernel
theorem dX7_slips_2 : decode cX7_slips 2 = .ok (.iconst 0, 1) := by decide +kernel
theorem dX7_slips_3 : decode cX7_slips 3 = .ok (.istore_n 3, 1) := by decide +kernel
theorem dX7_slips_4 : decode cX7_slips 4 = .ok (.iload_n 3, 1) := by decide +kernel
theorem dX7_slips_5 : decode cX7_slips 5 = .ok (.aload_n 0, 1) := by decide +kernel
theorem dX7_slips_6 : decode cX7_slips 6 = .ok (.getfield 7, 3) := by decide +kernel
theorem dX7_slips_9 : decode cX7_slips 9 = .ok (.bipush 34, 2) := by decide +kernel
theorem dX7_slips_11 : decode cX7_slips 11 = .ok (.iaload, 1) := by decide +kernel
theorem dX7_slips_12 : decode cX7_slips 12 = .ok (.if_icmp .ge 102, 3) := by decide +kernel
theorem dX7_slips_15 : decode cX7_slips 15 = .ok (.aload_n 0, 1) := by decide +kernel
theorem dX7_slips_16 : decode cX7_slips 16 = .ok (.getfield 7, 3) := by decide +kernel
theorem dX7_slips_19 : decode cX7_slips 19 = .ok (.bipush 35, 2) := by decide +kernel
theorem dX7_slips_21 : decode cX7_slips 21 = .ok (.iaload, 1) := by decide +kernel
theorem dX7_slips_22 : decode cX7_slips 22 = .ok (.iload_n 3, 1) := by decide +kernel
theorem dX7_slips_23 : decode cX7_slips 23 = .ok (.invokestatic 73, 3) := by decide +kernel
theorem dX7_slips_26 : decode cX7_slips 26 = .ok (.ifCond .eq 82, 3) := by decide +kernel
theorem dX7_slips_29 : decode cX7_slips 29 = .ok (.aload_n 0, 1) := by decide +kernel
theorem dX7_slips_30 : decode cX7_slips 30 = .ok (.iconst 4, 1) := by decide +kernel
theorem dX7_slips_31 : decode cX7_slips 31 = .ok (.iload_n 3, 1) := by decide +kernel
theorem dX7_slips_32 : decode cX7_slips 32 = .ok (.iadd, 1) := by decide +kernel
theorem dX7_slips_33 : decode cX7_slips 33 = .ok (.invokevirtual 120, 3) := by decide +kernel
theorem dX7_slips_36 : decode cX7_slips 36 = .ok (.ifCond .eq 72, 3) := by decide +kernel
theorem dX7_slips_39 : decode cX7_slips 39 = .ok (.aload_n 0, 1) := by decide +kernel
theorem dX7_slips_40 : decode cX7_slips 40 = .ok (.iconst 4, 1) := by decide +kernel
theorem dX7_slips_41 : decode cX7_slips 41 = .ok (.iload_n 3, 1) := by decide +kernel
theorem dX7_slips_42 : decode cX7_slips 42 = .ok (.iadd, 1) := by decide +kernel
theorem dX7_slips_43 : decode cX7_slips 43 = .ok (.invokevirtual 123, 3) := by decide +kernel
theorem dX7_slips_46 : decode cX7_slips 46 = .ok (.lconst 0, 1) := by decide +kernel
theorem dX7_slips_47 : decode cX7_slips 47 = .ok (.lcmp, 1) := by decide +kernel
theorem dX7_slips_48 : decode cX7_slips 48 = .ok (.ifCond .ge 14, 3) := by decide +kernel
theorem dX7_slips_51 : decode cX7_slips 51 = .ok (.aload_n 0, 1) := by decide +kernel
theorem dX7_slips_52 : decode cX7_slips 52 = .ok (.iconst 4, 1) := by decide +kernel
theorem dX7_slips_53 : decode cX7_slips 53 = .ok (.iload_n 3, 1) := by decide +kernel
theorem dX7_slips_54 : decode cX7_slips 54 = .ok (.iadd, 1) := by decide +kernel
theorem dX7_slips_55 : decode cX7_slips 55 = .ok (.invokevirtual 123, 3) := by decide +kernel
theorem dX7_slips_58 : decode cX7_slips 58 = .ok (.lneg, 1) := by decide +kernel
theorem dX7_slips_59 : decode cX7_slips 59 = .ok (.goto 10, 3) := by decide +kernel
theorem dX7_slips_62 : decode cX7_slips 62 = .ok (.aload_n 0, 1) := by decide +kernel
theorem dX7_slips_63 : decode cX7_slips 63 = .ok (.iconst 4, 1) := by decide +kernel
theorem dX7_slips_64 : decode cX7_slips 64 = .ok (.iload_n 3, 1) := by decide +kernel
theorem dX7_slips_65 : decode cX7_slips 65 = .ok (.iadd, 1) := by decide +kernel
theorem dX7_slips_66 : decode cX7_slips 66 = .ok (.invokevirtual 123, 3) := by decide +kernel
theorem dX7_slips_69 : decode cX7_slips 69 = .ok (.lstore 4, 2) := by decide +kernel
theorem dX7_slips_71 : decode cX7_slips 71 = .ok (.iload_n 2, 1) := by decide +kernel
theorem dX7_slips_72 : decode cX7_slips 72 = .ok (.iload_n 1, 1) := by decide +kernel
theorem dX7_slips_73 : decode cX7_slips 73 = .ok (.i2l, 1) := by decide +kernel
theorem dX7_slips_74 : decode cX7_slips 74 = .ok (.lload 4, 2) := by decide +kernel
theorem dX7_slips_76 : decode cX7_slips 76 = .ok (.lmul, 1) := by decide +kernel
theorem dX7_slips_77 : decode cX7_slips 77 = .ok (.aload_n 0, 1) := by decide +kernel
theorem dX7_slips_78 : decode cX7_slips 78 = .ok (.getfield 7, 3) := by decide +kernel
theorem dX7_slips_81 : decode cX7_slips 81 = .ok (.bipush 27, 2) := by decide +kernel
theorem dX7_slips_83 : decode cX7_slips 83 = .ok (.iload_n 3, 1) := by decide +kernel
theorem dX7_slips_84 : decode cX7_slips 84 = .ok (.iadd, 1) := by decide +kernel
theorem dX7_slips_85 : decode cX7_slips 85 = .ok (.iaload, 1) := by decide +kernel
theorem dX7_slips_86 : decode cX7_slips 86 = .ok (.i2l, 1) := by decide +kernel
theorem dX7_slips_87 : decode cX7_slips 87 = .ok (.aload_n 0, 1) := by decide +kernel
theorem dX7_slips_88 : decode cX7_slips 88 = .ok (.iconst 4, 1) := by decide +kernel
theorem dX7_slips_89 : decode cX7_slips 89 = .ok (.iload_n 3, 1) := by decide +kernel
theorem dX7_slips_90 : decode cX7_slips 90 = .ok (.iadd, 1) := by decide +kernel
theorem dX7_slips_91 : decode cX7_slips 91 = .ok (.invokevirtual 134, 3) := by decide +kernel
theorem dX7_slips_94 : decode cX7_slips 94 = .ok (.lmul, 1) := by decide +kernel
theorem dX7_slips_95 : decode cX7_slips 95 = .ok (.lcmp, 1) := by decide +kernel
theorem dX7_slips_96 : decode cX7_slips 96 = .ok (.ifCond .le 9, 3) := by decide +kernel
theorem dX7_slips_99 : decode cX7_slips 99 = .ok (.iconst 1, 1) := by decide +kernel
theorem dX7_slips_100 : decode cX7_slips 100 = .ok (.iload_n 3, 1) := by decide +kernel
theorem dX7_slips_101 : decode cX7_slips 101 = .ok (.ishl, 1) := by decide +kernel
theorem dX7_slips_102 : decode cX7_slips 102 = .ok (.goto 4, 3) := by decide +kernel
theorem dX7_slips_105 : decode cX7_slips 105 = .ok (.iconst 0, 1) := by decide +kernel
theorem dX7_slips_106 : decode cX7_slips 106 = .ok (.ior, 1) := by decide +kernel
theorem dX7_slips_107 : decode cX7_slips 107 = .ok (.istore_n 2, 1) := by decide +kernel
theorem dX7_slips_108 : decode cX7_slips 108 = .ok (.iinc 3 1, 3) := by decide +kernel
theorem dX7_slips_111 : decode cX7_slips 111 = .ok (.goto (-107), 3) := by decide +kernel
theorem dX7_slips_114 : decode cX7_slips 114 = .ok (.iload_n 2, 1) := by decide +kernel
theorem dX7_slips_115 : decode cX7_slips 115 = .ok (.ireturn, 1) := by decide +kernel
theorem dX7_slipping_0 : decode cX7_slipping 0 = .ok (.aload_n 0, 1) := by decide +kernel
theorem dX7_slipping_1 : decode cX7_slipping 1 = .ok (.iload_n 1, 1) := by decide +kernel
theorem dX7_slipping_2 : decode cX7_slipping 2 = .ok (.iconst 1, 1) := by decide +kernel
theorem dX7_slipping_3 : decode cX7_slipping 3 = .ok (.sipush 10000, 3) := by decide +kernel
theorem dX7_slipping_6 : decode cX7_slipping 6 = .ok (.invokestatic 49, 3) := by decide +kernel
theorem dX7_slipping_9 : decode cX7_slipping 9 = .ok (.ifCond .eq 7, 3) := by decide +kernel
theorem dX7_slipping_12 : decode cX7_slipping 12 = .ok (.iconst 0, 1) := by decide +kernel
theorem dX7_slipping_13 : decode cX7_slipping 13 = .ok (.goto 4, 3) := by decide +kernel
theorem dX7_slipping_16 : decode cX7_slipping 16 = .ok (.iconst 1, 1) := by decide +kernel
theorem dX7_slipping_17 : decode cX7_slipping 17 = .ok (.putfield 45, 3) := by decide +kernel
theorem dX7_slipping_20 : decode cX7_slipping 20 = .ok (.aload_n 0, 1) := by decide +kernel
theorem dX7_slipping_21 : decode cX7_slipping 21 = .ok (.getfield 45, 3) := by decide +kernel
theorem dX7_slipping_24 : decode cX7_slipping 24 = .ok (.ifCond .eq 5, 3) := by decide +kernel
theorem dX7_slipping_27 : decode cX7_slipping 27 = .ok (.iconst 0, 1) := by decide +kernel
theorem dX7_slipping_28 : decode cX7_slipping 28 = .ok (.ireturn, 1) := by decide +kernel
theorem dX7_slipping_29 : decode cX7_slipping 29 = .ok (.aload_n 0, 1) := by decide +kernel
theorem dX7_slipping_30 : decode cX7_slipping 30 = .ok (.invokevirtual 144, 3) := by decide +kernel
theorem dX7_slipping_33 : decode cX7_slipping 33 = .ok (.aload_n 0, 1) := by decide +kernel
theorem dX7_slipping_34 : decode cX7_slipping 34 = .ok (.iload_n 1, 1) := by decide +kernel
theorem dX7_slipping_35 : decode cX7_slipping 35 = .ok (.invokevirtual 147, 3) := by decide +kernel
theorem dX7_slipping_38 : decode cX7_slipping 38 = .ok (.ireturn, 1) := by decide +kernel
theorem dX7_greatestTorque_0 : decode cX7_greatestTorque 0 = .ok (.aload_n 0, 1) := by decide +kernel
theorem dX7_greatestTorque_1 : decode cX7_greatestTorque 1 = .ok (.aload_n 0, 1) := by decide +kernel
theorem dX7_greatestTorque_2 : decode cX7_greatestTorque 2 = .ok (.aload_n 0, 1) := by decide +kernel
theorem dX7_greatestTorque_3 : decode cX7_greatestTorque 3 = .ok (.getfield 7, 3) := by decide +kernel
theorem dX7_greatestTorque_6 : decode cX7_greatestTorque 6 = .ok (.bipush 35, 2) := by decide +kernel
theorem dX7_greatestTorque_8 : decode cX7_greatestTorque 8 = .ok (.iaload, 1) := by decide +kernel
theorem dX7_greatestTorque_9 : decode cX7_greatestTorque 9 = .ok (.invokevirtual 127, 3) := by decide +kernel
theorem dX7_greatestTorque_12 : decode cX7_greatestTorque 12 = .ok (.ifCond .ne 7, 3) := by decide +kernel
theorem dX7_greatestTorque_15 : decode cX7_greatestTorque 15 = .ok (.iconst 0, 1) := by decide +kernel
theorem dX7_greatestTorque_16 : decode cX7_greatestTorque 16 = .ok (.goto 4, 3) := by decide +kernel
theorem dX7_greatestTorque_19 : decode cX7_greatestTorque 19 = .ok (.iconst 1, 1) := by decide +kernel
theorem dX7_greatestTorque_20 : decode cX7_greatestTorque 20 = .ok (.putfield 45, 3) := by decide +kernel
theorem dX7_greatestTorque_23 : decode cX7_greatestTorque 23 = .ok (.aload_n 0, 1) := by decide +kernel
theorem dX7_greatestTorque_24 : decode cX7_greatestTorque 24 = .ok (.getfield 45, 3) := by decide +kernel
theorem dX7_greatestTorque_27 : decode cX7_greatestTorque 27 = .ok (.ifCond .eq 5, 3) := by decide +kernel
theorem dX7_greatestTorque_30 : decode cX7_greatestTorque 30 = .ok (.iconst 0, 1) := by decide +kernel
theorem dX7_greatestTorque_31 : decode cX7_greatestTorque 31 = .ok (.ireturn, 1) := by decide +kernel
theorem dX7_greatestTorque_32 : decode cX7_greatestTorque 32 = .ok (.aload_n 0, 1) := by decide +kernel
theorem dX7_greatestTorque_33 : decode cX7_greatestTorque 33 = .ok (.invokevirtual 144, 3) := by decide +kernel
theorem dX7_greatestTorque_36 : decode cX7_greatestTorque 36 = .ok (.sipush 10000, 3) := by decide +kernel
theorem dX7_greatestTorque_39 : decode cX7_greatestTorque 39 = .ok (.istore_n 1, 1) := by decide +kernel
theorem dX7_greatestTorque_40 : decode cX7_greatestTorque 40 = .ok (.iload_n 1, 1) := by decide +kernel
theorem dX7_greatestTorque_41 : decode cX7_greatestTorque 41 = .ok (.ifCond .le 17, 3) := by decide +kernel
theorem dX7_greatestTorque_44 : decode cX7_greatestTorque 44 = .ok (.aload_n 0, 1) := by decide +kernel
theorem dX7_greatestTorque_45 : decode cX7_greatestTorque 45 = .ok (.iload_n 1, 1) := by decide +kernel
theorem dX7_greatestTorque_46 : decode cX7_greatestTorque 46 = .ok (.invokevirtual 147, 3) := by decide +kernel
theorem dX7_greatestTorque_49 : decode cX7_greatestTorque 49 = .ok (.ifCond .eq 9, 3) := by decide +kernel
theorem dX7_greatestTorque_52 : decode cX7_greatestTorque 52 = .ok (.iinc 1 (-1), 3) := by decide +kernel
theorem dX7_greatestTorque_55 : decode cX7_greatestTorque 55 = .ok (.goto (-15), 3) := by decide +kernel
theorem dX7_greatestTorque_58 : decode cX7_greatestTorque 58 = .ok (.iload_n 1, 1) := by decide +kernel
theorem dX7_greatestTorque_59 : decode cX7_greatestTorque 59 = .ok (.ireturn, 1) := by decide +kernel
theorem dX7_isGear_0 : decode cX7_isGear 0 = .ok (.aload_n 0, 1) := by decide +kernel
theorem dX7_isGear_1 : decode cX7_isGear 1 = .ok (.getfield 30, 3) := by decide +kernel
theorem dX7_isGear_4 : decode cX7_isGear 4 = .ok (.iload_n 1, 1) := by decide +kernel
theorem dX7_isGear_5 : decode cX7_isGear 5 = .ok (.iaload, 1) := by decide +kernel
theorem dX7_isGear_6 : decode cX7_isGear 6 = .ok (.ifCond .ne 7, 3) := by decide +kernel
theorem dX7_isGear_9 : decode cX7_isGear 9 = .ok (.iconst 1, 1) := by decide +kernel
theorem dX7_isGear_10 : decode cX7_isGear 10 = .ok (.goto 4, 3) := by decide +kernel
theorem dX7_isGear_13 : decode cX7_isGear 13 = .ok (.iconst 0, 1) := by decide +kernel
theorem dX7_isGear_14 : decode cX7_isGear 14 = .ok (.istore_n 2, 1) := by decide +kernel
theorem dX7_isGear_15 : decode cX7_isGear 15 = .ok (.iconst 0, 1) := by decide +kernel
theorem dX7_isGear_16 : decode cX7_isGear 16 = .ok (.istore_n 3, 1) := by decide +kernel
theorem dX7_isGear_17 : decode cX7_isGear 17 = .ok (.iload_n 3, 1) := by decide +kernel
theorem dX7_isGear_18 : decode cX7_isGear 18 = .ok (.iload_n 1, 1) := by decide +kernel
theorem dX7_isGear_19 : decode cX7_isGear 19 = .ok (.if_icmp .ge 37, 3) := by decide +kernel
theorem dX7_isGear_22 : decode cX7_isGear 22 = .ok (.iload_n 2, 1) := by decide +kernel
theorem dX7_isGear_23 : decode cX7_isGear 23 = .ok (.ifCond .eq 25, 3) := by decide +kernel
theorem dX7_isGear_26 : decode cX7_isGear 26 = .ok (.iload_n 3, 1) := by decide +kernel
theorem dX7_isGear_27 : decode cX7_isGear 27 = .ok (.iload_n 1, 1) := by decide +kernel
theorem dX7_isGear_28 : decode cX7_isGear 28 = .ok (.iconst (-1), 1) := by decide +kernel
theorem dX7_isGear_29 : decode cX7_isGear 29 = .ok (.ixor, 1) := by decide +kernel
theorem dX7_isGear_30 : decode cX7_isGear 30 = .ok (.iand, 1) := by decide +kernel
theorem dX7_isGear_31 : decode cX7_isGear 31 = .ok (.ifCond .ne 13, 3) := by decide +kernel
theorem dX7_isGear_34 : decode cX7_isGear 34 = .ok (.aload_n 0, 1) := by decide +kernel
theorem dX7_isGear_35 : decode cX7_isGear 35 = .ok (.getfield 30, 3) := by decide +kernel
theorem dX7_isGear_38 : decode cX7_isGear 38 = .ok (.iload_n 3, 1) := by decide +kernel
theorem dX7_isGear_39 : decode cX7_isGear 39 = .ok (.iaload, 1) := by decide +kernel
theorem dX7_isGear_40 : decode cX7_isGear 40 = .ok (.iconst 2, 1) := by decide +kernel
theorem dX7_isGear_41 : decode cX7_isGear 41 = .ok (.if_icmp .ne 7, 3) := by decide +kernel
theorem dX7_isGear_44 : decode cX7_isGear 44 = .ok (.iconst 1, 1) := by decide +kernel
theorem dX7_isGear_45 : decode cX7_isGear 45 = .ok (.goto 4, 3) := by decide +kernel
theorem dX7_isGear_48 : decode cX7_isGear 48 = .ok (.iconst 0, 1) := by decide +kernel
theorem dX7_isGear_49 : decode cX7_isGear 49 = .ok (.istore_n 2, 1) := by decide +kernel
theorem dX7_isGear_50 : decode cX7_isGear 50 = .ok (.iinc 3 1, 3) := by decide +kernel
theorem dX7_isGear_53 : decode cX7_isGear 53 = .ok (.goto (-36), 3) := by decide +kernel
theorem dX7_isGear_56 : decode cX7_isGear 56 = .ok (.iload_n 2, 1) := by decide +kernel
theorem dX7_isGear_57 : decode cX7_isGear 57 = .ok (.ireturn, 1) := by decide +kernel
theorem dX7_layGears_0 : decode cX7_layGears 0 = .ok (.iconst 1, 1) := by decide +kernel
theorem dX7_layGears_1 : decode cX7_layGears 1 = .ok (.aload_n 0, 1) := by decide +kernel
theorem dX7_layGears_2 : decode cX7_layGears 2 = .ok (.getfield 7, 3) := by decide +kernel
theorem dX7_layGears_5 : decode cX7_layGears 5 = .ok (.bipush 34, 2) := by decide +kernel
theorem dX7_layGears_7 : decode cX7_layGears 7 = .ok (.iaload, 1) := by decide +kernel
theorem dX7_layGears_8 : decode cX7_layGears 8 = .ok (.ishl, 1) := by decide +kernel
theorem dX7_layGears_9 : decode cX7_layGears 9 = .ok (.istore_n 1, 1) := by decide +kernel
theorem dX7_layGears_10 : decode cX7_layGears 10 = .ok (.iconst 0, 1) := by decide +kernel
theorem dX7_layGears_11 : decode cX7_layGears 11 = .ok (.istore_n 2, 1) := by decide +kernel
theorem dX7_layGears_12 : decode cX7_layGears 12 = .ok (.iload_n 2, 1) := by decide +kernel
theorem dX7_layGears_13 : decode cX7_layGears 13 = .ok (.iload_n 1, 1) := by decide +kernel
theorem dX7_layGears_14 : decode cX7_layGears 14 = .ok (.if_icmp .ge 20, 3) := by decide +kernel
theorem dX7_layGears_17 : decode cX7_layGears 17 = .ok (.aload_n 0, 1) := by decide +kernel
theorem dX7_layGears_18 : decode cX7_layGears 18 = .ok (.getfield 30, 3) := by decide +kernel
theorem dX7_layGears_21 : decode cX7_layGears 21 = .ok (.iload_n 2, 1) := by decide +kernel
theorem dX7_layGears_22 : decode cX7_layGears 22 = .ok (.aload_n 0, 1) := by decide +kernel
theorem dX7_layGears_23 : decode cX7_layGears 23 = .ok (.iload_n 2, 1) := by decide +kernel
theorem dX7_layGears_24 : decode cX7_layGears 24 = .ok (.invokevirtual 127, 3) := by decide +kernel
theorem dX7_layGears_27 : decode cX7_layGears 27 = .ok (.iastore, 1) := by decide +kernel
theorem dX7_layGears_28 : decode cX7_layGears 28 = .ok (.iinc 2 1, 3) := by decide +kernel
theorem dX7_layGears_31 : decode cX7_layGears 31 = .ok (.goto (-19), 3) := by decide +kernel
theorem dX7_layGears_34 : decode cX7_layGears 34 = .ok (.aload_n 0, 1) := by decide +kernel
theorem dX7_layGears_35 : decode cX7_layGears 35 = .ok (.iconst 0, 1) := by decide +kernel
theorem dX7_layGears_36 : decode cX7_layGears 36 = .ok (.putfield 67, 3) := by decide +kernel
theorem dX7_layGears_39 : decode cX7_layGears 39 = .ok (.iconst 0, 1) := by decide +kernel
theorem dX7_layGears_40 : decode cX7_layGears 40 = .ok (.istore_n 2, 1) := by decide +kernel
theorem dX7_layGears_41 : decode cX7_layGears 41 = .ok (.iload_n 2, 1) := by decide +kernel
theorem dX7_layGears_42 : decode cX7_layGears 42 = .ok (.iload_n 1, 1) := by decide +kernel
theorem dX7_layGears_43 : decode cX7_layGears 43 = .ok (.if_icmp .ge 162, 3) := by decide +kernel
theorem dX7_layGears_46 : decode cX7_layGears 46 = .ok (.aload_n 0, 1) := by decide +kernel
theorem dX7_layGears_47 : decode cX7_layGears 47 = .ok (.iload_n 2, 1) := by decide +kernel
theorem dX7_layGears_48 : decode cX7_layGears 48 = .ok (.invokevirtual 150, 3) := by decide +kernel
theorem dX7_layGears_51 : decode cX7_layGears 51 = .ok (.ifCond .eq 148, 3) := by decide +kernel
theorem dX7_layGears_54 : decode cX7_layGears 54 = .ok (.aload_n 0, 1) := by decide +kernel
theorem dX7_layGears_55 : decode cX7_layGears 55 = .ok (.iload_n 2, 1) := by decide +kernel
theorem dX7_layGears_56 : decode cX7_layGears 56 = .ok (.invokevirtual 117, 3) := by decide +kernel
theorem dX7_layGears_59 : decode cX7_layGears 59 = .ok (.aload_n 0, 1) := by decide +kernel
theorem dX7_layGears_60 : decode cX7_layGears 60 = .ok (.iconst 0, 1) := by decide +kernel
theorem dX7_layGears_61 : decode cX7_layGears 61 = .ok (.invokevirtual 141, 3) := by decide +kernel
theorem dX7_layGears_64 : decode cX7_layGears 64 = .ok (.lstore_n 3, 1) := by decide +kernel
theorem dX7_layGears_65 : decode cX7_layGears 65 = .ok (.aload_n 0, 1) := by decide +kernel
theorem dX7_layGears_66 : decode cX7_layGears 66 = .ok (.iconst 1, 1) := by decide +kernel
theorem dX7_layGears_67 : decode cX7_layGears 67 = .ok (.invokevirtual 141, 3) := by decide +kernel
theorem dX7_layGears_70 : decode cX7_layGears 70 = .ok (.lstore 5, 2) := by decide +kernel
theorem dX7_layGears_72 : decode cX7_layGears 72 = .ok (.aload_n 0, 1) := by decide +kernel
theorem dX7_layGears_73 : decode cX7_layGears 73 = .ok (.getfield 67, 3) := by decide +kernel
theorem dX7_layGears_76 : decode cX7_layGears 76 = .ok (.istore 7, 2) := by decide +kernel
theorem dX7_layGears_78 : decode cX7_layGears 78 = .ok (.iload 7, 2) := by decide +kernel
theorem dX7_layGears_80 : decode cX7_layGears 80 = .ok (.ifCond .le 84, 3) := by decide +kernel
theorem dX7_layGears_83 : decode cX7_layGears 83 = .ok (.lload_n 3, 1) := by decide +kernel
theorem dX7_layGears_84 : decode cX7_layGears 84 = .ok (.aload_n 0, 1) := by decide +kernel
theorem dX7_layGears_85 : decode cX7_layGears 85 = .ok (.getfield 39, 3) := by decide +kernel
theorem dX7_layGears_88 : decode cX7_layGears 88 = .ok (.iload 7, 2) := by decide +kernel
theorem dX7_layGears_90 : decode cX7_layGears 90 = .ok (.iconst 1, 1) := by decide +kernel
theorem dX7_layGears_91 : decode cX7_layGears 91 = .ok (.isub, 1) := by decide +kernel
theorem dX7_layGears_92 : decode cX7_layGears 92 = .ok (.laload, 1) := by decide +kernel
theorem dX7_layGears_93 : decode cX7_layGears 93 = .ok (.lmul, 1) := by decide +kernel
theorem dX7_layGears_94 : decode cX7_layGears 94 = .ok (.aload_n 0, 1) := by decide +kernel
theorem dX7_layGears_95 : decode cX7_layGears 95 = .ok (.getfield 36, 3) := by decide +kernel
theorem dX7_layGears_98 : decode cX7_layGears 98 = .ok (.iload 7, 2) := by decide +kernel
theorem dX7_layGears_100 : decode cX7_layGears 100 = .ok (.iconst 1, 1) := by decide +kernel
theorem dX7_layGears_101 : decode cX7_layGears 101 = .ok (.isub, 1) := by decide +kernel
theorem dX7_layGears_102 : decode cX7_layGears 102 = .ok (.laload, 1) := by decide +kernel
theorem dX7_layGears_103 : decode cX7_layGears 103 = .ok (.lload 5, 2) := by decide +kernel
theorem dX7_layGears_105 : decode cX7_layGears 105 = .ok (.lmul, 1) := by decide +kernel
theorem dX7_layGears_106 : decode cX7_layGears 106 = .ok (.lcmp, 1) := by decide +kernel
theorem dX7_layGears_107 : decode cX7_layGears 107 = .ok (.ifCond .ge 57, 3) := by decide +kernel
theorem dX7_layGears_110 : decode cX7_layGears 110 = .ok (.aload_n 0, 1) := by decide +kernel
theorem dX7_layGears_111 : decode cX7_layGears 111 = .ok (.getfield 33, 3) := by decide +kernel
theorem dX7_layGears_114 : decode cX7_layGears 114 = .ok (.iload 7, 2) := by decide +kernel
theorem dX7_layGears_116 : decode cX7_layGears 116 = .ok (.aload_n 0, 1) := by decide +kernel
theorem dX7_layGears_117 : decode cX7_layGears 117 = .ok (.getfield 33, 3) := by decide +kernel
theorem dX7_layGears_120 : decode cX7_layGears 120 = .ok (.iload 7, 2) := by decide +kernel
theorem dX7_layGears_122 : decode cX7_layGears 122 = .ok (.iconst 1, 1) := by decide +kernel
theorem dX7_layGears_123 : decode cX7_layGears 123 = .ok (.isub, 1) := by decide +kernel
theorem dX7_layGears_124 : decode cX7_layGears 124 = .ok (.iaload, 1) := by decide +kernel
theorem dX7_layGears_125 : decode cX7_layGears 125 = .ok (.iastore, 1) := by decide +kernel
theorem dX7_layGears_126 : decode cX7_layGears 126 = .ok (.aload_n 0, 1) := by decide +kernel
theorem dX7_layGears_127 : decode cX7_layGears 127 = .ok (.getfield 36, 3) := by decide +kernel
theorem dX7_layGears_130 : decode cX7_layGears 130 = .ok (.iload 7, 2) := by decide +kernel
theorem dX7_layGears_132 : decode cX7_layGears 132 = .ok (.aload_n 0, 1) := by decide +kernel
theorem dX7_layGears_133 : decode cX7_layGears 133 = .ok (.getfield 36, 3) := by decide +kernel
theorem dX7_layGears_136 : decode cX7_layGears 136 = .ok (.iload 7, 2) := by decide +kernel
theorem dX7_layGears_138 : decode cX7_layGears 138 = .ok (.iconst 1, 1) := by decide +kernel
theorem dX7_layGears_139 : decode cX7_layGears 139 = .ok (.isub, 1) := by decide +kernel
theorem dX7_layGears_140 : decode cX7_layGears 140 = .ok (.laload, 1) := by decide +kernel
theorem dX7_layGears_141 : decode cX7_layGears 141 = .ok (.lastore, 1) := by decide +kernel
theorem dX7_layGears_142 : decode cX7_layGears 142 = .ok (.aload_n 0, 1) := by decide +kernel
theorem dX7_layGears_143 : decode cX7_layGears 143 = .ok (.getfield 39, 3) := by decide +kernel
theorem dX7_layGears_146 : decode cX7_layGears 146 = .ok (.iload 7, 2) := by decide +kernel
theorem dX7_layGears_148 : decode cX7_layGears 148 = .ok (.aload_n 0, 1) := by decide +kernel
theorem dX7_layGears_149 : decode cX7_layGears 149 = .ok (.getfield 39, 3) := by decide +kernel
theorem dX7_layGears_152 : decode cX7_layGears 152 = .ok (.iload 7, 2) := by decide +kernel
theorem dX7_layGears_154 : decode cX7_layGears 154 = .ok (.iconst 1, 1) := by decide +kernel
theorem dX7_layGears_155 : decode cX7_layGears 155 = .ok (.isub, 1) := by decide +kernel
theorem dX7_layGears_156 : decode cX7_layGears 156 = .ok (.laload, 1) := by decide +kernel
theorem dX7_layGears_157 : decode cX7_layGears 157 = .ok (.lastore, 1) := by decide +kernel
theorem dX7_layGears_158 : decode cX7_layGears 158 = .ok (.iinc 7 (-1), 3) := by decide +kernel
theorem dX7_layGears_161 : decode cX7_layGears 161 = .ok (.goto (-83), 3) := by decide +kernel
theorem dX7_layGears_164 : decode cX7_layGears 164 = .ok (.aload_n 0, 1) := by decide +kernel
theorem dX7_layGears_165 : decode cX7_layGears 165 = .ok (.getfield 33, 3) := by decide +kernel
theorem dX7_layGears_168 : decode cX7_layGears 168 = .ok (.iload 7, 2) := by decide +kernel
theorem dX7_layGears_170 : decode cX7_layGears 170 = .ok (.iload_n 2, 1) := by decide +kernel
theorem dX7_layGears_171 : decode cX7_layGears 171 = .ok (.iastore, 1) := by decide +kernel
theorem dX7_layGears_172 : decode cX7_layGears 172 = .ok (.aload_n 0, 1) := by decide +kernel
theorem dX7_layGears_173 : decode cX7_layGears 173 = .ok (.getfield 36, 3) := by decide +kernel
theorem dX7_layGears_176 : decode cX7_layGears 176 = .ok (.iload 7, 2) := by decide +kernel
theorem dX7_layGears_178 : decode cX7_layGears 178 = .ok (.lload_n 3, 1) := by decide +kernel
theorem dX7_layGears_179 : decode cX7_layGears 179 = .ok (.lastore, 1) := by decide +kernel
theorem dX7_layGears_180 : decode cX7_layGears 180 = .ok (.aload_n 0, 1) := by decide +kernel
theorem dX7_layGears_181 : decode cX7_layGears 181 = .ok (.getfield 39, 3) := by decide +kernel
theorem dX7_layGears_184 : decode cX7_layGears 184 = .ok (.iload 7, 2) := by decide +kernel
theorem dX7_layGears_186 : decode cX7_layGears 186 = .ok (.lload 5, 2) := by decide +kernel
theorem dX7_layGears_188 : decode cX7_layGears 188 = .ok (.lastore, 1) := by decide +kernel
theorem dX7_layGears_189 : decode cX7_layGears 189 = .ok (.aload_n 0, 1) := by decide +kernel
theorem dX7_layGears_190 : decode cX7_layGears 190 = .ok (.dup, 1) := by decide +kernel
theorem dX7_layGears_191 : decode cX7_layGears 191 = .ok (.getfield 67, 3) := by decide +kernel
theorem dX7_layGears_194 : decode cX7_layGears 194 = .ok (.iconst 1, 1) := by decide +kernel
theorem dX7_layGears_195 : decode cX7_layGears 195 = .ok (.iadd, 1) := by decide +kernel
theorem dX7_layGears_196 : decode cX7_layGears 196 = .ok (.putfield 67, 3) := by decide +kernel
theorem dX7_layGears_199 : decode cX7_layGears 199 = .ok (.iinc 2 1, 3) := by decide +kernel
theorem dX7_layGears_202 : decode cX7_layGears 202 = .ok (.goto (-161), 3) := by decide +kernel
theorem dX7_layGears_205 : decode cX7_layGears 205 = .ok (.return_, 1) := by decide +kernel
theorem dX7_isNumber_0 : decode cX7_isNumber 0 = .ok (.iload_n 1, 1) := by decide +kernel
theorem dX7_isNumber_1 : decode cX7_isNumber 1 = .ok (.iconst 0, 1) := by decide +kernel
theorem dX7_isNumber_2 : decode cX7_isNumber 2 = .ok (.aload_n 0, 1) := by decide +kernel
theorem dX7_isNumber_3 : decode cX7_isNumber 3 = .ok (.getfield 67, 3) := by decide +kernel
theorem dX7_isNumber_6 : decode cX7_isNumber 6 = .ok (.iconst 1, 1) := by decide +kernel
theorem dX7_isNumber_7 : decode cX7_isNumber 7 = .ok (.isub, 1) := by decide +kernel
theorem dX7_isNumber_8 : decode cX7_isNumber 8 = .ok (.invokestatic 49, 3) := by decide +kernel
theorem dX7_isNumber_11 : decode cX7_isNumber 11 = .ok (.ireturn, 1) := by decide +kernel
theorem dX7_gear_0 : decode cX7_gear 0 = .ok (.aload_n 0, 1) := by decide +kernel
theorem dX7_gear_1 : decode cX7_gear 1 = .ok (.invokevirtual 64, 3) := by decide +kernel
theorem dX7_gear_4 : decode cX7_gear 4 = .ok (.aload_n 0, 1) := by decide +kernel
theorem dX7_gear_5 : decode cX7_gear 5 = .ok (.aload_n 0, 1) := by decide +kernel
theorem dX7_gear_6 : decode cX7_gear 6 = .ok (.iload_n 1, 1) := by decide +kernel
theorem dX7_gear_7 : decode cX7_gear 7 = .ok (.invokevirtual 153, 3) := by decide +kernel
theorem dX7_gear_10 : decode cX7_gear 10 = .ok (.ifCond .eq 7, 3) := by decide +kernel
theorem dX7_gear_13 : decode cX7_gear 13 = .ok (.iconst 0, 1) := by decide +kernel
theorem dX7_gear_14 : decode cX7_gear 14 = .ok (.goto 4, 3) := by decide +kernel
theorem dX7_gear_17 : decode cX7_gear 17 = .ok (.iconst 1, 1) := by decide +kernel
theorem dX7_gear_18 : decode cX7_gear 18 = .ok (.putfield 45, 3) := by decide +kernel
theorem dX7_gear_21 : decode cX7_gear 21 = .ok (.aload_n 0, 1) := by decide +kernel
theorem dX7_gear_22 : decode cX7_gear 22 = .ok (.getfield 45, 3) := by decide +kernel
theorem dX7_gear_25 : decode cX7_gear 25 = .ok (.ifCond .eq 7, 3) := by decide +kernel
theorem dX7_gear_28 : decode cX7_gear 28 = .ok (.iconst 0, 1) := by decide +kernel
theorem dX7_gear_29 : decode cX7_gear 29 = .ok (.goto 9, 3) := by decide +kernel
theorem dX7_gear_32 : decode cX7_gear 32 = .ok (.aload_n 0, 1) := by decide +kernel
theorem dX7_gear_33 : decode cX7_gear 33 = .ok (.getfield 33, 3) := by decide +kernel
theorem dX7_gear_36 : decode cX7_gear 36 = .ok (.iload_n 1, 1) := by decide +kernel
theorem dX7_gear_37 : decode cX7_gear 37 = .ok (.iaload, 1) := by decide +kernel
theorem dX7_gear_38 : decode cX7_gear 38 = .ok (.ireturn, 1) := by decide +kernel
theorem dX7_indexOf_0 : decode cX7_indexOf 0 = .ok (.aload_n 0, 1) := by decide +kernel
theorem dX7_indexOf_1 : decode cX7_indexOf 1 = .ok (.aload_n 0, 1) := by decide +kernel
theorem dX7_indexOf_2 : decode cX7_indexOf 2 = .ok (.iload_n 1, 1) := by decide +kernel
theorem dX7_indexOf_3 : decode cX7_indexOf 3 = .ok (.invokevirtual 81, 3) := by decide +kernel
theorem dX7_indexOf_6 : decode cX7_indexOf 6 = .ok (.ifCond .eq 7, 3) := by decide +kernel
theorem dX7_indexOf_9 : decode cX7_indexOf 9 = .ok (.iconst 0, 1) := by decide +kernel
theorem dX7_indexOf_10 : decode cX7_indexOf 10 = .ok (.goto 4, 3) := by decide +kernel
theorem dX7_indexOf_13 : decode cX7_indexOf 13 = .ok (.iconst 1, 1) := by decide +kernel
theorem dX7_indexOf_14 : decode cX7_indexOf 14 = .ok (.putfield 45, 3) := by decide +kernel
theorem dX7_indexOf_17 : decode cX7_indexOf 17 = .ok (.aload_n 0, 1) := by decide +kernel
theorem dX7_indexOf_18 : decode cX7_indexOf 18 = .ok (.getfield 45, 3) := by decide +kernel
theorem dX7_indexOf_21 : decode cX7_indexOf 21 = .ok (.ifCond .eq 5, 3) := by decide +kernel
theorem dX7_indexOf_24 : decode cX7_indexOf 24 = .ok (.iconst 0, 1) := by decide +kernel
theorem dX7_indexOf_25 : decode cX7_indexOf 25 = .ok (.ireturn, 1) := by decide +kernel
theorem dX7_indexOf_26 : decode cX7_indexOf 26 = .ok (.aload_n 0, 1) := by decide +kernel
theorem dX7_indexOf_27 : decode cX7_indexOf 27 = .ok (.invokevirtual 64, 3) := by decide +kernel
theorem dX7_indexOf_30 : decode cX7_indexOf 30 = .ok (.iconst (-1), 1) := by decide +kernel
theorem dX7_indexOf_31 : decode cX7_indexOf 31 = .ok (.istore_n 2, 1) := by decide +kernel
theorem dX7_indexOf_32 : decode cX7_indexOf 32 = .ok (.iconst 0, 1) := by decide +kernel
theorem dX7_indexOf_33 : decode cX7_indexOf 33 = .ok (.istore_n 3, 1) := by decide +kernel
theorem dX7_indexOf_34 : decode cX7_indexOf 34 = .ok (.iload_n 3, 1) := by decide +kernel
theorem dX7_indexOf_35 : decode cX7_indexOf 35 = .ok (.aload_n 0, 1) := by decide +kernel
theorem dX7_indexOf_36 : decode cX7_indexOf 36 = .ok (.getfield 67, 3) := by decide +kernel
theorem dX7_indexOf_39 : decode cX7_indexOf 39 = .ok (.if_icmp .ge 25, 3) := by decide +kernel
theorem dX7_indexOf_42 : decode cX7_indexOf 42 = .ok (.aload_n 0, 1) := by decide +kernel
theorem dX7_indexOf_43 : decode cX7_indexOf 43 = .ok (.getfield 33, 3) := by decide +kernel
theorem dX7_indexOf_46 : decode cX7_indexOf 46 = .ok (.iload_n 3, 1) := by decide +kernel
theorem dX7_indexOf_47 : decode cX7_indexOf 47 = .ok (.iaload, 1) := by decide +kernel
theorem dX7_indexOf_48 : decode cX7_indexOf 48 = .ok (.iload_n 1, 1) := by decide +kernel
theorem dX7_indexOf_49 : decode cX7_indexOf 49 = .ok (.if_icmp .ne 7, 3) := by decide +kernel
theorem dX7_indexOf_52 : decode cX7_indexOf 52 = .ok (.iload_n 3, 1) := by decide +kernel
theorem dX7_indexOf_53 : decode cX7_indexOf 53 = .ok (.goto 4, 3) := by decide +kernel
theorem dX7_indexOf_56 : decode cX7_indexOf 56 = .ok (.iload_n 2, 1) := by decide +kernel
theorem dX7_indexOf_57 : decode cX7_indexOf 57 = .ok (.istore_n 2, 1) := by decide +kernel
theorem dX7_indexOf_58 : decode cX7_indexOf 58 = .ok (.iinc 3 1, 3) := by decide +kernel
theorem dX7_indexOf_61 : decode cX7_indexOf 61 = .ok (.goto (-27), 3) := by decide +kernel
theorem dX7_indexOf_64 : decode cX7_indexOf 64 = .ok (.iload_n 2, 1) := by decide +kernel
theorem dX7_indexOf_65 : decode cX7_indexOf 65 = .ok (.ireturn, 1) := by decide +kernel
theorem dX7_gearRatio_0 : decode cX7_gearRatio 0 = .ok (.aload_n 0, 1) := by decide +kernel
theorem dX7_gearRatio_1 : decode cX7_gearRatio 1 = .ok (.invokevirtual 64, 3) := by decide +kernel
theorem dX7_gearRatio_4 : decode cX7_gearRatio 4 = .ok (.aload_n 0, 1) := by decide +kernel
theorem dX7_gearRatio_5 : decode cX7_gearRatio 5 = .ok (.aload_n 0, 1) := by decide +kernel
theorem dX7_gearRatio_6 : decode cX7_gearRatio 6 = .ok (.iload_n 1, 1) := by decide +kernel
theorem dX7_gearRatio_7 : decode cX7_gearRatio 7 = .ok (.invokevirtual 153, 3) := by decide +kernel
theorem dX7_gearRatio_10 : decode cX7_gearRatio 10 = .ok (.ifCond .ne 7, 3) := by decide +kernel
theorem dX7_gearRatio_13 : decode cX7_gearRatio 13 = .ok (.iconst 1, 1) := by decide +kernel
theorem dX7_gearRatio_14 : decode cX7_gearRatio 14 = .ok (.goto 15, 3) := by decide +kernel
theorem dX7_gearRatio_17 : decode cX7_gearRatio 17 = .ok (.iload_n 2, 1) := by decide +kernel
theorem dX7_gearRatio_18 : decode cX7_gearRatio 18 = .ok (.invokestatic 131, 3) := by decide +kernel
theorem dX7_gearRatio_21 : decode cX7_gearRatio 21 = .ok (.ifCond .ne 7, 3) := by decide +kernel
theorem dX7_gearRatio_24 : decode cX7_gearRatio 24 = .ok (.iconst 2, 1) := by decide +kernel
theorem dX7_gearRatio_25 : decode cX7_gearRatio 25 = .ok (.goto 4, 3) := by decide +kernel
theorem dX7_gearRatio_28 : decode cX7_gearRatio 28 = .ok (.iconst 0, 1) := by decide +kernel
theorem dX7_gearRatio_29 : decode cX7_gearRatio 29 = .ok (.putfield 45, 3) := by decide +kernel
theorem dX7_gearRatio_32 : decode cX7_gearRatio 32 = .ok (.aload_n 0, 1) := by decide +kernel
theorem dX7_gearRatio_33 : decode cX7_gearRatio 33 = .ok (.getfield 45, 3) := by decide +kernel
theorem dX7_gearRatio_36 : decode cX7_gearRatio 36 = .ok (.ifCond .eq 7, 3) := by decide +kernel
theorem dX7_gearRatio_39 : decode cX7_gearRatio 39 = .ok (.lconst 0, 1) := by decide +kernel
theorem dX7_gearRatio_40 : decode cX7_gearRatio 40 = .ok (.goto 22, 3) := by decide +kernel
theorem dX7_gearRatio_43 : decode cX7_gearRatio 43 = .ok (.iload_n 2, 1) := by decide +kernel
theorem dX7_gearRatio_44 : decode cX7_gearRatio 44 = .ok (.ifCond .ne 12, 3) := by decide +kernel
theorem dX7_gearRatio_47 : decode cX7_gearRatio 47 = .ok (.aload_n 0, 1) := by decide +kernel
theorem dX7_gearRatio_48 : decode cX7_gearRatio 48 = .ok (.getfield 36, 3) := by decide +kernel
theorem dX7_gearRatio_51 : decode cX7_gearRatio 51 = .ok (.iload_n 1, 1) := by decide +kernel
theorem dX7_gearRatio_52 : decode cX7_gearRatio 52 = .ok (.laload, 1) := by decide +kernel
theorem dX7_gearRatio_53 : decode cX7_gearRatio 53 = .ok (.goto 9, 3) := by decide +kernel
theorem dX7_gearRatio_56 : decode cX7_gearRatio 56 = .ok (.aload_n 0, 1) := by decide +kernel
theorem dX7_gearRatio_57 : decode cX7_gearRatio 57 = .ok (.getfield 39, 3) := by decide +kernel
theorem dX7_gearRatio_60 : decode cX7_gearRatio 60 = .ok (.iload_n 1, 1) := by decide +kernel
theorem dX7_gearRatio_61 : decode cX7_gearRatio 61 = .ok (.laload, 1) := by decide +kernel
theorem dX7_gearRatio_62 : decode cX7_gearRatio 62 = .ok (.lreturn, 1) := by decide +kernel
theorem dX7_ratioOf_0 : decode cX7_ratioOf 0 = .ok (.aload_n 0, 1) := by decide +kernel
theorem dX7_ratioOf_1 : decode cX7_ratioOf 1 = .ok (.getfield 36, 3) := by decide +kernel
theorem dX7_ratioOf_4 : decode cX7_ratioOf 4 = .ok (.iload_n 1, 1) := by decide +kernel
theorem dX7_ratioOf_5 : decode cX7_ratioOf 5 = .ok (.laload, 1) := by decide +kernel
theorem dX7_ratioOf_6 : decode cX7_ratioOf 6 = .ok (.l2f, 1) := by decide +kernel
theorem dX7_ratioOf_7 : decode cX7_ratioOf 7 = .ok (.aload_n 0, 1) := by decide +kernel
theorem dX7_ratioOf_8 : decode cX7_ratioOf 8 = .ok (.getfield 39, 3) := by decide +kernel
theorem dX7_ratioOf_11 : decode cX7_ratioOf 11 = .ok (.iload_n 1, 1) := by decide +kernel
theorem dX7_ratioOf_12 : decode cX7_ratioOf 12 = .ok (.laload, 1) := by decide +kernel
theorem dX7_ratioOf_13 : decode cX7_ratioOf 13 = .ok (.l2f, 1) := by decide +kernel
theorem dX7_ratioOf_14 : decode cX7_ratioOf 14 = .ok (.fdiv, 1) := by decide +kernel
theorem dX7_ratioOf_15 : decode cX7_ratioOf 15 = .ok (.freturn, 1) := by decide +kernel
theorem dX7_step_0 : decode cX7_step 0 = .ok (.aload_n 0, 1) := by decide +kernel
theorem dX7_step_1 : decode cX7_step 1 = .ok (.invokevirtual 64, 3) := by decide +kernel
theorem dX7_step_4 : decode cX7_step 4 = .ok (.aload_n 0, 1) := by decide +kernel
theorem dX7_step_5 : decode cX7_step 5 = .ok (.aload_n 0, 1) := by decide +kernel
theorem dX7_step_6 : decode cX7_step 6 = .ok (.iload_n 1, 1) := by decide +kernel
theorem dX7_step_7 : decode cX7_step 7 = .ok (.invokevirtual 153, 3) := by decide +kernel
theorem dX7_step_10 : decode cX7_step 10 = .ok (.ifCond .eq 17, 3) := by decide +kernel
theorem dX7_step_13 : decode cX7_step 13 = .ok (.iload_n 1, 1) := by decide +kernel
theorem dX7_step_14 : decode cX7_step 14 = .ok (.iconst 1, 1) := by decide +kernel
theorem dX7_step_15 : decode cX7_step 15 = .ok (.iadd, 1) := by decide +kernel
theorem dX7_step_16 : decode cX7_step 16 = .ok (.aload_n 0, 1) := by decide +kernel
theorem dX7_step_17 : decode cX7_step 17 = .ok (.getfield 67, 3) := by decide +kernel
theorem dX7_step_20 : decode cX7_step 20 = .ok (.if_icmp .ge 7, 3) := by decide +kernel
theorem dX7_step_23 : decode cX7_step 23 = .ok (.iconst 0, 1) := by decide +kernel
theorem dX7_step_24 : decode cX7_step 24 = .ok (.goto 4, 3) := by decide +kernel
theorem dX7_step_27 : decode cX7_step 27 = .ok (.iconst 1, 1) := by decide +kernel
theorem dX7_step_28 : decode cX7_step 28 = .ok (.putfield 45, 3) := by decide +kernel
theorem dX7_step_31 : decode cX7_step 31 = .ok (.aload_n 0, 1) := by decide +kernel
theorem dX7_step_32 : decode cX7_step 32 = .ok (.getfield 45, 3) := by decide +kernel
theorem dX7_step_35 : decode cX7_step 35 = .ok (.ifCond .eq 7, 3) := by decide +kernel
theorem dX7_step_38 : decode cX7_step 38 = .ok (.fconst 0, 1) := by decide +kernel
theorem dX7_step_39 : decode cX7_step 39 = .ok (.goto 16, 3) := by decide +kernel
theorem dX7_step_42 : decode cX7_step 42 = .ok (.aload_n 0, 1) := by decide +kernel
theorem dX7_step_43 : decode cX7_step 43 = .ok (.iload_n 1, 1) := by decide +kernel
theorem dX7_step_44 : decode cX7_step 44 = .ok (.iconst 1, 1) := by decide +kernel
theorem dX7_step_45 : decode cX7_step 45 = .ok (.iadd, 1) := by decide +kernel
theorem dX7_step_46 : decode cX7_step 46 = .ok (.invokevirtual 156, 3) := by decide +kernel
theorem dX7_step_49 : decode cX7_step 49 = .ok (.aload_n 0, 1) := by decide +kernel
theorem dX7_step_50 : decode cX7_step 50 = .ok (.iload_n 1, 1) := by decide +kernel
theorem dX7_step_51 : decode cX7_step 51 = .ok (.invokevirtual 156, 3) := by decide +kernel
theorem dX7_step_54 : decode cX7_step 54 = .ok (.fdiv, 1) := by decide +kernel
theorem dX7_step_55 : decode cX7_step 55 = .ok (.freturn, 1) := by decide +kernel
theorem dX7_bits_0 : decode cX7_bits 0 = .ok (.iconst 0, 1) := by decide +kernel
theorem dX7_bits_1 : decode cX7_bits 1 = .ok (.istore_n 1, 1) := by decide +kernel
theorem dX7_bits_2 : decode cX7_bits 2 = .ok (.iconst 0, 1) := by decide +kernel
theorem dX7_bits_3 : decode cX7_bits 3 = .ok (.istore_n 2, 1) := by decide +kernel
theorem dX7_bits_4 : decode cX7_bits 4 = .ok (.iload_n 2, 1) := by decide +kernel
theorem dX7_bits_5 : decode cX7_bits 5 = .ok (.bipush 6, 2) := by decide +kernel
theorem dX7_bits_7 : decode cX7_bits 7 = .ok (.if_icmp .ge 17, 3) := by decide +kernel
theorem dX7_bits_10 : decode cX7_bits 10 = .ok (.iload_n 1, 1) := by decide +kernel
theorem dX7_bits_11 : decode cX7_bits 11 = .ok (.iload_n 0, 1) := by decide +kernel
theorem dX7_bits_12 : decode cX7_bits 12 = .ok (.iload_n 2, 1) := by decide +kernel
theorem dX7_bits_13 : decode cX7_bits 13 = .ok (.ishr, 1) := by decide +kernel
theorem dX7_bits_14 : decode cX7_bits 14 = .ok (.iconst 1, 1) := by decide +kernel
theorem dX7_bits_15 : decode cX7_bits 15 = .ok (.iand, 1) := by decide +kernel
theorem dX7_bits_16 : decode cX7_bits 16 = .ok (.iadd, 1) := by decide +kernel
theorem dX7_bits_17 : decode cX7_bits 17 = .ok (.istore_n 1, 1) := by decide +kernel
theorem dX7_bits_18 : decode cX7_bits 18 = .ok (.iinc 2 1, 3) := by decide +kernel
theorem dX7_bits_21 : decode cX7_bits 21 = .ok (.goto (-17), 3) := by decide +kernel
theorem dX7_bits_24 : decode cX7_bits 24 = .ok (.iload_n 1, 1) := by decide +kernel
theorem dX7_bits_25 : decode cX7_bits 25 = .ok (.ireturn, 1) := by decide +kernel
theorem dX7_areNeighbours_0 : decode cX7_areNeighbours 0 = .ok (.aload_n 0, 1) := by decide +kernel
theorem dX7_areNeighbours_1 : decode cX7_areNeighbours 1 = .ok (.getfield 33, 3) := by decide +kernel
theorem dX7_areNeighbours_4 : decode cX7_areNeighbours 4 = .ok (.iload_n 1, 1) := by decide +kernel
theorem dX7_areNeighbours_5 : decode cX7_areNeighbours 5 = .ok (.iaload, 1) := by decide +kernel
theorem dX7_areNeighbours_6 : decode cX7_areNeighbours 6 = .ok (.aload_n 0, 1) := by decide +kernel
theorem dX7_areNeighbours_7 : decode cX7_areNeighbours 7 = .ok (.getfield 33, 3) := by decide +kernel
theorem dX7_areNeighbours_10 : decode cX7_areNeighbours 10 = .ok (.iload_n 2, 1) := by decide +kernel
theorem dX7_areNeighbours_11 : decode cX7_areNeighbours 11 = .ok (.iaload, 1) := by decide +kernel
theorem dX7_areNeighbours_12 : decode cX7_areNeighbours 12 = .ok (.iconst (-1), 1) := by decide +kernel
theorem dX7_areNeighbours_13 : decode cX7_areNeighbours 13 = .ok (.ixor, 1) := by decide +kernel
theorem dX7_areNeighbours_14 : decode cX7_areNeighbours 14 = .ok (.iand, 1) := by decide +kernel
theorem dX7_areNeighbours_15 : decode cX7_areNeighbours 15 = .ok (.invokestatic 160, 3) := by decide +kernel
theorem dX7_areNeighbours_18 : decode cX7_areNeighbours 18 = .ok (.iconst 1, 1) := by decide +kernel
theorem dX7_areNeighbours_19 : decode cX7_areNeighbours 19 = .ok (.if_icmp .ne 29, 3) := by decide +kernel
theorem dX7_areNeighbours_22 : decode cX7_areNeighbours 22 = .ok (.aload_n 0, 1) := by decide +kernel
theorem dX7_areNeighbours_23 : decode cX7_areNeighbours 23 = .ok (.getfield 33, 3) := by decide +kernel
theorem dX7_areNeighbours_26 : decode cX7_areNeighbours 26 = .ok (.iload_n 2, 1) := by decide +kernel
theorem dX7_areNeighbours_27 : decode cX7_areNeighbours 27 = .ok (.iaload, 1) := by decide +kernel
theorem dX7_areNeighbours_28 : decode cX7_areNeighbours 28 = .ok (.aload_n 0, 1) := by decide +kernel
theorem dX7_areNeighbours_29 : decode cX7_areNeighbours 29 = .ok (.getfield 33, 3) := by decide +kernel
theorem dX7_areNeighbours_32 : decode cX7_areNeighbours 32 = .ok (.iload_n 1, 1) := by decide +kernel
theorem dX7_areNeighbours_33 : decode cX7_areNeighbours 33 = .ok (.iaload, 1) := by decide +kernel
theorem dX7_areNeighbours_34 : decode cX7_areNeighbours 34 = .ok (.iconst (-1), 1) := by decide +kernel
theorem dX7_areNeighbours_35 : decode cX7_areNeighbours 35 = .ok (.ixor, 1) := by decide +kernel
theorem dX7_areNeighbours_36 : decode cX7_areNeighbours 36 = .ok (.iand, 1) := by decide +kernel
theorem dX7_areNeighbours_37 : decode cX7_areNeighbours 37 = .ok (.invokestatic 160, 3) := by decide +kernel
theorem dX7_areNeighbours_40 : decode cX7_areNeighbours 40 = .ok (.iconst 1, 1) := by decide +kernel
theorem dX7_areNeighbours_41 : decode cX7_areNeighbours 41 = .ok (.if_icmp .ne 7, 3) := by decide +kernel
theorem dX7_areNeighbours_44 : decode cX7_areNeighbours 44 = .ok (.iconst 1, 1) := by decide +kernel
theorem dX7_areNeighbours_45 : decode cX7_areNeighbours 45 = .ok (.goto 4, 3) := by decide +kernel
theorem dX7_areNeighbours_48 : decode cX7_areNeighbours 48 = .ok (.iconst 0, 1) := by decide +kernel
theorem dX7_areNeighbours_49 : decode cX7_areNeighbours 49 = .ok (.ireturn, 1) := by decide +kernel
theorem dX7_layAway_0 : decode cX7_layAway 0 = .ok (.iconst 0, 1) := by decide +kernel
theorem dX7_layAway_1 : decode cX7_layAway 1 = .ok (.istore_n 2, 1) := by decide +kernel
theorem dX7_layAway_2 : decode cX7_layAway 2 = .ok (.iload_n 2, 1) := by decide +kernel
theorem dX7_layAway_3 : decode cX7_layAway 3 = .ok (.aload_n 0, 1) := by decide +kernel
theorem dX7_layAway_4 : decode cX7_layAway 4 = .ok (.getfield 67, 3) := by decide +kernel
theorem dX7_layAway_7 : decode cX7_layAway 7 = .ok (.if_icmp .ge 25, 3) := by decide +kernel
theorem dX7_layAway_10 : decode cX7_layAway 10 = .ok (.aload_n 0, 1) := by decide +kernel
theorem dX7_layAway_11 : decode cX7_layAway 11 = .ok (.getfield 42, 3) := by decide +kernel
theorem dX7_layAway_14 : decode cX7_layAway 14 = .ok (.iload_n 2, 1) := by decide +kernel
theorem dX7_layAway_15 : decode cX7_layAway 15 = .ok (.iload_n 2, 1) := by decide +kernel
theorem dX7_layAway_16 : decode cX7_layAway 16 = .ok (.iload_n 1, 1) := by decide +kernel
theorem dX7_layAway_17 : decode cX7_layAway 17 = .ok (.if_icmp .ne 7, 3) := by decide +kernel
theorem dX7_layAway_20 : decode cX7_layAway 20 = .ok (.iconst 0, 1) := by decide +kernel
theorem dX7_layAway_21 : decode cX7_layAway 21 = .ok (.goto 4, 3) := by decide +kernel
theorem dX7_layAway_24 : decode cX7_layAway 24 = .ok (.iconst (-1), 1) := by decide +kernel
theorem dX7_layAway_25 : decode cX7_layAway 25 = .ok (.iastore, 1) := by decide +kernel
theorem dX7_layAway_26 : decode cX7_layAway 26 = .ok (.iinc 2 1, 3) := by decide +kernel
theorem dX7_layAway_29 : decode cX7_layAway 29 = .ok (.goto (-27), 3) := by decide +kernel
theorem dX7_layAway_32 : decode cX7_layAway 32 = .ok (.iconst 1, 1) := by decide +kernel
theorem dX7_layAway_33 : decode cX7_layAway 33 = .ok (.istore_n 2, 1) := by decide +kernel
theorem dX7_layAway_34 : decode cX7_layAway 34 = .ok (.iload_n 2, 1) := by decide +kernel
theorem dX7_layAway_35 : decode cX7_layAway 35 = .ok (.aload_n 0, 1) := by decide +kernel
theorem dX7_layAway_36 : decode cX7_layAway 36 = .ok (.getfield 67, 3) := by decide +kernel
theorem dX7_layAway_39 : decode cX7_layAway 39 = .ok (.if_icmp .ge 87, 3) := by decide +kernel
theorem dX7_layAway_42 : decode cX7_layAway 42 = .ok (.iconst 0, 1) := by decide +kernel
theorem dX7_layAway_43 : decode cX7_layAway 43 = .ok (.istore_n 3, 1) := by decide +kernel
theorem dX7_layAway_44 : decode cX7_layAway 44 = .ok (.iload_n 3, 1) := by decide +kernel
theorem dX7_layAway_45 : decode cX7_layAway 45 = .ok (.aload_n 0, 1) := by decide +kernel
theorem dX7_layAway_46 : decode cX7_layAway 46 = .ok (.getfield 67, 3) := by decide +kernel
theorem dX7_layAway_49 : decode cX7_layAway 49 = .ok (.if_icmp .ge 71, 3) := by decide +kernel
theorem dX7_layAway_52 : decode cX7_layAway 52 = .ok (.iconst 0, 1) := by decide +kernel
theorem dX7_layAway_53 : decode cX7_layAway 53 = .ok (.istore 4, 2) := by decide +kernel
theorem dX7_layAway_55 : decode cX7_layAway 55 = .ok (.iload 4, 2) := by decide +kernel
theorem dX7_layAway_57 : decode cX7_layAway 57 = .ok (.aload_n 0, 1) := by decide +kernel
theorem dX7_layAway_58 : decode cX7_layAway 58 = .ok (.getfield 67, 3) := by decide +kernel
theorem dX7_layAway_61 : decode cX7_layAway 61 = .ok (.if_icmp .ge 53, 3) := by decide +kernel
theorem dX7_layAway_64 : decode cX7_layAway 64 = .ok (.aload_n 0, 1) := by decide +kernel
theorem dX7_layAway_65 : decode cX7_layAway 65 = .ok (.getfield 42, 3) := by decide +kernel
theorem dX7_layAway_68 : decode cX7_layAway 68 = .ok (.iload_n 3, 1) := by decide +kernel
theorem dX7_layAway_69 : decode cX7_layAway 69 = .ok (.iaload, 1) := by decide +kernel
theorem dX7_layAway_70 : decode cX7_layAway 70 = .ok (.iconst (-1), 1) := by decide +kernel
theorem dX7_layAway_71 : decode cX7_layAway 71 = .ok (.if_icmp .ne 43, 3) := by decide +kernel
theorem dX7_layAway_74 : decode cX7_layAway 74 = .ok (.aload_n 0, 1) := by decide +kernel
theorem dX7_layAway_75 : decode cX7_layAway 75 = .ok (.getfield 42, 3) := by decide +kernel
theorem dX7_layAway_78 : decode cX7_layAway 78 = .ok (.iload_n 3, 1) := by decide +kernel
theorem dX7_layAway_79 : decode cX7_layAway 79 = .ok (.aload_n 0, 1) := by decide +kernel
theorem dX7_layAway_80 : decode cX7_layAway 80 = .ok (.getfield 42, 3) := by decide +kernel
theorem dX7_layAway_83 : decode cX7_layAway 83 = .ok (.iload 4, 2) := by decide +kernel
theorem dX7_layAway_85 : decode cX7_layAway 85 = .ok (.iaload, 1) := by decide +kernel
theorem dX7_layAway_86 : decode cX7_layAway 86 = .ok (.iload_n 2, 1) := by decide +kernel
theorem dX7_layAway_87 : decode cX7_layAway 87 = .ok (.iconst 1, 1) := by decide +kernel
theorem dX7_layAway_88 : decode cX7_layAway 88 = .ok (.isub, 1) := by decide +kernel
theorem dX7_layAway_89 : decode cX7_layAway 89 = .ok (.if_icmp .ne 17, 3) := by decide +kernel
theorem dX7_layAway_92 : decode cX7_layAway 92 = .ok (.aload_n 0, 1) := by decide +kernel
theorem dX7_layAway_93 : decode cX7_layAway 93 = .ok (.iload_n 3, 1) := by decide +kernel
theorem dX7_layAway_94 : decode cX7_layAway 94 = .ok (.iload 4, 2) := by decide +kernel
theorem dX7_layAway_96 : decode cX7_layAway 96 = .ok (.invokevirtual 163, 3) := by decide +kernel
theorem dX7_layAway_99 : decode cX7_layAway 99 = .ok (.ifCond .eq 7, 3) := by decide +kernel
theorem dX7_layAway_102 : decode cX7_layAway 102 = .ok (.iload_n 2, 1) := by decide +kernel
theorem dX7_layAway_103 : decode cX7_layAway 103 = .ok (.goto 4, 3) := by decide +kernel
theorem dX7_layAway_106 : decode cX7_layAway 106 = .ok (.iconst (-1), 1) := by decide +kernel
theorem dX7_layAway_107 : decode cX7_layAway 107 = .ok (.iastore, 1) := by decide +kernel
theorem dX7_layAway_108 : decode cX7_layAway 108 = .ok (.iinc 4 1, 3) := by decide +kernel
theorem dX7_layAway_111 : decode cX7_layAway 111 = .ok (.goto (-56), 3) := by decide +kernel
theorem dX7_layAway_114 : decode cX7_layAway 114 = .ok (.iinc 3 1, 3) := by decide +kernel
theorem dX7_layAway_117 : decode cX7_layAway 117 = .ok (.goto (-73), 3) := by decide +kernel
theorem dX7_layAway_120 : decode cX7_layAway 120 = .ok (.iinc 2 1, 3) := by decide +kernel
theorem dX7_layAway_123 : decode cX7_layAway 123 = .ok (.goto (-89), 3) := by decide +kernel
theorem dX7_layAway_126 : decode cX7_layAway 126 = .ok (.return_, 1) := by decide +kernel
theorem dX7_fewestShifts_0 : decode cX7_fewestShifts 0 = .ok (.aload_n 0, 1) := by decide +kernel
theorem dX7_fewestShifts_1 : decode cX7_fewestShifts 1 = .ok (.invokevirtual 64, 3) := by decide +kernel
theorem dX7_fewestShifts_4 : decode cX7_fewestShifts 4 = .ok (.aload_n 0, 1) := by decide +kernel
theorem dX7_fewestShifts_5 : decode cX7_fewestShifts 5 = .ok (.aload_n 0, 1) := by decide +kernel
theorem dX7_fewestShifts_6 : decode cX7_fewestShifts 6 = .ok (.iload_n 1, 1) := by decide +kernel
theorem dX7_fewestShifts_7 : decode cX7_fewestShifts 7 = .ok (.invokevirtual 153, 3) := by decide +kernel
theorem dX7_fewestShifts_10 : decode cX7_fewestShifts 10 = .ok (.ifCond .eq 15, 3) := by decide +kernel
theorem dX7_fewestShifts_13 : decode cX7_fewestShifts 13 = .ok (.aload_n 0, 1) := by decide +kernel
theorem dX7_fewestShifts_14 : decode cX7_fewestShifts 14 = .ok (.iload_n 2, 1) := by decide +kernel
theorem dX7_fewestShifts_15 : decode cX7_fewestShifts 15 = .ok (.invokevirtual 153, 3) := by decide +kernel
theorem dX7_fewestShifts_18 : decode cX7_fewestShifts 18 = .ok (.ifCond .eq 7, 3) := by decide +kernel
theorem dX7_fewestShifts_21 : decode cX7_fewestShifts 21 = .ok (.iconst 0, 1) := by decide +kernel
theorem dX7_fewestShifts_22 : decode cX7_fewestShifts 22 = .ok (.goto 4, 3) := by decide +kernel
theorem dX7_fewestShifts_25 : decode cX7_fewestShifts 25 = .ok (.iconst 1, 1) := by decide +kernel
theorem dX7_fewestShifts_26 : decode cX7_fewestShifts 26 = .ok (.putfield 45, 3) := by decide +kernel
theorem dX7_fewestShifts_29 : decode cX7_fewestShifts 29 = .ok (.aload_n 0, 1) := by decide +kernel
theorem dX7_fewestShifts_30 : decode cX7_fewestShifts 30 = .ok (.getfield 45, 3) := by decide +kernel
theorem dX7_fewestShifts_33 : decode cX7_fewestShifts 33 = .ok (.ifCond .eq 5, 3) := by decide +kernel
theorem dX7_fewestShifts_36 : decode cX7_fewestShifts 36 = .ok (.iconst 0, 1) := by decide +kernel
theorem dX7_fewestShifts_37 : decode cX7_fewestShifts 37 = .ok (.ireturn, 1) := by decide +kernel
theorem dX7_fewestShifts_38 : decode cX7_fewestShifts 38 = .ok (.aload_n 0, 1) := by decide +kernel
theorem dX7_fewestShifts_39 : decode cX7_fewestShifts 39 = .ok (.iload_n 2, 1) := by decide +kernel
theorem dX7_fewestShifts_40 : decode cX7_fewestShifts 40 = .ok (.invokevirtual 166, 3) := by decide +kernel
theorem dX7_fewestShifts_43 : decode cX7_fewestShifts 43 = .ok (.aload_n 0, 1) := by decide +kernel
theorem dX7_fewestShifts_44 : decode cX7_fewestShifts 44 = .ok (.getfield 42, 3) := by decide +kernel
theorem dX7_fewestShifts_47 : decode cX7_fewestShifts 47 = .ok (.iload_n 1, 1) := by decide +kernel
theorem dX7_fewestShifts_48 : decode cX7_fewestShifts 48 = .ok (.iaload, 1) := by decide +kernel
theorem dX7_fewestShifts_49 : decode cX7_fewestShifts 49 = .ok (.ireturn, 1) := by decide +kernel
theorem dX7_shift_0 : decode cX7_shift 0 = .ok (.aload_n 0, 1) := by decide +kernel
theorem dX7_shift_1 : decode cX7_shift 1 = .ok (.invokevirtual 64, 3) := by decide +kernel
theorem dX7_shift_4 : decode cX7_shift 4 = .ok (.aload_n 0, 1) := by decide +kernel
theorem dX7_shift_5 : decode cX7_shift 5 = .ok (.aload_n 0, 1) := by decide +kernel
theorem dX7_shift_6 : decode cX7_shift 6 = .ok (.iload_n 1, 1) := by decide +kernel
theorem dX7_shift_7 : decode cX7_shift 7 = .ok (.invokevirtual 153, 3) := by decide +kernel
theorem dX7_shift_10 : decode cX7_shift 10 = .ok (.ifCond .eq 15, 3) := by decide +kernel
theorem dX7_shift_13 : decode cX7_shift 13 = .ok (.aload_n 0, 1) := by decide +kernel
theorem dX7_shift_14 : decode cX7_shift 14 = .ok (.iload_n 2, 1) := by decide +kernel
theorem dX7_shift_15 : decode cX7_shift 15 = .ok (.invokevirtual 153, 3) := by decide +kernel
theorem dX7_shift_18 : decode cX7_shift 18 = .ok (.ifCond .eq 7, 3) := by decide +kernel
theorem dX7_shift_21 : decode cX7_shift 21 = .ok (.iconst 0, 1) := by decide +kernel
theorem dX7_shift_22 : decode cX7_shift 22 = .ok (.goto 4, 3) := by decide +kernel
theorem dX7_shift_25 : decode cX7_shift 25 = .ok (.iconst 1, 1) := by decide +kernel
theorem dX7_shift_26 : decode cX7_shift 26 = .ok (.putfield 45, 3) := by decide +kernel
theorem dX7_shift_29 : decode cX7_shift 29 = .ok (.aload_n 0, 1) := by decide +kernel
theorem dX7_shift_30 : decode cX7_shift 30 = .ok (.getfield 45, 3) := by decide +kernel
theorem dX7_shift_33 : decode cX7_shift 33 = .ok (.ifCond .eq 5, 3) := by decide +kernel
theorem dX7_shift_36 : decode cX7_shift 36 = .ok (.iconst 0, 1) := by decide +kernel
theorem dX7_shift_37 : decode cX7_shift 37 = .ok (.ireturn, 1) := by decide +kernel
theorem dX7_shift_38 : decode cX7_shift 38 = .ok (.aload_n 0, 1) := by decide +kernel
theorem dX7_shift_39 : decode cX7_shift 39 = .ok (.iload_n 2, 1) := by decide +kernel
theorem dX7_shift_40 : decode cX7_shift 40 = .ok (.invokevirtual 166, 3) := by decide +kernel
theorem dX7_shift_43 : decode cX7_shift 43 = .ok (.iload_n 3, 1) := by decide +kernel
theorem dX7_shift_44 : decode cX7_shift 44 = .ok (.iconst 0, 1) := by decide +kernel
theorem dX7_shift_45 : decode cX7_shift 45 = .ok (.aload_n 0, 1) := by decide +kernel
theorem dX7_shift_46 : decode cX7_shift 46 = .ok (.getfield 42, 3) := by decide +kernel
theorem dX7_shift_49 : decode cX7_shift 49 = .ok (.iload_n 1, 1) := by decide +kernel
theorem dX7_shift_50 : decode cX7_shift 50 = .ok (.iaload, 1) := by decide +kernel
theorem dX7_shift_51 : decode cX7_shift 51 = .ok (.invokestatic 49, 3) := by decide +kernel
theorem dX7_shift_54 : decode cX7_shift 54 = .ok (.ifCond .ne 5, 3) := by decide +kernel
theorem dX7_shift_57 : decode cX7_shift 57 = .ok (.iconst (-1), 1) := by decide +kernel
theorem dX7_shift_58 : decode cX7_shift 58 = .ok (.ireturn, 1) := by decide +kernel
theorem dX7_shift_59 : decode cX7_shift 59 = .ok (.iload_n 1, 1) := by decide +kernel
theorem dX7_shift_60 : decode cX7_shift 60 = .ok (.istore 4, 2) := by decide +kernel
theorem dX7_shift_62 : decode cX7_shift 62 = .ok (.iconst 0, 1) := by decide +kernel
theorem dX7_shift_63 : decode cX7_shift 63 = .ok (.istore 5, 2) := by decide +kernel
theorem dX7_shift_65 : decode cX7_shift 65 = .ok (.iload 5, 2) := by decide +kernel
theorem dX7_shift_67 : decode cX7_shift 67 = .ok (.iload_n 3, 1) := by decide +kernel
theorem dX7_shift_68 : decode cX7_shift 68 = .ok (.if_icmp .ge 52, 3) := by decide +kernel
theorem dX7_shift_71 : decode cX7_shift 71 = .ok (.iconst 0, 1) := by decide +kernel
theorem dX7_shift_72 : decode cX7_shift 72 = .ok (.istore 6, 2) := by decide +kernel
theorem dX7_shift_74 : decode cX7_shift 74 = .ok (.aload_n 0, 1) := by decide +kernel
theorem dX7_shift_75 : decode cX7_shift 75 = .ok (.getfield 42, 3) := by decide +kernel
theorem dX7_shift_78 : decode cX7_shift 78 = .ok (.iload 6, 2) := by decide +kernel
theorem dX7_shift_80 : decode cX7_shift 80 = .ok (.iaload, 1) := by decide +kernel
theorem dX7_shift_81 : decode cX7_shift 81 = .ok (.aload_n 0, 1) := by decide +kernel
theorem dX7_shift_82 : decode cX7_shift 82 = .ok (.getfield 42, 3) := by decide +kernel
theorem dX7_shift_85 : decode cX7_shift 85 = .ok (.iload 4, 2) := by decide +kernel
theorem dX7_shift_87 : decode cX7_shift 87 = .ok (.iaload, 1) := by decide +kernel
theorem dX7_shift_88 : decode cX7_shift 88 = .ok (.iconst 1, 1) := by decide +kernel
theorem dX7_shift_89 : decode cX7_shift 89 = .ok (.isub, 1) := by decide +kernel
theorem dX7_shift_90 : decode cX7_shift 90 = .ok (.if_icmp .ne 14, 3) := by decide +kernel
theorem dX7_shift_93 : decode cX7_shift 93 = .ok (.aload_n 0, 1) := by decide +kernel
theorem dX7_shift_94 : decode cX7_shift 94 = .ok (.iload 4, 2) := by decide +kernel
theorem dX7_shift_96 : decode cX7_shift 96 = .ok (.iload 6, 2) := by decide +kernel
theorem dX7_shift_98 : decode cX7_shift 98 = .ok (.invokevirtual 163, 3) := by decide +kernel
theorem dX7_shift_101 : decode cX7_shift 101 = .ok (.ifCond .ne 9, 3) := by decide +kernel
theorem dX7_shift_104 : decode cX7_shift 104 = .ok (.iinc 6 1, 3) := by decide +kernel
theorem dX7_shift_107 : decode cX7_shift 107 = .ok (.goto (-33), 3) := by decide +kernel
theorem dX7_shift_110 : decode cX7_shift 110 = .ok (.iload 6, 2) := by decide +kernel
theorem dX7_shift_112 : decode cX7_shift 112 = .ok (.istore 4, 2) := by decide +kernel
theorem dX7_shift_114 : decode cX7_shift 114 = .ok (.iinc 5 1, 3) := by decide +kernel
theorem dX7_shift_117 : decode cX7_shift 117 = .ok (.goto (-52), 3) := by decide +kernel
theorem dX7_shift_120 : decode cX7_shift 120 = .ok (.iload 4, 2) := by decide +kernel
theorem dX7_shift_122 : decode cX7_shift 122 = .ok (.ireturn, 1) := by decide +kernel
theorem dX7_save_0 : decode cX7_save 0 = .ok (.aload_n 0, 1) := by decide +kernel
theorem dX7_save_1 : decode cX7_save 1 = .ok (.iload_n 1, 1) := by decide +kernel
theorem dX7_save_2 : decode cX7_save 2 = .ok (.iconst 0, 1) := by decide +kernel
theorem dX7_save_3 : decode cX7_save 3 = .ok (.iconst 1, 1) := by decide +kernel
theorem dX7_save_4 : decode cX7_save 4 = .ok (.invokestatic 49, 3) := by decide +kernel
theorem dX7_save_7 : decode cX7_save 7 = .ok (.ifCond .eq 7, 3) := by decide +kernel
theorem dX7_save_10 : decode cX7_save 10 = .ok (.iconst 0, 1) := by decide +kernel
theorem dX7_save_11 : decode cX7_save 11 = .ok (.goto 4, 3) := by decide +kernel
theorem dX7_save_14 : decode cX7_save 14 = .ok (.iconst 1, 1) := by decide +kernel
theorem dX7_save_15 : decode cX7_save 15 = .ok (.putfield 45, 3) := by decide +kernel
theorem dX7_save_18 : decode cX7_save 18 = .ok (.aload_n 0, 1) := by decide +kernel
theorem dX7_save_19 : decode cX7_save 19 = .ok (.getfield 45, 3) := by decide +kernel
theorem dX7_save_22 : decode cX7_save 22 = .ok (.ifCond .ne 41, 3) := by decide +kernel
theorem dX7_save_25 : decode cX7_save 25 = .ok (.iconst 0, 1) := by decide +kernel
theorem dX7_save_26 : decode cX7_save 26 = .ok (.istore_n 2, 1) := by decide +kernel
theorem dX7_save_27 : decode cX7_save 27 = .ok (.iload_n 2, 1) := by decide +kernel
theorem dX7_save_28 : decode cX7_save 28 = .ok (.bipush 36, 2) := by decide +kernel
theorem dX7_save_30 : decode cX7_save 30 = .ok (.if_icmp .ge 26, 3) := by decide +kernel
theorem dX7_save_33 : decode cX7_save 33 = .ok (.aload_n 0, 1) := by decide +kernel
theorem dX7_save_34 : decode cX7_save 34 = .ok (.getfield 13, 3) := by decide +kernel
theorem dX7_save_37 : decode cX7_save 37 = .ok (.bipush 36, 2) := by decide +kernel
theorem dX7_save_39 : decode cX7_save 39 = .ok (.iload_n 1, 1) := by decide +kernel
theorem dX7_save_40 : decode cX7_save 40 = .ok (.imul, 1) := by decide +kernel
theorem dX7_save_41 : decode cX7_save 41 = .ok (.iload_n 2, 1) := by decide +kernel
theorem dX7_save_42 : decode cX7_save 42 = .ok (.iadd, 1) := by decide +kernel
theorem dX7_save_43 : decode cX7_save 43 = .ok (.aload_n 0, 1) := by decide +kernel
theorem dX7_save_44 : decode cX7_save 44 = .ok (.getfield 7, 3) := by decide +kernel
theorem dX7_save_47 : decode cX7_save 47 = .ok (.iload_n 2, 1) := by decide +kernel
theorem dX7_save_48 : decode cX7_save 48 = .ok (.iaload, 1) := by decide +kernel
theorem dX7_save_49 : decode cX7_save 49 = .ok (.iastore, 1) := by decide +kernel
theorem dX7_save_50 : decode cX7_save 50 = .ok (.iinc 2 1, 3) := by decide +kernel
theorem dX7_save_53 : decode cX7_save 53 = .ok (.goto (-26), 3) := by decide +kernel
theorem dX7_save_56 : decode cX7_save 56 = .ok (.aload_n 0, 1) := by decide +kernel
theorem dX7_save_57 : decode cX7_save 57 = .ok (.getfield 16, 3) := by decide +kernel
theorem dX7_save_60 : decode cX7_save 60 = .ok (.iload_n 1, 1) := by decide +kernel
theorem dX7_save_61 : decode cX7_save 61 = .ok (.iconst 1, 1) := by decide +kernel
theorem dX7_save_62 : decode cX7_save 62 = .ok (.bastore, 1) := by decide +kernel
theorem dX7_save_63 : decode cX7_save 63 = .ok (.return_, 1) := by decide +kernel
theorem dX7_restore_0 : decode cX7_restore 0 = .ok (.aload_n 0, 1) := by decide +kernel
theorem dX7_restore_1 : decode cX7_restore 1 = .ok (.iload_n 1, 1) := by decide +kernel
theorem dX7_restore_2 : decode cX7_restore 2 = .ok (.iconst 0, 1) := by decide +kernel
theorem dX7_restore_3 : decode cX7_restore 3 = .ok (.iconst 1, 1) := by decide +kernel
theorem dX7_restore_4 : decode cX7_restore 4 = .ok (.invokestatic 49, 3) := by decide +kernel
theorem dX7_restore_7 : decode cX7_restore 7 = .ok (.ifCond .ne 7, 3) := by decide +kernel
theorem dX7_restore_10 : decode cX7_restore 10 = .ok (.iconst 1, 1) := by decide +kernel
theorem dX7_restore_11 : decode cX7_restore 11 = .ok (.goto 17, 3) := by decide +kernel
theorem dX7_restore_14 : decode cX7_restore 14 = .ok (.aload_n 0, 1) := by decide +kernel
theorem dX7_restore_15 : decode cX7_restore 15 = .ok (.getfield 16, 3) := by decide +kernel
theorem dX7_restore_18 : decode cX7_restore 18 = .ok (.iload_n 1, 1) := by decide +kernel
theorem dX7_restore_19 : decode cX7_restore 19 = .ok (.baload, 1) := by decide +kernel
theorem dX7_restore_20 : decode cX7_restore 20 = .ok (.ifCond .ne 7, 3) := by decide +kernel
theorem dX7_restore_23 : decode cX7_restore 23 = .ok (.iconst 2, 1) := by decide +kernel
theorem dX7_restore_24 : decode cX7_restore 24 = .ok (.goto 4, 3) := by decide +kernel
theorem dX7_restore_27 : decode cX7_restore 27 = .ok (.iconst 0, 1) := by decide +kernel
theorem dX7_restore_28 : decode cX7_restore 28 = .ok (.putfield 45, 3) := by decide +kernel
theorem dX7_restore_31 : decode cX7_restore 31 = .ok (.aload_n 0, 1) := by decide +kernel
theorem dX7_restore_32 : decode cX7_restore 32 = .ok (.getfield 45, 3) := by decide +kernel
theorem dX7_restore_35 : decode cX7_restore 35 = .ok (.ifCond .ne 39, 3) := by decide +kernel
theorem dX7_restore_38 : decode cX7_restore 38 = .ok (.iconst 0, 1) := by decide +kernel
theorem dX7_restore_39 : decode cX7_restore 39 = .ok (.istore_n 2, 1) := by decide +kernel
theorem dX7_restore_40 : decode cX7_restore 40 = .ok (.iload_n 2, 1) := by decide +kernel
theorem dX7_restore_41 : decode cX7_restore 41 = .ok (.bipush 36, 2) := by decide +kernel
theorem dX7_restore_43 : decode cX7_restore 43 = .ok (.if_icmp .ge 26, 3) := by decide +kernel
theorem dX7_restore_46 : decode cX7_restore 46 = .ok (.aload_n 0, 1) := by decide +kernel
theorem dX7_restore_47 : decode cX7_restore 47 = .ok (.getfield 7, 3) := by decide +kernel
theorem dX7_restore_50 : decode cX7_restore 50 = .ok (.iload_n 2, 1) := by decide +kernel
theorem dX7_restore_51 : decode cX7_restore 51 = .ok (.aload_n 0, 1) := by decide +kernel
theorem dX7_restore_52 : decode cX7_restore 52 = .ok (.getfield 13, 3) := by decide +kernel
theorem dX7_restore_55 : decode cX7_restore 55 = .ok (.bipush 36, 2) := by decide +kernel
theorem dX7_restore_57 : decode cX7_restore 57 = .ok (.iload_n 1, 1) := by decide +kernel
theorem dX7_restore_58 : decode cX7_restore 58 = .ok (.imul, 1) := by decide +kernel
theorem dX7_restore_59 : decode cX7_restore 59 = .ok (.iload_n 2, 1) := by decide +kernel
theorem dX7_restore_60 : decode cX7_restore 60 = .ok (.iadd, 1) := by decide +kernel
theorem dX7_restore_61 : decode cX7_restore 61 = .ok (.iaload, 1) := by decide +kernel
theorem dX7_restore_62 : decode cX7_restore 62 = .ok (.iastore, 1) := by decide +kernel
theorem dX7_restore_63 : decode cX7_restore 63 = .ok (.iinc 2 1, 3) := by decide +kernel
theorem dX7_restore_66 : decode cX7_restore 66 = .ok (.goto (-26), 3) := by decide +kernel
theorem dX7_restore_69 : decode cX7_restore 69 = .ok (.aload_n 0, 1) := by decide +kernel
theorem dX7_restore_70 : decode cX7_restore 70 = .ok (.iconst 0, 1) := by decide +kernel
theorem dX7_restore_71 : decode cX7_restore 71 = .ok (.putfield 70, 3) := by decide +kernel
theorem dX7_restore_74 : decode cX7_restore 74 = .ok (.return_, 1) := by decide +kernel
