theorem dX6_init_0 : decode cX6_init 0 = .ok (.aload_n 0, 1) := by decide +kernel
theorem dX6_init_1 : decode cX6_init 1 = .ok (.invokespecial 3, 3) := by decide +kernel
theorem dX6_init_4 : decode cX6_init 4 = .ok (.aload_n 0, 1) := by decide +kernel
theorem dX6_init_5 : decode cX6_init 5 = .ok (.new 9, 3) := by decide +kernel
theorem dX6_init_8 : decode cX6_init 8 = .ok (.dup, 1) := by decide +kernel
theorem dX6_init_9 : decode cX6_init 9 = .ok (.invokespecial 11, 3) := by decide +kernel
theorem dX6_init_12 : decode cX6_init 12 = .ok (.putfield 12, 3) := by decide +kernel
theorem dX6_init_15 : decode cX6_init 15 = .ok (.aload_n 0, 1) := by decide +kernel
theorem dX6_init_16 : decode cX6_init 16 = .ok (.new 9, 3) := by decide +kernel
theorem dX6_init_19 : decode cX6_init 19 = .ok (.dup, 1) := by decide +kernel
theorem dX6_init_20 : decode cX6_init 20 = .ok (.invokespecial 11, 3) := by decide +kernel
theorem dX6_init_23 : decode cX6_init 23 = .ok (.putfield 16, 3) := by decide +kernel
theorem dX6_init_26 : decode cX6_init 26 = .ok (.aload_n 0, 1) := by decide +kernel
theorem dX6_init_27 : decode cX6_init 27 = .ok (.new 9, 3) := by decide +kernel
theorem dX6_init_30 : decode cX6_init 30 = .ok (.dup, 1) := by decide +kernel
theorem dX6_init_31 : decode cX6_init 31 = .ok (.invokespecial 11, 3) := by decide +kernel
theorem dX6_init_34 : decode cX6_init 34 = .ok (.putfield 19, 3) := by decide +kernel
theorem dX6_init_37 : decode cX6_init 37 = .ok (.aload_n 0, 1) := by decide +kernel
theorem dX6_init_38 : decode cX6_init 38 = .ok (.new 22, 3) := by decide +kernel
theorem dX6_init_41 : decode cX6_init 41 = .ok (.dup, 1) := by decide +kernel
theorem dX6_init_42 : decode cX6_init 42 = .ok (.invokespecial 24, 3) := by decide +kernel
theorem dX6_init_45 : decode cX6_init 45 = .ok (.putfield 25, 3) := by decide +kernel
theorem dX6_init_48 : decode cX6_init 48 = .ok (.aload_n 0, 1) := by decide +kernel
theorem dX6_init_49 : decode cX6_init 49 = .ok (.new 29, 3) := by decide +kernel
theorem dX6_init_52 : decode cX6_init 52 = .ok (.dup, 1) := by decide +kernel
theorem dX6_init_53 : decode cX6_init 53 = .ok (.invokespecial 31, 3) := by decide +kernel
theorem dX6_init_56 : decode cX6_init 56 = .ok (.putfield 32, 3) := by decide +kernel
theorem dX6_init_59 : decode cX6_init 59 = .ok (.aload_n 0, 1) := by decide +kernel
theorem dX6_init_60 : decode cX6_init 60 = .ok (.new 36, 3) := by decide +kernel
theorem dX6_init_63 : decode cX6_init 63 = .ok (.dup, 1) := by decide +kernel
theorem dX6_init_64 : decode cX6_init 64 = .ok (.invokespecial 38, 3) := by decide +kernel
theorem dX6_init_67 : decode cX6_init 67 = .ok (.putfield 39, 3) := by decide +kernel
theorem dX6_init_70 : decode cX6_init 70 = .ok (.aload_n 0, 1) := by decide +kernel
theorem dX6_init_71 : decode cX6_init 71 = .ok (.new 43, 3) := by decide +kernel
theorem dX6_init_74 : decode cX6_init 74 = .ok (.dup, 1) := by decide +kernel
theorem dX6_init_75 : decode cX6_init 75 = .ok (.invokespecial 45, 3) := by decide +kernel
theorem dX6_init_78 : decode cX6_init 78 = .ok (.putfield 46, 3) := by decide +kernel
theorem dX6_init_81 : decode cX6_init 81 = .ok (.return_, 1) := by decide +kernel
theorem dX6_addSet_0 : decode cX6_addSet 0 = .ok (.iload_n 1, 1) := by decide +kernel
theorem dX6_addSet_1 : decode cX6_addSet 1 = .ok (.invokestatic 50, 3) := by decide +kernel
theorem dX6_addSet_4 : decode cX6_addSet 4 = .ok (.ifCond .eq 17, 3) := by decide +kernel
theorem dX6_addSet_7 : decode cX6_addSet 7 = .ok (.iload_n 2, 1) := by decide +kernel
theorem dX6_addSet_8 : decode cX6_addSet 8 = .ok (.invokestatic 50, 3) := by decide +kernel
theorem dX6_addSet_11 : decode cX6_addSet 11 = .ok (.ifCond .eq 10, 3) := by decide +kernel
theorem dX6_addSet_14 : decode cX6_addSet 14 = .ok (.iload_n 3, 1) := by decide +kernel
theorem dX6_addSet_15 : decode cX6_addSet 15 = .ok (.invokestatic 50, 3) := by decide +kernel
theorem dX6_addSet_18 : decode cX6_addSet 18 = .ok (.ifCond .ne 13, 3) := by decide +kernel
theorem dX6_addSet_21 : decode cX6_addSet 21 = .ok (.new 54, 3) := by decide +kernel
theorem dX6_addSet_24 : decode cX6_addSet 24 = .ok (.dup, 1) := by decide +kernel
theorem dX6_addSet_25 : decode cX6_addSet 25 = .ok (.ldc 56, 2) := by decide +kernel
theorem dX6_addSet_27 : decode cX6_addSet 27 = .ok (.invokespecial 58, 3) := by decide +kernel
theorem dX6_addSet_30 : decode cX6_addSet 30 = .ok (.athrow, 1) := by decide +kernel
theorem dX6_addSet_31 : decode cX6_addSet 31 = .ok (.iload_n 1, 1) := by decide +kernel
theorem dX6_addSet_32 : decode cX6_addSet 32 = .ok (.iload_n 2, 1) := by decide +kernel
theorem dX6_addSet_33 : decode cX6_addSet 33 = .ok (.if_icmp .eq 13, 3) := by decide +kernel
theorem dX6_addSet_36 : decode cX6_addSet 36 = .ok (.iload_n 1, 1) := by decide +kernel
theorem dX6_addSet_37 : decode cX6_addSet 37 = .ok (.iload_n 3, 1) := by decide +kernel
theorem dX6_addSet_38 : decode cX6_addSet 38 = .ok (.if_icmp .eq 8, 3) := by decide +kernel
theorem dX6_addSet_41 : decode cX6_addSet 41 = .ok (.iload_n 2, 1) := by decide +kernel
theorem dX6_addSet_42 : decode cX6_addSet 42 = .ok (.iload_n 3, 1) := by decide +kernel
theorem dX6_addSet_43 : decode cX6_addSet 43 = .ok (.if_icmp .ne 13, 3) := by decide +kernel
theorem dX6_addSet_46 : decode cX6_addSet 46 = .ok (.new 61, 3) := by decide +kernel
theorem dX6_addSet_49 : decode cX6_addSet 49 = .ok (.dup, 1) := by decide +kernel
theorem dX6_addSet_50 : decode cX6_addSet 50 = .ok (.ldc 63, 2) := by decide +kernel
theorem dX6_addSet_52 : decode cX6_addSet 52 = .ok (.invokespecial 65, 3) := by decide +kernel
theorem dX6_addSet_55 : decode cX6_addSet 55 = .ok (.athrow, 1) := by decide +kernel
theorem dX6_addSet_56 : decode cX6_addSet 56 = .ok (.iload 4, 2) := by decide +kernel
theorem dX6_addSet_58 : decode cX6_addSet 58 = .ok (.bipush 10, 2) := by decide +kernel
theorem dX6_addSet_60 : decode cX6_addSet 60 = .ok (.if_icmp .lt 10, 3) := by decide +kernel
theorem dX6_addSet_63 : decode cX6_addSet 63 = .ok (.iload 4, 2) := by decide +kernel
theorem dX6_addSet_65 : decode cX6_addSet 65 = .ok (.bipush 40, 2) := by decide +kernel
theorem dX6_addSet_67 : decode cX6_addSet 67 = .ok (.if_icmp .le 13, 3) := by decide +kernel
theorem dX6_addSet_70 : decode cX6_addSet 70 = .ok (.new 61, 3) := by decide +kernel
theorem dX6_addSet_73 : decode cX6_addSet 73 = .ok (.dup, 1) := by decide +kernel
theorem dX6_addSet_74 : decode cX6_addSet 74 = .ok (.ldc 66, 2) := by decide +kernel
theorem dX6_addSet_76 : decode cX6_addSet 76 = .ok (.invokespecial 65, 3) := by decide +kernel
theorem dX6_addSet_79 : decode cX6_addSet 79 = .ok (.athrow, 1) := by decide +kernel
theorem dX6_addSet_80 : decode cX6_addSet 80 = .ok (.iload 5, 2) := by decide +kernel
theorem dX6_addSet_82 : decode cX6_addSet 82 = .ok (.iload 4, 2) := by decide +kernel
theorem dX6_addSet_84 : decode cX6_addSet 84 = .ok (.if_icmp .le 10, 3) := by decide +kernel
theorem dX6_addSet_87 : decode cX6_addSet 87 = .ok (.iload 5, 2) := by decide +kernel
theorem dX6_addSet_89 : decode cX6_addSet 89 = .ok (.bipush 100, 2) := by decide +kernel
theorem dX6_addSet_91 : decode cX6_addSet 91 = .ok (.if_icmp .le 13, 3) := by decide +kernel
theorem dX6_addSet_94 : decode cX6_addSet 94 = .ok (.new 61, 3) := by decide +kernel
theorem dX6_addSet_97 : decode cX6_addSet 97 = .ok (.dup, 1) := by decide +kernel
theorem dX6_addSet_98 : decode cX6_addSet 98 = .ok (.ldc 68, 2) := by decide +kernel
theorem dX6_addSet_100 : decode cX6_addSet 100 = .ok (.invokespecial 65, 3) := by decide +kernel
theorem dX6_addSet_103 : decode cX6_addSet 103 = .ok (.athrow, 1) := by decide +kernel
theorem dX6_addSet_104 : decode cX6_addSet 104 = .ok (.aload_n 0, 1) := by decide +kernel
theorem dX6_addSet_105 : decode cX6_addSet 105 = .ok (.getfield 12, 3) := by decide +kernel
theorem dX6_addSet_108 : decode cX6_addSet 108 = .ok (.invokevirtual 70, 3) := by decide +kernel
theorem dX6_addSet_111 : decode cX6_addSet 111 = .ok (.iconst 3, 1) := by decide +kernel
theorem dX6_addSet_112 : decode cX6_addSet 112 = .ok (.if_icmp .lt 13, 3) := by decide +kernel
theorem dX6_addSet_115 : decode cX6_addSet 115 = .ok (.new 74, 3) := by decide +kernel
theorem dX6_addSet_118 : decode cX6_addSet 118 = .ok (.dup, 1) := by decide +kernel
theorem dX6_addSet_119 : decode cX6_addSet 119 = .ok (.ldc 76, 2) := by decide +kernel
theorem dX6_addSet_121 : decode cX6_addSet 121 = .ok (.invokespecial 78, 3) := by decide +kernel
theorem dX6_addSet_124 : decode cX6_addSet 124 = .ok (.athrow, 1) := by decide +kernel
theorem dX6_addSet_125 : decode cX6_addSet 125 = .ok (.aload_n 0, 1) := by decide +kernel
theorem dX6_addSet_126 : decode cX6_addSet 126 = .ok (.getfield 46, 3) := by decide +kernel
theorem dX6_addSet_129 : decode cX6_addSet 129 = .ok (.invokevirtual 79, 3) := by decide +kernel
theorem dX6_addSet_132 : decode cX6_addSet 132 = .ok (.aload_n 0, 1) := by decide +kernel
theorem dX6_addSet_133 : decode cX6_addSet 133 = .ok (.getfield 12, 3) := by decide +kernel
theorem dX6_addSet_136 : decode cX6_addSet 136 = .ok (.iload_n 1, 1) := by decide +kernel
theorem dX6_addSet_137 : decode cX6_addSet 137 = .ok (.iload_n 2, 1) := by decide +kernel
theorem dX6_addSet_138 : decode cX6_addSet 138 = .ok (.iload_n 3, 1) := by decide +kernel
theorem dX6_addSet_139 : decode cX6_addSet 139 = .ok (.iload 4, 2) := by decide +kernel
theorem dX6_addSet_141 : decode cX6_addSet 141 = .ok (.iload 5, 2) := by decide +kernel
theorem dX6_addSet_143 : decode cX6_addSet 143 = .ok (.invokevirtual 82, 3) := by decide +kernel
theorem dX6_addSet_146 : decode cX6_addSet 146 = .ok (.aload_n 0, 1) := by decide +kernel
theorem dX6_addSet_147 : decode cX6_addSet 147 = .ok (.getfield 12, 3) := by decide +kernel
theorem dX6_addSet_150 : decode cX6_addSet 150 = .ok (.invokevirtual 70, 3) := by decide +kernel
theorem dX6_addSet_153 : decode cX6_addSet 153 = .ok (.ireturn, 1) := by decide +kernel
theorem dX6_addBrake_0 : decode cX6_addBrake 0 = .ok (.iload_n 1, 1) := by decide +kernel
theorem dX6_addBrake_1 : decode cX6_addBrake 1 = .ok (.invokestatic 50, 3) := by decide +kernel
theorem dX6_addBrake_4 : decode cX6_addBrake 4 = .ok (.ifCond .ne 13, 3) := by decide +kernel
theorem dX6_addBrake_7 : decode cX6_addBrake 7 = .ok (.new 54, 3) := by decide +kernel
theorem dX6_addBrake_10 : decode cX6_addBrake 10 = .ok (.dup, 1) := by decide +kernel
theorem dX6_addBrake_11 : decode cX6_addBrake 11 = .ok (.ldc 86, 2) := by decide +kernel
theorem dX6_addBrake_13 : decode cX6_addBrake 13 = .ok (.invokespecial 58, 3) := by decide +kernel
theorem dX6_addBrake_16 : decode cX6_addBrake 16 = .ok (.athrow, 1) := by decide +kernel
theorem dX6_addBrake_17 : decode cX6_addBrake 17 = .ok (.aload_n 0, 1) := by decide +kernel
theorem dX6_addBrake_18 : decode cX6_addBrake 18 = .ok (.getfield 12, 3) := by decide +kernel
theorem dX6_addBrake_21 : decode cX6_addBrake 21 = .ok (.invokevirtual 88, 3) := by decide +kernel
theorem dX6_addBrake_24 : decode cX6_addBrake 24 = .ok (.bipush 6, 2) := by decide +kernel
theorem dX6_addBrake_26 : decode cX6_addBrake 26 = .ok (.if_icmp .lt 13, 3) := by decide +kernel
theorem dX6_addBrake_29 : decode cX6_addBrake 29 = .ok (.new 74, 3) := by decide +kernel
theorem dX6_addBrake_32 : decode cX6_addBrake 32 = .ok (.dup, 1) := by decide +kernel
theorem dX6_addBrake_33 : decode cX6_addBrake 33 = .ok (.ldc 91, 2) := by decide +kernel
theorem dX6_addBrake_35 : decode cX6_addBrake 35 = .ok (.invokespecial 78, 3) := by decide +kernel
theorem dX6_addBrake_38 : decode cX6_addBrake 38 = .ok (.athrow, 1) := by decide +kernel
theorem dX6_addBrake_39 : decode cX6_addBrake 39 = .ok (.aload_n 0, 1) := by decide +kernel
theorem dX6_addBrake_40 : decode cX6_addBrake 40 = .ok (.getfield 46, 3) := by decide +kernel
theorem dX6_addBrake_43 : decode cX6_addBrake 43 = .ok (.invokevirtual 79, 3) := by decide +kernel
theorem dX6_addBrake_46 : decode cX6_addBrake 46 = .ok (.aload_n 0, 1) := by decide +kernel
theorem dX6_addBrake_47 : decode cX6_addBrake 47 = .ok (.getfield 12, 3) := by decide +kernel
theorem dX6_addBrake_50 : decode cX6_addBrake 50 = .ok (.iload_n 1, 1) := by decide +kernel
theorem dX6_addBrake_51 : decode cX6_addBrake 51 = .ok (.iconst (-1), 1) := by decide +kernel
theorem dX6_addBrake_52 : decode cX6_addBrake 52 = .ok (.invokevirtual 93, 3) := by decide +kernel
theorem dX6_addBrake_55 : decode cX6_addBrake 55 = .ok (.ireturn, 1) := by decide +kernel
theorem dX6_addClutch_0 : decode cX6_addClutch 0 = .ok (.iload_n 1, 1) := by decide +kernel
theorem dX6_addClutch_1 : decode cX6_addClutch 1 = .ok (.invokestatic 50, 3) := by decide +kernel
theorem dX6_addClutch_4 : decode cX6_addClutch 4 = .ok (.ifCond .eq 10, 3) := by decide +kernel
theorem dX6_addClutch_7 : decode cX6_addClutch 7 = .ok (.iload_n 2, 1) := by decide +kernel
theorem dX6_addClutch_8 : decode cX6_addClutch 8 = .ok (.invokestatic 50, 3) := by decide +kernel
theorem dX6_addClutch_11 : decode cX6_addClutch 11 = .ok (.ifCond .ne 13, 3) := by decide +kernel
theorem dX6_addClutch_14 : decode cX6_addClutch 14 = .ok (.new 54, 3) := by decide +kernel
theorem dX6_addClutch_17 : decode cX6_addClutch 17 = .ok (.dup, 1) := by decide +kernel
theorem dX6_addClutch_18 : decode cX6_addClutch 18 = .ok (.ldc 56, 2) := by decide +kernel
theorem dX6_addClutch_20 : decode cX6_addClutch 20 = .ok (.invokespecial 58, 3) := by decide +kernel
theorem dX6_addClutch_23 : decode cX6_addClutch 23 = .ok (.athrow, 1) := by decide +kernel
theorem dX6_addClutch_24 : decode cX6_addClutch 24 = .ok (.iload_n 1, 1) := by decide +kernel
theorem dX6_addClutch_25 : decode cX6_addClutch 25 = .ok (.iload_n 2, 1) := by decide +kernel
theorem dX6_addClutch_26 : decode cX6_addClutch 26 = .ok (.if_icmp .ne 13, 3) := by decide +kernel
theorem dX6_addClutch_29 : decode cX6_addClutch 29 = .ok (.new 61, 3) := by decide +kernel
theorem dX6_addClutch_32 : decode cX6_addClutch 32 = .ok (.dup, 1) := by decide +kernel
theorem dX6_addClutch_33 : decode cX6_addClutch 33 = .ok (.ldc 97, 2) := by decide +kernel
theorem dX6_addClutch_35 : decode cX6_addClutch 35 = .ok (.invokespecial 65, 3) := by decide +kernel
theorem dX6_addClutch_38 : decode cX6_addClutch 38 = .ok (.athrow, 1) := by decide +kernel
theorem dX6_addClutch_39 : decode cX6_addClutch 39 = .ok (.aload_n 0, 1) := by decide +kernel
theorem dX6_addClutch_40 : decode cX6_addClutch 40 = .ok (.getfield 12, 3) := by decide +kernel
theorem dX6_addClutch_43 : decode cX6_addClutch 43 = .ok (.invokevirtual 88, 3) := by decide +kernel
theorem dX6_addClutch_46 : decode cX6_addClutch 46 = .ok (.bipush 6, 2) := by decide +kernel
theorem dX6_addClutch_48 : decode cX6_addClutch 48 = .ok (.if_icmp .lt 13, 3) := by decide +kernel
theorem dX6_addClutch_51 : decode cX6_addClutch 51 = .ok (.new 74, 3) := by decide +kernel
theorem dX6_addClutch_54 : decode cX6_addClutch 54 = .ok (.dup, 1) := by decide +kernel
theorem dX6_addClutch_55 : decode cX6_addClutch 55 = .ok (.ldc 91, 2) := by decide +kernel
theorem dX6_addClutch_57 : decode cX6_addClutch 57 = .ok (.invokespecial 78, 3) := by decide +kernel
theorem dX6_addClutch_60 : decode cX6_addClutch 60 = .ok (.athrow, 1) := by decide +kernel
theorem dX6_addClutch_61 : decode cX6_addClutch 61 = .ok (.aload_n 0, 1) := by decide +kernel
theorem dX6_addClutch_62 : decode cX6_addClutch 62 = .ok (.getfield 46, 3) := by decide +kernel
theorem dX6_addClutch_65 : decode cX6_addClutch 65 = .ok (.invokevirtual 79, 3) := by decide +kernel
theorem dX6_addClutch_68 : decode cX6_addClutch 68 = .ok (.aload_n 0, 1) := by decide +kernel
theorem dX6_addClutch_69 : decode cX6_addClutch 69 = .ok (.getfield 12, 3) := by decide +kernel
theorem dX6_addClutch_72 : decode cX6_addClutch 72 = .ok (.iload_n 1, 1) := by decide +kernel
theorem dX6_addClutch_73 : decode cX6_addClutch 73 = .ok (.iload_n 2, 1) := by decide +kernel
theorem dX6_addClutch_74 : decode cX6_addClutch 74 = .ok (.invokevirtual 93, 3) := by decide +kernel
theorem dX6_addClutch_77 : decode cX6_addClutch 77 = .ok (.ireturn, 1) := by decide +kernel
theorem dX6_setCapacity_0 : decode cX6_setCapacity 0 = .ok (.aload_n 0, 1) := by decide +kernel
theorem dX6_setCapacity_1 : decode cX6_setCapacity 1 = .ok (.getfield 12, 3) := by decide +kernel
theorem dX6_setCapacity_4 : decode cX6_setCapacity 4 = .ok (.iload_n 1, 1) := by decide +kernel
theorem dX6_setCapacity_5 : decode cX6_setCapacity 5 = .ok (.invokevirtual 99, 3) := by decide +kernel
theorem dX6_setCapacity_8 : decode cX6_setCapacity 8 = .ok (.ifCond .ne 13, 3) := by decide +kernel
theorem dX6_setCapacity_11 : decode cX6_setCapacity 11 = .ok (.new 54, 3) := by decide +kernel
theorem dX6_setCapacity_14 : decode cX6_setCapacity 14 = .ok (.dup, 1) := by decide +kernel
theorem dX6_setCapacity_15 : decode cX6_setCapacity 15 = .ok (.ldc 102, 2) := by decide +kernel
theorem dX6_setCapacity_17 : decode cX6_setCapacity 17 = .ok (.invokespecial 58, 3) := by decide +kernel
theorem dX6_setCapacity_20 : decode cX6_setCapacity 20 = .ok (.athrow, 1) := by decide +kernel
theorem dX6_setCapacity_21 : decode cX6_setCapacity 21 = .ok (.iload_n 2, 1) := by decide +kernel
theorem dX6_setCapacity_22 : decode cX6_setCapacity 22 = .ok (.iconst 1, 1) := by decide +kernel
theorem dX6_setCapacity_23 : decode cX6_setCapacity 23 = .ok (.if_icmp .lt 10, 3) := by decide +kernel
theorem dX6_setCapacity_26 : decode cX6_setCapacity 26 = .ok (.iload_n 2, 1) := by decide +kernel
theorem dX6_setCapacity_27 : decode cX6_setCapacity 27 = .ok (.sipush 10000, 3) := by decide +kernel
theorem dX6_setCapacity_30 : decode cX6_setCapacity 30 = .ok (.if_icmp .le 13, 3) := by decide +kernel
theorem dX6_setCapacity_33 : decode cX6_setCapacity 33 = .ok (.new 61, 3) := by decide +kernel
theorem dX6_setCapacity_36 : decode cX6_setCapacity 36 = .ok (.dup, 1) := by decide +kernel
theorem dX6_setCapacity_37 : decode cX6_setCapacity 37 = .ok (.ldc 104, 2) := by decide +kernel
theorem dX6_setCapacity_39 : decode cX6_setCapacity 39 = .ok (.invokespecial 65, 3) := by decide +kernel
theorem dX6_setCapacity_42 : decode cX6_setCapacity 42 = .ok (.athrow, 1) := by decide +kernel
theorem dX6_setCapacity_43 : decode cX6_setCapacity 43 = .ok (.aload_n 0, 1) := by decide +kernel
theorem dX6_setCapacity_44 : decode cX6_setCapacity 44 = .ok (.getfield 12, 3) := by decide +kernel
theorem dX6_setCapacity_47 : decode cX6_setCapacity 47 = .ok (.iload_n 1, 1) := by decide +kernel
theorem dX6_setCapacity_48 : decode cX6_setCapacity 48 = .ok (.invokevirtual 106, 3) := by decide +kernel
theorem dX6_setCapacity_51 : decode cX6_setCapacity 51 = .ok (.istore_n 3, 1) := by decide +kernel
theorem dX6_setCapacity_52 : decode cX6_setCapacity 52 = .ok (.aload_n 0, 1) := by decide +kernel
theorem dX6_setCapacity_53 : decode cX6_setCapacity 53 = .ok (.getfield 12, 3) := by decide +kernel
theorem dX6_setCapacity_56 : decode cX6_setCapacity 56 = .ok (.iload_n 1, 1) := by decide +kernel
theorem dX6_setCapacity_57 : decode cX6_setCapacity 57 = .ok (.iload_n 2, 1) := by decide +kernel
theorem dX6_setCapacity_58 : decode cX6_setCapacity 58 = .ok (.invokevirtual 110, 3) := by decide +kernel
theorem dX6_setCapacity_61 : decode cX6_setCapacity 61 = .ok (.iload_n 3, 1) := by decide +kernel
theorem dX6_setCapacity_62 : decode cX6_setCapacity 62 = .ok (.ireturn, 1) := by decide +kernel
theorem dX6_count_0 : decode cX6_count 0 = .ok (.iload_n 1, 1) := by decide +kernel
theorem dX6_count_1 : decode cX6_count 1 = .ok (.ifCond .lt 8, 3) := by decide +kernel
theorem dX6_count_4 : decode cX6_count 4 = .ok (.iload_n 1, 1) := by decide +kernel
theorem dX6_count_5 : decode cX6_count 5 = .ok (.iconst 2, 1) := by decide +kernel
theorem dX6_count_6 : decode cX6_count 6 = .ok (.if_icmp .le 13, 3) := by decide +kernel
theorem dX6_count_9 : decode cX6_count 9 = .ok (.new 61, 3) := by decide +kernel
theorem dX6_count_12 : decode cX6_count 12 = .ok (.dup, 1) := by decide +kernel
theorem dX6_count_13 : decode cX6_count 13 = .ok (.ldc 114, 2) := by decide +kernel
theorem dX6_count_15 : decode cX6_count 15 = .ok (.invokespecial 65, 3) := by decide +kernel
theorem dX6_count_18 : decode cX6_count 18 = .ok (.athrow, 1) := by decide +kernel
theorem dX6_count_19 : decode cX6_count 19 = .ok (.iload_n 1, 1) := by decide +kernel
theorem dX6_count_20 : decode cX6_count 20 = .ok (.ifCond .ne 11, 3) := by decide +kernel
theorem dX6_count_23 : decode cX6_count 23 = .ok (.aload_n 0, 1) := by decide +kernel
theorem dX6_count_24 : decode cX6_count 24 = .ok (.getfield 12, 3) := by decide +kernel
theorem dX6_count_27 : decode cX6_count 27 = .ok (.invokevirtual 70, 3) := by decide +kernel
theorem dX6_count_30 : decode cX6_count 30 = .ok (.ireturn, 1) := by decide +kernel
theorem dX6_count_31 : decode cX6_count 31 = .ok (.iload_n 1, 1) := by decide +kernel
theorem dX6_count_32 : decode cX6_count 32 = .ok (.iconst 1, 1) := by decide +kernel
theorem dX6_count_33 : decode cX6_count 33 = .ok (.if_icmp .ne 11, 3) := by decide +kernel
theorem dX6_count_36 : decode cX6_count 36 = .ok (.aload_n 0, 1) := by decide +kernel
theorem dX6_count_37 : decode cX6_count 37 = .ok (.getfield 12, 3) := by decide +kernel
theorem dX6_count_40 : decode cX6_count 40 = .ok (.invokevirtual 88, 3) := by decide +kernel
theorem dX6_count_43 : decode cX6_count 43 = .ok (.ireturn, 1) := by decide +kernel
theorem dX6_count_44 : decode cX6_count 44 = .ok (.aload_n 0, 1) := by decide +kernel
theorem dX6_count_45 : decode cX6_count 45 = .ok (.getfield 46, 3) := by decide +kernel
theorem dX6_count_48 : decode cX6_count 48 = .ok (.aload_n 0, 1) := by decide +kernel
theorem dX6_count_49 : decode cX6_count 49 = .ok (.getfield 12, 3) := by decide +kernel
theorem dX6_count_52 : decode cX6_count 52 = .ok (.aload_n 0, 1) := by decide +kernel
theorem dX6_count_53 : decode cX6_count 53 = .ok (.getfield 32, 3) := by decide +kernel
theorem dX6_count_56 : decode cX6_count 56 = .ok (.invokevirtual 116, 3) := by decide +kernel
theorem dX6_count_59 : decode cX6_count 59 = .ok (.aload_n 0, 1) := by decide +kernel
theorem dX6_count_60 : decode cX6_count 60 = .ok (.getfield 46, 3) := by decide +kernel
theorem dX6_count_63 : decode cX6_count 63 = .ok (.invokevirtual 120, 3) := by decide +kernel
theorem dX6_count_66 : decode cX6_count 66 = .ok (.ireturn, 1) := by decide +kernel
theorem dX6_engage_0 : decode cX6_engage 0 = .ok (.aload_n 0, 1) := by decide +kernel
theorem dX6_engage_1 : decode cX6_engage 1 = .ok (.getfield 12, 3) := by decide +kernel
theorem dX6_engage_4 : decode cX6_engage 4 = .ok (.iload_n 1, 1) := by decide +kernel
theorem dX6_engage_5 : decode cX6_engage 5 = .ok (.invokevirtual 99, 3) := by decide +kernel
theorem dX6_engage_8 : decode cX6_engage 8 = .ok (.ifCond .ne 13, 3) := by decide +kernel
theorem dX6_engage_11 : decode cX6_engage 11 = .ok (.new 54, 3) := by decide +kernel
theorem dX6_engage_14 : decode cX6_engage 14 = .ok (.dup, 1) := by decide +kernel
theorem dX6_engage_15 : decode cX6_engage 15 = .ok (.ldc 102, 2) := by decide +kernel
theorem dX6_engage_17 : decode cX6_engage 17 = .ok (.invokespecial 58, 3) := by decide +kernel
theorem dX6_engage_20 : decode cX6_engage 20 = .ok (.athrow, 1) := by decide +kernel
theorem dX6_engage_21 : decode cX6_engage 21 = .ok (.aload_n 0, 1) := by decide +kernel
theorem dX6_engage_22 : decode cX6_engage 22 = .ok (.aload_n 0, 1) := by decide +kernel
theorem dX6_engage_23 : decode cX6_engage 23 = .ok (.getfield 12, 3) := by decide +kernel
theorem dX6_engage_26 : decode cX6_engage 26 = .ok (.invokevirtual 123, 3) := by decide +kernel
theorem dX6_engage_29 : decode cX6_engage 29 = .ok (.iconst 1, 1) := by decide +kernel
theorem dX6_engage_30 : decode cX6_engage 30 = .ok (.iload_n 1, 1) := by decide +kernel
theorem dX6_engage_31 : decode cX6_engage 31 = .ok (.ishl, 1) := by decide +kernel
theorem dX6_engage_32 : decode cX6_engage 32 = .ok (.ior, 1) := by decide +kernel
theorem dX6_engage_33 : decode cX6_engage 33 = .ok (.invokevirtual 126, 3) := by decide +kernel
theorem dX6_engage_36 : decode cX6_engage 36 = .ok (.ireturn, 1) := by decide +kernel
theorem dX6_release_0 : decode cX6_release 0 = .ok (.aload_n 0, 1) := by decide +kernel
theorem dX6_release_1 : decode cX6_release 1 = .ok (.getfield 12, 3) := by decide +kernel
theorem dX6_release_4 : decode cX6_release 4 = .ok (.iload_n 1, 1) := by decide +kernel
theorem dX6_release_5 : decode cX6_release 5 = .ok (.invokevirtual 99, 3) := by decide +kernel
theorem dX6_release_8 : decode cX6_release 8 = .ok (.ifCond .ne 13, 3) := by decide +kernel
theorem dX6_release_11 : decode cX6_release 11 = .ok (.new 54, 3) := by decide +kernel
theorem dX6_release_14 : decode cX6_release 14 = .ok (.dup, 1) := by decide +kernel
theorem dX6_release_15 : decode cX6_release 15 = .ok (.ldc 102, 2) := by decide +kernel
theorem dX6_release_17 : decode cX6_release 17 = .ok (.invokespecial 58, 3) := by decide +kernel
theorem dX6_release_20 : decode cX6_release 20 = .ok (.athrow, 1) := by decide +kernel
theorem dX6_release_21 : decode cX6_release 21 = .ok (.aload_n 0, 1) := by decide +kernel
theorem dX6_release_22 : decode cX6_release 22 = .ok (.aload_n 0, 1) := by decide +kernel
theorem dX6_release_23 : decode cX6_release 23 = .ok (.getfield 12, 3) := by decide +kernel
theorem dX6_release_26 : decode cX6_release 26 = .ok (.invokevirtual 123, 3) := by decide +kernel
theorem dX6_release_29 : decode cX6_release 29 = .ok (.iconst 1, 1) := by decide +kernel
theorem dX6_release_30 : decode cX6_release 30 = .ok (.iload_n 1, 1) := by decide +kernel
theorem dX6_release_31 : decode cX6_release 31 = .ok (.ishl, 1) := by decide +kernel
theorem dX6_release_32 : decode cX6_release 32 = .ok (.iconst (-1), 1) := by decide +kernel
theorem dX6_release_33 : decode cX6_release 33 = .ok (.ixor, 1) := by decide +kernel
theorem dX6_release_34 : decode cX6_release 34 = .ok (.iand, 1) := by decide +kernel
theorem dX6_release_35 : decode cX6_release 35 = .ok (.invokevirtual 126, 3) := by decide +kernel
theorem dX6_release_38 : decode cX6_release 38 = .ok (.ireturn, 1) := by decide +kernel
theorem dX6_select_0 : decode cX6_select 0 = .ok (.aload_n 0, 1) := by decide +kernel
theorem dX6_select_1 : decode cX6_select 1 = .ok (.getfield 12, 3) := by decide +kernel
theorem dX6_select_4 : decode cX6_select 4 = .ok (.iload_n 1, 1) := by decide +kernel
theorem dX6_select_5 : decode cX6_select 5 = .ok (.invokevirtual 129, 3) := by decide +kernel
theorem dX6_select_8 : decode cX6_select 8 = .ok (.ifCond .ne 13, 3) := by decide +kernel
theorem dX6_select_11 : decode cX6_select 11 = .ok (.new 61, 3) := by decide +kernel
theorem dX6_select_14 : decode cX6_select 14 = .ok (.dup, 1) := by decide +kernel
theorem dX6_select_15 : decode cX6_select 15 = .ok (.ldc 132, 2) := by decide +kernel
theorem dX6_select_17 : decode cX6_select 17 = .ok (.invokespecial 65, 3) := by decide +kernel
theorem dX6_select_20 : decode cX6_select 20 = .ok (.athrow, 1) := by decide +kernel
theorem dX6_select_21 : decode cX6_select 21 = .ok (.aload_n 0, 1) := by decide +kernel
theorem dX6_select_22 : decode cX6_select 22 = .ok (.getfield 12, 3) := by decide +kernel
theorem dX6_select_25 : decode cX6_select 25 = .ok (.invokevirtual 123, 3) := by decide +kernel
theorem dX6_select_28 : decode cX6_select 28 = .ok (.istore_n 2, 1) := by decide +kernel
theorem dX6_select_29 : decode cX6_select 29 = .ok (.aload_n 0, 1) := by decide +kernel
theorem dX6_select_30 : decode cX6_select 30 = .ok (.iload_n 1, 1) := by decide +kernel
theorem dX6_select_31 : decode cX6_select 31 = .ok (.invokevirtual 126, 3) := by decide +kernel
theorem dX6_select_34 : decode cX6_select 34 = .ok (.pop, 1) := by decide +kernel
theorem dX6_select_35 : decode cX6_select 35 = .ok (.iload_n 2, 1) := by decide +kernel
theorem dX6_select_36 : decode cX6_select 36 = .ok (.ireturn, 1) := by decide +kernel
theorem dX6_undo_0 : decode cX6_undo 0 = .ok (.aload_n 0, 1) := by decide +kernel
theorem dX6_undo_1 : decode cX6_undo 1 = .ok (.getfield 25, 3) := by decide +kernel
theorem dX6_undo_4 : decode cX6_undo 4 = .ok (.invokevirtual 134, 3) := by decide +kernel
theorem dX6_undo_7 : decode cX6_undo 7 = .ok (.ifCond .eq 5, 3) := by decide +kernel
theorem dX6_undo_10 : decode cX6_undo 10 = .ok (.iconst 0, 1) := by decide +kernel
theorem dX6_undo_11 : decode cX6_undo 11 = .ok (.ireturn, 1) := by decide +kernel
theorem dX6_undo_12 : decode cX6_undo 12 = .ok (.aload_n 0, 1) := by decide +kernel
theorem dX6_undo_13 : decode cX6_undo 13 = .ok (.getfield 12, 3) := by decide +kernel
theorem dX6_undo_16 : decode cX6_undo 16 = .ok (.aload_n 0, 1) := by decide +kernel
theorem dX6_undo_17 : decode cX6_undo 17 = .ok (.getfield 25, 3) := by decide +kernel
theorem dX6_undo_20 : decode cX6_undo 20 = .ok (.invokevirtual 138, 3) := by decide +kernel
theorem dX6_undo_23 : decode cX6_undo 23 = .ok (.invokevirtual 141, 3) := by decide +kernel
theorem dX6_undo_26 : decode cX6_undo 26 = .ok (.iconst 1, 1) := by decide +kernel
theorem dX6_undo_27 : decode cX6_undo 27 = .ok (.ireturn, 1) := by decide +kernel
theorem dX6_engaged_0 : decode cX6_engaged 0 = .ok (.aload_n 0, 1) := by decide +kernel
theorem dX6_engaged_1 : decode cX6_engaged 1 = .ok (.getfield 12, 3) := by decide +kernel
theorem dX6_engaged_4 : decode cX6_engaged 4 = .ok (.invokevirtual 123, 3) := by decide +kernel
theorem dX6_engaged_7 : decode cX6_engaged 7 = .ok (.ireturn, 1) := by decide +kernel
theorem dX6_brakesOnly_0 : decode cX6_brakesOnly 0 = .ok (.iconst 0, 1) := by decide +kernel
theorem dX6_brakesOnly_1 : decode cX6_brakesOnly 1 = .ok (.istore_n 1, 1) := by decide +kernel
theorem dX6_brakesOnly_2 : decode cX6_brakesOnly 2 = .ok (.iload_n 1, 1) := by decide +kernel
theorem dX6_brakesOnly_3 : decode cX6_brakesOnly 3 = .ok (.bipush 6, 2) := by decide +kernel
theorem dX6_brakesOnly_5 : decode cX6_brakesOnly 5 = .ok (.if_icmp .ge 33, 3) := by decide +kernel
theorem dX6_brakesOnly_8 : decode cX6_brakesOnly 8 = .ok (.aload_n 0, 1) := by decide +kernel
theorem dX6_brakesOnly_9 : decode cX6_brakesOnly 9 = .ok (.getfield 12, 3) := by decide +kernel
theorem dX6_brakesOnly_12 : decode cX6_brakesOnly 12 = .ok (.iload_n 1, 1) := by decide +kernel
theorem dX6_brakesOnly_13 : decode cX6_brakesOnly 13 = .ok (.invokevirtual 145, 3) := by decide +kernel
theorem dX6_brakesOnly_16 : decode cX6_brakesOnly 16 = .ok (.ifCond .eq 16, 3) := by decide +kernel
theorem dX6_brakesOnly_19 : decode cX6_brakesOnly 19 = .ok (.aload_n 0, 1) := by decide +kernel
theorem dX6_brakesOnly_20 : decode cX6_brakesOnly 20 = .ok (.getfield 12, 3) := by decide +kernel
theorem dX6_brakesOnly_23 : decode cX6_brakesOnly 23 = .ok (.iload_n 1, 1) := by decide +kernel
theorem dX6_brakesOnly_24 : decode cX6_brakesOnly 24 = .ok (.invokevirtual 148, 3) := by decide +kernel
theorem dX6_brakesOnly_27 : decode cX6_brakesOnly 27 = .ok (.ifCond .eq 5, 3) := by decide +kernel
theorem dX6_brakesOnly_30 : decode cX6_brakesOnly 30 = .ok (.iconst 0, 1) := by decide +kernel
theorem dX6_brakesOnly_31 : decode cX6_brakesOnly 31 = .ok (.ireturn, 1) := by decide +kernel
theorem dX6_brakesOnly_32 : decode cX6_brakesOnly 32 = .ok (.iinc 1 1, 3) := by decide +kernel
theorem dX6_brakesOnly_35 : decode cX6_brakesOnly 35 = .ok (.goto (-33), 3) := by decide +kernel
theorem dX6_brakesOnly_38 : decode cX6_brakesOnly 38 = .ok (.iconst 1, 1) := by decide +kernel
theorem dX6_brakesOnly_39 : decode cX6_brakesOnly 39 = .ok (.ireturn, 1) := by decide +kernel
theorem dX6_state_0 : decode cX6_state 0 = .ok (.aload_n 0, 1) := by decide +kernel
theorem dX6_state_1 : decode cX6_state 1 = .ok (.getfield 32, 3) := by decide +kernel
theorem dX6_state_4 : decode cX6_state 4 = .ok (.aload_n 0, 1) := by decide +kernel
theorem dX6_state_5 : decode cX6_state 5 = .ok (.getfield 12, 3) := by decide +kernel
theorem dX6_state_8 : decode cX6_state 8 = .ok (.aload_n 0, 1) := by decide +kernel
theorem dX6_state_9 : decode cX6_state 9 = .ok (.getfield 12, 3) := by decide +kernel
theorem dX6_state_12 : decode cX6_state 12 = .ok (.invokevirtual 123, 3) := by decide +kernel
theorem dX6_state_15 : decode cX6_state 15 = .ok (.invokevirtual 151, 3) := by decide +kernel
theorem dX6_state_18 : decode cX6_state 18 = .ok (.aload_n 0, 1) := by decide +kernel
theorem dX6_state_19 : decode cX6_state 19 = .ok (.getfield 32, 3) := by decide +kernel
theorem dX6_state_22 : decode cX6_state 22 = .ok (.invokevirtual 155, 3) := by decide +kernel
theorem dX6_state_25 : decode cX6_state 25 = .ok (.ireturn, 1) := by decide +kernel
theorem dX6_speed_0 : decode cX6_speed 0 = .ok (.iload_n 1, 1) := by decide +kernel
theorem dX6_speed_1 : decode cX6_speed 1 = .ok (.invokestatic 50, 3) := by decide +kernel
theorem dX6_speed_4 : decode cX6_speed 4 = .ok (.ifCond .ne 13, 3) := by decide +kernel
theorem dX6_speed_7 : decode cX6_speed 7 = .ok (.new 54, 3) := by decide +kernel
theorem dX6_speed_10 : decode cX6_speed 10 = .ok (.dup, 1) := by decide +kernel
theorem dX6_speed_11 : decode cX6_speed 11 = .ok (.ldc 86, 2) := by decide +kernel
theorem dX6_speed_13 : decode cX6_speed 13 = .ok (.invokespecial 58, 3) := by decide +kernel
theorem dX6_speed_16 : decode cX6_speed 16 = .ok (.athrow, 1) := by decide +kernel
theorem dX6_speed_17 : decode cX6_speed 17 = .ok (.iload_n 2, 1) := by decide +kernel
theorem dX6_speed_18 : decode cX6_speed 18 = .ok (.invokestatic 158, 3) := by decide +kernel
theorem dX6_speed_21 : decode cX6_speed 21 = .ok (.ifCond .ne 13, 3) := by decide +kernel
theorem dX6_speed_24 : decode cX6_speed 24 = .ok (.new 61, 3) := by decide +kernel
theorem dX6_speed_27 : decode cX6_speed 27 = .ok (.dup, 1) := by decide +kernel
theorem dX6_speed_28 : decode cX6_speed 28 = .ok (.ldc 161, 2) := by decide +kernel
theorem dX6_speed_30 : decode cX6_speed 30 = .ok (.invokespecial 65, 3) := by decide +kernel
theorem dX6_speed_33 : decode cX6_speed 33 = .ok (.athrow, 1) := by decide +kernel
theorem dX6_speed_34 : decode cX6_speed 34 = .ok (.aload_n 0, 1) := by decide +kernel
theorem dX6_speed_35 : decode cX6_speed 35 = .ok (.getfield 32, 3) := by decide +kernel
theorem dX6_speed_38 : decode cX6_speed 38 = .ok (.aload_n 0, 1) := by decide +kernel
theorem dX6_speed_39 : decode cX6_speed 39 = .ok (.getfield 12, 3) := by decide +kernel
theorem dX6_speed_42 : decode cX6_speed 42 = .ok (.aload_n 0, 1) := by decide +kernel
theorem dX6_speed_43 : decode cX6_speed 43 = .ok (.getfield 12, 3) := by decide +kernel
theorem dX6_speed_46 : decode cX6_speed 46 = .ok (.invokevirtual 123, 3) := by decide +kernel
theorem dX6_speed_49 : decode cX6_speed 49 = .ok (.invokevirtual 151, 3) := by decide +kernel
theorem dX6_speed_52 : decode cX6_speed 52 = .ok (.aload_n 0, 1) := by decide +kernel
theorem dX6_speed_53 : decode cX6_speed 53 = .ok (.getfield 32, 3) := by decide +kernel
theorem dX6_speed_56 : decode cX6_speed 56 = .ok (.iload_n 1, 1) := by decide +kernel
theorem dX6_speed_57 : decode cX6_speed 57 = .ok (.invokevirtual 163, 3) := by decide +kernel
theorem dX6_speed_60 : decode cX6_speed 60 = .ok (.ifCond .ne 13, 3) := by decide +kernel
theorem dX6_speed_63 : decode cX6_speed 63 = .ok (.new 74, 3) := by decide +kernel
theorem dX6_speed_66 : decode cX6_speed 66 = .ok (.dup, 1) := by decide +kernel
theorem dX6_speed_67 : decode cX6_speed 67 = .ok (.ldc 166, 2) := by decide +kernel
theorem dX6_speed_69 : decode cX6_speed 69 = .ok (.invokespecial 78, 3) := by decide +kernel
theorem dX6_speed_72 : decode cX6_speed 72 = .ok (.athrow, 1) := by decide +kernel
theorem dX6_speed_73 : decode cX6_speed 73 = .ok (.aload_n 0, 1) := by decide +kernel
theorem dX6_speed_74 : decode cX6_speed 74 = .ok (.getfield 32, 3) := by decide +kernel
theorem dX6_speed_77 : decode cX6_speed 77 = .ok (.iload_n 1, 1) := by decide +kernel
theorem dX6_speed_78 : decode cX6_speed 78 = .ok (.iload_n 2, 1) := by decide +kernel
theorem dX6_speed_79 : decode cX6_speed 79 = .ok (.invokevirtual 168, 3) := by decide +kernel
theorem dX6_speed_82 : decode cX6_speed 82 = .ok (.lreturn, 1) := by decide +kernel
theorem dX6_ratio_0 : decode cX6_ratio 0 = .ok (.iload_n 1, 1) := by decide +kernel
theorem dX6_ratio_1 : decode cX6_ratio 1 = .ok (.invokestatic 158, 3) := by decide +kernel
theorem dX6_ratio_4 : decode cX6_ratio 4 = .ok (.ifCond .ne 13, 3) := by decide +kernel
theorem dX6_ratio_7 : decode cX6_ratio 7 = .ok (.new 61, 3) := by decide +kernel
theorem dX6_ratio_10 : decode cX6_ratio 10 = .ok (.dup, 1) := by decide +kernel
theorem dX6_ratio_11 : decode cX6_ratio 11 = .ok (.ldc 161, 2) := by decide +kernel
theorem dX6_ratio_13 : decode cX6_ratio 13 = .ok (.invokespecial 65, 3) := by decide +kernel
theorem dX6_ratio_16 : decode cX6_ratio 16 = .ok (.athrow, 1) := by decide +kernel
theorem dX6_ratio_17 : decode cX6_ratio 17 = .ok (.aload_n 0, 1) := by decide +kernel
theorem dX6_ratio_18 : decode cX6_ratio 18 = .ok (.getfield 32, 3) := by decide +kernel
theorem dX6_ratio_21 : decode cX6_ratio 21 = .ok (.aload_n 0, 1) := by decide +kernel
theorem dX6_ratio_22 : decode cX6_ratio 22 = .ok (.getfield 12, 3) := by decide +kernel
theorem dX6_ratio_25 : decode cX6_ratio 25 = .ok (.aload_n 0, 1) := by decide +kernel
theorem dX6_ratio_26 : decode cX6_ratio 26 = .ok (.getfield 12, 3) := by decide +kernel
theorem dX6_ratio_29 : decode cX6_ratio 29 = .ok (.invokevirtual 123, 3) := by decide +kernel
theorem dX6_ratio_32 : decode cX6_ratio 32 = .ok (.invokevirtual 151, 3) := by decide +kernel
theorem dX6_ratio_35 : decode cX6_ratio 35 = .ok (.aload_n 0, 1) := by decide +kernel
theorem dX6_ratio_36 : decode cX6_ratio 36 = .ok (.getfield 32, 3) := by decide +kernel
theorem dX6_ratio_39 : decode cX6_ratio 39 = .ok (.invokevirtual 155, 3) := by decide +kernel
theorem dX6_ratio_42 : decode cX6_ratio 42 = .ok (.ifCond .eq 13, 3) := by decide +kernel
theorem dX6_ratio_45 : decode cX6_ratio 45 = .ok (.new 74, 3) := by decide +kernel
theorem dX6_ratio_48 : decode cX6_ratio 48 = .ok (.dup, 1) := by decide +kernel
theorem dX6_ratio_49 : decode cX6_ratio 49 = .ok (.ldc 172, 2) := by decide +kernel
theorem dX6_ratio_51 : decode cX6_ratio 51 = .ok (.invokespecial 78, 3) := by decide +kernel
theorem dX6_ratio_54 : decode cX6_ratio 54 = .ok (.athrow, 1) := by decide +kernel
theorem dX6_ratio_55 : decode cX6_ratio 55 = .ok (.aload_n 0, 1) := by decide +kernel
theorem dX6_ratio_56 : decode cX6_ratio 56 = .ok (.getfield 32, 3) := by decide +kernel
theorem dX6_ratio_59 : decode cX6_ratio 59 = .ok (.iload_n 1, 1) := by decide +kernel
theorem dX6_ratio_60 : decode cX6_ratio 60 = .ok (.invokevirtual 174, 3) := by decide +kernel
theorem dX6_ratio_63 : decode cX6_ratio 63 = .ok (.lreturn, 1) := by decide +kernel
theorem dX6_outputTorque_0 : decode cX6_outputTorque 0 = .ok (.iload_n 1, 1) := by decide +kernel
theorem dX6_outputTorque_1 : decode cX6_outputTorque 1 = .ok (.invokestatic 158, 3) := by decide +kernel
theorem dX6_outputTorque_4 : decode cX6_outputTorque 4 = .ok (.ifCond .ne 13, 3) := by decide +kernel
theorem dX6_outputTorque_7 : decode cX6_outputTorque 7 = .ok (.new 61, 3) := by decide +kernel
theorem dX6_outputTorque_10 : decode cX6_outputTorque 10 = .ok (.dup, 1) := by decide +kernel
theorem dX6_outputTorque_11 : decode cX6_outputTorque 11 = .ok (.ldc 161, 2) := by decide +kernel
theorem dX6_outputTorque_13 : decode cX6_outputTorque 13 = .ok (.invokespecial 65, 3) := by decide +kernel
theorem dX6_outputTorque_16 : decode cX6_outputTorque 16 = .ok (.athrow, 1) := by decide +kernel
theorem dX6_outputTorque_17 : decode cX6_outputTorque 17 = .ok (.aload_n 0, 1) := by decide +kernel
theorem dX6_outputTorque_18 : decode cX6_outputTorque 18 = .ok (.getfield 39, 3) := by decide +kernel
theorem dX6_outputTorque_21 : decode cX6_outputTorque 21 = .ok (.aload_n 0, 1) := by decide +kernel
theorem dX6_outputTorque_22 : decode cX6_outputTorque 22 = .ok (.getfield 12, 3) := by decide +kernel
theorem dX6_outputTorque_25 : decode cX6_outputTorque 25 = .ok (.aload_n 0, 1) := by decide +kernel
theorem dX6_outputTorque_26 : decode cX6_outputTorque 26 = .ok (.getfield 12, 3) := by decide +kernel
theorem dX6_outputTorque_29 : decode cX6_outputTorque 29 = .ok (.invokevirtual 123, 3) := by decide +kernel
theorem dX6_outputTorque_32 : decode cX6_outputTorque 32 = .ok (.invokevirtual 182, 3) := by decide +kernel
theorem dX6_outputTorque_35 : decode cX6_outputTorque 35 = .ok (.aload_n 0, 1) := by decide +kernel
theorem dX6_outputTorque_36 : decode cX6_outputTorque 36 = .ok (.getfield 39, 3) := by decide +kernel
theorem dX6_outputTorque_39 : decode cX6_outputTorque 39 = .ok (.invokevirtual 183, 3) := by decide +kernel
theorem dX6_outputTorque_42 : decode cX6_outputTorque 42 = .ok (.ifCond .ne 13, 3) := by decide +kernel
theorem dX6_outputTorque_45 : decode cX6_outputTorque 45 = .ok (.new 74, 3) := by decide +kernel
theorem dX6_outputTorque_48 : decode cX6_outputTorque 48 = .ok (.dup, 1) := by decide +kernel
theorem dX6_outputTorque_49 : decode cX6_outputTorque 49 = .ok (.ldc 186, 2) := by decide +kernel
theorem dX6_outputTorque_51 : decode cX6_outputTorque 51 = .ok (.invokespecial 78, 3) := by decide +kernel
theorem dX6_outputTorque_54 : decode cX6_outputTorque 54 = .ok (.athrow, 1) := by decide +kernel
theorem dX6_outputTorque_55 : decode cX6_outputTorque 55 = .ok (.aload_n 0, 1) := by decide +kernel
theorem dX6_outputTorque_56 : decode cX6_outputTorque 56 = .ok (.getfield 39, 3) := by decide +kernel
theorem dX6_outputTorque_59 : decode cX6_outputTorque 59 = .ok (.iload_n 1, 1) := by decide +kernel
theorem dX6_outputTorque_60 : decode cX6_outputTorque 60 = .ok (.invokevirtual 188, 3) := by decide +kernel
theorem dX6_outputTorque_63 : decode cX6_outputTorque 63 = .ok (.lreturn, 1) := by decide +kernel
theorem dX6_torque_0 : decode cX6_torque 0 = .ok (.aload_n 0, 1) := by decide +kernel
theorem dX6_torque_1 : decode cX6_torque 1 = .ok (.getfield 12, 3) := by decide +kernel
theorem dX6_torque_4 : decode cX6_torque 4 = .ok (.iload_n 1, 1) := by decide +kernel
theorem dX6_torque_5 : decode cX6_torque 5 = .ok (.invokevirtual 99, 3) := by decide +kernel
theorem dX6_torque_8 : decode cX6_torque 8 = .ok (.ifCond .ne 13, 3) := by decide +kernel
theorem dX6_torque_11 : decode cX6_torque 11 = .ok (.new 54, 3) := by decide +kernel
theorem dX6_torque_14 : decode cX6_torque 14 = .ok (.dup, 1) := by decide +kernel
theorem dX6_torque_15 : decode cX6_torque 15 = .ok (.ldc 102, 2) := by decide +kernel
theorem dX6_torque_17 : decode cX6_torque 17 = .ok (.invokespecial 58, 3) := by decide +kernel
theorem dX6_torque_20 : decode cX6_torque 20 = .ok (.athrow, 1) := by decide +kernel
theorem dX6_torque_21 : decode cX6_torque 21 = .ok (.iload_n 2, 1) := by decide +kernel
theorem dX6_torque_22 : decode cX6_torque 22 = .ok (.invokestatic 158, 3) := by decide +kernel
theorem dX6_torque_25 : decode cX6_torque 25 = .ok (.ifCond .ne 13, 3) := by decide +kernel
theorem dX6_torque_28 : decode cX6_torque 28 = .ok (.new 61, 3) := by decide +kernel
theorem dX6_torque_31 : decode cX6_torque 31 = .ok (.dup, 1) := by decide +kernel
theorem dX6_torque_32 : decode cX6_torque 32 = .ok (.ldc 161, 2) := by decide +kernel
theorem dX6_torque_34 : decode cX6_torque 34 = .ok (.invokespecial 65, 3) := by decide +kernel
theorem dX6_torque_37 : decode cX6_torque 37 = .ok (.athrow, 1) := by decide +kernel
theorem dX6_torque_38 : decode cX6_torque 38 = .ok (.aload_n 0, 1) := by decide +kernel
theorem dX6_torque_39 : decode cX6_torque 39 = .ok (.getfield 12, 3) := by decide +kernel
theorem dX6_torque_42 : decode cX6_torque 42 = .ok (.iload_n 1, 1) := by decide +kernel
theorem dX6_torque_43 : decode cX6_torque 43 = .ok (.invokevirtual 145, 3) := by decide +kernel
theorem dX6_torque_46 : decode cX6_torque 46 = .ok (.ifCond .ne 13, 3) := by decide +kernel
theorem dX6_torque_49 : decode cX6_torque 49 = .ok (.new 74, 3) := by decide +kernel
theorem dX6_torque_52 : decode cX6_torque 52 = .ok (.dup, 1) := by decide +kernel
theorem dX6_torque_53 : decode cX6_torque 53 = .ok (.ldc 191, 2) := by decide +kernel
theorem dX6_torque_55 : decode cX6_torque 55 = .ok (.invokespecial 78, 3) := by decide +kernel
theorem dX6_torque_58 : decode cX6_torque 58 = .ok (.athrow, 1) := by decide +kernel
theorem dX6_torque_59 : decode cX6_torque 59 = .ok (.aload_n 0, 1) := by decide +kernel
theorem dX6_torque_60 : decode cX6_torque 60 = .ok (.getfield 39, 3) := by decide +kernel
theorem dX6_torque_63 : decode cX6_torque 63 = .ok (.aload_n 0, 1) := by decide +kernel
theorem dX6_torque_64 : decode cX6_torque 64 = .ok (.getfield 12, 3) := by decide +kernel
theorem dX6_torque_67 : decode cX6_torque 67 = .ok (.aload_n 0, 1) := by decide +kernel
theorem dX6_torque_68 : decode cX6_torque 68 = .ok (.getfield 12, 3) := by decide +kernel
theorem dX6_torque_71 : decode cX6_torque 71 = .ok (.invokevirtual 123, 3) := by decide +kernel
theorem dX6_torque_74 : decode cX6_torque 74 = .ok (.invokevirtual 182, 3) := by decide +kernel
theorem dX6_torque_77 : decode cX6_torque 77 = .ok (.aload_n 0, 1) := by decide +kernel
theorem dX6_torque_78 : decode cX6_torque 78 = .ok (.getfield 39, 3) := by decide +kernel
theorem dX6_torque_81 : decode cX6_torque 81 = .ok (.iload_n 1, 1) := by decide +kernel
theorem dX6_torque_82 : decode cX6_torque 82 = .ok (.invokevirtual 193, 3) := by decide +kernel
theorem dX6_torque_85 : decode cX6_torque 85 = .ok (.ifCond .ne 13, 3) := by decide +kernel
theorem dX6_torque_88 : decode cX6_torque 88 = .ok (.new 74, 3) := by decide +kernel
theorem dX6_torque_91 : decode cX6_torque 91 = .ok (.dup, 1) := by decide +kernel
theorem dX6_torque_92 : decode cX6_torque 92 = .ok (.ldc 186, 2) := by decide +kernel
theorem dX6_torque_94 : decode cX6_torque 94 = .ok (.invokespecial 78, 3) := by decide +kernel
theorem dX6_torque_97 : decode cX6_torque 97 = .ok (.athrow, 1) := by decide +kernel
theorem dX6_torque_98 : decode cX6_torque 98 = .ok (.aload_n 0, 1) := by decide +kernel
theorem dX6_torque_99 : decode cX6_torque 99 = .ok (.getfield 39, 3) := by decide +kernel
theorem dX6_torque_102 : decode cX6_torque 102 = .ok (.iload_n 1, 1) := by decide +kernel
theorem dX6_torque_103 : decode cX6_torque 103 = .ok (.iload_n 2, 1) := by decide +kernel
theorem dX6_torque_104 : decode cX6_torque 104 = .ok (.invokevirtual 194, 3) := by decide +kernel
theorem dX6_torque_107 : decode cX6_torque 107 = .ok (.lreturn, 1) := by decide +kernel
theorem dX6_slipping_0 : decode cX6_slipping 0 = .ok (.iload_n 1, 1) := by decide +kernel
theorem dX6_slipping_1 : decode cX6_slipping 1 = .ok (.iconst 1, 1) := by decide +kernel
theorem dX6_slipping_2 : decode cX6_slipping 2 = .ok (.if_icmp .lt 10, 3) := by decide +kernel
theorem dX6_slipping_5 : decode cX6_slipping 5 = .ok (.iload_n 1, 1) := by decide +kernel
theorem dX6_slipping_6 : decode cX6_slipping 6 = .ok (.sipush 10000, 3) := by decide +kernel
theorem dX6_slipping_9 : decode cX6_slipping 9 = .ok (.if_icmp .le 13, 3) := by decide +kernel
theorem dX6_slipping_12 : decode cX6_slipping 12 = .ok (.new 61, 3) := by decide +kernel
theorem dX6_slipping_15 : decode cX6_slipping 15 = .ok (.dup, 1) := by decide +kernel
theorem dX6_slipping_16 : decode cX6_slipping 16 = .ok (.ldc 197, 2) := by decide +kernel
theorem dX6_slipping_18 : decode cX6_slipping 18 = .ok (.invokespecial 65, 3) := by decide +kernel
theorem dX6_slipping_21 : decode cX6_slipping 21 = .ok (.athrow, 1) := by decide +kernel
theorem dX6_slipping_22 : decode cX6_slipping 22 = .ok (.aload_n 0, 1) := by decide +kernel
theorem dX6_slipping_23 : decode cX6_slipping 23 = .ok (.getfield 39, 3) := by decide +kernel
theorem dX6_slipping_26 : decode cX6_slipping 26 = .ok (.aload_n 0, 1) := by decide +kernel
theorem dX6_slipping_27 : decode cX6_slipping 27 = .ok (.getfield 12, 3) := by decide +kernel
theorem dX6_slipping_30 : decode cX6_slipping 30 = .ok (.aload_n 0, 1) := by decide +kernel
theorem dX6_slipping_31 : decode cX6_slipping 31 = .ok (.getfield 12, 3) := by decide +kernel
theorem dX6_slipping_34 : decode cX6_slipping 34 = .ok (.invokevirtual 123, 3) := by decide +kernel
theorem dX6_slipping_37 : decode cX6_slipping 37 = .ok (.invokevirtual 182, 3) := by decide +kernel
theorem dX6_slipping_40 : decode cX6_slipping 40 = .ok (.iconst 0, 1) := by decide +kernel
theorem dX6_slipping_41 : decode cX6_slipping 41 = .ok (.istore_n 2, 1) := by decide +kernel
theorem dX6_slipping_42 : decode cX6_slipping 42 = .ok (.iconst 0, 1) := by decide +kernel
theorem dX6_slipping_43 : decode cX6_slipping 43 = .ok (.istore_n 3, 1) := by decide +kernel
theorem dX6_slipping_44 : decode cX6_slipping 44 = .ok (.iload_n 3, 1) := by decide +kernel
theorem dX6_slipping_45 : decode cX6_slipping 45 = .ok (.bipush 6, 2) := by decide +kernel
theorem dX6_slipping_47 : decode cX6_slipping 47 = .ok (.if_icmp .ge 46, 3) := by decide +kernel
theorem dX6_slipping_50 : decode cX6_slipping 50 = .ok (.aload_n 0, 1) := by decide +kernel
theorem dX6_slipping_51 : decode cX6_slipping 51 = .ok (.getfield 12, 3) := by decide +kernel
theorem dX6_slipping_54 : decode cX6_slipping 54 = .ok (.iload_n 3, 1) := by decide +kernel
theorem dX6_slipping_55 : decode cX6_slipping 55 = .ok (.invokevirtual 145, 3) := by decide +kernel
theorem dX6_slipping_58 : decode cX6_slipping 58 = .ok (.ifCond .eq 29, 3) := by decide +kernel
theorem dX6_slipping_61 : decode cX6_slipping 61 = .ok (.aload_n 0, 1) := by decide +kernel
theorem dX6_slipping_62 : decode cX6_slipping 62 = .ok (.getfield 39, 3) := by decide +kernel
theorem dX6_slipping_65 : decode cX6_slipping 65 = .ok (.iload_n 3, 1) := by decide +kernel
theorem dX6_slipping_66 : decode cX6_slipping 66 = .ok (.aload_n 0, 1) := by decide +kernel
theorem dX6_slipping_67 : decode cX6_slipping 67 = .ok (.getfield 12, 3) := by decide +kernel
theorem dX6_slipping_70 : decode cX6_slipping 70 = .ok (.iload_n 3, 1) := by decide +kernel
theorem dX6_slipping_71 : decode cX6_slipping 71 = .ok (.invokevirtual 106, 3) := by decide +kernel
theorem dX6_slipping_74 : decode cX6_slipping 74 = .ok (.invokevirtual 199, 3) := by decide +kernel
theorem dX6_slipping_77 : decode cX6_slipping 77 = .ok (.iload_n 1, 1) := by decide +kernel
theorem dX6_slipping_78 : decode cX6_slipping 78 = .ok (.if_icmp .ge 9, 3) := by decide +kernel
theorem dX6_slipping_81 : decode cX6_slipping 81 = .ok (.iload_n 2, 1) := by decide +kernel
theorem dX6_slipping_82 : decode cX6_slipping 82 = .ok (.iconst 1, 1) := by decide +kernel
theorem dX6_slipping_83 : decode cX6_slipping 83 = .ok (.iload_n 3, 1) := by decide +kernel
theorem dX6_slipping_84 : decode cX6_slipping 84 = .ok (.ishl, 1) := by decide +kernel
theorem dX6_slipping_85 : decode cX6_slipping 85 = .ok (.ior, 1) := by decide +kernel
theorem dX6_slipping_86 : decode cX6_slipping 86 = .ok (.istore_n 2, 1) := by decide +kernel
theorem dX6_slipping_87 : decode cX6_slipping 87 = .ok (.iinc 3 1, 3) := by decide +kernel
theorem dX6_slipping_90 : decode cX6_slipping 90 = .ok (.goto (-46), 3) := by decide +kernel
theorem dX6_slipping_93 : decode cX6_slipping 93 = .ok (.iload_n 2, 1) := by decide +kernel
theorem dX6_slipping_94 : decode cX6_slipping 94 = .ok (.ireturn, 1) := by decide +kernel
theorem dX6_greatestTorque_0 : decode cX6_greatestTorque 0 = .ok (.aload_n 0, 1) := by decide +kernel
theorem dX6_greatestTorque_1 : decode cX6_greatestTorque 1 = .ok (.getfield 32, 3) := by decide +kernel
theorem dX6_greatestTorque_4 : decode cX6_greatestTorque 4 = .ok (.aload_n 0, 1) := by decide +kernel
theorem dX6_greatestTorque_5 : decode cX6_greatestTorque 5 = .ok (.getfield 12, 3) := by decide +kernel
theorem dX6_greatestTorque_8 : decode cX6_greatestTorque 8 = .ok (.aload_n 0, 1) := by decide +kernel
theorem dX6_greatestTorque_9 : decode cX6_greatestTorque 9 = .ok (.getfield 12, 3) := by decide +kernel
theorem dX6_greatestTorque_12 : decode cX6_greatestTorque 12 = .ok (.invokevirtual 123, 3) := by decide +kernel
theorem dX6_greatestTorque_15 : decode cX6_greatestTorque 15 = .ok (.invokevirtual 151, 3) := by decide +kernel
theorem dX6_greatestTorque_18 : decode cX6_greatestTorque 18 = .ok (.aload_n 0, 1) := by decide +kernel
theorem dX6_greatestTorque_19 : decode cX6_greatestTorque 19 = .ok (.getfield 32, 3) := by decide +kernel
theorem dX6_greatestTorque_22 : decode cX6_greatestTorque 22 = .ok (.invokevirtual 155, 3) := by decide +kernel
theorem dX6_greatestTorque_25 : decode cX6_greatestTorque 25 = .ok (.ifCond .eq 13, 3) := by decide +kernel
theorem dX6_greatestTorque_28 : decode cX6_greatestTorque 28 = .ok (.new 74, 3) := by decide +kernel
theorem dX6_greatestTorque_31 : decode cX6_greatestTorque 31 = .ok (.dup, 1) := by decide +kernel
theorem dX6_greatestTorque_32 : decode cX6_greatestTorque 32 = .ok (.ldc 172, 2) := by decide +kernel
theorem dX6_greatestTorque_34 : decode cX6_greatestTorque 34 = .ok (.invokespecial 78, 3) := by decide +kernel
theorem dX6_greatestTorque_37 : decode cX6_greatestTorque 37 = .ok (.athrow, 1) := by decide +kernel
theorem dX6_greatestTorque_38 : decode cX6_greatestTorque 38 = .ok (.aload_n 0, 1) := by decide +kernel
theorem dX6_greatestTorque_39 : decode cX6_greatestTorque 39 = .ok (.getfield 39, 3) := by decide +kernel
theorem dX6_greatestTorque_42 : decode cX6_greatestTorque 42 = .ok (.aload_n 0, 1) := by decide +kernel
theorem dX6_greatestTorque_43 : decode cX6_greatestTorque 43 = .ok (.getfield 12, 3) := by decide +kernel
theorem dX6_greatestTorque_46 : decode cX6_greatestTorque 46 = .ok (.aload_n 0, 1) := by decide +kernel
theorem dX6_greatestTorque_47 : decode cX6_greatestTorque 47 = .ok (.getfield 12, 3) := by decide +kernel
theorem dX6_greatestTorque_50 : decode cX6_greatestTorque 50 = .ok (.invokevirtual 123, 3) := by decide +kernel
theorem dX6_greatestTorque_53 : decode cX6_greatestTorque 53 = .ok (.invokevirtual 182, 3) := by decide +kernel
theorem dX6_greatestTorque_56 : decode cX6_greatestTorque 56 = .ok (.sipush 10000, 3) := by decide +kernel
theorem dX6_greatestTorque_59 : decode cX6_greatestTorque 59 = .ok (.istore_n 1, 1) := by decide +kernel
theorem dX6_greatestTorque_60 : decode cX6_greatestTorque 60 = .ok (.iconst 0, 1) := by decide +kernel
theorem dX6_greatestTorque_61 : decode cX6_greatestTorque 61 = .ok (.istore_n 2, 1) := by decide +kernel
theorem dX6_greatestTorque_62 : decode cX6_greatestTorque 62 = .ok (.iload_n 2, 1) := by decide +kernel
theorem dX6_greatestTorque_63 : decode cX6_greatestTorque 63 = .ok (.bipush 6, 2) := by decide +kernel
theorem dX6_greatestTorque_65 : decode cX6_greatestTorque 65 = .ok (.if_icmp .ge 41, 3) := by decide +kernel
theorem dX6_greatestTorque_68 : decode cX6_greatestTorque 68 = .ok (.aload_n 0, 1) := by decide +kernel
theorem dX6_greatestTorque_69 : decode cX6_greatestTorque 69 = .ok (.getfield 12, 3) := by decide +kernel
theorem dX6_greatestTorque_72 : decode cX6_greatestTorque 72 = .ok (.iload_n 2, 1) := by decide +kernel
theorem dX6_greatestTorque_73 : decode cX6_greatestTorque 73 = .ok (.invokevirtual 145, 3) := by decide +kernel
theorem dX6_greatestTorque_76 : decode cX6_greatestTorque 76 = .ok (.ifCond .eq 24, 3) := by decide +kernel
theorem dX6_greatestTorque_79 : decode cX6_greatestTorque 79 = .ok (.iload_n 1, 1) := by decide +kernel
theorem dX6_greatestTorque_80 : decode cX6_greatestTorque 80 = .ok (.aload_n 0, 1) := by decide +kernel
theorem dX6_greatestTorque_81 : decode cX6_greatestTorque 81 = .ok (.getfield 39, 3) := by decide +kernel
theorem dX6_greatestTorque_84 : decode cX6_greatestTorque 84 = .ok (.iload_n 2, 1) := by decide +kernel
theorem dX6_greatestTorque_85 : decode cX6_greatestTorque 85 = .ok (.aload_n 0, 1) := by decide +kernel
theorem dX6_greatestTorque_86 : decode cX6_greatestTorque 86 = .ok (.getfield 12, 3) := by decide +kernel
theorem dX6_greatestTorque_89 : decode cX6_greatestTorque 89 = .ok (.iload_n 2, 1) := by decide +kernel
theorem dX6_greatestTorque_90 : decode cX6_greatestTorque 90 = .ok (.invokevirtual 106, 3) := by decide +kernel
theorem dX6_greatestTorque_93 : decode cX6_greatestTorque 93 = .ok (.invokevirtual 199, 3) := by decide +kernel
theorem dX6_greatestTorque_96 : decode cX6_greatestTorque 96 = .ok (.invokestatic 202, 3) := by decide +kernel
theorem dX6_greatestTorque_99 : decode cX6_greatestTorque 99 = .ok (.istore_n 1, 1) := by decide +kernel
theorem dX6_greatestTorque_100 : decode cX6_greatestTorque 100 = .ok (.iinc 2 1, 3) := by decide +kernel
theorem dX6_greatestTorque_103 : decode cX6_greatestTorque 103 = .ok (.goto (-41), 3) := by decide +kernel
theorem dX6_greatestTorque_106 : decode cX6_greatestTorque 106 = .ok (.iload_n 1, 1) := by decide +kernel
theorem dX6_greatestTorque_107 : decode cX6_greatestTorque 107 = .ok (.ireturn, 1) := by decide +kernel
theorem dX6_gear_0 : decode cX6_gear 0 = .ok (.aload_n 0, 1) := by decide +kernel
theorem dX6_gear_1 : decode cX6_gear 1 = .ok (.getfield 46, 3) := by decide +kernel
theorem dX6_gear_4 : decode cX6_gear 4 = .ok (.aload_n 0, 1) := by decide +kernel
theorem dX6_gear_5 : decode cX6_gear 5 = .ok (.getfield 12, 3) := by decide +kernel
theorem dX6_gear_8 : decode cX6_gear 8 = .ok (.aload_n 0, 1) := by decide +kernel
theorem dX6_gear_9 : decode cX6_gear 9 = .ok (.getfield 32, 3) := by decide +kernel
theorem dX6_gear_12 : decode cX6_gear 12 = .ok (.invokevirtual 116, 3) := by decide +kernel
theorem dX6_gear_15 : decode cX6_gear 15 = .ok (.aload_n 0, 1) := by decide +kernel
theorem dX6_gear_16 : decode cX6_gear 16 = .ok (.getfield 46, 3) := by decide +kernel
theorem dX6_gear_19 : decode cX6_gear 19 = .ok (.iload_n 1, 1) := by decide +kernel
theorem dX6_gear_20 : decode cX6_gear 20 = .ok (.invokevirtual 207, 3) := by decide +kernel
theorem dX6_gear_23 : decode cX6_gear 23 = .ok (.ifCond .ne 13, 3) := by decide +kernel
theorem dX6_gear_26 : decode cX6_gear 26 = .ok (.new 54, 3) := by decide +kernel
theorem dX6_gear_29 : decode cX6_gear 29 = .ok (.dup, 1) := by decide +kernel
theorem dX6_gear_30 : decode cX6_gear 30 = .ok (.ldc 210, 2) := by decide +kernel
theorem dX6_gear_32 : decode cX6_gear 32 = .ok (.invokespecial 58, 3) := by decide +kernel
theorem dX6_gear_35 : decode cX6_gear 35 = .ok (.athrow, 1) := by decide +kernel
theorem dX6_gear_36 : decode cX6_gear 36 = .ok (.aload_n 0, 1) := by decide +kernel
theorem dX6_gear_37 : decode cX6_gear 37 = .ok (.getfield 46, 3) := by decide +kernel
theorem dX6_gear_40 : decode cX6_gear 40 = .ok (.iload_n 1, 1) := by decide +kernel
theorem dX6_gear_41 : decode cX6_gear 41 = .ok (.invokevirtual 212, 3) := by decide +kernel
theorem dX6_gear_44 : decode cX6_gear 44 = .ok (.ireturn, 1) := by decide +kernel
theorem dX6_indexOf_0 : decode cX6_indexOf 0 = .ok (.aload_n 0, 1) := by decide +kernel
theorem dX6_indexOf_1 : decode cX6_indexOf 1 = .ok (.getfield 12, 3) := by decide +kernel
theorem dX6_indexOf_4 : decode cX6_indexOf 4 = .ok (.iload_n 1, 1) := by decide +kernel
theorem dX6_indexOf_5 : decode cX6_indexOf 5 = .ok (.invokevirtual 129, 3) := by decide +kernel
theorem dX6_indexOf_8 : decode cX6_indexOf 8 = .ok (.ifCond .ne 13, 3) := by decide +kernel
theorem dX6_indexOf_11 : decode cX6_indexOf 11 = .ok (.new 61, 3) := by decide +kernel
theorem dX6_indexOf_14 : decode cX6_indexOf 14 = .ok (.dup, 1) := by decide +kernel
theorem dX6_indexOf_15 : decode cX6_indexOf 15 = .ok (.ldc 132, 2) := by decide +kernel
theorem dX6_indexOf_17 : decode cX6_indexOf 17 = .ok (.invokespecial 65, 3) := by decide +kernel
theorem dX6_indexOf_20 : decode cX6_indexOf 20 = .ok (.athrow, 1) := by decide +kernel
theorem dX6_indexOf_21 : decode cX6_indexOf 21 = .ok (.aload_n 0, 1) := by decide +kernel
theorem dX6_indexOf_22 : decode cX6_indexOf 22 = .ok (.getfield 46, 3) := by decide +kernel
theorem dX6_indexOf_25 : decode cX6_indexOf 25 = .ok (.aload_n 0, 1) := by decide +kernel
theorem dX6_indexOf_26 : decode cX6_indexOf 26 = .ok (.getfield 12, 3) := by decide +kernel
theorem dX6_indexOf_29 : decode cX6_indexOf 29 = .ok (.aload_n 0, 1) := by decide +kernel
theorem dX6_indexOf_30 : decode cX6_indexOf 30 = .ok (.getfield 32, 3) := by decide +kernel
theorem dX6_indexOf_33 : decode cX6_indexOf 33 = .ok (.invokevirtual 116, 3) := by decide +kernel
theorem dX6_indexOf_36 : decode cX6_indexOf 36 = .ok (.aload_n 0, 1) := by decide +kernel
theorem dX6_indexOf_37 : decode cX6_indexOf 37 = .ok (.getfield 46, 3) := by decide +kernel
theorem dX6_indexOf_40 : decode cX6_indexOf 40 = .ok (.iload_n 1, 1) := by decide +kernel
theorem dX6_indexOf_41 : decode cX6_indexOf 41 = .ok (.invokevirtual 215, 3) := by decide +kernel
theorem dX6_indexOf_44 : decode cX6_indexOf 44 = .ok (.ireturn, 1) := by decide +kernel
theorem dX6_gearRatio_0 : decode cX6_gearRatio 0 = .ok (.aload_n 0, 1) := by decide +kernel
theorem dX6_gearRatio_1 : decode cX6_gearRatio 1 = .ok (.getfield 46, 3) := by decide +kernel
theorem dX6_gearRatio_4 : decode cX6_gearRatio 4 = .ok (.aload_n 0, 1) := by decide +kernel
theorem dX6_gearRatio_5 : decode cX6_gearRatio 5 = .ok (.getfield 12, 3) := by decide +kernel
theorem dX6_gearRatio_8 : decode cX6_gearRatio 8 = .ok (.aload_n 0, 1) := by decide +kernel
theorem dX6_gearRatio_9 : decode cX6_gearRatio 9 = .ok (.getfield 32, 3) := by decide +kernel
theorem dX6_gearRatio_12 : decode cX6_gearRatio 12 = .ok (.invokevirtual 116, 3) := by decide +kernel
theorem dX6_gearRatio_15 : decode cX6_gearRatio 15 = .ok (.aload_n 0, 1) := by decide +kernel
theorem dX6_gearRatio_16 : decode cX6_gearRatio 16 = .ok (.getfield 46, 3) := by decide +kernel
theorem dX6_gearRatio_19 : decode cX6_gearRatio 19 = .ok (.iload_n 1, 1) := by decide +kernel
theorem dX6_gearRatio_20 : decode cX6_gearRatio 20 = .ok (.invokevirtual 207, 3) := by decide +kernel
theorem dX6_gearRatio_23 : decode cX6_gearRatio 23 = .ok (.ifCond .ne 13, 3) := by decide +kernel
theorem dX6_gearRatio_26 : decode cX6_gearRatio 26 = .ok (.new 54, 3) := by decide +kernel
theorem dX6_gearRatio_29 : decode cX6_gearRatio 29 = .ok (.dup, 1) := by decide +kernel
theorem dX6_gearRatio_30 : decode cX6_gearRatio 30 = .ok (.ldc 210, 2) := by decide +kernel
theorem dX6_gearRatio_32 : decode cX6_gearRatio 32 = .ok (.invokespecial 58, 3) := by decide +kernel
theorem dX6_gearRatio_35 : decode cX6_gearRatio 35 = .ok (.athrow, 1) := by decide +kernel
theorem dX6_gearRatio_36 : decode cX6_gearRatio 36 = .ok (.iload_n 2, 1) := by decide +kernel
theorem dX6_gearRatio_37 : decode cX6_gearRatio 37 = .ok (.invokestatic 158, 3) := by decide +kernel
theorem dX6_gearRatio_40 : decode cX6_gearRatio 40 = .ok (.ifCond .ne 13, 3) := by decide +kernel
theorem dX6_gearRatio_43 : decode cX6_gearRatio 43 = .ok (.new 61, 3) := by decide +kernel
theorem dX6_gearRatio_46 : decode cX6_gearRatio 46 = .ok (.dup, 1) := by decide +kernel
theorem dX6_gearRatio_47 : decode cX6_gearRatio 47 = .ok (.ldc 161, 2) := by decide +kernel
theorem dX6_gearRatio_49 : decode cX6_gearRatio 49 = .ok (.invokespecial 65, 3) := by decide +kernel
theorem dX6_gearRatio_52 : decode cX6_gearRatio 52 = .ok (.athrow, 1) := by decide +kernel
theorem dX6_gearRatio_53 : decode cX6_gearRatio 53 = .ok (.aload_n 0, 1) := by decide +kernel
theorem dX6_gearRatio_54 : decode cX6_gearRatio 54 = .ok (.getfield 46, 3) := by decide +kernel
theorem dX6_gearRatio_57 : decode cX6_gearRatio 57 = .ok (.iload_n 1, 1) := by decide +kernel
theorem dX6_gearRatio_58 : decode cX6_gearRatio 58 = .ok (.iload_n 2, 1) := by decide +kernel
theorem dX6_gearRatio_59 : decode cX6_gearRatio 59 = .ok (.invokevirtual 218, 3) := by decide +kernel
theorem dX6_gearRatio_62 : decode cX6_gearRatio 62 = .ok (.lreturn, 1) := by decide +kernel
theorem dX6_step_0 : decode cX6_step 0 = .ok (.aload_n 0, 1) := by decide +kernel
theorem dX6_step_1 : decode cX6_step 1 = .ok (.getfield 46, 3) := by decide +kernel
theorem dX6_step_4 : decode cX6_step 4 = .ok (.aload_n 0, 1) := by decide +kernel
theorem dX6_step_5 : decode cX6_step 5 = .ok (.getfield 12, 3) := by decide +kernel
theorem dX6_step_8 : decode cX6_step 8 = .ok (.aload_n 0, 1) := by decide +kernel
theorem dX6_step_9 : decode cX6_step 9 = .ok (.getfield 32, 3) := by decide +kernel
theorem dX6_step_12 : decode cX6_step 12 = .ok (.invokevirtual 116, 3) := by decide +kernel
theorem dX6_step_15 : decode cX6_step 15 = .ok (.aload_n 0, 1) := by decide +kernel
theorem dX6_step_16 : decode cX6_step 16 = .ok (.getfield 46, 3) := by decide +kernel
theorem dX6_step_19 : decode cX6_step 19 = .ok (.iload_n 1, 1) := by decide +kernel
theorem dX6_step_20 : decode cX6_step 20 = .ok (.invokevirtual 207, 3) := by decide +kernel
theorem dX6_step_23 : decode cX6_step 23 = .ok (.ifCond .eq 16, 3) := by decide +kernel
theorem dX6_step_26 : decode cX6_step 26 = .ok (.aload_n 0, 1) := by decide +kernel
theorem dX6_step_27 : decode cX6_step 27 = .ok (.getfield 46, 3) := by decide +kernel
theorem dX6_step_30 : decode cX6_step 30 = .ok (.iload_n 1, 1) := by decide +kernel
theorem dX6_step_31 : decode cX6_step 31 = .ok (.iconst 1, 1) := by decide +kernel
theorem dX6_step_32 : decode cX6_step 32 = .ok (.iadd, 1) := by decide +kernel
theorem dX6_step_33 : decode cX6_step 33 = .ok (.invokevirtual 207, 3) := by decide +kernel
theorem dX6_step_36 : decode cX6_step 36 = .ok (.ifCond .ne 13, 3) := by decide +kernel
theorem dX6_step_39 : decode cX6_step 39 = .ok (.new 54, 3) := by decide +kernel
theorem dX6_step_42 : decode cX6_step 42 = .ok (.dup, 1) := by decide +kernel
theorem dX6_step_43 : decode cX6_step 43 = .ok (.ldc 220, 2) := by decide +kernel
theorem dX6_step_45 : decode cX6_step 45 = .ok (.invokespecial 58, 3) := by decide +kernel
theorem dX6_step_48 : decode cX6_step 48 = .ok (.athrow, 1) := by decide +kernel
theorem dX6_step_49 : decode cX6_step 49 = .ok (.aload_n 0, 1) := by decide +kernel
theorem dX6_step_50 : decode cX6_step 50 = .ok (.iload_n 1, 1) := by decide +kernel
theorem dX6_step_51 : decode cX6_step 51 = .ok (.invokevirtual 222, 3) := by decide +kernel
theorem dX6_step_54 : decode cX6_step 54 = .ok (.fstore_n 2, 1) := by decide +kernel
theorem dX6_step_55 : decode cX6_step 55 = .ok (.fload_n 2, 1) := by decide +kernel
theorem dX6_step_56 : decode cX6_step 56 = .ok (.fconst 0, 1) := by decide +kernel
theorem dX6_step_57 : decode cX6_step 57 = .ok (.fcmp .l, 1) := by decide +kernel
theorem dX6_step_58 : decode cX6_step 58 = .ok (.ifCond .ne 7, 3) := by decide +kernel
theorem dX6_step_61 : decode cX6_step 61 = .ok (.fconst 0, 1) := by decide +kernel
theorem dX6_step_62 : decode cX6_step 62 = .ok (.goto 12, 3) := by decide +kernel
theorem dX6_step_65 : decode cX6_step 65 = .ok (.aload_n 0, 1) := by decide +kernel
theorem dX6_step_66 : decode cX6_step 66 = .ok (.iload_n 1, 1) := by decide +kernel
theorem dX6_step_67 : decode cX6_step 67 = .ok (.iconst 1, 1) := by decide +kernel
theorem dX6_step_68 : decode cX6_step 68 = .ok (.iadd, 1) := by decide +kernel
theorem dX6_step_69 : decode cX6_step 69 = .ok (.invokevirtual 222, 3) := by decide +kernel
theorem dX6_step_72 : decode cX6_step 72 = .ok (.fload_n 2, 1) := by decide +kernel
theorem dX6_step_73 : decode cX6_step 73 = .ok (.fdiv, 1) := by decide +kernel
theorem dX6_step_74 : decode cX6_step 74 = .ok (.freturn, 1) := by decide +kernel
theorem dX6_fewestShifts_0 : decode cX6_fewestShifts 0 = .ok (.aload_n 0, 1) := by decide +kernel
theorem dX6_fewestShifts_1 : decode cX6_fewestShifts 1 = .ok (.getfield 46, 3) := by decide +kernel
theorem dX6_fewestShifts_4 : decode cX6_fewestShifts 4 = .ok (.aload_n 0, 1) := by decide +kernel
theorem dX6_fewestShifts_5 : decode cX6_fewestShifts 5 = .ok (.getfield 12, 3) := by decide +kernel
theorem dX6_fewestShifts_8 : decode cX6_fewestShifts 8 = .ok (.aload_n 0, 1) := by decide +kernel
theorem dX6_fewestShifts_9 : decode cX6_fewestShifts 9 = .ok (.getfield 32, 3) := by decide +kernel
theorem dX6_fewestShifts_12 : decode cX6_fewestShifts 12 = .ok (.invokevirtual 116, 3) := by decide +kernel
theorem dX6_fewestShifts_15 : decode cX6_fewestShifts 15 = .ok (.aload_n 0, 1) := by decide +kernel
theorem dX6_fewestShifts_16 : decode cX6_fewestShifts 16 = .ok (.getfield 46, 3) := by decide +kernel
theorem dX6_fewestShifts_19 : decode cX6_fewestShifts 19 = .ok (.iload_n 1, 1) := by decide +kernel
theorem dX6_fewestShifts_20 : decode cX6_fewestShifts 20 = .ok (.invokevirtual 207, 3) := by decide +kernel
theorem dX6_fewestShifts_23 : decode cX6_fewestShifts 23 = .ok (.ifCond .eq 14, 3) := by decide +kernel
theorem dX6_fewestShifts_26 : decode cX6_fewestShifts 26 = .ok (.aload_n 0, 1) := by decide +kernel
theorem dX6_fewestShifts_27 : decode cX6_fewestShifts 27 = .ok (.getfield 46, 3) := by decide +kernel
theorem dX6_fewestShifts_30 : decode cX6_fewestShifts 30 = .ok (.iload_n 2, 1) := by decide +kernel
theorem dX6_fewestShifts_31 : decode cX6_fewestShifts 31 = .ok (.invokevirtual 207, 3) := by decide +kernel
theorem dX6_fewestShifts_34 : decode cX6_fewestShifts 34 = .ok (.ifCond .ne 13, 3) := by decide +kernel
theorem dX6_fewestShifts_37 : decode cX6_fewestShifts 37 = .ok (.new 54, 3) := by decide +kernel
theorem dX6_fewestShifts_40 : decode cX6_fewestShifts 40 = .ok (.dup, 1) := by decide +kernel
theorem dX6_fewestShifts_41 : decode cX6_fewestShifts 41 = .ok (.ldc 226, 2) := by decide +kernel
theorem dX6_fewestShifts_43 : decode cX6_fewestShifts 43 = .ok (.invokespecial 58, 3) := by decide +kernel
theorem dX6_fewestShifts_46 : decode cX6_fewestShifts 46 = .ok (.athrow, 1) := by decide +kernel
theorem dX6_fewestShifts_47 : decode cX6_fewestShifts 47 = .ok (.aload_n 0, 1) := by decide +kernel
theorem dX6_fewestShifts_48 : decode cX6_fewestShifts 48 = .ok (.getfield 46, 3) := by decide +kernel
theorem dX6_fewestShifts_51 : decode cX6_fewestShifts 51 = .ok (.iload_n 2, 1) := by decide +kernel
theorem dX6_fewestShifts_52 : decode cX6_fewestShifts 52 = .ok (.invokevirtual 228, 3) := by decide +kernel
theorem dX6_fewestShifts_55 : decode cX6_fewestShifts 55 = .ok (.aload_n 0, 1) := by decide +kernel
theorem dX6_fewestShifts_56 : decode cX6_fewestShifts 56 = .ok (.getfield 46, 3) := by decide +kernel
theorem dX6_fewestShifts_59 : decode cX6_fewestShifts 59 = .ok (.iload_n 1, 1) := by decide +kernel
theorem dX6_fewestShifts_60 : decode cX6_fewestShifts 60 = .ok (.invokevirtual 231, 3) := by decide +kernel
theorem dX6_fewestShifts_63 : decode cX6_fewestShifts 63 = .ok (.ireturn, 1) := by decide +kernel
theorem dX6_shift_0 : decode cX6_shift 0 = .ok (.aload_n 0, 1) := by decide +kernel
theorem dX6_shift_1 : decode cX6_shift 1 = .ok (.getfield 46, 3) := by decide +kernel
theorem dX6_shift_4 : decode cX6_shift 4 = .ok (.aload_n 0, 1) := by decide +kernel
theorem dX6_shift_5 : decode cX6_shift 5 = .ok (.getfield 12, 3) := by decide +kernel
theorem dX6_shift_8 : decode cX6_shift 8 = .ok (.aload_n 0, 1) := by decide +kernel
theorem dX6_shift_9 : decode cX6_shift 9 = .ok (.getfield 32, 3) := by decide +kernel
theorem dX6_shift_12 : decode cX6_shift 12 = .ok (.invokevirtual 116, 3) := by decide +kernel
theorem dX6_shift_15 : decode cX6_shift 15 = .ok (.aload_n 0, 1) := by decide +kernel
theorem dX6_shift_16 : decode cX6_shift 16 = .ok (.getfield 46, 3) := by decide +kernel
theorem dX6_shift_19 : decode cX6_shift 19 = .ok (.iload_n 1, 1) := by decide +kernel
theorem dX6_shift_20 : decode cX6_shift 20 = .ok (.invokevirtual 207, 3) := by decide +kernel
theorem dX6_shift_23 : decode cX6_shift 23 = .ok (.ifCond .eq 14, 3) := by decide +kernel
theorem dX6_shift_26 : decode cX6_shift 26 = .ok (.aload_n 0, 1) := by decide +kernel
theorem dX6_shift_27 : decode cX6_shift 27 = .ok (.getfield 46, 3) := by decide +kernel
theorem dX6_shift_30 : decode cX6_shift 30 = .ok (.iload_n 2, 1) := by decide +kernel
theorem dX6_shift_31 : decode cX6_shift 31 = .ok (.invokevirtual 207, 3) := by decide +kernel
theorem dX6_shift_34 : decode cX6_shift 34 = .ok (.ifCond .ne 13, 3) := by decide +kernel
theorem dX6_shift_37 : decode cX6_shift 37 = .ok (.new 54, 3) := by decide +kernel
theorem dX6_shift_40 : decode cX6_shift 40 = .ok (.dup, 1) := by decide +kernel
theorem dX6_shift_41 : decode cX6_shift 41 = .ok (.ldc 226, 2) := by decide +kernel
theorem dX6_shift_43 : decode cX6_shift 43 = .ok (.invokespecial 58, 3) := by decide +kernel
theorem dX6_shift_46 : decode cX6_shift 46 = .ok (.athrow, 1) := by decide +kernel
theorem dX6_shift_47 : decode cX6_shift 47 = .ok (.aload_n 0, 1) := by decide +kernel
theorem dX6_shift_48 : decode cX6_shift 48 = .ok (.getfield 46, 3) := by decide +kernel
theorem dX6_shift_51 : decode cX6_shift 51 = .ok (.iload_n 2, 1) := by decide +kernel
theorem dX6_shift_52 : decode cX6_shift 52 = .ok (.invokevirtual 228, 3) := by decide +kernel
theorem dX6_shift_55 : decode cX6_shift 55 = .ok (.aload_n 0, 1) := by decide +kernel
theorem dX6_shift_56 : decode cX6_shift 56 = .ok (.getfield 46, 3) := by decide +kernel
theorem dX6_shift_59 : decode cX6_shift 59 = .ok (.iload_n 1, 1) := by decide +kernel
theorem dX6_shift_60 : decode cX6_shift 60 = .ok (.iload_n 3, 1) := by decide +kernel
theorem dX6_shift_61 : decode cX6_shift 61 = .ok (.invokevirtual 234, 3) := by decide +kernel
theorem dX6_shift_64 : decode cX6_shift 64 = .ok (.ireturn, 1) := by decide +kernel
theorem dX6_save_0 : decode cX6_save 0 = .ok (.iload_n 1, 1) := by decide +kernel
theorem dX6_save_1 : decode cX6_save 1 = .ok (.ifCond .eq 18, 3) := by decide +kernel
theorem dX6_save_4 : decode cX6_save 4 = .ok (.iload_n 1, 1) := by decide +kernel
theorem dX6_save_5 : decode cX6_save 5 = .ok (.iconst 1, 1) := by decide +kernel
theorem dX6_save_6 : decode cX6_save 6 = .ok (.if_icmp .eq 13, 3) := by decide +kernel
theorem dX6_save_9 : decode cX6_save 9 = .ok (.new 61, 3) := by decide +kernel
theorem dX6_save_12 : decode cX6_save 12 = .ok (.dup, 1) := by decide +kernel
theorem dX6_save_13 : decode cX6_save 13 = .ok (.ldc 237, 2) := by decide +kernel
theorem dX6_save_15 : decode cX6_save 15 = .ok (.invokespecial 65, 3) := by decide +kernel
theorem dX6_save_18 : decode cX6_save 18 = .ok (.athrow, 1) := by decide +kernel
theorem dX6_save_19 : decode cX6_save 19 = .ok (.iload_n 1, 1) := by decide +kernel
theorem dX6_save_20 : decode cX6_save 20 = .ok (.ifCond .ne 22, 3) := by decide +kernel
theorem dX6_save_23 : decode cX6_save 23 = .ok (.aload_n 0, 1) := by decide +kernel
theorem dX6_save_24 : decode cX6_save 24 = .ok (.getfield 16, 3) := by decide +kernel
theorem dX6_save_27 : decode cX6_save 27 = .ok (.aload_n 0, 1) := by decide +kernel
theorem dX6_save_28 : decode cX6_save 28 = .ok (.getfield 12, 3) := by decide +kernel
theorem dX6_save_31 : decode cX6_save 31 = .ok (.invokevirtual 239, 3) := by decide +kernel
theorem dX6_save_34 : decode cX6_save 34 = .ok (.aload_n 0, 1) := by decide +kernel
theorem dX6_save_35 : decode cX6_save 35 = .ok (.iconst 1, 1) := by decide +kernel
theorem dX6_save_36 : decode cX6_save 36 = .ok (.putfield 243, 3) := by decide +kernel
theorem dX6_save_39 : decode cX6_save 39 = .ok (.goto 19, 3) := by decide +kernel
theorem dX6_save_42 : decode cX6_save 42 = .ok (.aload_n 0, 1) := by decide +kernel
theorem dX6_save_43 : decode cX6_save 43 = .ok (.getfield 19, 3) := by decide +kernel
theorem dX6_save_46 : decode cX6_save 46 = .ok (.aload_n 0, 1) := by decide +kernel
theorem dX6_save_47 : decode cX6_save 47 = .ok (.getfield 12, 3) := by decide +kernel
theorem dX6_save_50 : decode cX6_save 50 = .ok (.invokevirtual 239, 3) := by decide +kernel
theorem dX6_save_53 : decode cX6_save 53 = .ok (.aload_n 0, 1) := by decide +kernel
theorem dX6_save_54 : decode cX6_save 54 = .ok (.iconst 1, 1) := by decide +kernel
theorem dX6_save_55 : decode cX6_save 55 = .ok (.putfield 247, 3) := by decide +kernel
theorem dX6_save_58 : decode cX6_save 58 = .ok (.return_, 1) := by decide +kernel
theorem dX6_restore_0 : decode cX6_restore 0 = .ok (.iload_n 1, 1) := by decide +kernel
theorem dX6_restore_1 : decode cX6_restore 1 = .ok (.ifCond .eq 18, 3) := by decide +kernel
theorem dX6_restore_4 : decode cX6_restore 4 = .ok (.iload_n 1, 1) := by decide +kernel
theorem dX6_restore_5 : decode cX6_restore 5 = .ok (.iconst 1, 1) := by decide +kernel
theorem dX6_restore_6 : decode cX6_restore 6 = .ok (.if_icmp .eq 13, 3) := by decide +kernel
theorem dX6_restore_9 : decode cX6_restore 9 = .ok (.new 61, 3) := by decide +kernel
theorem dX6_restore_12 : decode cX6_restore 12 = .ok (.dup, 1) := by decide +kernel
theorem dX6_restore_13 : decode cX6_restore 13 = .ok (.ldc 237, 2) := by decide +kernel
theorem dX6_restore_15 : decode cX6_restore 15 = .ok (.invokespecial 65, 3) := by decide +kernel
theorem dX6_restore_18 : decode cX6_restore 18 = .ok (.athrow, 1) := by decide +kernel
theorem dX6_restore_19 : decode cX6_restore 19 = .ok (.iload_n 1, 1) := by decide +kernel
theorem dX6_restore_20 : decode cX6_restore 20 = .ok (.ifCond .ne 13, 3) := by decide +kernel
theorem dX6_restore_23 : decode cX6_restore 23 = .ok (.aload_n 0, 1) := by decide +kernel
theorem dX6_restore_24 : decode cX6_restore 24 = .ok (.getfield 243, 3) := by decide +kernel
theorem dX6_restore_27 : decode cX6_restore 27 = .ok (.ifCond .ne 23, 3) := by decide +kernel
theorem dX6_restore_30 : decode cX6_restore 30 = .ok (.goto 10, 3) := by decide +kernel
theorem dX6_restore_33 : decode cX6_restore 33 = .ok (.aload_n 0, 1) := by decide +kernel
theorem dX6_restore_34 : decode cX6_restore 34 = .ok (.getfield 247, 3) := by decide +kernel
theorem dX6_restore_37 : decode cX6_restore 37 = .ok (.ifCond .ne 13, 3) := by decide +kernel
theorem dX6_restore_40 : decode cX6_restore 40 = .ok (.new 74, 3) := by decide +kernel
theorem dX6_restore_43 : decode cX6_restore 43 = .ok (.dup, 1) := by decide +kernel
theorem dX6_restore_44 : decode cX6_restore 44 = .ok (.ldc 250, 2) := by decide +kernel
theorem dX6_restore_46 : decode cX6_restore 46 = .ok (.invokespecial 78, 3) := by decide +kernel
theorem dX6_restore_49 : decode cX6_restore 49 = .ok (.athrow, 1) := by decide +kernel
theorem dX6_restore_50 : decode cX6_restore 50 = .ok (.aload_n 0, 1) := by decide +kernel
theorem dX6_restore_51 : decode cX6_restore 51 = .ok (.getfield 12, 3) := by decide +kernel
theorem dX6_restore_54 : decode cX6_restore 54 = .ok (.iload_n 1, 1) := by decide +kernel
theorem dX6_restore_55 : decode cX6_restore 55 = .ok (.ifCond .ne 10, 3) := by decide +kernel
theorem dX6_restore_58 : decode cX6_restore 58 = .ok (.aload_n 0, 1) := by decide +kernel
theorem dX6_restore_59 : decode cX6_restore 59 = .ok (.getfield 16, 3) := by decide +kernel
theorem dX6_restore_62 : decode cX6_restore 62 = .ok (.goto 7, 3) := by decide +kernel
theorem dX6_restore_65 : decode cX6_restore 65 = .ok (.aload_n 0, 1) := by decide +kernel
theorem dX6_restore_66 : decode cX6_restore 66 = .ok (.getfield 19, 3) := by decide +kernel
theorem dX6_restore_69 : decode cX6_restore 69 = .ok (.invokevirtual 239, 3) := by decide +kernel
theorem dX6_restore_72 : decode cX6_restore 72 = .ok (.aload_n 0, 1) := by decide +kernel
theorem dX6_restore_73 : decode cX6_restore 73 = .ok (.getfield 25, 3) := by decide +kernel
theorem dX6_restore_76 : decode cX6_restore 76 = .ok (.invokevirtual 252, 3) := by decide +kernel
theorem dX6_restore_79 : decode cX6_restore 79 = .ok (.aload_n 0, 1) := by decide +kernel
theorem dX6_restore_80 : decode cX6_restore 80 = .ok (.getfield 46, 3) := by decide +kernel
theorem dX6_restore_83 : decode cX6_restore 83 = .ok (.invokevirtual 79, 3) := by decide +kernel
theorem dX6_restore_86 : decode cX6_restore 86 = .ok (.return_, 1) := by decide +kernel
theorem dX6_isShaft_0 : decode cX6_isShaft 0 = .ok (.iload_n 0, 1) := by decide +kernel
theorem dX6_isShaft_1 : decode cX6_isShaft 1 = .ok (.ifCond .lt 13, 3) := by decide +kernel
theorem dX6_isShaft_4 : decode cX6_isShaft 4 = .ok (.iload_n 0, 1) := by decide +kernel
theorem dX6_isShaft_5 : decode cX6_isShaft 5 = .ok (.bipush 6, 2) := by decide +kernel
theorem dX6_isShaft_7 : decode cX6_isShaft 7 = .ok (.if_icmp .ge 7, 3) := by decide +kernel
theorem dX6_isShaft_10 : decode cX6_isShaft 10 = .ok (.iconst 1, 1) := by decide +kernel
theorem dX6_isShaft_11 : decode cX6_isShaft 11 = .ok (.goto 4, 3) := by decide +kernel
theorem dX6_isShaft_14 : decode cX6_isShaft 14 = .ok (.iconst 0, 1) := by decide +kernel
theorem dX6_isShaft_15 : decode cX6_isShaft 15 = .ok (.ireturn, 1) := by decide +kernel
theorem dX6_isPart_0 : decode cX6_isPart 0 = .ok (.iload_n 0, 1) := by decide +kernel
theorem dX6_isPart_1 : decode cX6_isPart 1 = .ok (.ifCond .eq 8, 3) := by decide +kernel
theorem dX6_isPart_4 : decode cX6_isPart 4 = .ok (.iload_n 0, 1) := by decide +kernel
theorem dX6_isPart_5 : decode cX6_isPart 5 = .ok (.iconst 1, 1) := by decide +kernel
theorem dX6_isPart_6 : decode cX6_isPart 6 = .ok (.if_icmp .ne 7, 3) := by decide +kernel
theorem dX6_isPart_9 : decode cX6_isPart 9 = .ok (.iconst 1, 1) := by decide +kernel
theorem dX6_isPart_10 : decode cX6_isPart 10 = .ok (.goto 4, 3) := by decide +kernel
theorem dX6_isPart_13 : decode cX6_isPart 13 = .ok (.iconst 0, 1) := by decide +kernel
theorem dX6_isPart_14 : decode cX6_isPart 14 = .ok (.ireturn, 1) := by decide +kernel
theorem dX6_floatQuotient_0 : decode cX6_floatQuotient 0 = .ok (.lload_n 2, 1) := by decide +kernel
theorem dX6_floatQuotient_1 : decode cX6_floatQuotient 1 = .ok (.lconst 0, 1) := by decide +kernel
theorem dX6_floatQuotient_2 : decode cX6_floatQuotient 2 = .ok (.lcmp, 1) := by decide +kernel
theorem dX6_floatQuotient_3 : decode cX6_floatQuotient 3 = .ok (.ifCond .ne 7, 3) := by decide +kernel
theorem dX6_floatQuotient_6 : decode cX6_floatQuotient 6 = .ok (.fconst 0, 1) := by decide +kernel
theorem dX6_floatQuotient_7 : decode cX6_floatQuotient 7 = .ok (.goto 8, 3) := by decide +kernel
theorem dX6_floatQuotient_10 : decode cX6_floatQuotient 10 = .ok (.lload_n 0, 1) := by decide +kernel
theorem dX6_floatQuotient_11 : decode cX6_floatQuotient 11 = .ok (.l2f, 1) := by decide +kernel
theorem dX6_floatQuotient_12 : decode cX6_floatQuotient 12 = .ok (.lload_n 2, 1) := by decide +kernel
theorem dX6_floatQuotient_13 : decode cX6_floatQuotient 13 = .ok (.l2f, 1) := by decide +kernel
theorem dX6_floatQuotient_14 : decode cX6_floatQuotient 14 = .ok (.fdiv, 1) := by decide +kernel
theorem dX6_floatQuotient_15 : decode cX6_floatQuotient 15 = .ok (.freturn, 1) := by decide +kernel
theorem dX6_ratioOfGear_0 : decode cX6_ratioOfGear 0 = .ok (.aload_n 0, 1) := by decide +kernel
theorem dX6_ratioOfGear_1 : decode cX6_ratioOfGear 1 = .ok (.getfield 46, 3) := by decide +kernel
theorem dX6_ratioOfGear_4 : decode cX6_ratioOfGear 4 = .ok (.iload_n 1, 1) := by decide +kernel
theorem dX6_ratioOfGear_5 : decode cX6_ratioOfGear 5 = .ok (.iconst 0, 1) := by decide +kernel
theorem dX6_ratioOfGear_6 : decode cX6_ratioOfGear 6 = .ok (.invokevirtual 218, 3) := by decide +kernel
theorem dX6_ratioOfGear_9 : decode cX6_ratioOfGear 9 = .ok (.aload_n 0, 1) := by decide +kernel
theorem dX6_ratioOfGear_10 : decode cX6_ratioOfGear 10 = .ok (.getfield 46, 3) := by decide +kernel
theorem dX6_ratioOfGear_13 : decode cX6_ratioOfGear 13 = .ok (.iload_n 1, 1) := by decide +kernel
theorem dX6_ratioOfGear_14 : decode cX6_ratioOfGear 14 = .ok (.iconst 1, 1) := by decide +kernel
theorem dX6_ratioOfGear_15 : decode cX6_ratioOfGear 15 = .ok (.invokevirtual 218, 3) := by decide +kernel
theorem dX6_ratioOfGear_18 : decode cX6_ratioOfGear 18 = .ok (.invokestatic 178, 3) := by decide +kernel
theorem dX6_ratioOfGear_21 : decode cX6_ratioOfGear 21 = .ok (.freturn, 1) := by decide +kernel
theorem dX6_changeEngaged_0 : decode cX6_changeEngaged 0 = .ok (.aload_n 0, 1) := by decide +kernel
theorem dX6_changeEngaged_1 : decode cX6_changeEngaged 1 = .ok (.getfield 12, 3) := by decide +kernel
theorem dX6_changeEngaged_4 : decode cX6_changeEngaged 4 = .ok (.invokevirtual 123, 3) := by decide +kernel
theorem dX6_changeEngaged_7 : decode cX6_changeEngaged 7 = .ok (.istore_n 2, 1) := by decide +kernel
theorem dX6_changeEngaged_8 : decode cX6_changeEngaged 8 = .ok (.iload_n 1, 1) := by decide +kernel
theorem dX6_changeEngaged_9 : decode cX6_changeEngaged 9 = .ok (.iload_n 2, 1) := by decide +kernel
theorem dX6_changeEngaged_10 : decode cX6_changeEngaged 10 = .ok (.if_icmp .ne 5, 3) := by decide +kernel
theorem dX6_changeEngaged_13 : decode cX6_changeEngaged 13 = .ok (.iconst 0, 1) := by decide +kernel
theorem dX6_changeEngaged_14 : decode cX6_changeEngaged 14 = .ok (.ireturn, 1) := by decide +kernel
theorem dX6_changeEngaged_15 : decode cX6_changeEngaged 15 = .ok (.aload_n 0, 1) := by decide +kernel
theorem dX6_changeEngaged_16 : decode cX6_changeEngaged 16 = .ok (.getfield 25, 3) := by decide +kernel
theorem dX6_changeEngaged_19 : decode cX6_changeEngaged 19 = .ok (.iload_n 2, 1) := by decide +kernel
theorem dX6_changeEngaged_20 : decode cX6_changeEngaged 20 = .ok (.invokevirtual 255, 3) := by decide +kernel
theorem dX6_changeEngaged_23 : decode cX6_changeEngaged 23 = .ok (.aload_n 0, 1) := by decide +kernel
theorem dX6_changeEngaged_24 : decode cX6_changeEngaged 24 = .ok (.getfield 12, 3) := by decide +kernel
theorem dX6_changeEngaged_27 : decode cX6_changeEngaged 27 = .ok (.iload_n 1, 1) := by decide +kernel
theorem dX6_changeEngaged_28 : decode cX6_changeEngaged 28 = .ok (.invokevirtual 141, 3) := by decide +kernel
theorem dX6_changeEngaged_31 : decode cX6_changeEngaged 31 = .ok (.iconst 1, 1) := by decide +kernel
theorem dX6_changeEngaged_32 : decode cX6_changeEngaged 32 = .ok (.ireturn, 1) := by decide +kernel
