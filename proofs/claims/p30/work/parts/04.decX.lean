theorem dX0_init_0 : decode cX0_init 0 = .ok (.aload_n 0, 1) := by decide +kernel
theorem dX0_init_1 : decode cX0_init 1 = .ok (.invokespecial 3, 3) := by decide +kernel
theorem dX0_init_4 : decode cX0_init 4 = .ok (.aload_n 0, 1) := by decide +kernel
theorem dX0_init_5 : decode cX0_init 5 = .ok (.iconst 3, 1) := by decide +kernel
theorem dX0_init_6 : decode cX0_init 6 = .ok (.newarray .int, 2) := by decide +kernel
theorem dX0_init_8 : decode cX0_init 8 = .ok (.putfield 9, 3) := by decide +kernel
theorem dX0_init_11 : decode cX0_init 11 = .ok (.aload_n 0, 1) := by decide +kernel
theorem dX0_init_12 : decode cX0_init 12 = .ok (.iconst 3, 1) := by decide +kernel
theorem dX0_init_13 : decode cX0_init 13 = .ok (.newarray .int, 2) := by decide +kernel
theorem dX0_init_15 : decode cX0_init 15 = .ok (.putfield 15, 3) := by decide +kernel
theorem dX0_init_18 : decode cX0_init 18 = .ok (.aload_n 0, 1) := by decide +kernel
theorem dX0_init_19 : decode cX0_init 19 = .ok (.iconst 3, 1) := by decide +kernel
theorem dX0_init_20 : decode cX0_init 20 = .ok (.newarray .int, 2) := by decide +kernel
theorem dX0_init_22 : decode cX0_init 22 = .ok (.putfield 18, 3) := by decide +kernel
theorem dX0_init_25 : decode cX0_init 25 = .ok (.aload_n 0, 1) := by decide +kernel
theorem dX0_init_26 : decode cX0_init 26 = .ok (.iconst 3, 1) := by decide +kernel
theorem dX0_init_27 : decode cX0_init 27 = .ok (.newarray .int, 2) := by decide +kernel
theorem dX0_init_29 : decode cX0_init 29 = .ok (.putfield 21, 3) := by decide +kernel
theorem dX0_init_32 : decode cX0_init 32 = .ok (.aload_n 0, 1) := by decide +kernel
theorem dX0_init_33 : decode cX0_init 33 = .ok (.iconst 3, 1) := by decide +kernel
theorem dX0_init_34 : decode cX0_init 34 = .ok (.newarray .int, 2) := by decide +kernel
theorem dX0_init_36 : decode cX0_init 36 = .ok (.putfield 24, 3) := by decide +kernel
theorem dX0_init_39 : decode cX0_init 39 = .ok (.aload_n 0, 1) := by decide +kernel
theorem dX0_init_40 : decode cX0_init 40 = .ok (.bipush 6, 2) := by decide +kernel
theorem dX0_init_42 : decode cX0_init 42 = .ok (.newarray .int, 2) := by decide +kernel
theorem dX0_init_44 : decode cX0_init 44 = .ok (.putfield 27, 3) := by decide +kernel
theorem dX0_init_47 : decode cX0_init 47 = .ok (.aload_n 0, 1) := by decide +kernel
theorem dX0_init_48 : decode cX0_init 48 = .ok (.bipush 6, 2) := by decide +kernel
theorem dX0_init_50 : decode cX0_init 50 = .ok (.newarray .int, 2) := by decide +kernel
theorem dX0_init_52 : decode cX0_init 52 = .ok (.putfield 30, 3) := by decide +kernel
theorem dX0_init_55 : decode cX0_init 55 = .ok (.aload_n 0, 1) := by decide +kernel
theorem dX0_init_56 : decode cX0_init 56 = .ok (.bipush 6, 2) := by decide +kernel
theorem dX0_init_58 : decode cX0_init 58 = .ok (.newarray .int, 2) := by decide +kernel
theorem dX0_init_60 : decode cX0_init 60 = .ok (.putfield 33, 3) := by decide +kernel
theorem dX0_init_63 : decode cX0_init 63 = .ok (.return_, 1) := by decide +kernel
theorem dX0_setCount_0 : decode cX0_setCount 0 = .ok (.aload_n 0, 1) := by decide +kernel
theorem dX0_setCount_1 : decode cX0_setCount 1 = .ok (.getfield 36, 3) := by decide +kernel
theorem dX0_setCount_4 : decode cX0_setCount 4 = .ok (.ireturn, 1) := by decide +kernel
theorem dX0_elementCount_0 : decode cX0_elementCount 0 = .ok (.aload_n 0, 1) := by decide +kernel
theorem dX0_elementCount_1 : decode cX0_elementCount 1 = .ok (.getfield 40, 3) := by decide +kernel
theorem dX0_elementCount_4 : decode cX0_elementCount 4 = .ok (.ireturn, 1) := by decide +kernel
theorem dX0_hasElement_0 : decode cX0_hasElement 0 = .ok (.iload_n 1, 1) := by decide +kernel
theorem dX0_hasElement_1 : decode cX0_hasElement 1 = .ok (.ifCond .lt 21, 3) := by decide +kernel
theorem dX0_hasElement_4 : decode cX0_hasElement 4 = .ok (.iload_n 1, 1) := by decide +kernel
theorem dX0_hasElement_5 : decode cX0_hasElement 5 = .ok (.aload_n 0, 1) := by decide +kernel
theorem dX0_hasElement_6 : decode cX0_hasElement 6 = .ok (.getfield 40, 3) := by decide +kernel
theorem dX0_hasElement_9 : decode cX0_hasElement 9 = .ok (.if_icmp .ge 13, 3) := by decide +kernel
theorem dX0_hasElement_12 : decode cX0_hasElement 12 = .ok (.iload_n 1, 1) := by decide +kernel
theorem dX0_hasElement_13 : decode cX0_hasElement 13 = .ok (.bipush 6, 2) := by decide +kernel
theorem dX0_hasElement_15 : decode cX0_hasElement 15 = .ok (.if_icmp .ge 7, 3) := by decide +kernel
theorem dX0_hasElement_18 : decode cX0_hasElement 18 = .ok (.iconst 1, 1) := by decide +kernel
theorem dX0_hasElement_19 : decode cX0_hasElement 19 = .ok (.goto 4, 3) := by decide +kernel
theorem dX0_hasElement_22 : decode cX0_hasElement 22 = .ok (.iconst 0, 1) := by decide +kernel
theorem dX0_hasElement_23 : decode cX0_hasElement 23 = .ok (.ireturn, 1) := by decide +kernel
theorem dX0_hasElements_0 : decode cX0_hasElements 0 = .ok (.iload_n 1, 1) := by decide +kernel
theorem dX0_hasElements_1 : decode cX0_hasElements 1 = .ok (.ifCond .lt 16, 3) := by decide +kernel
theorem dX0_hasElements_4 : decode cX0_hasElements 4 = .ok (.iload_n 1, 1) := by decide +kernel
theorem dX0_hasElements_5 : decode cX0_hasElements 5 = .ok (.aload_n 0, 1) := by decide +kernel
theorem dX0_hasElements_6 : decode cX0_hasElements 6 = .ok (.getfield 40, 3) := by decide +kernel
theorem dX0_hasElements_9 : decode cX0_hasElements 9 = .ok (.ishr, 1) := by decide +kernel
theorem dX0_hasElements_10 : decode cX0_hasElements 10 = .ok (.ifCond .ne 7, 3) := by decide +kernel
theorem dX0_hasElements_13 : decode cX0_hasElements 13 = .ok (.iconst 1, 1) := by decide +kernel
theorem dX0_hasElements_14 : decode cX0_hasElements 14 = .ok (.goto 4, 3) := by decide +kernel
theorem dX0_hasElements_17 : decode cX0_hasElements 17 = .ok (.iconst 0, 1) := by decide +kernel
theorem dX0_hasElements_18 : decode cX0_hasElements 18 = .ok (.ireturn, 1) := by decide +kernel
theorem dX0_appendSet_0 : decode cX0_appendSet 0 = .ok (.aload_n 0, 1) := by decide +kernel
theorem dX0_appendSet_1 : decode cX0_appendSet 1 = .ok (.getfield 36, 3) := by decide +kernel
theorem dX0_appendSet_4 : decode cX0_appendSet 4 = .ok (.ifCond .lt 11, 3) := by decide +kernel
theorem dX0_appendSet_7 : decode cX0_appendSet 7 = .ok (.aload_n 0, 1) := by decide +kernel
theorem dX0_appendSet_8 : decode cX0_appendSet 8 = .ok (.getfield 36, 3) := by decide +kernel
theorem dX0_appendSet_11 : decode cX0_appendSet 11 = .ok (.iconst 3, 1) := by decide +kernel
theorem dX0_appendSet_12 : decode cX0_appendSet 12 = .ok (.if_icmp .lt 4, 3) := by decide +kernel
theorem dX0_appendSet_15 : decode cX0_appendSet 15 = .ok (.return_, 1) := by decide +kernel
theorem dX0_appendSet_16 : decode cX0_appendSet 16 = .ok (.aload_n 0, 1) := by decide +kernel
theorem dX0_appendSet_17 : decode cX0_appendSet 17 = .ok (.getfield 9, 3) := by decide +kernel
theorem dX0_appendSet_20 : decode cX0_appendSet 20 = .ok (.aload_n 0, 1) := by decide +kernel
theorem dX0_appendSet_21 : decode cX0_appendSet 21 = .ok (.getfield 36, 3) := by decide +kernel
theorem dX0_appendSet_24 : decode cX0_appendSet 24 = .ok (.iload_n 1, 1) := by decide +kernel
theorem dX0_appendSet_25 : decode cX0_appendSet 25 = .ok (.iastore, 1) := by decide +kernel
theorem dX0_appendSet_26 : decode cX0_appendSet 26 = .ok (.aload_n 0, 1) := by decide +kernel
theorem dX0_appendSet_27 : decode cX0_appendSet 27 = .ok (.getfield 15, 3) := by decide +kernel
theorem dX0_appendSet_30 : decode cX0_appendSet 30 = .ok (.aload_n 0, 1) := by decide +kernel
theorem dX0_appendSet_31 : decode cX0_appendSet 31 = .ok (.getfield 36, 3) := by decide +kernel
theorem dX0_appendSet_34 : decode cX0_appendSet 34 = .ok (.iload_n 2, 1) := by decide +kernel
theorem dX0_appendSet_35 : decode cX0_appendSet 35 = .ok (.iastore, 1) := by decide +kernel
theorem dX0_appendSet_36 : decode cX0_appendSet 36 = .ok (.aload_n 0, 1) := by decide +kernel
theorem dX0_appendSet_37 : decode cX0_appendSet 37 = .ok (.getfield 18, 3) := by decide +kernel
theorem dX0_appendSet_40 : decode cX0_appendSet 40 = .ok (.aload_n 0, 1) := by decide +kernel
theorem dX0_appendSet_41 : decode cX0_appendSet 41 = .ok (.getfield 36, 3) := by decide +kernel
theorem dX0_appendSet_44 : decode cX0_appendSet 44 = .ok (.iload_n 3, 1) := by decide +kernel
theorem dX0_appendSet_45 : decode cX0_appendSet 45 = .ok (.iastore, 1) := by decide +kernel
theorem dX0_appendSet_46 : decode cX0_appendSet 46 = .ok (.aload_n 0, 1) := by decide +kernel
theorem dX0_appendSet_47 : decode cX0_appendSet 47 = .ok (.getfield 21, 3) := by decide +kernel
theorem dX0_appendSet_50 : decode cX0_appendSet 50 = .ok (.aload_n 0, 1) := by decide +kernel
theorem dX0_appendSet_51 : decode cX0_appendSet 51 = .ok (.getfield 36, 3) := by decide +kernel
theorem dX0_appendSet_54 : decode cX0_appendSet 54 = .ok (.iload 4, 2) := by decide +kernel
theorem dX0_appendSet_56 : decode cX0_appendSet 56 = .ok (.iastore, 1) := by decide +kernel
theorem dX0_appendSet_57 : decode cX0_appendSet 57 = .ok (.aload_n 0, 1) := by decide +kernel
theorem dX0_appendSet_58 : decode cX0_appendSet 58 = .ok (.getfield 24, 3) := by decide +kernel
theorem dX0_appendSet_61 : decode cX0_appendSet 61 = .ok (.aload_n 0, 1) := by decide +kernel
theorem dX0_appendSet_62 : decode cX0_appendSet 62 = .ok (.getfield 36, 3) := by decide +kernel
theorem dX0_appendSet_65 : decode cX0_appendSet 65 = .ok (.iload 5, 2) := by decide +kernel
theorem dX0_appendSet_67 : decode cX0_appendSet 67 = .ok (.iastore, 1) := by decide +kernel
theorem dX0_appendSet_68 : decode cX0_appendSet 68 = .ok (.aload_n 0, 1) := by decide +kernel
theorem dX0_appendSet_69 : decode cX0_appendSet 69 = .ok (.dup, 1) := by decide +kernel
theorem dX0_appendSet_70 : decode cX0_appendSet 70 = .ok (.getfield 36, 3) := by decide +kernel
theorem dX0_appendSet_73 : decode cX0_appendSet 73 = .ok (.iconst 1, 1) := by decide +kernel
theorem dX0_appendSet_74 : decode cX0_appendSet 74 = .ok (.iadd, 1) := by decide +kernel
theorem dX0_appendSet_75 : decode cX0_appendSet 75 = .ok (.putfield 36, 3) := by decide +kernel
theorem dX0_appendSet_78 : decode cX0_appendSet 78 = .ok (.return_, 1) := by decide +kernel
theorem dX0_appendElement_0 : decode cX0_appendElement 0 = .ok (.aload_n 0, 1) := by decide +kernel
theorem dX0_appendElement_1 : decode cX0_appendElement 1 = .ok (.getfield 40, 3) := by decide +kernel
theorem dX0_appendElement_4 : decode cX0_appendElement 4 = .ok (.ifCond .lt 12, 3) := by decide +kernel
theorem dX0_appendElement_7 : decode cX0_appendElement 7 = .ok (.aload_n 0, 1) := by decide +kernel
theorem dX0_appendElement_8 : decode cX0_appendElement 8 = .ok (.getfield 40, 3) := by decide +kernel
theorem dX0_appendElement_11 : decode cX0_appendElement 11 = .ok (.bipush 6, 2) := by decide +kernel
theorem dX0_appendElement_13 : decode cX0_appendElement 13 = .ok (.if_icmp .lt 5, 3) := by decide +kernel
theorem dX0_appendElement_16 : decode cX0_appendElement 16 = .ok (.iconst (-1), 1) := by decide +kernel
theorem dX0_appendElement_17 : decode cX0_appendElement 17 = .ok (.ireturn, 1) := by decide +kernel
theorem dX0_appendElement_18 : decode cX0_appendElement 18 = .ok (.aload_n 0, 1) := by decide +kernel
theorem dX0_appendElement_19 : decode cX0_appendElement 19 = .ok (.getfield 27, 3) := by decide +kernel
theorem dX0_appendElement_22 : decode cX0_appendElement 22 = .ok (.aload_n 0, 1) := by decide +kernel
theorem dX0_appendElement_23 : decode cX0_appendElement 23 = .ok (.getfield 40, 3) := by decide +kernel
theorem dX0_appendElement_26 : decode cX0_appendElement 26 = .ok (.iload_n 1, 1) := by decide +kernel
theorem dX0_appendElement_27 : decode cX0_appendElement 27 = .ok (.iastore, 1) := by decide +kernel
theorem dX0_appendElement_28 : decode cX0_appendElement 28 = .ok (.aload_n 0, 1) := by decide +kernel
theorem dX0_appendElement_29 : decode cX0_appendElement 29 = .ok (.getfield 30, 3) := by decide +kernel
theorem dX0_appendElement_32 : decode cX0_appendElement 32 = .ok (.aload_n 0, 1) := by decide +kernel
theorem dX0_appendElement_33 : decode cX0_appendElement 33 = .ok (.getfield 40, 3) := by decide +kernel
theorem dX0_appendElement_36 : decode cX0_appendElement 36 = .ok (.iload_n 2, 1) := by decide +kernel
theorem dX0_appendElement_37 : decode cX0_appendElement 37 = .ok (.iastore, 1) := by decide +kernel
theorem dX0_appendElement_38 : decode cX0_appendElement 38 = .ok (.aload_n 0, 1) := by decide +kernel
theorem dX0_appendElement_39 : decode cX0_appendElement 39 = .ok (.getfield 33, 3) := by decide +kernel
theorem dX0_appendElement_42 : decode cX0_appendElement 42 = .ok (.aload_n 0, 1) := by decide +kernel
theorem dX0_appendElement_43 : decode cX0_appendElement 43 = .ok (.getfield 40, 3) := by decide +kernel
theorem dX0_appendElement_46 : decode cX0_appendElement 46 = .ok (.sipush 1000, 3) := by decide +kernel
theorem dX0_appendElement_49 : decode cX0_appendElement 49 = .ok (.iastore, 1) := by decide +kernel
theorem dX0_appendElement_50 : decode cX0_appendElement 50 = .ok (.aload_n 0, 1) := by decide +kernel
theorem dX0_appendElement_51 : decode cX0_appendElement 51 = .ok (.dup, 1) := by decide +kernel
theorem dX0_appendElement_52 : decode cX0_appendElement 52 = .ok (.getfield 40, 3) := by decide +kernel
theorem dX0_appendElement_55 : decode cX0_appendElement 55 = .ok (.iconst 1, 1) := by decide +kernel
theorem dX0_appendElement_56 : decode cX0_appendElement 56 = .ok (.iadd, 1) := by decide +kernel
theorem dX0_appendElement_57 : decode cX0_appendElement 57 = .ok (.putfield 40, 3) := by decide +kernel
theorem dX0_appendElement_60 : decode cX0_appendElement 60 = .ok (.aload_n 0, 1) := by decide +kernel
theorem dX0_appendElement_61 : decode cX0_appendElement 61 = .ok (.getfield 40, 3) := by decide +kernel
theorem dX0_appendElement_64 : decode cX0_appendElement 64 = .ok (.iconst 1, 1) := by decide +kernel
theorem dX0_appendElement_65 : decode cX0_appendElement 65 = .ok (.isub, 1) := by decide +kernel
theorem dX0_appendElement_66 : decode cX0_appendElement 66 = .ok (.ireturn, 1) := by decide +kernel
theorem dX0_capacityOf_0 : decode cX0_capacityOf 0 = .ok (.aload_n 0, 1) := by decide +kernel
theorem dX0_capacityOf_1 : decode cX0_capacityOf 1 = .ok (.iload_n 1, 1) := by decide +kernel
theorem dX0_capacityOf_2 : decode cX0_capacityOf 2 = .ok (.invokevirtual 43, 3) := by decide +kernel
theorem dX0_capacityOf_5 : decode cX0_capacityOf 5 = .ok (.ifCond .eq 12, 3) := by decide +kernel
theorem dX0_capacityOf_8 : decode cX0_capacityOf 8 = .ok (.aload_n 0, 1) := by decide +kernel
theorem dX0_capacityOf_9 : decode cX0_capacityOf 9 = .ok (.getfield 33, 3) := by decide +kernel
theorem dX0_capacityOf_12 : decode cX0_capacityOf 12 = .ok (.iload_n 1, 1) := by decide +kernel
theorem dX0_capacityOf_13 : decode cX0_capacityOf 13 = .ok (.iaload, 1) := by decide +kernel
theorem dX0_capacityOf_14 : decode cX0_capacityOf 14 = .ok (.goto 4, 3) := by decide +kernel
theorem dX0_capacityOf_17 : decode cX0_capacityOf 17 = .ok (.iconst 0, 1) := by decide +kernel
theorem dX0_capacityOf_18 : decode cX0_capacityOf 18 = .ok (.ireturn, 1) := by decide +kernel
theorem dX0_changeCapacity_0 : decode cX0_changeCapacity 0 = .ok (.aload_n 0, 1) := by decide +kernel
theorem dX0_changeCapacity_1 : decode cX0_changeCapacity 1 = .ok (.iload_n 1, 1) := by decide +kernel
theorem dX0_changeCapacity_2 : decode cX0_changeCapacity 2 = .ok (.invokevirtual 43, 3) := by decide +kernel
theorem dX0_changeCapacity_5 : decode cX0_changeCapacity 5 = .ok (.ifCond .eq 10, 3) := by decide +kernel
theorem dX0_changeCapacity_8 : decode cX0_changeCapacity 8 = .ok (.aload_n 0, 1) := by decide +kernel
theorem dX0_changeCapacity_9 : decode cX0_changeCapacity 9 = .ok (.getfield 33, 3) := by decide +kernel
theorem dX0_changeCapacity_12 : decode cX0_changeCapacity 12 = .ok (.iload_n 1, 1) := by decide +kernel
theorem dX0_changeCapacity_13 : decode cX0_changeCapacity 13 = .ok (.iload_n 2, 1) := by decide +kernel
theorem dX0_changeCapacity_14 : decode cX0_changeCapacity 14 = .ok (.iastore, 1) := by decide +kernel
theorem dX0_changeCapacity_15 : decode cX0_changeCapacity 15 = .ok (.return_, 1) := by decide +kernel
theorem dX0_isClutch_0 : decode cX0_isClutch 0 = .ok (.aload_n 0, 1) := by decide +kernel
theorem dX0_isClutch_1 : decode cX0_isClutch 1 = .ok (.iload_n 1, 1) := by decide +kernel
theorem dX0_isClutch_2 : decode cX0_isClutch 2 = .ok (.invokevirtual 43, 3) := by decide +kernel
theorem dX0_isClutch_5 : decode cX0_isClutch 5 = .ok (.ifCond .eq 17, 3) := by decide +kernel
theorem dX0_isClutch_8 : decode cX0_isClutch 8 = .ok (.aload_n 0, 1) := by decide +kernel
theorem dX0_isClutch_9 : decode cX0_isClutch 9 = .ok (.getfield 30, 3) := by decide +kernel
theorem dX0_isClutch_12 : decode cX0_isClutch 12 = .ok (.iload_n 1, 1) := by decide +kernel
theorem dX0_isClutch_13 : decode cX0_isClutch 13 = .ok (.iaload, 1) := by decide +kernel
theorem dX0_isClutch_14 : decode cX0_isClutch 14 = .ok (.iconst (-1), 1) := by decide +kernel
theorem dX0_isClutch_15 : decode cX0_isClutch 15 = .ok (.if_icmp .eq 7, 3) := by decide +kernel
theorem dX0_isClutch_18 : decode cX0_isClutch 18 = .ok (.iconst 1, 1) := by decide +kernel
theorem dX0_isClutch_19 : decode cX0_isClutch 19 = .ok (.goto 4, 3) := by decide +kernel
theorem dX0_isClutch_22 : decode cX0_isClutch 22 = .ok (.iconst 0, 1) := by decide +kernel
theorem dX0_isClutch_23 : decode cX0_isClutch 23 = .ok (.ireturn, 1) := by decide +kernel
theorem dX0_isEngaged_0 : decode cX0_isEngaged 0 = .ok (.aload_n 0, 1) := by decide +kernel
theorem dX0_isEngaged_1 : decode cX0_isEngaged 1 = .ok (.iload_n 1, 1) := by decide +kernel
theorem dX0_isEngaged_2 : decode cX0_isEngaged 2 = .ok (.invokevirtual 43, 3) := by decide +kernel
theorem dX0_isEngaged_5 : decode cX0_isEngaged 5 = .ok (.ifCond .eq 18, 3) := by decide +kernel
theorem dX0_isEngaged_8 : decode cX0_isEngaged 8 = .ok (.iload_n 1, 1) := by decide +kernel
theorem dX0_isEngaged_9 : decode cX0_isEngaged 9 = .ok (.aload_n 0, 1) := by decide +kernel
theorem dX0_isEngaged_10 : decode cX0_isEngaged 10 = .ok (.getfield 47, 3) := by decide +kernel
theorem dX0_isEngaged_13 : decode cX0_isEngaged 13 = .ok (.invokestatic 50, 3) := by decide +kernel
theorem dX0_isEngaged_16 : decode cX0_isEngaged 16 = .ok (.ifCond .eq 7, 3) := by decide +kernel
theorem dX0_isEngaged_19 : decode cX0_isEngaged 19 = .ok (.iconst 1, 1) := by decide +kernel
theorem dX0_isEngaged_20 : decode cX0_isEngaged 20 = .ok (.goto 4, 3) := by decide +kernel
theorem dX0_isEngaged_23 : decode cX0_isEngaged 23 = .ok (.iconst 0, 1) := by decide +kernel
theorem dX0_isEngaged_24 : decode cX0_isEngaged 24 = .ok (.ireturn, 1) := by decide +kernel
theorem dX0_engagedMask_0 : decode cX0_engagedMask 0 = .ok (.aload_n 0, 1) := by decide +kernel
theorem dX0_engagedMask_1 : decode cX0_engagedMask 1 = .ok (.getfield 47, 3) := by decide +kernel
theorem dX0_engagedMask_4 : decode cX0_engagedMask 4 = .ok (.ireturn, 1) := by decide +kernel
theorem dX0_changeEngagedMask_0 : decode cX0_changeEngagedMask 0 = .ok (.aload_n 0, 1) := by decide +kernel
theorem dX0_changeEngagedMask_1 : decode cX0_changeEngagedMask 1 = .ok (.iload_n 1, 1) := by decide +kernel
theorem dX0_changeEngagedMask_2 : decode cX0_changeEngagedMask 2 = .ok (.putfield 47, 3) := by decide +kernel
theorem dX0_changeEngagedMask_5 : decode cX0_changeEngagedMask 5 = .ok (.return_, 1) := by decide +kernel
theorem dX0_copyFrom_0 : decode cX0_copyFrom 0 = .ok (.iconst 0, 1) := by decide +kernel
theorem dX0_copyFrom_1 : decode cX0_copyFrom 1 = .ok (.istore_n 2, 1) := by decide +kernel
theorem dX0_copyFrom_2 : decode cX0_copyFrom 2 = .ok (.iload_n 2, 1) := by decide +kernel
theorem dX0_copyFrom_3 : decode cX0_copyFrom 3 = .ok (.iconst 3, 1) := by decide +kernel
theorem dX0_copyFrom_4 : decode cX0_copyFrom 4 = .ok (.if_icmp .ge 69, 3) := by decide +kernel
theorem dX0_copyFrom_7 : decode cX0_copyFrom 7 = .ok (.aload_n 0, 1) := by decide +kernel
theorem dX0_copyFrom_8 : decode cX0_copyFrom 8 = .ok (.getfield 9, 3) := by decide +kernel
theorem dX0_copyFrom_11 : decode cX0_copyFrom 11 = .ok (.iload_n 2, 1) := by decide +kernel
theorem dX0_copyFrom_12 : decode cX0_copyFrom 12 = .ok (.aload_n 1, 1) := by decide +kernel
theorem dX0_copyFrom_13 : decode cX0_copyFrom 13 = .ok (.getfield 9, 3) := by decide +kernel
theorem dX0_copyFrom_16 : decode cX0_copyFrom 16 = .ok (.iload_n 2, 1) := by decide +kernel
theorem dX0_copyFrom_17 : decode cX0_copyFrom 17 = .ok (.iaload, 1) := by decide +kernel
theorem dX0_copyFrom_18 : decode cX0_copyFrom 18 = .ok (.iastore, 1) := by decide +kernel
theorem dX0_copyFrom_19 : decode cX0_copyFrom 19 = .ok (.aload_n 0, 1) := by decide +kernel
theorem dX0_copyFrom_20 : decode cX0_copyFrom 20 = .ok (.getfield 15, 3) := by decide +kernel
theorem dX0_copyFrom_23 : decode cX0_copyFrom 23 = .ok (.iload_n 2, 1) := by decide +kernel
theorem dX0_copyFrom_24 : decode cX0_copyFrom 24 = .ok (.aload_n 1, 1) := by decide +kernel
theorem dX0_copyFrom_25 : decode cX0_copyFrom 25 = .ok (.getfield 15, 3) := by decide +kernel
theorem dX0_copyFrom_28 : decode cX0_copyFrom 28 = .ok (.iload_n 2, 1) := by decide +kernel
theorem dX0_copyFrom_29 : decode cX0_copyFrom 29 = .ok (.iaload, 1) := by decide +kernel
theorem dX0_copyFrom_30 : decode cX0_copyFrom 30 = .ok (.iastore, 1) := by decide +kernel
theorem dX0_copyFrom_31 : decode cX0_copyFrom 31 = .ok (.aload_n 0, 1) := by decide +kernel
theorem dX0_copyFrom_32 : decode cX0_copyFrom 32 = .ok (.getfield 18, 3) := by decide +kernel
theorem dX0_copyFrom_35 : decode cX0_copyFrom 35 = .ok (.iload_n 2, 1) := by decide +kernel
theorem dX0_copyFrom_36 : decode cX0_copyFrom 36 = .ok (.aload_n 1, 1) := by decide +kernel
theorem dX0_copyFrom_37 : decode cX0_copyFrom 37 = .ok (.getfield 18, 3) := by decide +kernel
theorem dX0_copyFrom_40 : decode cX0_copyFrom 40 = .ok (.iload_n 2, 1) := by decide +kernel
theorem dX0_copyFrom_41 : decode cX0_copyFrom 41 = .ok (.iaload, 1) := by decide +kernel
theorem dX0_copyFrom_42 : decode cX0_copyFrom 42 = .ok (.iastore, 1) := by decide +kernel
theorem dX0_copyFrom_43 : decode cX0_copyFrom 43 = .ok (.aload_n 0, 1) := by decide +kernel
theorem dX0_copyFrom_44 : decode cX0_copyFrom 44 = .ok (.getfield 21, 3) := by decide +kernel
theorem dX0_copyFrom_47 : decode cX0_copyFrom 47 = .ok (.iload_n 2, 1) := by decide +kernel
theorem dX0_copyFrom_48 : decode cX0_copyFrom 48 = .ok (.aload_n 1, 1) := by decide +kernel
theorem dX0_copyFrom_49 : decode cX0_copyFrom 49 = .ok (.getfield 21, 3) := by decide +kernel
theorem dX0_copyFrom_52 : decode cX0_copyFrom 52 = .ok (.iload_n 2, 1) := by decide +kernel
theorem dX0_copyFrom_53 : decode cX0_copyFrom 53 = .ok (.iaload, 1) := by decide +kernel
theorem dX0_copyFrom_54 : decode cX0_copyFrom 54 = .ok (.iastore, 1) := by decide +kernel
theorem dX0_copyFrom_55 : decode cX0_copyFrom 55 = .ok (.aload_n 0, 1) := by decide +kernel
theorem dX0_copyFrom_56 : decode cX0_copyFrom 56 = .ok (.getfield 24, 3) := by decide +kernel
theorem dX0_copyFrom_59 : decode cX0_copyFrom 59 = .ok (.iload_n 2, 1) := by decide +kernel
theorem dX0_copyFrom_60 : decode cX0_copyFrom 60 = .ok (.aload_n 1, 1) := by decide +kernel
theorem dX0_copyFrom_61 : decode cX0_copyFrom 61 = .ok (.getfield 24, 3) := by decide +kernel
theorem dX0_copyFrom_64 : decode cX0_copyFrom 64 = .ok (.iload_n 2, 1) := by decide +kernel
theorem dX0_copyFrom_65 : decode cX0_copyFrom 65 = .ok (.iaload, 1) := by decide +kernel
theorem dX0_copyFrom_66 : decode cX0_copyFrom 66 = .ok (.iastore, 1) := by decide +kernel
theorem dX0_copyFrom_67 : decode cX0_copyFrom 67 = .ok (.iinc 2 1, 3) := by decide +kernel
theorem dX0_copyFrom_70 : decode cX0_copyFrom 70 = .ok (.goto (-68), 3) := by decide +kernel
theorem dX0_copyFrom_73 : decode cX0_copyFrom 73 = .ok (.iconst 0, 1) := by decide +kernel
theorem dX0_copyFrom_74 : decode cX0_copyFrom 74 = .ok (.istore_n 2, 1) := by decide +kernel
theorem dX0_copyFrom_75 : decode cX0_copyFrom 75 = .ok (.iload_n 2, 1) := by decide +kernel
theorem dX0_copyFrom_76 : decode cX0_copyFrom 76 = .ok (.bipush 6, 2) := by decide +kernel
theorem dX0_copyFrom_78 : decode cX0_copyFrom 78 = .ok (.if_icmp .ge 45, 3) := by decide +kernel
theorem dX0_copyFrom_81 : decode cX0_copyFrom 81 = .ok (.aload_n 0, 1) := by decide +kernel
theorem dX0_copyFrom_82 : decode cX0_copyFrom 82 = .ok (.getfield 27, 3) := by decide +kernel
theorem dX0_copyFrom_85 : decode cX0_copyFrom 85 = .ok (.iload_n 2, 1) := by decide +kernel
theorem dX0_copyFrom_86 : decode cX0_copyFrom 86 = .ok (.aload_n 1, 1) := by decide +kernel
theorem dX0_copyFrom_87 : decode cX0_copyFrom 87 = .ok (.getfield 27, 3) := by decide +kernel
theorem dX0_copyFrom_90 : decode cX0_copyFrom 90 = .ok (.iload_n 2, 1) := by decide +kernel
theorem dX0_copyFrom_91 : decode cX0_copyFrom 91 = .ok (.iaload, 1) := by decide +kernel
theorem dX0_copyFrom_92 : decode cX0_copyFrom 92 = .ok (.iastore, 1) := by decide +kernel
theorem dX0_copyFrom_93 : decode cX0_copyFrom 93 = .ok (.aload_n 0, 1) := by decide +kernel
theorem dX0_copyFrom_94 : decode cX0_copyFrom 94 = .ok (.getfield 30, 3) := by decide +kernel
theorem dX0_copyFrom_97 : decode cX0_copyFrom 97 = .ok (.iload_n 2, 1) := by decide +kernel
theorem dX0_copyFrom_98 : decode cX0_copyFrom 98 = .ok (.aload_n 1, 1) := by decide +kernel
theorem dX0_copyFrom_99 : decode cX0_copyFrom 99 = .ok (.getfield 30, 3) := by decide +kernel
theorem dX0_copyFrom_102 : decode cX0_copyFrom 102 = .ok (.iload_n 2, 1) := by decide +kernel
theorem dX0_copyFrom_103 : decode cX0_copyFrom 103 = .ok (.iaload, 1) := by decide +kernel
theorem dX0_copyFrom_104 : decode cX0_copyFrom 104 = .ok (.iastore, 1) := by decide +kernel
theorem dX0_copyFrom_105 : decode cX0_copyFrom 105 = .ok (.aload_n 0, 1) := by decide +kernel
theorem dX0_copyFrom_106 : decode cX0_copyFrom 106 = .ok (.getfield 33, 3) := by decide +kernel
theorem dX0_copyFrom_109 : decode cX0_copyFrom 109 = .ok (.iload_n 2, 1) := by decide +kernel
theorem dX0_copyFrom_110 : decode cX0_copyFrom 110 = .ok (.aload_n 1, 1) := by decide +kernel
theorem dX0_copyFrom_111 : decode cX0_copyFrom 111 = .ok (.getfield 33, 3) := by decide +kernel
theorem dX0_copyFrom_114 : decode cX0_copyFrom 114 = .ok (.iload_n 2, 1) := by decide +kernel
theorem dX0_copyFrom_115 : decode cX0_copyFrom 115 = .ok (.iaload, 1) := by decide +kernel
theorem dX0_copyFrom_116 : decode cX0_copyFrom 116 = .ok (.iastore, 1) := by decide +kernel
theorem dX0_copyFrom_117 : decode cX0_copyFrom 117 = .ok (.iinc 2 1, 3) := by decide +kernel
theorem dX0_copyFrom_120 : decode cX0_copyFrom 120 = .ok (.goto (-45), 3) := by decide +kernel
theorem dX0_copyFrom_123 : decode cX0_copyFrom 123 = .ok (.aload_n 0, 1) := by decide +kernel
theorem dX0_copyFrom_124 : decode cX0_copyFrom 124 = .ok (.aload_n 1, 1) := by decide +kernel
theorem dX0_copyFrom_125 : decode cX0_copyFrom 125 = .ok (.getfield 36, 3) := by decide +kernel
theorem dX0_copyFrom_128 : decode cX0_copyFrom 128 = .ok (.putfield 36, 3) := by decide +kernel
theorem dX0_copyFrom_131 : decode cX0_copyFrom 131 = .ok (.aload_n 0, 1) := by decide +kernel
theorem dX0_copyFrom_132 : decode cX0_copyFrom 132 = .ok (.aload_n 1, 1) := by decide +kernel
theorem dX0_copyFrom_133 : decode cX0_copyFrom 133 = .ok (.getfield 40, 3) := by decide +kernel
theorem dX0_copyFrom_136 : decode cX0_copyFrom 136 = .ok (.putfield 40, 3) := by decide +kernel
theorem dX0_copyFrom_139 : decode cX0_copyFrom 139 = .ok (.aload_n 0, 1) := by decide +kernel
theorem dX0_copyFrom_140 : decode cX0_copyFrom 140 = .ok (.aload_n 1, 1) := by decide +kernel
theorem dX0_copyFrom_141 : decode cX0_copyFrom 141 = .ok (.getfield 47, 3) := by decide +kernel
theorem dX0_copyFrom_144 : decode cX0_copyFrom 144 = .ok (.putfield 47, 3) := by decide +kernel
theorem dX0_copyFrom_147 : decode cX0_copyFrom 147 = .ok (.return_, 1) := by decide +kernel
theorem dX0_writeSetSpeeds_0 : decode cX0_writeSetSpeeds 0 = .ok (.iconst 0, 1) := by decide +kernel
theorem dX0_writeSetSpeeds_1 : decode cX0_writeSetSpeeds 1 = .ok (.istore_n 3, 1) := by decide +kernel
theorem dX0_writeSetSpeeds_2 : decode cX0_writeSetSpeeds 2 = .ok (.iload_n 3, 1) := by decide +kernel
theorem dX0_writeSetSpeeds_3 : decode cX0_writeSetSpeeds 3 = .ok (.aload_n 0, 1) := by decide +kernel
theorem dX0_writeSetSpeeds_4 : decode cX0_writeSetSpeeds 4 = .ok (.getfield 36, 3) := by decide +kernel
theorem dX0_writeSetSpeeds_7 : decode cX0_writeSetSpeeds 7 = .ok (.if_icmp .ge 84, 3) := by decide +kernel
theorem dX0_writeSetSpeeds_10 : decode cX0_writeSetSpeeds 10 = .ok (.iload_n 3, 1) := by decide +kernel
theorem dX0_writeSetSpeeds_11 : decode cX0_writeSetSpeeds 11 = .ok (.iconst 3, 1) := by decide +kernel
theorem dX0_writeSetSpeeds_12 : decode cX0_writeSetSpeeds 12 = .ok (.if_icmp .ge 79, 3) := by decide +kernel
theorem dX0_writeSetSpeeds_15 : decode cX0_writeSetSpeeds 15 = .ok (.iload_n 2, 1) := by decide +kernel
theorem dX0_writeSetSpeeds_16 : decode cX0_writeSetSpeeds 16 = .ok (.iload_n 3, 1) := by decide +kernel
theorem dX0_writeSetSpeeds_17 : decode cX0_writeSetSpeeds 17 = .ok (.iadd, 1) := by decide +kernel
theorem dX0_writeSetSpeeds_18 : decode cX0_writeSetSpeeds 18 = .ok (.istore 4, 2) := by decide +kernel
theorem dX0_writeSetSpeeds_20 : decode cX0_writeSetSpeeds 20 = .ok (.aload_n 1, 1) := by decide +kernel
theorem dX0_writeSetSpeeds_21 : decode cX0_writeSetSpeeds 21 = .ok (.iload 4, 2) := by decide +kernel
theorem dX0_writeSetSpeeds_23 : decode cX0_writeSetSpeeds 23 = .ok (.aload_n 0, 1) := by decide +kernel
theorem dX0_writeSetSpeeds_24 : decode cX0_writeSetSpeeds 24 = .ok (.getfield 9, 3) := by decide +kernel
theorem dX0_writeSetSpeeds_27 : decode cX0_writeSetSpeeds 27 = .ok (.iload_n 3, 1) := by decide +kernel
theorem dX0_writeSetSpeeds_28 : decode cX0_writeSetSpeeds 28 = .ok (.iaload, 1) := by decide +kernel
theorem dX0_writeSetSpeeds_29 : decode cX0_writeSetSpeeds 29 = .ok (.aload_n 0, 1) := by decide +kernel
theorem dX0_writeSetSpeeds_30 : decode cX0_writeSetSpeeds 30 = .ok (.getfield 21, 3) := by decide +kernel
theorem dX0_writeSetSpeeds_33 : decode cX0_writeSetSpeeds 33 = .ok (.iload_n 3, 1) := by decide +kernel
theorem dX0_writeSetSpeeds_34 : decode cX0_writeSetSpeeds 34 = .ok (.iaload, 1) := by decide +kernel
theorem dX0_writeSetSpeeds_35 : decode cX0_writeSetSpeeds 35 = .ok (.i2l, 1) := by decide +kernel
theorem dX0_writeSetSpeeds_36 : decode cX0_writeSetSpeeds 36 = .ok (.invokevirtual 54, 3) := by decide +kernel
theorem dX0_writeSetSpeeds_39 : decode cX0_writeSetSpeeds 39 = .ok (.aload_n 1, 1) := by decide +kernel
theorem dX0_writeSetSpeeds_40 : decode cX0_writeSetSpeeds 40 = .ok (.iload 4, 2) := by decide +kernel
theorem dX0_writeSetSpeeds_42 : decode cX0_writeSetSpeeds 42 = .ok (.aload_n 0, 1) := by decide +kernel
theorem dX0_writeSetSpeeds_43 : decode cX0_writeSetSpeeds 43 = .ok (.getfield 15, 3) := by decide +kernel
theorem dX0_writeSetSpeeds_46 : decode cX0_writeSetSpeeds 46 = .ok (.iload_n 3, 1) := by decide +kernel
theorem dX0_writeSetSpeeds_47 : decode cX0_writeSetSpeeds 47 = .ok (.iaload, 1) := by decide +kernel
theorem dX0_writeSetSpeeds_48 : decode cX0_writeSetSpeeds 48 = .ok (.aload_n 0, 1) := by decide +kernel
theorem dX0_writeSetSpeeds_49 : decode cX0_writeSetSpeeds 49 = .ok (.getfield 24, 3) := by decide +kernel
theorem dX0_writeSetSpeeds_52 : decode cX0_writeSetSpeeds 52 = .ok (.iload_n 3, 1) := by decide +kernel
theorem dX0_writeSetSpeeds_53 : decode cX0_writeSetSpeeds 53 = .ok (.iaload, 1) := by decide +kernel
theorem dX0_writeSetSpeeds_54 : decode cX0_writeSetSpeeds 54 = .ok (.i2l, 1) := by decide +kernel
theorem dX0_writeSetSpeeds_55 : decode cX0_writeSetSpeeds 55 = .ok (.invokevirtual 54, 3) := by decide +kernel
theorem dX0_writeSetSpeeds_58 : decode cX0_writeSetSpeeds 58 = .ok (.aload_n 1, 1) := by decide +kernel
theorem dX0_writeSetSpeeds_59 : decode cX0_writeSetSpeeds 59 = .ok (.iload 4, 2) := by decide +kernel
theorem dX0_writeSetSpeeds_61 : decode cX0_writeSetSpeeds 61 = .ok (.aload_n 0, 1) := by decide +kernel
theorem dX0_writeSetSpeeds_62 : decode cX0_writeSetSpeeds 62 = .ok (.getfield 18, 3) := by decide +kernel
theorem dX0_writeSetSpeeds_65 : decode cX0_writeSetSpeeds 65 = .ok (.iload_n 3, 1) := by decide +kernel
theorem dX0_writeSetSpeeds_66 : decode cX0_writeSetSpeeds 66 = .ok (.iaload, 1) := by decide +kernel
theorem dX0_writeSetSpeeds_67 : decode cX0_writeSetSpeeds 67 = .ok (.aload_n 0, 1) := by decide +kernel
theorem dX0_writeSetSpeeds_68 : decode cX0_writeSetSpeeds 68 = .ok (.getfield 21, 3) := by decide +kernel
theorem dX0_writeSetSpeeds_71 : decode cX0_writeSetSpeeds 71 = .ok (.iload_n 3, 1) := by decide +kernel
theorem dX0_writeSetSpeeds_72 : decode cX0_writeSetSpeeds 72 = .ok (.iaload, 1) := by decide +kernel
theorem dX0_writeSetSpeeds_73 : decode cX0_writeSetSpeeds 73 = .ok (.aload_n 0, 1) := by decide +kernel
theorem dX0_writeSetSpeeds_74 : decode cX0_writeSetSpeeds 74 = .ok (.getfield 24, 3) := by decide +kernel
theorem dX0_writeSetSpeeds_77 : decode cX0_writeSetSpeeds 77 = .ok (.iload_n 3, 1) := by decide +kernel
theorem dX0_writeSetSpeeds_78 : decode cX0_writeSetSpeeds 78 = .ok (.iaload, 1) := by decide +kernel
theorem dX0_writeSetSpeeds_79 : decode cX0_writeSetSpeeds 79 = .ok (.iadd, 1) := by decide +kernel
theorem dX0_writeSetSpeeds_80 : decode cX0_writeSetSpeeds 80 = .ok (.ineg, 1) := by decide +kernel
theorem dX0_writeSetSpeeds_81 : decode cX0_writeSetSpeeds 81 = .ok (.i2l, 1) := by decide +kernel
theorem dX0_writeSetSpeeds_82 : decode cX0_writeSetSpeeds 82 = .ok (.invokevirtual 54, 3) := by decide +kernel
theorem dX0_writeSetSpeeds_85 : decode cX0_writeSetSpeeds 85 = .ok (.iinc 3 1, 3) := by decide +kernel
theorem dX0_writeSetSpeeds_88 : decode cX0_writeSetSpeeds 88 = .ok (.goto (-86), 3) := by decide +kernel
theorem dX0_writeSetSpeeds_91 : decode cX0_writeSetSpeeds 91 = .ok (.return_, 1) := by decide +kernel
theorem dX0_writeElementSpeeds_0 : decode cX0_writeElementSpeeds 0 = .ok (.iconst 0, 1) := by decide +kernel
theorem dX0_writeElementSpeeds_1 : decode cX0_writeElementSpeeds 1 = .ok (.istore 4, 2) := by decide +kernel
theorem dX0_writeElementSpeeds_3 : decode cX0_writeElementSpeeds 3 = .ok (.iload 4, 2) := by decide +kernel
theorem dX0_writeElementSpeeds_5 : decode cX0_writeElementSpeeds 5 = .ok (.aload_n 0, 1) := by decide +kernel
theorem dX0_writeElementSpeeds_6 : decode cX0_writeElementSpeeds 6 = .ok (.getfield 40, 3) := by decide +kernel
theorem dX0_writeElementSpeeds_9 : decode cX0_writeElementSpeeds 9 = .ok (.if_icmp .ge 70, 3) := by decide +kernel
theorem dX0_writeElementSpeeds_12 : decode cX0_writeElementSpeeds 12 = .ok (.iload 4, 2) := by decide +kernel
theorem dX0_writeElementSpeeds_14 : decode cX0_writeElementSpeeds 14 = .ok (.bipush 6, 2) := by decide +kernel
theorem dX0_writeElementSpeeds_16 : decode cX0_writeElementSpeeds 16 = .ok (.if_icmp .ge 63, 3) := by decide +kernel
theorem dX0_writeElementSpeeds_19 : decode cX0_writeElementSpeeds 19 = .ok (.iload 4, 2) := by decide +kernel
theorem dX0_writeElementSpeeds_21 : decode cX0_writeElementSpeeds 21 = .ok (.iload_n 3, 1) := by decide +kernel
theorem dX0_writeElementSpeeds_22 : decode cX0_writeElementSpeeds 22 = .ok (.invokestatic 50, 3) := by decide +kernel
theorem dX0_writeElementSpeeds_25 : decode cX0_writeElementSpeeds 25 = .ok (.ifCond .eq 48, 3) := by decide +kernel
theorem dX0_writeElementSpeeds_28 : decode cX0_writeElementSpeeds 28 = .ok (.aload_n 1, 1) := by decide +kernel
theorem dX0_writeElementSpeeds_29 : decode cX0_writeElementSpeeds 29 = .ok (.iload_n 2, 1) := by decide +kernel
theorem dX0_writeElementSpeeds_30 : decode cX0_writeElementSpeeds 30 = .ok (.iload 4, 2) := by decide +kernel
theorem dX0_writeElementSpeeds_32 : decode cX0_writeElementSpeeds 32 = .ok (.iadd, 1) := by decide +kernel
theorem dX0_writeElementSpeeds_33 : decode cX0_writeElementSpeeds 33 = .ok (.aload_n 0, 1) := by decide +kernel
theorem dX0_writeElementSpeeds_34 : decode cX0_writeElementSpeeds 34 = .ok (.getfield 27, 3) := by decide +kernel
theorem dX0_writeElementSpeeds_37 : decode cX0_writeElementSpeeds 37 = .ok (.iload 4, 2) := by decide +kernel
theorem dX0_writeElementSpeeds_39 : decode cX0_writeElementSpeeds 39 = .ok (.iaload, 1) := by decide +kernel
theorem dX0_writeElementSpeeds_40 : decode cX0_writeElementSpeeds 40 = .ok (.lconst 1, 1) := by decide +kernel
theorem dX0_writeElementSpeeds_41 : decode cX0_writeElementSpeeds 41 = .ok (.invokevirtual 54, 3) := by decide +kernel
theorem dX0_writeElementSpeeds_44 : decode cX0_writeElementSpeeds 44 = .ok (.aload_n 0, 1) := by decide +kernel
theorem dX0_writeElementSpeeds_45 : decode cX0_writeElementSpeeds 45 = .ok (.getfield 30, 3) := by decide +kernel
theorem dX0_writeElementSpeeds_48 : decode cX0_writeElementSpeeds 48 = .ok (.iload 4, 2) := by decide +kernel
theorem dX0_writeElementSpeeds_50 : decode cX0_writeElementSpeeds 50 = .ok (.iaload, 1) := by decide +kernel
theorem dX0_writeElementSpeeds_51 : decode cX0_writeElementSpeeds 51 = .ok (.iconst (-1), 1) := by decide +kernel
theorem dX0_writeElementSpeeds_52 : decode cX0_writeElementSpeeds 52 = .ok (.if_icmp .eq 21, 3) := by decide +kernel
theorem dX0_writeElementSpeeds_55 : decode cX0_writeElementSpeeds 55 = .ok (.aload_n 1, 1) := by decide +kernel
theorem dX0_writeElementSpeeds_56 : decode cX0_writeElementSpeeds 56 = .ok (.iload_n 2, 1) := by decide +kernel
theorem dX0_writeElementSpeeds_57 : decode cX0_writeElementSpeeds 57 = .ok (.iload 4, 2) := by decide +kernel
theorem dX0_writeElementSpeeds_59 : decode cX0_writeElementSpeeds 59 = .ok (.iadd, 1) := by decide +kernel
theorem dX0_writeElementSpeeds_60 : decode cX0_writeElementSpeeds 60 = .ok (.aload_n 0, 1) := by decide +kernel
theorem dX0_writeElementSpeeds_61 : decode cX0_writeElementSpeeds 61 = .ok (.getfield 30, 3) := by decide +kernel
theorem dX0_writeElementSpeeds_64 : decode cX0_writeElementSpeeds 64 = .ok (.iload 4, 2) := by decide +kernel
theorem dX0_writeElementSpeeds_66 : decode cX0_writeElementSpeeds 66 = .ok (.iaload, 1) := by decide +kernel
theorem dX0_writeElementSpeeds_67 : decode cX0_writeElementSpeeds 67 = .ok (.ldc2_w 60, 3) := by decide +kernel
theorem dX0_writeElementSpeeds_70 : decode cX0_writeElementSpeeds 70 = .ok (.invokevirtual 54, 3) := by decide +kernel
theorem dX0_writeElementSpeeds_73 : decode cX0_writeElementSpeeds 73 = .ok (.iinc 4 1, 3) := by decide +kernel
theorem dX0_writeElementSpeeds_76 : decode cX0_writeElementSpeeds 76 = .ok (.goto (-73), 3) := by decide +kernel
theorem dX0_writeElementSpeeds_79 : decode cX0_writeElementSpeeds 79 = .ok (.return_, 1) := by decide +kernel
theorem dX0_writeSetTorques_0 : decode cX0_writeSetTorques 0 = .ok (.iconst 0, 1) := by decide +kernel
theorem dX0_writeSetTorques_1 : decode cX0_writeSetTorques 1 = .ok (.istore_n 3, 1) := by decide +kernel
theorem dX0_writeSetTorques_2 : decode cX0_writeSetTorques 2 = .ok (.iload_n 3, 1) := by decide +kernel
theorem dX0_writeSetTorques_3 : decode cX0_writeSetTorques 3 = .ok (.aload_n 0, 1) := by decide +kernel
theorem dX0_writeSetTorques_4 : decode cX0_writeSetTorques 4 = .ok (.getfield 36, 3) := by decide +kernel
theorem dX0_writeSetTorques_7 : decode cX0_writeSetTorques 7 = .ok (.if_icmp .ge 84, 3) := by decide +kernel
theorem dX0_writeSetTorques_10 : decode cX0_writeSetTorques 10 = .ok (.iload_n 3, 1) := by decide +kernel
theorem dX0_writeSetTorques_11 : decode cX0_writeSetTorques 11 = .ok (.iconst 3, 1) := by decide +kernel
theorem dX0_writeSetTorques_12 : decode cX0_writeSetTorques 12 = .ok (.if_icmp .ge 79, 3) := by decide +kernel
theorem dX0_writeSetTorques_15 : decode cX0_writeSetTorques 15 = .ok (.iload_n 2, 1) := by decide +kernel
theorem dX0_writeSetTorques_16 : decode cX0_writeSetTorques 16 = .ok (.iload_n 3, 1) := by decide +kernel
theorem dX0_writeSetTorques_17 : decode cX0_writeSetTorques 17 = .ok (.iadd, 1) := by decide +kernel
theorem dX0_writeSetTorques_18 : decode cX0_writeSetTorques 18 = .ok (.istore 4, 2) := by decide +kernel
theorem dX0_writeSetTorques_20 : decode cX0_writeSetTorques 20 = .ok (.aload_n 1, 1) := by decide +kernel
theorem dX0_writeSetTorques_21 : decode cX0_writeSetTorques 21 = .ok (.aload_n 0, 1) := by decide +kernel
theorem dX0_writeSetTorques_22 : decode cX0_writeSetTorques 22 = .ok (.getfield 9, 3) := by decide +kernel
theorem dX0_writeSetTorques_25 : decode cX0_writeSetTorques 25 = .ok (.iload_n 3, 1) := by decide +kernel
theorem dX0_writeSetTorques_26 : decode cX0_writeSetTorques 26 = .ok (.iaload, 1) := by decide +kernel
theorem dX0_writeSetTorques_27 : decode cX0_writeSetTorques 27 = .ok (.iload 4, 2) := by decide +kernel
theorem dX0_writeSetTorques_29 : decode cX0_writeSetTorques 29 = .ok (.aload_n 0, 1) := by decide +kernel
theorem dX0_writeSetTorques_30 : decode cX0_writeSetTorques 30 = .ok (.getfield 21, 3) := by decide +kernel
theorem dX0_writeSetTorques_33 : decode cX0_writeSetTorques 33 = .ok (.iload_n 3, 1) := by decide +kernel
theorem dX0_writeSetTorques_34 : decode cX0_writeSetTorques 34 = .ok (.iaload, 1) := by decide +kernel
theorem dX0_writeSetTorques_35 : decode cX0_writeSetTorques 35 = .ok (.i2l, 1) := by decide +kernel
theorem dX0_writeSetTorques_36 : decode cX0_writeSetTorques 36 = .ok (.invokevirtual 54, 3) := by decide +kernel
theorem dX0_writeSetTorques_39 : decode cX0_writeSetTorques 39 = .ok (.aload_n 1, 1) := by decide +kernel
theorem dX0_writeSetTorques_40 : decode cX0_writeSetTorques 40 = .ok (.aload_n 0, 1) := by decide +kernel
theorem dX0_writeSetTorques_41 : decode cX0_writeSetTorques 41 = .ok (.getfield 15, 3) := by decide +kernel
theorem dX0_writeSetTorques_44 : decode cX0_writeSetTorques 44 = .ok (.iload_n 3, 1) := by decide +kernel
theorem dX0_writeSetTorques_45 : decode cX0_writeSetTorques 45 = .ok (.iaload, 1) := by decide +kernel
theorem dX0_writeSetTorques_46 : decode cX0_writeSetTorques 46 = .ok (.iload 4, 2) := by decide +kernel
theorem dX0_writeSetTorques_48 : decode cX0_writeSetTorques 48 = .ok (.aload_n 0, 1) := by decide +kernel
theorem dX0_writeSetTorques_49 : decode cX0_writeSetTorques 49 = .ok (.getfield 24, 3) := by decide +kernel
theorem dX0_writeSetTorques_52 : decode cX0_writeSetTorques 52 = .ok (.iload_n 3, 1) := by decide +kernel
theorem dX0_writeSetTorques_53 : decode cX0_writeSetTorques 53 = .ok (.iaload, 1) := by decide +kernel
theorem dX0_writeSetTorques_54 : decode cX0_writeSetTorques 54 = .ok (.i2l, 1) := by decide +kernel
theorem dX0_writeSetTorques_55 : decode cX0_writeSetTorques 55 = .ok (.invokevirtual 54, 3) := by decide +kernel
theorem dX0_writeSetTorques_58 : decode cX0_writeSetTorques 58 = .ok (.aload_n 1, 1) := by decide +kernel
theorem dX0_writeSetTorques_59 : decode cX0_writeSetTorques 59 = .ok (.aload_n 0, 1) := by decide +kernel
theorem dX0_writeSetTorques_60 : decode cX0_writeSetTorques 60 = .ok (.getfield 18, 3) := by decide +kernel
theorem dX0_writeSetTorques_63 : decode cX0_writeSetTorques 63 = .ok (.iload_n 3, 1) := by decide +kernel
theorem dX0_writeSetTorques_64 : decode cX0_writeSetTorques 64 = .ok (.iaload, 1) := by decide +kernel
theorem dX0_writeSetTorques_65 : decode cX0_writeSetTorques 65 = .ok (.iload 4, 2) := by decide +kernel
theorem dX0_writeSetTorques_67 : decode cX0_writeSetTorques 67 = .ok (.aload_n 0, 1) := by decide +kernel
theorem dX0_writeSetTorques_68 : decode cX0_writeSetTorques 68 = .ok (.getfield 21, 3) := by decide +kernel
theorem dX0_writeSetTorques_71 : decode cX0_writeSetTorques 71 = .ok (.iload_n 3, 1) := by decide +kernel
theorem dX0_writeSetTorques_72 : decode cX0_writeSetTorques 72 = .ok (.iaload, 1) := by decide +kernel
theorem dX0_writeSetTorques_73 : decode cX0_writeSetTorques 73 = .ok (.aload_n 0, 1) := by decide +kernel
theorem dX0_writeSetTorques_74 : decode cX0_writeSetTorques 74 = .ok (.getfield 24, 3) := by decide +kernel
theorem dX0_writeSetTorques_77 : decode cX0_writeSetTorques 77 = .ok (.iload_n 3, 1) := by decide +kernel
theorem dX0_writeSetTorques_78 : decode cX0_writeSetTorques 78 = .ok (.iaload, 1) := by decide +kernel
theorem dX0_writeSetTorques_79 : decode cX0_writeSetTorques 79 = .ok (.iadd, 1) := by decide +kernel
theorem dX0_writeSetTorques_80 : decode cX0_writeSetTorques 80 = .ok (.ineg, 1) := by decide +kernel
theorem dX0_writeSetTorques_81 : decode cX0_writeSetTorques 81 = .ok (.i2l, 1) := by decide +kernel
theorem dX0_writeSetTorques_82 : decode cX0_writeSetTorques 82 = .ok (.invokevirtual 54, 3) := by decide +kernel
theorem dX0_writeSetTorques_85 : decode cX0_writeSetTorques 85 = .ok (.iinc 3 1, 3) := by decide +kernel
theorem dX0_writeSetTorques_88 : decode cX0_writeSetTorques 88 = .ok (.goto (-86), 3) := by decide +kernel
theorem dX0_writeSetTorques_91 : decode cX0_writeSetTorques 91 = .ok (.return_, 1) := by decide +kernel
theorem dX0_writeElementTorques_0 : decode cX0_writeElementTorques 0 = .ok (.iconst 0, 1) := by decide +kernel
theorem dX0_writeElementTorques_1 : decode cX0_writeElementTorques 1 = .ok (.istore 4, 2) := by decide +kernel
theorem dX0_writeElementTorques_3 : decode cX0_writeElementTorques 3 = .ok (.iload 4, 2) := by decide +kernel
theorem dX0_writeElementTorques_5 : decode cX0_writeElementTorques 5 = .ok (.aload_n 0, 1) := by decide +kernel
theorem dX0_writeElementTorques_6 : decode cX0_writeElementTorques 6 = .ok (.getfield 40, 3) := by decide +kernel
theorem dX0_writeElementTorques_9 : decode cX0_writeElementTorques 9 = .ok (.if_icmp .ge 70, 3) := by decide +kernel
theorem dX0_writeElementTorques_12 : decode cX0_writeElementTorques 12 = .ok (.iload 4, 2) := by decide +kernel
theorem dX0_writeElementTorques_14 : decode cX0_writeElementTorques 14 = .ok (.bipush 6, 2) := by decide +kernel
theorem dX0_writeElementTorques_16 : decode cX0_writeElementTorques 16 = .ok (.if_icmp .ge 63, 3) := by decide +kernel
theorem dX0_writeElementTorques_19 : decode cX0_writeElementTorques 19 = .ok (.iload 4, 2) := by decide +kernel
theorem dX0_writeElementTorques_21 : decode cX0_writeElementTorques 21 = .ok (.iload_n 3, 1) := by decide +kernel
theorem dX0_writeElementTorques_22 : decode cX0_writeElementTorques 22 = .ok (.invokestatic 50, 3) := by decide +kernel
theorem dX0_writeElementTorques_25 : decode cX0_writeElementTorques 25 = .ok (.ifCond .eq 48, 3) := by decide +kernel
theorem dX0_writeElementTorques_28 : decode cX0_writeElementTorques 28 = .ok (.aload_n 1, 1) := by decide +kernel
theorem dX0_writeElementTorques_29 : decode cX0_writeElementTorques 29 = .ok (.aload_n 0, 1) := by decide +kernel
theorem dX0_writeElementTorques_30 : decode cX0_writeElementTorques 30 = .ok (.getfield 27, 3) := by decide +kernel
theorem dX0_writeElementTorques_33 : decode cX0_writeElementTorques 33 = .ok (.iload 4, 2) := by decide +kernel
theorem dX0_writeElementTorques_35 : decode cX0_writeElementTorques 35 = .ok (.iaload, 1) := by decide +kernel
theorem dX0_writeElementTorques_36 : decode cX0_writeElementTorques 36 = .ok (.iload_n 2, 1) := by decide +kernel
theorem dX0_writeElementTorques_37 : decode cX0_writeElementTorques 37 = .ok (.iload 4, 2) := by decide +kernel
theorem dX0_writeElementTorques_39 : decode cX0_writeElementTorques 39 = .ok (.iadd, 1) := by decide +kernel
theorem dX0_writeElementTorques_40 : decode cX0_writeElementTorques 40 = .ok (.lconst 1, 1) := by decide +kernel
theorem dX0_writeElementTorques_41 : decode cX0_writeElementTorques 41 = .ok (.invokevirtual 54, 3) := by decide +kernel
theorem dX0_writeElementTorques_44 : decode cX0_writeElementTorques 44 = .ok (.aload_n 0, 1) := by decide +kernel
theorem dX0_writeElementTorques_45 : decode cX0_writeElementTorques 45 = .ok (.getfield 30, 3) := by decide +kernel
theorem dX0_writeElementTorques_48 : decode cX0_writeElementTorques 48 = .ok (.iload 4, 2) := by decide +kernel
theorem dX0_writeElementTorques_50 : decode cX0_writeElementTorques 50 = .ok (.iaload, 1) := by decide +kernel
theorem dX0_writeElementTorques_51 : decode cX0_writeElementTorques 51 = .ok (.iconst (-1), 1) := by decide +kernel
theorem dX0_writeElementTorques_52 : decode cX0_writeElementTorques 52 = .ok (.if_icmp .eq 21, 3) := by decide +kernel
theorem dX0_writeElementTorques_55 : decode cX0_writeElementTorques 55 = .ok (.aload_n 1, 1) := by decide +kernel
theorem dX0_writeElementTorques_56 : decode cX0_writeElementTorques 56 = .ok (.aload_n 0, 1) := by decide +kernel
theorem dX0_writeElementTorques_57 : decode cX0_writeElementTorques 57 = .ok (.getfield 30, 3) := by decide +kernel
theorem dX0_writeElementTorques_60 : decode cX0_writeElementTorques 60 = .ok (.iload 4, 2) := by decide +kernel
theorem dX0_writeElementTorques_62 : decode cX0_writeElementTorques 62 = .ok (.iaload, 1) := by decide +kernel
theorem dX0_writeElementTorques_63 : decode cX0_writeElementTorques 63 = .ok (.iload_n 2, 1) := by decide +kernel
theorem dX0_writeElementTorques_64 : decode cX0_writeElementTorques 64 = .ok (.iload 4, 2) := by decide +kernel
theorem dX0_writeElementTorques_66 : decode cX0_writeElementTorques 66 = .ok (.iadd, 1) := by decide +kernel
theorem dX0_writeElementTorques_67 : decode cX0_writeElementTorques 67 = .ok (.ldc2_w 60, 3) := by decide +kernel
theorem dX0_writeElementTorques_70 : decode cX0_writeElementTorques 70 = .ok (.invokevirtual 54, 3) := by decide +kernel
theorem dX0_writeElementTorques_73 : decode cX0_writeElementTorques 73 = .ok (.iinc 4 1, 3) := by decide +kernel
theorem dX0_writeElementTorques_76 : decode cX0_writeElementTorques 76 = .ok (.goto (-73), 3) := by decide +kernel
theorem dX0_writeElementTorques_79 : decode cX0_writeElementTorques 79 = .ok (.return_, 1) := by decide +kernel
theorem dX0_isIn_0 : decode cX0_isIn 0 = .ok (.iload_n 1, 1) := by decide +kernel
theorem dX0_isIn_1 : decode cX0_isIn 1 = .ok (.iload_n 0, 1) := by decide +kernel
theorem dX0_isIn_2 : decode cX0_isIn 2 = .ok (.ishr, 1) := by decide +kernel
theorem dX0_isIn_3 : decode cX0_isIn 3 = .ok (.iconst 1, 1) := by decide +kernel
theorem dX0_isIn_4 : decode cX0_isIn 4 = .ok (.iand, 1) := by decide +kernel
theorem dX0_isIn_5 : decode cX0_isIn 5 = .ok (.iconst 1, 1) := by decide +kernel
theorem dX0_isIn_6 : decode cX0_isIn 6 = .ok (.if_icmp .ne 7, 3) := by decide +kernel
theorem dX0_isIn_9 : decode cX0_isIn 9 = .ok (.iconst 1, 1) := by decide +kernel
theorem dX0_isIn_10 : decode cX0_isIn 10 = .ok (.goto 4, 3) := by decide +kernel
theorem dX0_isIn_13 : decode cX0_isIn 13 = .ok (.iconst 0, 1) := by decide +kernel
theorem dX0_isIn_14 : decode cX0_isIn 14 = .ok (.ireturn, 1) := by decide +kernel
theorem dX1_init_0 : decode cX1_init 0 = .ok (.aload_n 0, 1) := by decide +kernel
theorem dX1_init_1 : decode cX1_init 1 = .ok (.invokespecial 5, 3) := by decide +kernel
theorem dX1_init_4 : decode cX1_init 4 = .ok (.aload_n 0, 1) := by decide +kernel
theorem dX1_init_5 : decode cX1_init 5 = .ok (.bipush 10, 2) := by decide +kernel
theorem dX1_init_7 : decode cX1_init 7 = .ok (.bipush 11, 2) := by decide +kernel
theorem dX1_init_9 : decode cX1_init 9 = .ok (.multianewarray 11 2, 4) := by decide +kernel
theorem dX1_init_13 : decode cX1_init 13 = .ok (.putfield 13, 3) := by decide +kernel
theorem dX1_init_16 : decode cX1_init 16 = .ok (.aload_n 0, 1) := by decide +kernel
theorem dX1_init_17 : decode cX1_init 17 = .ok (.bipush 10, 2) := by decide +kernel
theorem dX1_init_19 : decode cX1_init 19 = .ok (.newarray .int, 2) := by decide +kernel
theorem dX1_init_21 : decode cX1_init 21 = .ok (.putfield 16, 3) := by decide +kernel
theorem dX1_init_24 : decode cX1_init 24 = .ok (.aload_n 0, 1) := by decide +kernel
theorem dX1_init_25 : decode cX1_init 25 = .ok (.bipush 10, 2) := by decide +kernel
theorem dX1_init_27 : decode cX1_init 27 = .ok (.newarray .boolean, 2) := by decide +kernel
theorem dX1_init_29 : decode cX1_init 29 = .ok (.putfield 20, 3) := by decide +kernel
theorem dX1_init_32 : decode cX1_init 32 = .ok (.return_, 1) := by decide +kernel
theorem dX1_clear_0 : decode cX1_clear 0 = .ok (.iconst 0, 1) := by decide +kernel
theorem dX1_clear_1 : decode cX1_clear 1 = .ok (.istore_n 1, 1) := by decide +kernel
theorem dX1_clear_2 : decode cX1_clear 2 = .ok (.iload_n 1, 1) := by decide +kernel
theorem dX1_clear_3 : decode cX1_clear 3 = .ok (.bipush 10, 2) := by decide +kernel
theorem dX1_clear_5 : decode cX1_clear 5 = .ok (.if_icmp .ge 32, 3) := by decide +kernel
theorem dX1_clear_8 : decode cX1_clear 8 = .ok (.iconst 0, 1) := by decide +kernel
theorem dX1_clear_9 : decode cX1_clear 9 = .ok (.istore_n 2, 1) := by decide +kernel
theorem dX1_clear_10 : decode cX1_clear 10 = .ok (.iload_n 2, 1) := by decide +kernel
theorem dX1_clear_11 : decode cX1_clear 11 = .ok (.bipush 11, 2) := by decide +kernel
theorem dX1_clear_13 : decode cX1_clear 13 = .ok (.if_icmp .ge 18, 3) := by decide +kernel
theorem dX1_clear_16 : decode cX1_clear 16 = .ok (.aload_n 0, 1) := by decide +kernel
theorem dX1_clear_17 : decode cX1_clear 17 = .ok (.getfield 13, 3) := by decide +kernel
theorem dX1_clear_20 : decode cX1_clear 20 = .ok (.iload_n 1, 1) := by decide +kernel
theorem dX1_clear_21 : decode cX1_clear 21 = .ok (.aaload, 1) := by decide +kernel
theorem dX1_clear_22 : decode cX1_clear 22 = .ok (.iload_n 2, 1) := by decide +kernel
theorem dX1_clear_23 : decode cX1_clear 23 = .ok (.lconst 0, 1) := by decide +kernel
theorem dX1_clear_24 : decode cX1_clear 24 = .ok (.lastore, 1) := by decide +kernel
theorem dX1_clear_25 : decode cX1_clear 25 = .ok (.iinc 2 1, 3) := by decide +kernel
theorem dX1_clear_28 : decode cX1_clear 28 = .ok (.goto (-18), 3) := by decide +kernel
theorem dX1_clear_31 : decode cX1_clear 31 = .ok (.iinc 1 1, 3) := by decide +kernel
theorem dX1_clear_34 : decode cX1_clear 34 = .ok (.goto (-32), 3) := by decide +kernel
theorem dX1_clear_37 : decode cX1_clear 37 = .ok (.return_, 1) := by decide +kernel
theorem dX1_add_0 : decode cX1_add 0 = .ok (.iload_n 1, 1) := by decide +kernel
theorem dX1_add_1 : decode cX1_add 1 = .ok (.ifCond .lt 31, 3) := by decide +kernel
theorem dX1_add_4 : decode cX1_add 4 = .ok (.iload_n 1, 1) := by decide +kernel
theorem dX1_add_5 : decode cX1_add 5 = .ok (.bipush 10, 2) := by decide +kernel
theorem dX1_add_7 : decode cX1_add 7 = .ok (.if_icmp .ge 25, 3) := by decide +kernel
theorem dX1_add_10 : decode cX1_add 10 = .ok (.iload_n 2, 1) := by decide +kernel
theorem dX1_add_11 : decode cX1_add 11 = .ok (.ifCond .lt 21, 3) := by decide +kernel
theorem dX1_add_14 : decode cX1_add 14 = .ok (.iload_n 2, 1) := by decide +kernel
theorem dX1_add_15 : decode cX1_add 15 = .ok (.bipush 11, 2) := by decide +kernel
theorem dX1_add_17 : decode cX1_add 17 = .ok (.if_icmp .ge 15, 3) := by decide +kernel
theorem dX1_add_20 : decode cX1_add 20 = .ok (.aload_n 0, 1) := by decide +kernel
theorem dX1_add_21 : decode cX1_add 21 = .ok (.getfield 13, 3) := by decide +kernel
theorem dX1_add_24 : decode cX1_add 24 = .ok (.iload_n 1, 1) := by decide +kernel
theorem dX1_add_25 : decode cX1_add 25 = .ok (.aaload, 1) := by decide +kernel
theorem dX1_add_26 : decode cX1_add 26 = .ok (.iload_n 2, 1) := by decide +kernel
theorem dX1_add_27 : decode cX1_add 27 = .ok (.dup2, 1) := by decide +kernel
theorem dX1_add_28 : decode cX1_add 28 = .ok (.laload, 1) := by decide +kernel
theorem dX1_add_29 : decode cX1_add 29 = .ok (.lload_n 3, 1) := by decide +kernel
theorem dX1_add_30 : decode cX1_add 30 = .ok (.ladd, 1) := by decide +kernel
theorem dX1_add_31 : decode cX1_add 31 = .ok (.lastore, 1) := by decide +kernel
theorem dX1_add_32 : decode cX1_add 32 = .ok (.return_, 1) := by decide +kernel
theorem dX1_reduce_0 : decode cX1_reduce 0 = .ok (.iconst 0, 1) := by decide +kernel
theorem dX1_reduce_1 : decode cX1_reduce 1 = .ok (.istore_n 1, 1) := by decide +kernel
theorem dX1_reduce_2 : decode cX1_reduce 2 = .ok (.iload_n 1, 1) := by decide +kernel
theorem dX1_reduce_3 : decode cX1_reduce 3 = .ok (.bipush 10, 2) := by decide +kernel
theorem dX1_reduce_5 : decode cX1_reduce 5 = .ok (.if_icmp .ge 16, 3) := by decide +kernel
theorem dX1_reduce_8 : decode cX1_reduce 8 = .ok (.aload_n 0, 1) := by decide +kernel
theorem dX1_reduce_9 : decode cX1_reduce 9 = .ok (.getfield 20, 3) := by decide +kernel
theorem dX1_reduce_12 : decode cX1_reduce 12 = .ok (.iload_n 1, 1) := by decide +kernel
theorem dX1_reduce_13 : decode cX1_reduce 13 = .ok (.iconst 0, 1) := by decide +kernel
theorem dX1_reduce_14 : decode cX1_reduce 14 = .ok (.bastore, 1) := by decide +kernel
theorem dX1_reduce_15 : decode cX1_reduce 15 = .ok (.iinc 1 1, 3) := by decide +kernel
theorem dX1_reduce_18 : decode cX1_reduce 18 = .ok (.goto (-16), 3) := by decide +kernel
theorem dX1_reduce_21 : decode cX1_reduce 21 = .ok (.iconst 0, 1) := by decide +kernel
theorem dX1_reduce_22 : decode cX1_reduce 22 = .ok (.istore_n 1, 1) := by decide +kernel
theorem dX1_reduce_23 : decode cX1_reduce 23 = .ok (.iload_n 1, 1) := by decide +kernel
theorem dX1_reduce_24 : decode cX1_reduce 24 = .ok (.bipush 10, 2) := by decide +kernel
theorem dX1_reduce_26 : decode cX1_reduce 26 = .ok (.if_icmp .ge 78, 3) := by decide +kernel
theorem dX1_reduce_29 : decode cX1_reduce 29 = .ok (.aload_n 0, 1) := by decide +kernel
theorem dX1_reduce_30 : decode cX1_reduce 30 = .ok (.iload_n 1, 1) := by decide +kernel
theorem dX1_reduce_31 : decode cX1_reduce 31 = .ok (.invokevirtual 24, 3) := by decide +kernel
theorem dX1_reduce_34 : decode cX1_reduce 34 = .ok (.istore_n 2, 1) := by decide +kernel
theorem dX1_reduce_35 : decode cX1_reduce 35 = .ok (.aload_n 0, 1) := by decide +kernel
theorem dX1_reduce_36 : decode cX1_reduce 36 = .ok (.getfield 16, 3) := by decide +kernel
theorem dX1_reduce_39 : decode cX1_reduce 39 = .ok (.iload_n 1, 1) := by decide +kernel
theorem dX1_reduce_40 : decode cX1_reduce 40 = .ok (.iload_n 2, 1) := by decide +kernel
theorem dX1_reduce_41 : decode cX1_reduce 41 = .ok (.iastore, 1) := by decide +kernel
theorem dX1_reduce_42 : decode cX1_reduce 42 = .ok (.iload_n 2, 1) := by decide +kernel
theorem dX1_reduce_43 : decode cX1_reduce 43 = .ok (.ifCond .lt 55, 3) := by decide +kernel
theorem dX1_reduce_46 : decode cX1_reduce 46 = .ok (.iload_n 2, 1) := by decide +kernel
theorem dX1_reduce_47 : decode cX1_reduce 47 = .ok (.bipush 10, 2) := by decide +kernel
theorem dX1_reduce_49 : decode cX1_reduce 49 = .ok (.if_icmp .ge 49, 3) := by decide +kernel
theorem dX1_reduce_52 : decode cX1_reduce 52 = .ok (.aload_n 0, 1) := by decide +kernel
theorem dX1_reduce_53 : decode cX1_reduce 53 = .ok (.getfield 20, 3) := by decide +kernel
theorem dX1_reduce_56 : decode cX1_reduce 56 = .ok (.iload_n 2, 1) := by decide +kernel
theorem dX1_reduce_57 : decode cX1_reduce 57 = .ok (.iconst 1, 1) := by decide +kernel
theorem dX1_reduce_58 : decode cX1_reduce 58 = .ok (.bastore, 1) := by decide +kernel
theorem dX1_reduce_59 : decode cX1_reduce 59 = .ok (.iconst 0, 1) := by decide +kernel
theorem dX1_reduce_60 : decode cX1_reduce 60 = .ok (.istore_n 3, 1) := by decide +kernel
theorem dX1_reduce_61 : decode cX1_reduce 61 = .ok (.iload_n 3, 1) := by decide +kernel
theorem dX1_reduce_62 : decode cX1_reduce 62 = .ok (.bipush 10, 2) := by decide +kernel
theorem dX1_reduce_64 : decode cX1_reduce 64 = .ok (.if_icmp .ge 34, 3) := by decide +kernel
theorem dX1_reduce_67 : decode cX1_reduce 67 = .ok (.iload_n 3, 1) := by decide +kernel
theorem dX1_reduce_68 : decode cX1_reduce 68 = .ok (.iload_n 2, 1) := by decide +kernel
theorem dX1_reduce_69 : decode cX1_reduce 69 = .ok (.if_icmp .eq 23, 3) := by decide +kernel
theorem dX1_reduce_72 : decode cX1_reduce 72 = .ok (.aload_n 0, 1) := by decide +kernel
theorem dX1_reduce_73 : decode cX1_reduce 73 = .ok (.getfield 13, 3) := by decide +kernel
theorem dX1_reduce_76 : decode cX1_reduce 76 = .ok (.iload_n 3, 1) := by decide +kernel
theorem dX1_reduce_77 : decode cX1_reduce 77 = .ok (.aaload, 1) := by decide +kernel
theorem dX1_reduce_78 : decode cX1_reduce 78 = .ok (.iload_n 1, 1) := by decide +kernel
theorem dX1_reduce_79 : decode cX1_reduce 79 = .ok (.laload, 1) := by decide +kernel
theorem dX1_reduce_80 : decode cX1_reduce 80 = .ok (.lconst 0, 1) := by decide +kernel
theorem dX1_reduce_81 : decode cX1_reduce 81 = .ok (.lcmp, 1) := by decide +kernel
theorem dX1_reduce_82 : decode cX1_reduce 82 = .ok (.ifCond .eq 10, 3) := by decide +kernel
theorem dX1_reduce_85 : decode cX1_reduce 85 = .ok (.aload_n 0, 1) := by decide +kernel
theorem dX1_reduce_86 : decode cX1_reduce 86 = .ok (.iload_n 3, 1) := by decide +kernel
theorem dX1_reduce_87 : decode cX1_reduce 87 = .ok (.iload_n 2, 1) := by decide +kernel
theorem dX1_reduce_88 : decode cX1_reduce 88 = .ok (.iload_n 1, 1) := by decide +kernel
theorem dX1_reduce_89 : decode cX1_reduce 89 = .ok (.invokevirtual 28, 3) := by decide +kernel
theorem dX1_reduce_92 : decode cX1_reduce 92 = .ok (.iinc 3 1, 3) := by decide +kernel
theorem dX1_reduce_95 : decode cX1_reduce 95 = .ok (.goto (-34), 3) := by decide +kernel
theorem dX1_reduce_98 : decode cX1_reduce 98 = .ok (.iinc 1 1, 3) := by decide +kernel
theorem dX1_reduce_101 : decode cX1_reduce 101 = .ok (.goto (-78), 3) := by decide +kernel
theorem dX1_reduce_104 : decode cX1_reduce 104 = .ok (.aload_n 0, 1) := by decide +kernel
theorem dX1_reduce_105 : decode cX1_reduce 105 = .ok (.aload_n 0, 1) := by decide +kernel
theorem dX1_reduce_106 : decode cX1_reduce 106 = .ok (.invokevirtual 32, 3) := by decide +kernel
theorem dX1_reduce_109 : decode cX1_reduce 109 = .ok (.putfield 36, 3) := by decide +kernel
theorem dX1_reduce_112 : decode cX1_reduce 112 = .ok (.return_, 1) := by decide +kernel
theorem dX1_isDetermined_0 : decode cX1_isDetermined 0 = .ok (.aload_n 0, 1) := by decide +kernel
theorem dX1_isDetermined_1 : decode cX1_isDetermined 1 = .ok (.getfield 36, 3) := by decide +kernel
theorem dX1_isDetermined_4 : decode cX1_isDetermined 4 = .ok (.ifCond .eq 13, 3) := by decide +kernel
theorem dX1_isDetermined_7 : decode cX1_isDetermined 7 = .ok (.iload_n 1, 1) := by decide +kernel
theorem dX1_isDetermined_8 : decode cX1_isDetermined 8 = .ok (.ifCond .lt 9, 3) := by decide +kernel
theorem dX1_isDetermined_11 : decode cX1_isDetermined 11 = .ok (.iload_n 1, 1) := by decide +kernel
theorem dX1_isDetermined_12 : decode cX1_isDetermined 12 = .ok (.bipush 10, 2) := by decide +kernel
theorem dX1_isDetermined_14 : decode cX1_isDetermined 14 = .ok (.if_icmp .lt 5, 3) := by decide +kernel
theorem dX1_isDetermined_17 : decode cX1_isDetermined 17 = .ok (.iconst 0, 1) := by decide +kernel
theorem dX1_isDetermined_18 : decode cX1_isDetermined 18 = .ok (.ireturn, 1) := by decide +kernel
theorem dX1_isDetermined_19 : decode cX1_isDetermined 19 = .ok (.aload_n 0, 1) := by decide +kernel
theorem dX1_isDetermined_20 : decode cX1_isDetermined 20 = .ok (.getfield 16, 3) := by decide +kernel
theorem dX1_isDetermined_23 : decode cX1_isDetermined 23 = .ok (.iload_n 1, 1) := by decide +kernel
theorem dX1_isDetermined_24 : decode cX1_isDetermined 24 = .ok (.iaload, 1) := by decide +kernel
theorem dX1_isDetermined_25 : decode cX1_isDetermined 25 = .ok (.istore_n 2, 1) := by decide +kernel
theorem dX1_isDetermined_26 : decode cX1_isDetermined 26 = .ok (.iload_n 2, 1) := by decide +kernel
theorem dX1_isDetermined_27 : decode cX1_isDetermined 27 = .ok (.ifCond .lt 9, 3) := by decide +kernel
theorem dX1_isDetermined_30 : decode cX1_isDetermined 30 = .ok (.iload_n 2, 1) := by decide +kernel
theorem dX1_isDetermined_31 : decode cX1_isDetermined 31 = .ok (.bipush 10, 2) := by decide +kernel
theorem dX1_isDetermined_33 : decode cX1_isDetermined 33 = .ok (.if_icmp .lt 5, 3) := by decide +kernel
theorem dX1_isDetermined_36 : decode cX1_isDetermined 36 = .ok (.iconst 0, 1) := by decide +kernel
theorem dX1_isDetermined_37 : decode cX1_isDetermined 37 = .ok (.ireturn, 1) := by decide +kernel
theorem dX1_isDetermined_38 : decode cX1_isDetermined 38 = .ok (.iconst 0, 1) := by decide +kernel
theorem dX1_isDetermined_39 : decode cX1_isDetermined 39 = .ok (.istore_n 3, 1) := by decide +kernel
theorem dX1_isDetermined_40 : decode cX1_isDetermined 40 = .ok (.iload_n 3, 1) := by decide +kernel
theorem dX1_isDetermined_41 : decode cX1_isDetermined 41 = .ok (.bipush 10, 2) := by decide +kernel
theorem dX1_isDetermined_43 : decode cX1_isDetermined 43 = .ok (.if_icmp .ge 29, 3) := by decide +kernel
theorem dX1_isDetermined_46 : decode cX1_isDetermined 46 = .ok (.iload_n 3, 1) := by decide +kernel
theorem dX1_isDetermined_47 : decode cX1_isDetermined 47 = .ok (.iload_n 1, 1) := by decide +kernel
theorem dX1_isDetermined_48 : decode cX1_isDetermined 48 = .ok (.if_icmp .eq 18, 3) := by decide +kernel
theorem dX1_isDetermined_51 : decode cX1_isDetermined 51 = .ok (.aload_n 0, 1) := by decide +kernel
theorem dX1_isDetermined_52 : decode cX1_isDetermined 52 = .ok (.getfield 13, 3) := by decide +kernel
theorem dX1_isDetermined_55 : decode cX1_isDetermined 55 = .ok (.iload_n 2, 1) := by decide +kernel
theorem dX1_isDetermined_56 : decode cX1_isDetermined 56 = .ok (.aaload, 1) := by decide +kernel
theorem dX1_isDetermined_57 : decode cX1_isDetermined 57 = .ok (.iload_n 3, 1) := by decide +kernel
theorem dX1_isDetermined_58 : decode cX1_isDetermined 58 = .ok (.laload, 1) := by decide +kernel
theorem dX1_isDetermined_59 : decode cX1_isDetermined 59 = .ok (.lconst 0, 1) := by decide +kernel
theorem dX1_isDetermined_60 : decode cX1_isDetermined 60 = .ok (.lcmp, 1) := by decide +kernel
theorem dX1_isDetermined_61 : decode cX1_isDetermined 61 = .ok (.ifCond .eq 5, 3) := by decide +kernel
theorem dX1_isDetermined_64 : decode cX1_isDetermined 64 = .ok (.iconst 0, 1) := by decide +kernel
theorem dX1_isDetermined_65 : decode cX1_isDetermined 65 = .ok (.ireturn, 1) := by decide +kernel
theorem dX1_isDetermined_66 : decode cX1_isDetermined 66 = .ok (.iinc 3 1, 3) := by decide +kernel
theorem dX1_isDetermined_69 : decode cX1_isDetermined 69 = .ok (.goto (-29), 3) := by decide +kernel
theorem dX1_isDetermined_72 : decode cX1_isDetermined 72 = .ok (.iconst 1, 1) := by decide +kernel
theorem dX1_isDetermined_73 : decode cX1_isDetermined 73 = .ok (.ireturn, 1) := by decide +kernel
theorem dX1_isSolvable_0 : decode cX1_isSolvable 0 = .ok (.aload_n 0, 1) := by decide +kernel
theorem dX1_isSolvable_1 : decode cX1_isSolvable 1 = .ok (.getfield 36, 3) := by decide +kernel
theorem dX1_isSolvable_4 : decode cX1_isSolvable 4 = .ok (.ireturn, 1) := by decide +kernel
theorem dX1_valuePart_0 : decode cX1_valuePart 0 = .ok (.iload_n 1, 1) := by decide +kernel
theorem dX1_valuePart_1 : decode cX1_valuePart 1 = .ok (.ifCond .lt 9, 3) := by decide +kernel
theorem dX1_valuePart_4 : decode cX1_valuePart 4 = .ok (.iload_n 1, 1) := by decide +kernel
theorem dX1_valuePart_5 : decode cX1_valuePart 5 = .ok (.bipush 10, 2) := by decide +kernel
theorem dX1_valuePart_7 : decode cX1_valuePart 7 = .ok (.if_icmp .lt 5, 3) := by decide +kernel
theorem dX1_valuePart_10 : decode cX1_valuePart 10 = .ok (.lconst 0, 1) := by decide +kernel
theorem dX1_valuePart_11 : decode cX1_valuePart 11 = .ok (.lreturn, 1) := by decide +kernel
theorem dX1_valuePart_12 : decode cX1_valuePart 12 = .ok (.aload_n 0, 1) := by decide +kernel
theorem dX1_valuePart_13 : decode cX1_valuePart 13 = .ok (.getfield 16, 3) := by decide +kernel
theorem dX1_valuePart_16 : decode cX1_valuePart 16 = .ok (.iload_n 1, 1) := by decide +kernel
theorem dX1_valuePart_17 : decode cX1_valuePart 17 = .ok (.iaload, 1) := by decide +kernel
theorem dX1_valuePart_18 : decode cX1_valuePart 18 = .ok (.istore_n 3, 1) := by decide +kernel
theorem dX1_valuePart_19 : decode cX1_valuePart 19 = .ok (.iload_n 3, 1) := by decide +kernel
theorem dX1_valuePart_20 : decode cX1_valuePart 20 = .ok (.ifCond .lt 9, 3) := by decide +kernel
theorem dX1_valuePart_23 : decode cX1_valuePart 23 = .ok (.iload_n 3, 1) := by decide +kernel
theorem dX1_valuePart_24 : decode cX1_valuePart 24 = .ok (.bipush 10, 2) := by decide +kernel
theorem dX1_valuePart_26 : decode cX1_valuePart 26 = .ok (.if_icmp .lt 5, 3) := by decide +kernel
theorem dX1_valuePart_29 : decode cX1_valuePart 29 = .ok (.lconst 0, 1) := by decide +kernel
theorem dX1_valuePart_30 : decode cX1_valuePart 30 = .ok (.lreturn, 1) := by decide +kernel
theorem dX1_valuePart_31 : decode cX1_valuePart 31 = .ok (.aload_n 0, 1) := by decide +kernel
theorem dX1_valuePart_32 : decode cX1_valuePart 32 = .ok (.getfield 13, 3) := by decide +kernel
theorem dX1_valuePart_35 : decode cX1_valuePart 35 = .ok (.iload_n 3, 1) := by decide +kernel
theorem dX1_valuePart_36 : decode cX1_valuePart 36 = .ok (.aaload, 1) := by decide +kernel
theorem dX1_valuePart_37 : decode cX1_valuePart 37 = .ok (.iload_n 1, 1) := by decide +kernel
theorem dX1_valuePart_38 : decode cX1_valuePart 38 = .ok (.laload, 1) := by decide +kernel
theorem dX1_valuePart_39 : decode cX1_valuePart 39 = .ok (.lstore 4, 2) := by decide +kernel
theorem dX1_valuePart_41 : decode cX1_valuePart 41 = .ok (.aload_n 0, 1) := by decide +kernel
theorem dX1_valuePart_42 : decode cX1_valuePart 42 = .ok (.getfield 13, 3) := by decide +kernel
theorem dX1_valuePart_45 : decode cX1_valuePart 45 = .ok (.iload_n 3, 1) := by decide +kernel
theorem dX1_valuePart_46 : decode cX1_valuePart 46 = .ok (.aaload, 1) := by decide +kernel
theorem dX1_valuePart_47 : decode cX1_valuePart 47 = .ok (.bipush 10, 2) := by decide +kernel
theorem dX1_valuePart_49 : decode cX1_valuePart 49 = .ok (.laload, 1) := by decide +kernel
theorem dX1_valuePart_50 : decode cX1_valuePart 50 = .ok (.lstore 6, 2) := by decide +kernel
theorem dX1_valuePart_52 : decode cX1_valuePart 52 = .ok (.lload 4, 2) := by decide +kernel
theorem dX1_valuePart_54 : decode cX1_valuePart 54 = .ok (.lload 6, 2) := by decide +kernel
theorem dX1_valuePart_56 : decode cX1_valuePart 56 = .ok (.invokestatic 40, 3) := by decide +kernel
theorem dX1_valuePart_59 : decode cX1_valuePart 59 = .ok (.lstore 8, 2) := by decide +kernel
theorem dX1_valuePart_61 : decode cX1_valuePart 61 = .ok (.lload 8, 2) := by decide +kernel
theorem dX1_valuePart_63 : decode cX1_valuePart 63 = .ok (.lconst 0, 1) := by decide +kernel
theorem dX1_valuePart_64 : decode cX1_valuePart 64 = .ok (.lcmp, 1) := by decide +kernel
theorem dX1_valuePart_65 : decode cX1_valuePart 65 = .ok (.ifCond .ne 5, 3) := by decide +kernel
theorem dX1_valuePart_68 : decode cX1_valuePart 68 = .ok (.lconst 0, 1) := by decide +kernel
theorem dX1_valuePart_69 : decode cX1_valuePart 69 = .ok (.lreturn, 1) := by decide +kernel
theorem dX1_valuePart_70 : decode cX1_valuePart 70 = .ok (.iload_n 2, 1) := by decide +kernel
theorem dX1_valuePart_71 : decode cX1_valuePart 71 = .ok (.ifCond .ne 8, 3) := by decide +kernel
theorem dX1_valuePart_74 : decode cX1_valuePart 74 = .ok (.lload 6, 2) := by decide +kernel
theorem dX1_valuePart_76 : decode cX1_valuePart 76 = .ok (.goto 5, 3) := by decide +kernel
theorem dX1_valuePart_79 : decode cX1_valuePart 79 = .ok (.lload 4, 2) := by decide +kernel
theorem dX1_valuePart_81 : decode cX1_valuePart 81 = .ok (.lload 8, 2) := by decide +kernel
theorem dX1_valuePart_83 : decode cX1_valuePart 83 = .ok (.ldiv, 1) := by decide +kernel
theorem dX1_valuePart_84 : decode cX1_valuePart 84 = .ok (.lstore 10, 2) := by decide +kernel
theorem dX1_valuePart_86 : decode cX1_valuePart 86 = .ok (.lload 4, 2) := by decide +kernel
theorem dX1_valuePart_88 : decode cX1_valuePart 88 = .ok (.lconst 0, 1) := by decide +kernel
theorem dX1_valuePart_89 : decode cX1_valuePart 89 = .ok (.lcmp, 1) := by decide +kernel
theorem dX1_valuePart_90 : decode cX1_valuePart 90 = .ok (.ifCond .ge 9, 3) := by decide +kernel
theorem dX1_valuePart_93 : decode cX1_valuePart 93 = .ok (.lload 10, 2) := by decide +kernel
theorem dX1_valuePart_95 : decode cX1_valuePart 95 = .ok (.lneg, 1) := by decide +kernel
theorem dX1_valuePart_96 : decode cX1_valuePart 96 = .ok (.goto 5, 3) := by decide +kernel
theorem dX1_valuePart_99 : decode cX1_valuePart 99 = .ok (.lload 10, 2) := by decide +kernel
theorem dX1_valuePart_101 : decode cX1_valuePart 101 = .ok (.lreturn, 1) := by decide +kernel
theorem dX1_freeRowWith_0 : decode cX1_freeRowWith 0 = .ok (.iconst 0, 1) := by decide +kernel
theorem dX1_freeRowWith_1 : decode cX1_freeRowWith 1 = .ok (.istore_n 2, 1) := by decide +kernel
theorem dX1_freeRowWith_2 : decode cX1_freeRowWith 2 = .ok (.iload_n 2, 1) := by decide +kernel
theorem dX1_freeRowWith_3 : decode cX1_freeRowWith 3 = .ok (.bipush 10, 2) := by decide +kernel
theorem dX1_freeRowWith_5 : decode cX1_freeRowWith 5 = .ok (.if_icmp .ge 33, 3) := by decide +kernel
theorem dX1_freeRowWith_8 : decode cX1_freeRowWith 8 = .ok (.aload_n 0, 1) := by decide +kernel
theorem dX1_freeRowWith_9 : decode cX1_freeRowWith 9 = .ok (.getfield 20, 3) := by decide +kernel
theorem dX1_freeRowWith_12 : decode cX1_freeRowWith 12 = .ok (.iload_n 2, 1) := by decide +kernel
theorem dX1_freeRowWith_13 : decode cX1_freeRowWith 13 = .ok (.baload, 1) := by decide +kernel
theorem dX1_freeRowWith_14 : decode cX1_freeRowWith 14 = .ok (.ifCond .ne 18, 3) := by decide +kernel
theorem dX1_freeRowWith_17 : decode cX1_freeRowWith 17 = .ok (.aload_n 0, 1) := by decide +kernel
theorem dX1_freeRowWith_18 : decode cX1_freeRowWith 18 = .ok (.getfield 13, 3) := by decide +kernel
theorem dX1_freeRowWith_21 : decode cX1_freeRowWith 21 = .ok (.iload_n 2, 1) := by decide +kernel
theorem dX1_freeRowWith_22 : decode cX1_freeRowWith 22 = .ok (.aaload, 1) := by decide +kernel
theorem dX1_freeRowWith_23 : decode cX1_freeRowWith 23 = .ok (.iload_n 1, 1) := by decide +kernel
theorem dX1_freeRowWith_24 : decode cX1_freeRowWith 24 = .ok (.laload, 1) := by decide +kernel
theorem dX1_freeRowWith_25 : decode cX1_freeRowWith 25 = .ok (.lconst 0, 1) := by decide +kernel
theorem dX1_freeRowWith_26 : decode cX1_freeRowWith 26 = .ok (.lcmp, 1) := by decide +kernel
theorem dX1_freeRowWith_27 : decode cX1_freeRowWith 27 = .ok (.ifCond .eq 5, 3) := by decide +kernel
theorem dX1_freeRowWith_30 : decode cX1_freeRowWith 30 = .ok (.iload_n 2, 1) := by decide +kernel
theorem dX1_freeRowWith_31 : decode cX1_freeRowWith 31 = .ok (.ireturn, 1) := by decide +kernel
theorem dX1_freeRowWith_32 : decode cX1_freeRowWith 32 = .ok (.iinc 2 1, 3) := by decide +kernel
theorem dX1_freeRowWith_35 : decode cX1_freeRowWith 35 = .ok (.goto (-33), 3) := by decide +kernel
theorem dX1_freeRowWith_38 : decode cX1_freeRowWith 38 = .ok (.iconst (-1), 1) := by decide +kernel
theorem dX1_freeRowWith_39 : decode cX1_freeRowWith 39 = .ok (.ireturn, 1) := by decide +kernel
theorem dX1_eliminate_0 : decode cX1_eliminate 0 = .ok (.aload_n 0, 1) := by decide +kernel
theorem dX1_eliminate_1 : decode cX1_eliminate 1 = .ok (.getfield 13, 3) := by decide +kernel
theorem dX1_eliminate_4 : decode cX1_eliminate 4 = .ok (.iload_n 1, 1) := by decide +kernel
theorem dX1_eliminate_5 : decode cX1_eliminate 5 = .ok (.aaload, 1) := by decide +kernel
theorem dX1_eliminate_6 : decode cX1_eliminate 6 = .ok (.iload_n 3, 1) := by decide +kernel
theorem dX1_eliminate_7 : decode cX1_eliminate 7 = .ok (.laload, 1) := by decide +kernel
theorem dX1_eliminate_8 : decode cX1_eliminate 8 = .ok (.lstore 4, 2) := by decide +kernel
theorem dX1_eliminate_10 : decode cX1_eliminate 10 = .ok (.aload_n 0, 1) := by decide +kernel
theorem dX1_eliminate_11 : decode cX1_eliminate 11 = .ok (.getfield 13, 3) := by decide +kernel
theorem dX1_eliminate_14 : decode cX1_eliminate 14 = .ok (.iload_n 2, 1) := by decide +kernel
theorem dX1_eliminate_15 : decode cX1_eliminate 15 = .ok (.aaload, 1) := by decide +kernel
theorem dX1_eliminate_16 : decode cX1_eliminate 16 = .ok (.iload_n 3, 1) := by decide +kernel
theorem dX1_eliminate_17 : decode cX1_eliminate 17 = .ok (.laload, 1) := by decide +kernel
theorem dX1_eliminate_18 : decode cX1_eliminate 18 = .ok (.lstore 6, 2) := by decide +kernel
theorem dX1_eliminate_20 : decode cX1_eliminate 20 = .ok (.lconst 0, 1) := by decide +kernel
theorem dX1_eliminate_21 : decode cX1_eliminate 21 = .ok (.lstore 8, 2) := by decide +kernel
theorem dX1_eliminate_23 : decode cX1_eliminate 23 = .ok (.iconst 0, 1) := by decide +kernel
theorem dX1_eliminate_24 : decode cX1_eliminate 24 = .ok (.istore 10, 2) := by decide +kernel
theorem dX1_eliminate_26 : decode cX1_eliminate 26 = .ok (.iload 10, 2) := by decide +kernel
theorem dX1_eliminate_28 : decode cX1_eliminate 28 = .ok (.bipush 11, 2) := by decide +kernel
theorem dX1_eliminate_30 : decode cX1_eliminate 30 = .ok (.if_icmp .ge 59, 3) := by decide +kernel
theorem dX1_eliminate_33 : decode cX1_eliminate 33 = .ok (.aload_n 0, 1) := by decide +kernel
theorem dX1_eliminate_34 : decode cX1_eliminate 34 = .ok (.getfield 13, 3) := by decide +kernel
theorem dX1_eliminate_37 : decode cX1_eliminate 37 = .ok (.iload_n 1, 1) := by decide +kernel
theorem dX1_eliminate_38 : decode cX1_eliminate 38 = .ok (.aaload, 1) := by decide +kernel
theorem dX1_eliminate_39 : decode cX1_eliminate 39 = .ok (.iload 10, 2) := by decide +kernel
theorem dX1_eliminate_41 : decode cX1_eliminate 41 = .ok (.aload_n 0, 1) := by decide +kernel
theorem dX1_eliminate_42 : decode cX1_eliminate 42 = .ok (.getfield 13, 3) := by decide +kernel
theorem dX1_eliminate_45 : decode cX1_eliminate 45 = .ok (.iload_n 1, 1) := by decide +kernel
theorem dX1_eliminate_46 : decode cX1_eliminate 46 = .ok (.aaload, 1) := by decide +kernel
theorem dX1_eliminate_47 : decode cX1_eliminate 47 = .ok (.iload 10, 2) := by decide +kernel
theorem dX1_eliminate_49 : decode cX1_eliminate 49 = .ok (.laload, 1) := by decide +kernel
theorem dX1_eliminate_50 : decode cX1_eliminate 50 = .ok (.lload 6, 2) := by decide +kernel
theorem dX1_eliminate_52 : decode cX1_eliminate 52 = .ok (.lmul, 1) := by decide +kernel
theorem dX1_eliminate_53 : decode cX1_eliminate 53 = .ok (.aload_n 0, 1) := by decide +kernel
theorem dX1_eliminate_54 : decode cX1_eliminate 54 = .ok (.getfield 13, 3) := by decide +kernel
theorem dX1_eliminate_57 : decode cX1_eliminate 57 = .ok (.iload_n 2, 1) := by decide +kernel
theorem dX1_eliminate_58 : decode cX1_eliminate 58 = .ok (.aaload, 1) := by decide +kernel
theorem dX1_eliminate_59 : decode cX1_eliminate 59 = .ok (.iload 10, 2) := by decide +kernel
theorem dX1_eliminate_61 : decode cX1_eliminate 61 = .ok (.laload, 1) := by decide +kernel
theorem dX1_eliminate_62 : decode cX1_eliminate 62 = .ok (.lload 4, 2) := by decide +kernel
theorem dX1_eliminate_64 : decode cX1_eliminate 64 = .ok (.lmul, 1) := by decide +kernel
theorem dX1_eliminate_65 : decode cX1_eliminate 65 = .ok (.lsub, 1) := by decide +kernel
theorem dX1_eliminate_66 : decode cX1_eliminate 66 = .ok (.lastore, 1) := by decide +kernel
theorem dX1_eliminate_67 : decode cX1_eliminate 67 = .ok (.lload 8, 2) := by decide +kernel
theorem dX1_eliminate_69 : decode cX1_eliminate 69 = .ok (.aload_n 0, 1) := by decide +kernel
theorem dX1_eliminate_70 : decode cX1_eliminate 70 = .ok (.getfield 13, 3) := by decide +kernel
theorem dX1_eliminate_73 : decode cX1_eliminate 73 = .ok (.iload_n 1, 1) := by decide +kernel
theorem dX1_eliminate_74 : decode cX1_eliminate 74 = .ok (.aaload, 1) := by decide +kernel
theorem dX1_eliminate_75 : decode cX1_eliminate 75 = .ok (.iload 10, 2) := by decide +kernel
theorem dX1_eliminate_77 : decode cX1_eliminate 77 = .ok (.laload, 1) := by decide +kernel
theorem dX1_eliminate_78 : decode cX1_eliminate 78 = .ok (.invokestatic 40, 3) := by decide +kernel
theorem dX1_eliminate_81 : decode cX1_eliminate 81 = .ok (.lstore 8, 2) := by decide +kernel
theorem dX1_eliminate_83 : decode cX1_eliminate 83 = .ok (.iinc 10 1, 3) := by decide +kernel
theorem dX1_eliminate_86 : decode cX1_eliminate 86 = .ok (.goto (-60), 3) := by decide +kernel
theorem dX1_eliminate_89 : decode cX1_eliminate 89 = .ok (.lload 8, 2) := by decide +kernel
theorem dX1_eliminate_91 : decode cX1_eliminate 91 = .ok (.lconst 1, 1) := by decide +kernel
theorem dX1_eliminate_92 : decode cX1_eliminate 92 = .ok (.lcmp, 1) := by decide +kernel
theorem dX1_eliminate_93 : decode cX1_eliminate 93 = .ok (.ifCond .le 33, 3) := by decide +kernel
theorem dX1_eliminate_96 : decode cX1_eliminate 96 = .ok (.iconst 0, 1) := by decide +kernel
theorem dX1_eliminate_97 : decode cX1_eliminate 97 = .ok (.istore 10, 2) := by decide +kernel
theorem dX1_eliminate_99 : decode cX1_eliminate 99 = .ok (.iload 10, 2) := by decide +kernel
theorem dX1_eliminate_101 : decode cX1_eliminate 101 = .ok (.bipush 11, 2) := by decide +kernel
theorem dX1_eliminate_103 : decode cX1_eliminate 103 = .ok (.if_icmp .ge 23, 3) := by decide +kernel
theorem dX1_eliminate_106 : decode cX1_eliminate 106 = .ok (.aload_n 0, 1) := by decide +kernel
theorem dX1_eliminate_107 : decode cX1_eliminate 107 = .ok (.getfield 13, 3) := by decide +kernel
theorem dX1_eliminate_110 : decode cX1_eliminate 110 = .ok (.iload_n 1, 1) := by decide +kernel
theorem dX1_eliminate_111 : decode cX1_eliminate 111 = .ok (.aaload, 1) := by decide +kernel
theorem dX1_eliminate_112 : decode cX1_eliminate 112 = .ok (.iload 10, 2) := by decide +kernel
theorem dX1_eliminate_114 : decode cX1_eliminate 114 = .ok (.dup2, 1) := by decide +kernel
theorem dX1_eliminate_115 : decode cX1_eliminate 115 = .ok (.laload, 1) := by decide +kernel
theorem dX1_eliminate_116 : decode cX1_eliminate 116 = .ok (.lload 8, 2) := by decide +kernel
theorem dX1_eliminate_118 : decode cX1_eliminate 118 = .ok (.ldiv, 1) := by decide +kernel
theorem dX1_eliminate_119 : decode cX1_eliminate 119 = .ok (.lastore, 1) := by decide +kernel
theorem dX1_eliminate_120 : decode cX1_eliminate 120 = .ok (.iinc 10 1, 3) := by decide +kernel
theorem dX1_eliminate_123 : decode cX1_eliminate 123 = .ok (.goto (-24), 3) := by decide +kernel
theorem dX1_eliminate_126 : decode cX1_eliminate 126 = .ok (.return_, 1) := by decide +kernel
theorem dX1_areRowsLeftEmpty_0 : decode cX1_areRowsLeftEmpty 0 = .ok (.iconst 0, 1) := by decide +kernel
theorem dX1_areRowsLeftEmpty_1 : decode cX1_areRowsLeftEmpty 1 = .ok (.istore_n 1, 1) := by decide +kernel
theorem dX1_areRowsLeftEmpty_2 : decode cX1_areRowsLeftEmpty 2 = .ok (.iload_n 1, 1) := by decide +kernel
theorem dX1_areRowsLeftEmpty_3 : decode cX1_areRowsLeftEmpty 3 = .ok (.bipush 10, 2) := by decide +kernel
theorem dX1_areRowsLeftEmpty_5 : decode cX1_areRowsLeftEmpty 5 = .ok (.if_icmp .ge 34, 3) := by decide +kernel
theorem dX1_areRowsLeftEmpty_8 : decode cX1_areRowsLeftEmpty 8 = .ok (.aload_n 0, 1) := by decide +kernel
theorem dX1_areRowsLeftEmpty_9 : decode cX1_areRowsLeftEmpty 9 = .ok (.getfield 20, 3) := by decide +kernel
theorem dX1_areRowsLeftEmpty_12 : decode cX1_areRowsLeftEmpty 12 = .ok (.iload_n 1, 1) := by decide +kernel
theorem dX1_areRowsLeftEmpty_13 : decode cX1_areRowsLeftEmpty 13 = .ok (.baload, 1) := by decide +kernel
theorem dX1_areRowsLeftEmpty_14 : decode cX1_areRowsLeftEmpty 14 = .ok (.ifCond .ne 19, 3) := by decide +kernel
theorem dX1_areRowsLeftEmpty_17 : decode cX1_areRowsLeftEmpty 17 = .ok (.aload_n 0, 1) := by decide +kernel
theorem dX1_areRowsLeftEmpty_18 : decode cX1_areRowsLeftEmpty 18 = .ok (.getfield 13, 3) := by decide +kernel
theorem dX1_areRowsLeftEmpty_21 : decode cX1_areRowsLeftEmpty 21 = .ok (.iload_n 1, 1) := by decide +kernel
theorem dX1_areRowsLeftEmpty_22 : decode cX1_areRowsLeftEmpty 22 = .ok (.aaload, 1) := by decide +kernel
theorem dX1_areRowsLeftEmpty_23 : decode cX1_areRowsLeftEmpty 23 = .ok (.bipush 10, 2) := by decide +kernel
theorem dX1_areRowsLeftEmpty_25 : decode cX1_areRowsLeftEmpty 25 = .ok (.laload, 1) := by decide +kernel
theorem dX1_areRowsLeftEmpty_26 : decode cX1_areRowsLeftEmpty 26 = .ok (.lconst 0, 1) := by decide +kernel
theorem dX1_areRowsLeftEmpty_27 : decode cX1_areRowsLeftEmpty 27 = .ok (.lcmp, 1) := by decide +kernel
theorem dX1_areRowsLeftEmpty_28 : decode cX1_areRowsLeftEmpty 28 = .ok (.ifCond .eq 5, 3) := by decide +kernel
theorem dX1_areRowsLeftEmpty_31 : decode cX1_areRowsLeftEmpty 31 = .ok (.iconst 0, 1) := by decide +kernel
theorem dX1_areRowsLeftEmpty_32 : decode cX1_areRowsLeftEmpty 32 = .ok (.ireturn, 1) := by decide +kernel
theorem dX1_areRowsLeftEmpty_33 : decode cX1_areRowsLeftEmpty 33 = .ok (.iinc 1 1, 3) := by decide +kernel
theorem dX1_areRowsLeftEmpty_36 : decode cX1_areRowsLeftEmpty 36 = .ok (.goto (-34), 3) := by decide +kernel
theorem dX1_areRowsLeftEmpty_39 : decode cX1_areRowsLeftEmpty 39 = .ok (.iconst 1, 1) := by decide +kernel
theorem dX1_areRowsLeftEmpty_40 : decode cX1_areRowsLeftEmpty 40 = .ok (.ireturn, 1) := by decide +kernel
theorem dX1_commonFactor_0 : decode cX1_commonFactor 0 = .ok (.lload_n 0, 1) := by decide +kernel
theorem dX1_commonFactor_1 : decode cX1_commonFactor 1 = .ok (.lconst 0, 1) := by decide +kernel
theorem dX1_commonFactor_2 : decode cX1_commonFactor 2 = .ok (.lcmp, 1) := by decide +kernel
theorem dX1_commonFactor_3 : decode cX1_commonFactor 3 = .ok (.ifCond .ge 8, 3) := by decide +kernel
theorem dX1_commonFactor_6 : decode cX1_commonFactor 6 = .ok (.lload_n 0, 1) := by decide +kernel
theorem dX1_commonFactor_7 : decode cX1_commonFactor 7 = .ok (.lneg, 1) := by decide +kernel
theorem dX1_commonFactor_8 : decode cX1_commonFactor 8 = .ok (.goto 4, 3) := by decide +kernel
theorem dX1_commonFactor_11 : decode cX1_commonFactor 11 = .ok (.lload_n 0, 1) := by decide +kernel
theorem dX1_commonFactor_12 : decode cX1_commonFactor 12 = .ok (.lstore 4, 2) := by decide +kernel
theorem dX1_commonFactor_14 : decode cX1_commonFactor 14 = .ok (.lload_n 2, 1) := by decide +kernel
theorem dX1_commonFactor_15 : decode cX1_commonFactor 15 = .ok (.lconst 0, 1) := by decide +kernel
theorem dX1_commonFactor_16 : decode cX1_commonFactor 16 = .ok (.lcmp, 1) := by decide +kernel
theorem dX1_commonFactor_17 : decode cX1_commonFactor 17 = .ok (.ifCond .ge 8, 3) := by decide +kernel
theorem dX1_commonFactor_20 : decode cX1_commonFactor 20 = .ok (.lload_n 2, 1) := by decide +kernel
theorem dX1_commonFactor_21 : decode cX1_commonFactor 21 = .ok (.lneg, 1) := by decide +kernel
theorem dX1_commonFactor_22 : decode cX1_commonFactor 22 = .ok (.goto 4, 3) := by decide +kernel
theorem dX1_commonFactor_25 : decode cX1_commonFactor 25 = .ok (.lload_n 2, 1) := by decide +kernel
theorem dX1_commonFactor_26 : decode cX1_commonFactor 26 = .ok (.lstore 6, 2) := by decide +kernel
theorem dX1_commonFactor_28 : decode cX1_commonFactor 28 = .ok (.iconst 0, 1) := by decide +kernel
theorem dX1_commonFactor_29 : decode cX1_commonFactor 29 = .ok (.istore 8, 2) := by decide +kernel
theorem dX1_commonFactor_31 : decode cX1_commonFactor 31 = .ok (.iload 8, 2) := by decide +kernel
theorem dX1_commonFactor_33 : decode cX1_commonFactor 33 = .ok (.bipush 100, 2) := by decide +kernel
theorem dX1_commonFactor_35 : decode cX1_commonFactor 35 = .ok (.if_icmp .ge 31, 3) := by decide +kernel
theorem dX1_commonFactor_38 : decode cX1_commonFactor 38 = .ok (.lload 6, 2) := by decide +kernel
theorem dX1_commonFactor_40 : decode cX1_commonFactor 40 = .ok (.lconst 0, 1) := by decide +kernel
theorem dX1_commonFactor_41 : decode cX1_commonFactor 41 = .ok (.lcmp, 1) := by decide +kernel
theorem dX1_commonFactor_42 : decode cX1_commonFactor 42 = .ok (.ifCond .eq 24, 3) := by decide +kernel
theorem dX1_commonFactor_45 : decode cX1_commonFactor 45 = .ok (.lload 4, 2) := by decide +kernel
theorem dX1_commonFactor_47 : decode cX1_commonFactor 47 = .ok (.lload 6, 2) := by decide +kernel
theorem dX1_commonFactor_49 : decode cX1_commonFactor 49 = .ok (.lrem, 1) := by decide +kernel
theorem dX1_commonFactor_50 : decode cX1_commonFactor 50 = .ok (.lstore 9, 2) := by decide +kernel
theorem dX1_commonFactor_52 : decode cX1_commonFactor 52 = .ok (.lload 6, 2) := by decide +kernel
theorem dX1_commonFactor_54 : decode cX1_commonFactor 54 = .ok (.lstore 4, 2) := by decide +kernel
theorem dX1_commonFactor_56 : decode cX1_commonFactor 56 = .ok (.lload 9, 2) := by decide +kernel
theorem dX1_commonFactor_58 : decode cX1_commonFactor 58 = .ok (.lstore 6, 2) := by decide +kernel
theorem dX1_commonFactor_60 : decode cX1_commonFactor 60 = .ok (.iinc 8 1, 3) := by decide +kernel
theorem dX1_commonFactor_63 : decode cX1_commonFactor 63 = .ok (.goto (-32), 3) := by decide +kernel
theorem dX1_commonFactor_66 : decode cX1_commonFactor 66 = .ok (.lload 4, 2) := by decide +kernel
theorem dX1_commonFactor_68 : decode cX1_commonFactor 68 = .ok (.lreturn, 1) := by decide +kernel
theorem dX2_init_0 : decode cX2_init 0 = .ok (.aload_n 0, 1) := by decide +kernel
theorem dX2_init_1 : decode cX2_init 1 = .ok (.invokespecial 3, 3) := by decide +kernel
theorem dX2_init_4 : decode cX2_init 4 = .ok (.aload_n 0, 1) := by decide +kernel
theorem dX2_init_5 : decode cX2_init 5 = .ok (.bipush 64, 2) := by decide +kernel
theorem dX2_init_7 : decode cX2_init 7 = .ok (.newarray .int, 2) := by decide +kernel
theorem dX2_init_9 : decode cX2_init 9 = .ok (.putfield 9, 3) := by decide +kernel
theorem dX2_init_12 : decode cX2_init 12 = .ok (.aload_n 0, 1) := by decide +kernel
theorem dX2_init_13 : decode cX2_init 13 = .ok (.bipush 64, 2) := by decide +kernel
theorem dX2_init_15 : decode cX2_init 15 = .ok (.newarray .long, 2) := by decide +kernel
theorem dX2_init_17 : decode cX2_init 17 = .ok (.putfield 15, 3) := by decide +kernel
theorem dX2_init_20 : decode cX2_init 20 = .ok (.aload_n 0, 1) := by decide +kernel
theorem dX2_init_21 : decode cX2_init 21 = .ok (.bipush 64, 2) := by decide +kernel
theorem dX2_init_23 : decode cX2_init 23 = .ok (.newarray .long, 2) := by decide +kernel
theorem dX2_init_25 : decode cX2_init 25 = .ok (.putfield 19, 3) := by decide +kernel
theorem dX2_init_28 : decode cX2_init 28 = .ok (.aload_n 0, 1) := by decide +kernel
theorem dX2_init_29 : decode cX2_init 29 = .ok (.bipush 64, 2) := by decide +kernel
theorem dX2_init_31 : decode cX2_init 31 = .ok (.newarray .boolean, 2) := by decide +kernel
theorem dX2_init_33 : decode cX2_init 33 = .ok (.putfield 22, 3) := by decide +kernel
theorem dX2_init_36 : decode cX2_init 36 = .ok (.aload_n 0, 1) := by decide +kernel
theorem dX2_init_37 : decode cX2_init 37 = .ok (.bipush 64, 2) := by decide +kernel
theorem dX2_init_39 : decode cX2_init 39 = .ok (.newarray .int, 2) := by decide +kernel
theorem dX2_init_41 : decode cX2_init 41 = .ok (.putfield 26, 3) := by decide +kernel
theorem dX2_init_44 : decode cX2_init 44 = .ok (.return_, 1) := by decide +kernel
theorem dX2_forget_0 : decode cX2_forget 0 = .ok (.aload_n 0, 1) := by decide +kernel
theorem dX2_forget_1 : decode cX2_forget 1 = .ok (.iconst 0, 1) := by decide +kernel
theorem dX2_forget_2 : decode cX2_forget 2 = .ok (.putfield 29, 3) := by decide +kernel
theorem dX2_forget_5 : decode cX2_forget 5 = .ok (.return_, 1) := by decide +kernel
theorem dX2_refresh_0 : decode cX2_refresh 0 = .ok (.aload_n 0, 1) := by decide +kernel
theorem dX2_refresh_1 : decode cX2_refresh 1 = .ok (.getfield 29, 3) := by decide +kernel
theorem dX2_refresh_4 : decode cX2_refresh 4 = .ok (.ifCond .eq 4, 3) := by decide +kernel
theorem dX2_refresh_7 : decode cX2_refresh 7 = .ok (.return_, 1) := by decide +kernel
theorem dX2_refresh_8 : decode cX2_refresh 8 = .ok (.aload_n 0, 1) := by decide +kernel
theorem dX2_refresh_9 : decode cX2_refresh 9 = .ok (.iconst 0, 1) := by decide +kernel
theorem dX2_refresh_10 : decode cX2_refresh 10 = .ok (.putfield 33, 3) := by decide +kernel
theorem dX2_refresh_13 : decode cX2_refresh 13 = .ok (.iconst 0, 1) := by decide +kernel
theorem dX2_refresh_14 : decode cX2_refresh 14 = .ok (.istore_n 3, 1) := by decide +kernel
theorem dX2_refresh_15 : decode cX2_refresh 15 = .ok (.iload_n 3, 1) := by decide +kernel
theorem dX2_refresh_16 : decode cX2_refresh 16 = .ok (.bipush 64, 2) := by decide +kernel
theorem dX2_refresh_18 : decode cX2_refresh 18 = .ok (.if_icmp .ge 81, 3) := by decide +kernel
theorem dX2_refresh_21 : decode cX2_refresh 21 = .ok (.aload_n 0, 1) := by decide +kernel
theorem dX2_refresh_22 : decode cX2_refresh 22 = .ok (.getfield 22, 3) := by decide +kernel
theorem dX2_refresh_25 : decode cX2_refresh 25 = .ok (.iload_n 3, 1) := by decide +kernel
theorem dX2_refresh_26 : decode cX2_refresh 26 = .ok (.iconst 0, 1) := by decide +kernel
theorem dX2_refresh_27 : decode cX2_refresh 27 = .ok (.bastore, 1) := by decide +kernel
theorem dX2_refresh_28 : decode cX2_refresh 28 = .ok (.aload_n 1, 1) := by decide +kernel
theorem dX2_refresh_29 : decode cX2_refresh 29 = .ok (.iload_n 3, 1) := by decide +kernel
theorem dX2_refresh_30 : decode cX2_refresh 30 = .ok (.invokevirtual 37, 3) := by decide +kernel
theorem dX2_refresh_33 : decode cX2_refresh 33 = .ok (.ifCond .eq 60, 3) := by decide +kernel
theorem dX2_refresh_36 : decode cX2_refresh 36 = .ok (.aload_n 0, 1) := by decide +kernel
theorem dX2_refresh_37 : decode cX2_refresh 37 = .ok (.iload_n 3, 1) := by decide +kernel
theorem dX2_refresh_38 : decode cX2_refresh 38 = .ok (.invokevirtual 43, 3) := by decide +kernel
theorem dX2_refresh_41 : decode cX2_refresh 41 = .ok (.ifCond .eq 52, 3) := by decide +kernel
theorem dX2_refresh_44 : decode cX2_refresh 44 = .ok (.aload_n 2, 1) := by decide +kernel
theorem dX2_refresh_45 : decode cX2_refresh 45 = .ok (.aload_n 1, 1) := by decide +kernel
theorem dX2_refresh_46 : decode cX2_refresh 46 = .ok (.iload_n 3, 1) := by decide +kernel
theorem dX2_refresh_47 : decode cX2_refresh 47 = .ok (.invokevirtual 46, 3) := by decide +kernel
theorem dX2_refresh_50 : decode cX2_refresh 50 = .ok (.aload_n 2, 1) := by decide +kernel
theorem dX2_refresh_51 : decode cX2_refresh 51 = .ok (.invokevirtual 52, 3) := by decide +kernel
theorem dX2_refresh_54 : decode cX2_refresh 54 = .ok (.istore 4, 2) := by decide +kernel
theorem dX2_refresh_56 : decode cX2_refresh 56 = .ok (.aload_n 0, 1) := by decide +kernel
theorem dX2_refresh_57 : decode cX2_refresh 57 = .ok (.getfield 22, 3) := by decide +kernel
theorem dX2_refresh_60 : decode cX2_refresh 60 = .ok (.iload_n 3, 1) := by decide +kernel
theorem dX2_refresh_61 : decode cX2_refresh 61 = .ok (.iload 4, 2) := by decide +kernel
theorem dX2_refresh_63 : decode cX2_refresh 63 = .ok (.iconst 2, 1) := by decide +kernel
theorem dX2_refresh_64 : decode cX2_refresh 64 = .ok (.if_icmp .ne 7, 3) := by decide +kernel
theorem dX2_refresh_67 : decode cX2_refresh 67 = .ok (.iconst 1, 1) := by decide +kernel
theorem dX2_refresh_68 : decode cX2_refresh 68 = .ok (.goto 4, 3) := by decide +kernel
theorem dX2_refresh_71 : decode cX2_refresh 71 = .ok (.iconst 0, 1) := by decide +kernel
theorem dX2_refresh_72 : decode cX2_refresh 72 = .ok (.bastore, 1) := by decide +kernel
theorem dX2_refresh_73 : decode cX2_refresh 73 = .ok (.iload 4, 2) := by decide +kernel
theorem dX2_refresh_75 : decode cX2_refresh 75 = .ok (.ifCond .ne 18, 3) := by decide +kernel
theorem dX2_refresh_78 : decode cX2_refresh 78 = .ok (.aload_n 0, 1) := by decide +kernel
theorem dX2_refresh_79 : decode cX2_refresh 79 = .ok (.iload_n 3, 1) := by decide +kernel
theorem dX2_refresh_80 : decode cX2_refresh 80 = .ok (.aload_n 2, 1) := by decide +kernel
theorem dX2_refresh_81 : decode cX2_refresh 81 = .ok (.iconst 0, 1) := by decide +kernel
theorem dX2_refresh_82 : decode cX2_refresh 82 = .ok (.invokevirtual 56, 3) := by decide +kernel
theorem dX2_refresh_85 : decode cX2_refresh 85 = .ok (.aload_n 2, 1) := by decide +kernel
theorem dX2_refresh_86 : decode cX2_refresh 86 = .ok (.iconst 1, 1) := by decide +kernel
theorem dX2_refresh_87 : decode cX2_refresh 87 = .ok (.invokevirtual 56, 3) := by decide +kernel
theorem dX2_refresh_90 : decode cX2_refresh 90 = .ok (.invokevirtual 60, 3) := by decide +kernel
theorem dX2_refresh_93 : decode cX2_refresh 93 = .ok (.iinc 3 1, 3) := by decide +kernel
theorem dX2_refresh_96 : decode cX2_refresh 96 = .ok (.goto (-81), 3) := by decide +kernel
theorem dX2_refresh_99 : decode cX2_refresh 99 = .ok (.aload_n 0, 1) := by decide +kernel
theorem dX2_refresh_100 : decode cX2_refresh 100 = .ok (.iconst 1, 1) := by decide +kernel
theorem dX2_refresh_101 : decode cX2_refresh 101 = .ok (.putfield 29, 3) := by decide +kernel
theorem dX2_refresh_104 : decode cX2_refresh 104 = .ok (.return_, 1) := by decide +kernel
theorem dX2_size_0 : decode cX2_size 0 = .ok (.aload_n 0, 1) := by decide +kernel
theorem dX2_size_1 : decode cX2_size 1 = .ok (.getfield 33, 3) := by decide +kernel
theorem dX2_size_4 : decode cX2_size 4 = .ok (.ireturn, 1) := by decide +kernel
theorem dX2_hasGear_0 : decode cX2_hasGear 0 = .ok (.iload_n 1, 1) := by decide +kernel
theorem dX2_hasGear_1 : decode cX2_hasGear 1 = .ok (.ifCond .lt 21, 3) := by decide +kernel
theorem dX2_hasGear_4 : decode cX2_hasGear 4 = .ok (.iload_n 1, 1) := by decide +kernel
theorem dX2_hasGear_5 : decode cX2_hasGear 5 = .ok (.aload_n 0, 1) := by decide +kernel
theorem dX2_hasGear_6 : decode cX2_hasGear 6 = .ok (.getfield 33, 3) := by decide +kernel
theorem dX2_hasGear_9 : decode cX2_hasGear 9 = .ok (.if_icmp .ge 13, 3) := by decide +kernel
theorem dX2_hasGear_12 : decode cX2_hasGear 12 = .ok (.iload_n 1, 1) := by decide +kernel
theorem dX2_hasGear_13 : decode cX2_hasGear 13 = .ok (.bipush 64, 2) := by decide +kernel
theorem dX2_hasGear_15 : decode cX2_hasGear 15 = .ok (.if_icmp .ge 7, 3) := by decide +kernel
theorem dX2_hasGear_18 : decode cX2_hasGear 18 = .ok (.iconst 1, 1) := by decide +kernel
theorem dX2_hasGear_19 : decode cX2_hasGear 19 = .ok (.goto 4, 3) := by decide +kernel
theorem dX2_hasGear_22 : decode cX2_hasGear 22 = .ok (.iconst 0, 1) := by decide +kernel
theorem dX2_hasGear_23 : decode cX2_hasGear 23 = .ok (.ireturn, 1) := by decide +kernel
theorem dX2_maskOf_0 : decode cX2_maskOf 0 = .ok (.aload_n 0, 1) := by decide +kernel
theorem dX2_maskOf_1 : decode cX2_maskOf 1 = .ok (.iload_n 1, 1) := by decide +kernel
theorem dX2_maskOf_2 : decode cX2_maskOf 2 = .ok (.invokevirtual 64, 3) := by decide +kernel
theorem dX2_maskOf_5 : decode cX2_maskOf 5 = .ok (.ifCond .eq 12, 3) := by decide +kernel
theorem dX2_maskOf_8 : decode cX2_maskOf 8 = .ok (.aload_n 0, 1) := by decide +kernel
theorem dX2_maskOf_9 : decode cX2_maskOf 9 = .ok (.getfield 9, 3) := by decide +kernel
theorem dX2_maskOf_12 : decode cX2_maskOf 12 = .ok (.iload_n 1, 1) := by decide +kernel
theorem dX2_maskOf_13 : decode cX2_maskOf 13 = .ok (.iaload, 1) := by decide +kernel
theorem dX2_maskOf_14 : decode cX2_maskOf 14 = .ok (.goto 4, 3) := by decide +kernel
theorem dX2_maskOf_17 : decode cX2_maskOf 17 = .ok (.iconst (-1), 1) := by decide +kernel
theorem dX2_maskOf_18 : decode cX2_maskOf 18 = .ok (.ireturn, 1) := by decide +kernel
theorem dX2_find_0 : decode cX2_find 0 = .ok (.iconst 0, 1) := by decide +kernel
theorem dX2_find_1 : decode cX2_find 1 = .ok (.istore_n 2, 1) := by decide +kernel
theorem dX2_find_2 : decode cX2_find 2 = .ok (.iload_n 2, 1) := by decide +kernel
theorem dX2_find_3 : decode cX2_find 3 = .ok (.aload_n 0, 1) := by decide +kernel
theorem dX2_find_4 : decode cX2_find 4 = .ok (.getfield 33, 3) := by decide +kernel
theorem dX2_find_7 : decode cX2_find 7 = .ok (.if_icmp .ge 27, 3) := by decide +kernel
theorem dX2_find_10 : decode cX2_find 10 = .ok (.iload_n 2, 1) := by decide +kernel
theorem dX2_find_11 : decode cX2_find 11 = .ok (.bipush 64, 2) := by decide +kernel
theorem dX2_find_13 : decode cX2_find 13 = .ok (.if_icmp .ge 21, 3) := by decide +kernel
theorem dX2_find_16 : decode cX2_find 16 = .ok (.aload_n 0, 1) := by decide +kernel
theorem dX2_find_17 : decode cX2_find 17 = .ok (.getfield 9, 3) := by decide +kernel
theorem dX2_find_20 : decode cX2_find 20 = .ok (.iload_n 2, 1) := by decide +kernel
theorem dX2_find_21 : decode cX2_find 21 = .ok (.iaload, 1) := by decide +kernel
theorem dX2_find_22 : decode cX2_find 22 = .ok (.iload_n 1, 1) := by decide +kernel
theorem dX2_find_23 : decode cX2_find 23 = .ok (.if_icmp .ne 5, 3) := by decide +kernel
theorem dX2_find_26 : decode cX2_find 26 = .ok (.iload_n 2, 1) := by decide +kernel
theorem dX2_find_27 : decode cX2_find 27 = .ok (.ireturn, 1) := by decide +kernel
theorem dX2_find_28 : decode cX2_find 28 = .ok (.iinc 2 1, 3) := by decide +kernel
theorem dX2_find_31 : decode cX2_find 31 = .ok (.goto (-29), 3) := by decide +kernel
theorem dX2_find_34 : decode cX2_find 34 = .ok (.iconst (-1), 1) := by decide +kernel
theorem dX2_find_35 : decode cX2_find 35 = .ok (.ireturn, 1) := by decide +kernel
theorem dX2_ratioPart_0 : decode cX2_ratioPart 0 = .ok (.aload_n 0, 1) := by decide +kernel
theorem dX2_ratioPart_1 : decode cX2_ratioPart 1 = .ok (.iload_n 1, 1) := by decide +kernel
theorem dX2_ratioPart_2 : decode cX2_ratioPart 2 = .ok (.invokevirtual 64, 3) := by decide +kernel
theorem dX2_ratioPart_5 : decode cX2_ratioPart 5 = .ok (.ifCond .ne 5, 3) := by decide +kernel
theorem dX2_ratioPart_8 : decode cX2_ratioPart 8 = .ok (.lconst 0, 1) := by decide +kernel
theorem dX2_ratioPart_9 : decode cX2_ratioPart 9 = .ok (.lreturn, 1) := by decide +kernel
theorem dX2_ratioPart_10 : decode cX2_ratioPart 10 = .ok (.iload_n 2, 1) := by decide +kernel
theorem dX2_ratioPart_11 : decode cX2_ratioPart 11 = .ok (.ifCond .ne 12, 3) := by decide +kernel
theorem dX2_ratioPart_14 : decode cX2_ratioPart 14 = .ok (.aload_n 0, 1) := by decide +kernel
theorem dX2_ratioPart_15 : decode cX2_ratioPart 15 = .ok (.getfield 15, 3) := by decide +kernel
theorem dX2_ratioPart_18 : decode cX2_ratioPart 18 = .ok (.iload_n 1, 1) := by decide +kernel
theorem dX2_ratioPart_19 : decode cX2_ratioPart 19 = .ok (.laload, 1) := by decide +kernel
theorem dX2_ratioPart_20 : decode cX2_ratioPart 20 = .ok (.goto 9, 3) := by decide +kernel
theorem dX2_ratioPart_23 : decode cX2_ratioPart 23 = .ok (.aload_n 0, 1) := by decide +kernel
theorem dX2_ratioPart_24 : decode cX2_ratioPart 24 = .ok (.getfield 19, 3) := by decide +kernel
theorem dX2_ratioPart_27 : decode cX2_ratioPart 27 = .ok (.iload_n 1, 1) := by decide +kernel
theorem dX2_ratioPart_28 : decode cX2_ratioPart 28 = .ok (.laload, 1) := by decide +kernel
theorem dX2_ratioPart_29 : decode cX2_ratioPart 29 = .ok (.lreturn, 1) := by decide +kernel
theorem dX2_measure_0 : decode cX2_measure 0 = .ok (.iconst 0, 1) := by decide +kernel
theorem dX2_measure_1 : decode cX2_measure 1 = .ok (.istore_n 2, 1) := by decide +kernel
theorem dX2_measure_2 : decode cX2_measure 2 = .ok (.iload_n 2, 1) := by decide +kernel
theorem dX2_measure_3 : decode cX2_measure 3 = .ok (.bipush 64, 2) := by decide +kernel
theorem dX2_measure_5 : decode cX2_measure 5 = .ok (.if_icmp .ge 25, 3) := by decide +kernel
theorem dX2_measure_8 : decode cX2_measure 8 = .ok (.aload_n 0, 1) := by decide +kernel
theorem dX2_measure_9 : decode cX2_measure 9 = .ok (.getfield 26, 3) := by decide +kernel
theorem dX2_measure_12 : decode cX2_measure 12 = .ok (.iload_n 2, 1) := by decide +kernel
theorem dX2_measure_13 : decode cX2_measure 13 = .ok (.iload_n 2, 1) := by decide +kernel
theorem dX2_measure_14 : decode cX2_measure 14 = .ok (.iload_n 1, 1) := by decide +kernel
theorem dX2_measure_15 : decode cX2_measure 15 = .ok (.if_icmp .ne 7, 3) := by decide +kernel
theorem dX2_measure_18 : decode cX2_measure 18 = .ok (.iconst 0, 1) := by decide +kernel
theorem dX2_measure_19 : decode cX2_measure 19 = .ok (.goto 4, 3) := by decide +kernel
theorem dX2_measure_22 : decode cX2_measure 22 = .ok (.iconst (-1), 1) := by decide +kernel
theorem dX2_measure_23 : decode cX2_measure 23 = .ok (.iastore, 1) := by decide +kernel
theorem dX2_measure_24 : decode cX2_measure 24 = .ok (.iinc 2 1, 3) := by decide +kernel
theorem dX2_measure_27 : decode cX2_measure 27 = .ok (.goto (-25), 3) := by decide +kernel
theorem dX2_measure_30 : decode cX2_measure 30 = .ok (.iconst 1, 1) := by decide +kernel
theorem dX2_measure_31 : decode cX2_measure 31 = .ok (.istore_n 2, 1) := by decide +kernel
theorem dX2_measure_32 : decode cX2_measure 32 = .ok (.iload_n 2, 1) := by decide +kernel
theorem dX2_measure_33 : decode cX2_measure 33 = .ok (.aload_n 0, 1) := by decide +kernel
theorem dX2_measure_34 : decode cX2_measure 34 = .ok (.getfield 33, 3) := by decide +kernel
theorem dX2_measure_37 : decode cX2_measure 37 = .ok (.if_icmp .ge 60, 3) := by decide +kernel
theorem dX2_measure_40 : decode cX2_measure 40 = .ok (.iconst 0, 1) := by decide +kernel
theorem dX2_measure_41 : decode cX2_measure 41 = .ok (.istore_n 3, 1) := by decide +kernel
theorem dX2_measure_42 : decode cX2_measure 42 = .ok (.iload_n 3, 1) := by decide +kernel
theorem dX2_measure_43 : decode cX2_measure 43 = .ok (.aload_n 0, 1) := by decide +kernel
theorem dX2_measure_44 : decode cX2_measure 44 = .ok (.getfield 33, 3) := by decide +kernel
theorem dX2_measure_47 : decode cX2_measure 47 = .ok (.if_icmp .ge 44, 3) := by decide +kernel
theorem dX2_measure_50 : decode cX2_measure 50 = .ok (.iload_n 3, 1) := by decide +kernel
theorem dX2_measure_51 : decode cX2_measure 51 = .ok (.bipush 64, 2) := by decide +kernel
theorem dX2_measure_53 : decode cX2_measure 53 = .ok (.if_icmp .ge 38, 3) := by decide +kernel
theorem dX2_measure_56 : decode cX2_measure 56 = .ok (.aload_n 0, 1) := by decide +kernel
theorem dX2_measure_57 : decode cX2_measure 57 = .ok (.getfield 26, 3) := by decide +kernel
theorem dX2_measure_60 : decode cX2_measure 60 = .ok (.iload_n 3, 1) := by decide +kernel
theorem dX2_measure_61 : decode cX2_measure 61 = .ok (.iaload, 1) := by decide +kernel
theorem dX2_measure_62 : decode cX2_measure 62 = .ok (.iconst (-1), 1) := by decide +kernel
theorem dX2_measure_63 : decode cX2_measure 63 = .ok (.if_icmp .ne 22, 3) := by decide +kernel
theorem dX2_measure_66 : decode cX2_measure 66 = .ok (.aload_n 0, 1) := by decide +kernel
theorem dX2_measure_67 : decode cX2_measure 67 = .ok (.iload_n 3, 1) := by decide +kernel
theorem dX2_measure_68 : decode cX2_measure 68 = .ok (.iload_n 2, 1) := by decide +kernel
theorem dX2_measure_69 : decode cX2_measure 69 = .ok (.iconst 1, 1) := by decide +kernel
theorem dX2_measure_70 : decode cX2_measure 70 = .ok (.isub, 1) := by decide +kernel
theorem dX2_measure_71 : decode cX2_measure 71 = .ok (.invokevirtual 67, 3) := by decide +kernel
theorem dX2_measure_74 : decode cX2_measure 74 = .ok (.iconst (-1), 1) := by decide +kernel
theorem dX2_measure_75 : decode cX2_measure 75 = .ok (.if_icmp .eq 10, 3) := by decide +kernel
theorem dX2_measure_78 : decode cX2_measure 78 = .ok (.aload_n 0, 1) := by decide +kernel
theorem dX2_measure_79 : decode cX2_measure 79 = .ok (.getfield 26, 3) := by decide +kernel
theorem dX2_measure_82 : decode cX2_measure 82 = .ok (.iload_n 3, 1) := by decide +kernel
theorem dX2_measure_83 : decode cX2_measure 83 = .ok (.iload_n 2, 1) := by decide +kernel
theorem dX2_measure_84 : decode cX2_measure 84 = .ok (.iastore, 1) := by decide +kernel
theorem dX2_measure_85 : decode cX2_measure 85 = .ok (.iinc 3 1, 3) := by decide +kernel
theorem dX2_measure_88 : decode cX2_measure 88 = .ok (.goto (-46), 3) := by decide +kernel
theorem dX2_measure_91 : decode cX2_measure 91 = .ok (.iinc 2 1, 3) := by decide +kernel
theorem dX2_measure_94 : decode cX2_measure 94 = .ok (.goto (-62), 3) := by decide +kernel
theorem dX2_measure_97 : decode cX2_measure 97 = .ok (.return_, 1) := by decide +kernel
theorem dX2_shiftsLeft_0 : decode cX2_shiftsLeft 0 = .ok (.aload_n 0, 1) := by decide +kernel
theorem dX2_shiftsLeft_1 : decode cX2_shiftsLeft 1 = .ok (.iload_n 1, 1) := by decide +kernel
theorem dX2_shiftsLeft_2 : decode cX2_shiftsLeft 2 = .ok (.invokevirtual 64, 3) := by decide +kernel
theorem dX2_shiftsLeft_5 : decode cX2_shiftsLeft 5 = .ok (.ifCond .eq 12, 3) := by decide +kernel
theorem dX2_shiftsLeft_8 : decode cX2_shiftsLeft 8 = .ok (.aload_n 0, 1) := by decide +kernel
theorem dX2_shiftsLeft_9 : decode cX2_shiftsLeft 9 = .ok (.getfield 26, 3) := by decide +kernel
theorem dX2_shiftsLeft_12 : decode cX2_shiftsLeft 12 = .ok (.iload_n 1, 1) := by decide +kernel
theorem dX2_shiftsLeft_13 : decode cX2_shiftsLeft 13 = .ok (.iaload, 1) := by decide +kernel
theorem dX2_shiftsLeft_14 : decode cX2_shiftsLeft 14 = .ok (.goto 4, 3) := by decide +kernel
theorem dX2_shiftsLeft_17 : decode cX2_shiftsLeft 17 = .ok (.iconst (-1), 1) := by decide +kernel
theorem dX2_shiftsLeft_18 : decode cX2_shiftsLeft 18 = .ok (.ireturn, 1) := by decide +kernel
theorem dX2_onTheWay_0 : decode cX2_onTheWay 0 = .ok (.aload_n 0, 1) := by decide +kernel
theorem dX2_onTheWay_1 : decode cX2_onTheWay 1 = .ok (.iload_n 1, 1) := by decide +kernel
theorem dX2_onTheWay_2 : decode cX2_onTheWay 2 = .ok (.invokevirtual 71, 3) := by decide +kernel
theorem dX2_onTheWay_5 : decode cX2_onTheWay 5 = .ok (.istore_n 3, 1) := by decide +kernel
theorem dX2_onTheWay_6 : decode cX2_onTheWay 6 = .ok (.iload_n 2, 1) := by decide +kernel
theorem dX2_onTheWay_7 : decode cX2_onTheWay 7 = .ok (.ifCond .lt 8, 3) := by decide +kernel
theorem dX2_onTheWay_10 : decode cX2_onTheWay 10 = .ok (.iload_n 2, 1) := by decide +kernel
theorem dX2_onTheWay_11 : decode cX2_onTheWay 11 = .ok (.iload_n 3, 1) := by decide +kernel
theorem dX2_onTheWay_12 : decode cX2_onTheWay 12 = .ok (.if_icmp .le 5, 3) := by decide +kernel
theorem dX2_onTheWay_15 : decode cX2_onTheWay 15 = .ok (.iconst (-1), 1) := by decide +kernel
theorem dX2_onTheWay_16 : decode cX2_onTheWay 16 = .ok (.ireturn, 1) := by decide +kernel
theorem dX2_onTheWay_17 : decode cX2_onTheWay 17 = .ok (.iload_n 1, 1) := by decide +kernel
theorem dX2_onTheWay_18 : decode cX2_onTheWay 18 = .ok (.istore 4, 2) := by decide +kernel
theorem dX2_onTheWay_20 : decode cX2_onTheWay 20 = .ok (.iconst 0, 1) := by decide +kernel
theorem dX2_onTheWay_21 : decode cX2_onTheWay 21 = .ok (.istore 5, 2) := by decide +kernel
theorem dX2_onTheWay_23 : decode cX2_onTheWay 23 = .ok (.iload 5, 2) := by decide +kernel
theorem dX2_onTheWay_25 : decode cX2_onTheWay 25 = .ok (.iload_n 2, 1) := by decide +kernel
theorem dX2_onTheWay_26 : decode cX2_onTheWay 26 = .ok (.if_icmp .ge 23, 3) := by decide +kernel
theorem dX2_onTheWay_29 : decode cX2_onTheWay 29 = .ok (.aload_n 0, 1) := by decide +kernel
theorem dX2_onTheWay_30 : decode cX2_onTheWay 30 = .ok (.iload 4, 2) := by decide +kernel
theorem dX2_onTheWay_32 : decode cX2_onTheWay 32 = .ok (.iload_n 3, 1) := by decide +kernel
theorem dX2_onTheWay_33 : decode cX2_onTheWay 33 = .ok (.iload 5, 2) := by decide +kernel
theorem dX2_onTheWay_35 : decode cX2_onTheWay 35 = .ok (.isub, 1) := by decide +kernel
theorem dX2_onTheWay_36 : decode cX2_onTheWay 36 = .ok (.iconst 1, 1) := by decide +kernel
theorem dX2_onTheWay_37 : decode cX2_onTheWay 37 = .ok (.isub, 1) := by decide +kernel
theorem dX2_onTheWay_38 : decode cX2_onTheWay 38 = .ok (.invokevirtual 67, 3) := by decide +kernel
theorem dX2_onTheWay_41 : decode cX2_onTheWay 41 = .ok (.istore 4, 2) := by decide +kernel
theorem dX2_onTheWay_43 : decode cX2_onTheWay 43 = .ok (.iinc 5 1, 3) := by decide +kernel
theorem dX2_onTheWay_46 : decode cX2_onTheWay 46 = .ok (.goto (-23), 3) := by decide +kernel
theorem dX2_onTheWay_49 : decode cX2_onTheWay 49 = .ok (.iload 4, 2) := by decide +kernel
theorem dX2_onTheWay_51 : decode cX2_onTheWay 51 = .ok (.ireturn, 1) := by decide +kernel
theorem dX2_areSmallerNeutral_0 : decode cX2_areSmallerNeutral 0 = .ok (.iconst 0, 1) := by decide +kernel
theorem dX2_areSmallerNeutral_1 : decode cX2_areSmallerNeutral 1 = .ok (.istore_n 2, 1) := by decide +kernel
theorem dX2_areSmallerNeutral_2 : decode cX2_areSmallerNeutral 2 = .ok (.iload_n 2, 1) := by decide +kernel
theorem dX2_areSmallerNeutral_3 : decode cX2_areSmallerNeutral 3 = .ok (.bipush 6, 2) := by decide +kernel
theorem dX2_areSmallerNeutral_5 : decode cX2_areSmallerNeutral 5 = .ok (.if_icmp .ge 43, 3) := by decide +kernel
theorem dX2_areSmallerNeutral_8 : decode cX2_areSmallerNeutral 8 = .ok (.iload_n 1, 1) := by decide +kernel
theorem dX2_areSmallerNeutral_9 : decode cX2_areSmallerNeutral 9 = .ok (.iconst 1, 1) := by decide +kernel
theorem dX2_areSmallerNeutral_10 : decode cX2_areSmallerNeutral 10 = .ok (.iload_n 2, 1) := by decide +kernel
theorem dX2_areSmallerNeutral_11 : decode cX2_areSmallerNeutral 11 = .ok (.ishl, 1) := by decide +kernel
theorem dX2_areSmallerNeutral_12 : decode cX2_areSmallerNeutral 12 = .ok (.iconst (-1), 1) := by decide +kernel
theorem dX2_areSmallerNeutral_13 : decode cX2_areSmallerNeutral 13 = .ok (.ixor, 1) := by decide +kernel
theorem dX2_areSmallerNeutral_14 : decode cX2_areSmallerNeutral 14 = .ok (.iand, 1) := by decide +kernel
theorem dX2_areSmallerNeutral_15 : decode cX2_areSmallerNeutral 15 = .ok (.istore_n 3, 1) := by decide +kernel
theorem dX2_areSmallerNeutral_16 : decode cX2_areSmallerNeutral 16 = .ok (.iload_n 3, 1) := by decide +kernel
theorem dX2_areSmallerNeutral_17 : decode cX2_areSmallerNeutral 17 = .ok (.iload_n 1, 1) := by decide +kernel
theorem dX2_areSmallerNeutral_18 : decode cX2_areSmallerNeutral 18 = .ok (.if_icmp .eq 24, 3) := by decide +kernel
theorem dX2_areSmallerNeutral_21 : decode cX2_areSmallerNeutral 21 = .ok (.iload_n 3, 1) := by decide +kernel
theorem dX2_areSmallerNeutral_22 : decode cX2_areSmallerNeutral 22 = .ok (.ifCond .lt 20, 3) := by decide +kernel
theorem dX2_areSmallerNeutral_25 : decode cX2_areSmallerNeutral 25 = .ok (.iload_n 3, 1) := by decide +kernel
theorem dX2_areSmallerNeutral_26 : decode cX2_areSmallerNeutral 26 = .ok (.bipush 64, 2) := by decide +kernel
theorem dX2_areSmallerNeutral_28 : decode cX2_areSmallerNeutral 28 = .ok (.if_icmp .ge 14, 3) := by decide +kernel
theorem dX2_areSmallerNeutral_31 : decode cX2_areSmallerNeutral 31 = .ok (.aload_n 0, 1) := by decide +kernel
theorem dX2_areSmallerNeutral_32 : decode cX2_areSmallerNeutral 32 = .ok (.getfield 22, 3) := by decide +kernel
theorem dX2_areSmallerNeutral_35 : decode cX2_areSmallerNeutral 35 = .ok (.iload_n 3, 1) := by decide +kernel
theorem dX2_areSmallerNeutral_36 : decode cX2_areSmallerNeutral 36 = .ok (.baload, 1) := by decide +kernel
theorem dX2_areSmallerNeutral_37 : decode cX2_areSmallerNeutral 37 = .ok (.ifCond .ne 5, 3) := by decide +kernel
theorem dX2_areSmallerNeutral_40 : decode cX2_areSmallerNeutral 40 = .ok (.iconst 0, 1) := by decide +kernel
theorem dX2_areSmallerNeutral_41 : decode cX2_areSmallerNeutral 41 = .ok (.ireturn, 1) := by decide +kernel
theorem dX2_areSmallerNeutral_42 : decode cX2_areSmallerNeutral 42 = .ok (.iinc 2 1, 3) := by decide +kernel
theorem dX2_areSmallerNeutral_45 : decode cX2_areSmallerNeutral 45 = .ok (.goto (-43), 3) := by decide +kernel
theorem dX2_areSmallerNeutral_48 : decode cX2_areSmallerNeutral 48 = .ok (.iconst 1, 1) := by decide +kernel
theorem dX2_areSmallerNeutral_49 : decode cX2_areSmallerNeutral 49 = .ok (.ireturn, 1) := by decide +kernel
theorem dX2_insert_0 : decode cX2_insert 0 = .ok (.aload_n 0, 1) := by decide +kernel
theorem dX2_insert_1 : decode cX2_insert 1 = .ok (.getfield 33, 3) := by decide +kernel
theorem dX2_insert_4 : decode cX2_insert 4 = .ok (.ifCond .lt 12, 3) := by decide +kernel
theorem dX2_insert_7 : decode cX2_insert 7 = .ok (.aload_n 0, 1) := by decide +kernel
theorem dX2_insert_8 : decode cX2_insert 8 = .ok (.getfield 33, 3) := by decide +kernel
theorem dX2_insert_11 : decode cX2_insert 11 = .ok (.bipush 64, 2) := by decide +kernel
theorem dX2_insert_13 : decode cX2_insert 13 = .ok (.if_icmp .lt 4, 3) := by decide +kernel
theorem dX2_insert_16 : decode cX2_insert 16 = .ok (.return_, 1) := by decide +kernel
theorem dX2_insert_17 : decode cX2_insert 17 = .ok (.aload_n 0, 1) := by decide +kernel
theorem dX2_insert_18 : decode cX2_insert 18 = .ok (.getfield 33, 3) := by decide +kernel
theorem dX2_insert_21 : decode cX2_insert 21 = .ok (.istore 6, 2) := by decide +kernel
theorem dX2_insert_23 : decode cX2_insert 23 = .ok (.aload_n 0, 1) := by decide +kernel
theorem dX2_insert_24 : decode cX2_insert 24 = .ok (.getfield 33, 3) := by decide +kernel
theorem dX2_insert_27 : decode cX2_insert 27 = .ok (.iconst 1, 1) := by decide +kernel
theorem dX2_insert_28 : decode cX2_insert 28 = .ok (.isub, 1) := by decide +kernel
theorem dX2_insert_29 : decode cX2_insert 29 = .ok (.istore 7, 2) := by decide +kernel
theorem dX2_insert_31 : decode cX2_insert 31 = .ok (.iload 7, 2) := by decide +kernel
theorem dX2_insert_33 : decode cX2_insert 33 = .ok (.ifCond .lt 87, 3) := by decide +kernel
theorem dX2_insert_36 : decode cX2_insert 36 = .ok (.aload_n 0, 1) := by decide +kernel
theorem dX2_insert_37 : decode cX2_insert 37 = .ok (.getfield 15, 3) := by decide +kernel
theorem dX2_insert_40 : decode cX2_insert 40 = .ok (.iload 7, 2) := by decide +kernel
theorem dX2_insert_42 : decode cX2_insert 42 = .ok (.laload, 1) := by decide +kernel
theorem dX2_insert_43 : decode cX2_insert 43 = .ok (.lload 4, 2) := by decide +kernel
theorem dX2_insert_45 : decode cX2_insert 45 = .ok (.lmul, 1) := by decide +kernel
theorem dX2_insert_46 : decode cX2_insert 46 = .ok (.lload_n 2, 1) := by decide +kernel
theorem dX2_insert_47 : decode cX2_insert 47 = .ok (.aload_n 0, 1) := by decide +kernel
theorem dX2_insert_48 : decode cX2_insert 48 = .ok (.getfield 19, 3) := by decide +kernel
theorem dX2_insert_51 : decode cX2_insert 51 = .ok (.iload 7, 2) := by decide +kernel
theorem dX2_insert_53 : decode cX2_insert 53 = .ok (.laload, 1) := by decide +kernel
theorem dX2_insert_54 : decode cX2_insert 54 = .ok (.lmul, 1) := by decide +kernel
theorem dX2_insert_55 : decode cX2_insert 55 = .ok (.lcmp, 1) := by decide +kernel
theorem dX2_insert_56 : decode cX2_insert 56 = .ok (.ifCond .gt 6, 3) := by decide +kernel
theorem dX2_insert_59 : decode cX2_insert 59 = .ok (.goto 61, 3) := by decide +kernel
theorem dX2_insert_62 : decode cX2_insert 62 = .ok (.aload_n 0, 1) := by decide +kernel
theorem dX2_insert_63 : decode cX2_insert 63 = .ok (.getfield 9, 3) := by decide +kernel
theorem dX2_insert_66 : decode cX2_insert 66 = .ok (.iload 7, 2) := by decide +kernel
theorem dX2_insert_68 : decode cX2_insert 68 = .ok (.iconst 1, 1) := by decide +kernel
theorem dX2_insert_69 : decode cX2_insert 69 = .ok (.iadd, 1) := by decide +kernel
theorem dX2_insert_70 : decode cX2_insert 70 = .ok (.aload_n 0, 1) := by decide +kernel
theorem dX2_insert_71 : decode cX2_insert 71 = .ok (.getfield 9, 3) := by decide +kernel
theorem dX2_insert_74 : decode cX2_insert 74 = .ok (.iload 7, 2) := by decide +kernel
theorem dX2_insert_76 : decode cX2_insert 76 = .ok (.iaload, 1) := by decide +kernel
theorem dX2_insert_77 : decode cX2_insert 77 = .ok (.iastore, 1) := by decide +kernel
theorem dX2_insert_78 : decode cX2_insert 78 = .ok (.aload_n 0, 1) := by decide +kernel
theorem dX2_insert_79 : decode cX2_insert 79 = .ok (.getfield 15, 3) := by decide +kernel
theorem dX2_insert_82 : decode cX2_insert 82 = .ok (.iload 7, 2) := by decide +kernel
theorem dX2_insert_84 : decode cX2_insert 84 = .ok (.iconst 1, 1) := by decide +kernel
theorem dX2_insert_85 : decode cX2_insert 85 = .ok (.iadd, 1) := by decide +kernel
theorem dX2_insert_86 : decode cX2_insert 86 = .ok (.aload_n 0, 1) := by decide +kernel
theorem dX2_insert_87 : decode cX2_insert 87 = .ok (.getfield 15, 3) := by decide +kernel
theorem dX2_insert_90 : decode cX2_insert 90 = .ok (.iload 7, 2) := by decide +kernel
theorem dX2_insert_92 : decode cX2_insert 92 = .ok (.laload, 1) := by decide +kernel
theorem dX2_insert_93 : decode cX2_insert 93 = .ok (.lastore, 1) := by decide +kernel
theorem dX2_insert_94 : decode cX2_insert 94 = .ok (.aload_n 0, 1) := by decide +kernel
theorem dX2_insert_95 : decode cX2_insert 95 = .ok (.getfield 19, 3) := by decide +kernel
theorem dX2_insert_98 : decode cX2_insert 98 = .ok (.iload 7, 2) := by decide +kernel
theorem dX2_insert_100 : decode cX2_insert 100 = .ok (.iconst 1, 1) := by decide +kernel
theorem dX2_insert_101 : decode cX2_insert 101 = .ok (.iadd, 1) := by decide +kernel
theorem dX2_insert_102 : decode cX2_insert 102 = .ok (.aload_n 0, 1) := by decide +kernel
theorem dX2_insert_103 : decode cX2_insert 103 = .ok (.getfield 19, 3) := by decide +kernel
theorem dX2_insert_106 : decode cX2_insert 106 = .ok (.iload 7, 2) := by decide +kernel
theorem dX2_insert_108 : decode cX2_insert 108 = .ok (.laload, 1) := by decide +kernel
theorem dX2_insert_109 : decode cX2_insert 109 = .ok (.lastore, 1) := by decide +kernel
theorem dX2_insert_110 : decode cX2_insert 110 = .ok (.iload 7, 2) := by decide +kernel
theorem dX2_insert_112 : decode cX2_insert 112 = .ok (.istore 6, 2) := by decide +kernel
theorem dX2_insert_114 : decode cX2_insert 114 = .ok (.iinc 7 (-1), 3) := by decide +kernel
theorem dX2_insert_117 : decode cX2_insert 117 = .ok (.goto (-86), 3) := by decide +kernel
theorem dX2_insert_120 : decode cX2_insert 120 = .ok (.aload_n 0, 1) := by decide +kernel
theorem dX2_insert_121 : decode cX2_insert 121 = .ok (.getfield 9, 3) := by decide +kernel
theorem dX2_insert_124 : decode cX2_insert 124 = .ok (.iload 6, 2) := by decide +kernel
theorem dX2_insert_126 : decode cX2_insert 126 = .ok (.iload_n 1, 1) := by decide +kernel
theorem dX2_insert_127 : decode cX2_insert 127 = .ok (.iastore, 1) := by decide +kernel
theorem dX2_insert_128 : decode cX2_insert 128 = .ok (.aload_n 0, 1) := by decide +kernel
theorem dX2_insert_129 : decode cX2_insert 129 = .ok (.getfield 15, 3) := by decide +kernel
theorem dX2_insert_132 : decode cX2_insert 132 = .ok (.iload 6, 2) := by decide +kernel
theorem dX2_insert_134 : decode cX2_insert 134 = .ok (.lload_n 2, 1) := by decide +kernel
theorem dX2_insert_135 : decode cX2_insert 135 = .ok (.lastore, 1) := by decide +kernel
theorem dX2_insert_136 : decode cX2_insert 136 = .ok (.aload_n 0, 1) := by decide +kernel
theorem dX2_insert_137 : decode cX2_insert 137 = .ok (.getfield 19, 3) := by decide +kernel
theorem dX2_insert_140 : decode cX2_insert 140 = .ok (.iload 6, 2) := by decide +kernel
theorem dX2_insert_142 : decode cX2_insert 142 = .ok (.lload 4, 2) := by decide +kernel
theorem dX2_insert_144 : decode cX2_insert 144 = .ok (.lastore, 1) := by decide +kernel
theorem dX2_insert_145 : decode cX2_insert 145 = .ok (.aload_n 0, 1) := by decide +kernel
theorem dX2_insert_146 : decode cX2_insert 146 = .ok (.dup, 1) := by decide +kernel
theorem dX2_insert_147 : decode cX2_insert 147 = .ok (.getfield 33, 3) := by decide +kernel
theorem dX2_insert_150 : decode cX2_insert 150 = .ok (.iconst 1, 1) := by decide +kernel
theorem dX2_insert_151 : decode cX2_insert 151 = .ok (.iadd, 1) := by decide +kernel
theorem dX2_insert_152 : decode cX2_insert 152 = .ok (.putfield 33, 3) := by decide +kernel
theorem dX2_insert_155 : decode cX2_insert 155 = .ok (.return_, 1) := by decide +kernel
theorem dX2_neighbourAt_0 : decode cX2_neighbourAt 0 = .ok (.aload_n 0, 1) := by decide +kernel
theorem dX2_neighbourAt_1 : decode cX2_neighbourAt 1 = .ok (.iload_n 1, 1) := by decide +kernel
theorem dX2_neighbourAt_2 : decode cX2_neighbourAt 2 = .ok (.invokevirtual 64, 3) := by decide +kernel
theorem dX2_neighbourAt_5 : decode cX2_neighbourAt 5 = .ok (.ifCond .ne 5, 3) := by decide +kernel
theorem dX2_neighbourAt_8 : decode cX2_neighbourAt 8 = .ok (.iconst (-1), 1) := by decide +kernel
theorem dX2_neighbourAt_9 : decode cX2_neighbourAt 9 = .ok (.ireturn, 1) := by decide +kernel
theorem dX2_neighbourAt_10 : decode cX2_neighbourAt 10 = .ok (.iconst 0, 1) := by decide +kernel
theorem dX2_neighbourAt_11 : decode cX2_neighbourAt 11 = .ok (.istore_n 3, 1) := by decide +kernel
theorem dX2_neighbourAt_12 : decode cX2_neighbourAt 12 = .ok (.iload_n 3, 1) := by decide +kernel
theorem dX2_neighbourAt_13 : decode cX2_neighbourAt 13 = .ok (.aload_n 0, 1) := by decide +kernel
theorem dX2_neighbourAt_14 : decode cX2_neighbourAt 14 = .ok (.getfield 33, 3) := by decide +kernel
theorem dX2_neighbourAt_17 : decode cX2_neighbourAt 17 = .ok (.if_icmp .ge 45, 3) := by decide +kernel
theorem dX2_neighbourAt_20 : decode cX2_neighbourAt 20 = .ok (.iload_n 3, 1) := by decide +kernel
theorem dX2_neighbourAt_21 : decode cX2_neighbourAt 21 = .ok (.bipush 64, 2) := by decide +kernel
theorem dX2_neighbourAt_23 : decode cX2_neighbourAt 23 = .ok (.if_icmp .ge 39, 3) := by decide +kernel
theorem dX2_neighbourAt_26 : decode cX2_neighbourAt 26 = .ok (.aload_n 0, 1) := by decide +kernel
theorem dX2_neighbourAt_27 : decode cX2_neighbourAt 27 = .ok (.getfield 26, 3) := by decide +kernel
theorem dX2_neighbourAt_30 : decode cX2_neighbourAt 30 = .ok (.iload_n 3, 1) := by decide +kernel
theorem dX2_neighbourAt_31 : decode cX2_neighbourAt 31 = .ok (.iaload, 1) := by decide +kernel
theorem dX2_neighbourAt_32 : decode cX2_neighbourAt 32 = .ok (.iload_n 2, 1) := by decide +kernel
theorem dX2_neighbourAt_33 : decode cX2_neighbourAt 33 = .ok (.if_icmp .ne 23, 3) := by decide +kernel
theorem dX2_neighbourAt_36 : decode cX2_neighbourAt 36 = .ok (.aload_n 0, 1) := by decide +kernel
theorem dX2_neighbourAt_37 : decode cX2_neighbourAt 37 = .ok (.getfield 9, 3) := by decide +kernel
theorem dX2_neighbourAt_40 : decode cX2_neighbourAt 40 = .ok (.iload_n 1, 1) := by decide +kernel
theorem dX2_neighbourAt_41 : decode cX2_neighbourAt 41 = .ok (.iaload, 1) := by decide +kernel
theorem dX2_neighbourAt_42 : decode cX2_neighbourAt 42 = .ok (.aload_n 0, 1) := by decide +kernel
theorem dX2_neighbourAt_43 : decode cX2_neighbourAt 43 = .ok (.getfield 9, 3) := by decide +kernel
theorem dX2_neighbourAt_46 : decode cX2_neighbourAt 46 = .ok (.iload_n 3, 1) := by decide +kernel
theorem dX2_neighbourAt_47 : decode cX2_neighbourAt 47 = .ok (.iaload, 1) := by decide +kernel
theorem dX2_neighbourAt_48 : decode cX2_neighbourAt 48 = .ok (.invokestatic 75, 3) := by decide +kernel
theorem dX2_neighbourAt_51 : decode cX2_neighbourAt 51 = .ok (.ifCond .eq 5, 3) := by decide +kernel
theorem dX2_neighbourAt_54 : decode cX2_neighbourAt 54 = .ok (.iload_n 3, 1) := by decide +kernel
theorem dX2_neighbourAt_55 : decode cX2_neighbourAt 55 = .ok (.ireturn, 1) := by decide +kernel
theorem dX2_neighbourAt_56 : decode cX2_neighbourAt 56 = .ok (.iinc 3 1, 3) := by decide +kernel
theorem dX2_neighbourAt_59 : decode cX2_neighbourAt 59 = .ok (.goto (-47), 3) := by decide +kernel
theorem dX2_neighbourAt_62 : decode cX2_neighbourAt 62 = .ok (.iconst (-1), 1) := by decide +kernel
theorem dX2_neighbourAt_63 : decode cX2_neighbourAt 63 = .ok (.ireturn, 1) := by decide +kernel
theorem dX2_areNeighbours_0 : decode cX2_areNeighbours 0 = .ok (.iload_n 0, 1) := by decide +kernel
theorem dX2_areNeighbours_1 : decode cX2_areNeighbours 1 = .ok (.iload_n 1, 1) := by decide +kernel
theorem dX2_areNeighbours_2 : decode cX2_areNeighbours 2 = .ok (.iconst (-1), 1) := by decide +kernel
theorem dX2_areNeighbours_3 : decode cX2_areNeighbours 3 = .ok (.ixor, 1) := by decide +kernel
theorem dX2_areNeighbours_4 : decode cX2_areNeighbours 4 = .ok (.iand, 1) := by decide +kernel
theorem dX2_areNeighbours_5 : decode cX2_areNeighbours 5 = .ok (.invokestatic 79, 3) := by decide +kernel
theorem dX2_areNeighbours_8 : decode cX2_areNeighbours 8 = .ok (.iconst 1, 1) := by decide +kernel
theorem dX2_areNeighbours_9 : decode cX2_areNeighbours 9 = .ok (.if_icmp .ne 19, 3) := by decide +kernel
theorem dX2_areNeighbours_12 : decode cX2_areNeighbours 12 = .ok (.iload_n 1, 1) := by decide +kernel
theorem dX2_areNeighbours_13 : decode cX2_areNeighbours 13 = .ok (.iload_n 0, 1) := by decide +kernel
theorem dX2_areNeighbours_14 : decode cX2_areNeighbours 14 = .ok (.iconst (-1), 1) := by decide +kernel
theorem dX2_areNeighbours_15 : decode cX2_areNeighbours 15 = .ok (.ixor, 1) := by decide +kernel
theorem dX2_areNeighbours_16 : decode cX2_areNeighbours 16 = .ok (.iand, 1) := by decide +kernel
theorem dX2_areNeighbours_17 : decode cX2_areNeighbours 17 = .ok (.invokestatic 79, 3) := by decide +kernel
theorem dX2_areNeighbours_20 : decode cX2_areNeighbours 20 = .ok (.iconst 1, 1) := by decide +kernel
theorem dX2_areNeighbours_21 : decode cX2_areNeighbours 21 = .ok (.if_icmp .ne 7, 3) := by decide +kernel
theorem dX2_areNeighbours_24 : decode cX2_areNeighbours 24 = .ok (.iconst 1, 1) := by decide +kernel
theorem dX2_areNeighbours_25 : decode cX2_areNeighbours 25 = .ok (.goto 4, 3) := by decide +kernel
theorem dX2_areNeighbours_28 : decode cX2_areNeighbours 28 = .ok (.iconst 0, 1) := by decide +kernel
theorem dX2_areNeighbours_29 : decode cX2_areNeighbours 29 = .ok (.ireturn, 1) := by decide +kernel
theorem dX3_init_0 : decode cX3_init 0 = .ok (.aload_n 0, 1) := by decide +kernel
theorem dX3_init_1 : decode cX3_init 1 = .ok (.invokespecial 3, 3) := by decide +kernel
theorem dX3_init_4 : decode cX3_init 4 = .ok (.aload_n 0, 1) := by decide +kernel
theorem dX3_init_5 : decode cX3_init 5 = .ok (.bipush 20, 2) := by decide +kernel
theorem dX3_init_7 : decode cX3_init 7 = .ok (.newarray .int, 2) := by decide +kernel
theorem dX3_init_9 : decode cX3_init 9 = .ok (.putfield 9, 3) := by decide +kernel
theorem dX3_init_12 : decode cX3_init 12 = .ok (.return_, 1) := by decide +kernel
theorem dX3_isEmpty_0 : decode cX3_isEmpty 0 = .ok (.aload_n 0, 1) := by decide +kernel
theorem dX3_isEmpty_1 : decode cX3_isEmpty 1 = .ok (.getfield 15, 3) := by decide +kernel
theorem dX3_isEmpty_4 : decode cX3_isEmpty 4 = .ok (.ifCond .gt 7, 3) := by decide +kernel
theorem dX3_isEmpty_7 : decode cX3_isEmpty 7 = .ok (.iconst 1, 1) := by decide +kernel
theorem dX3_isEmpty_8 : decode cX3_isEmpty 8 = .ok (.goto 4, 3) := by decide +kernel
theorem dX3_isEmpty_11 : decode cX3_isEmpty 11 = .ok (.iconst 0, 1) := by decide +kernel
theorem dX3_isEmpty_12 : decode cX3_isEmpty 12 = .ok (.ireturn, 1) := by decide +kernel
theorem dX3_clear_0 : decode cX3_clear 0 = .ok (.aload_n 0, 1) := by decide +kernel
theorem dX3_clear_1 : decode cX3_clear 1 = .ok (.iconst 0, 1) := by decide +kernel
theorem dX3_clear_2 : decode cX3_clear 2 = .ok (.putfield 15, 3) := by decide +kernel
theorem dX3_clear_5 : decode cX3_clear 5 = .ok (.return_, 1) := by decide +kernel
theorem dX3_add_0 : decode cX3_add 0 = .ok (.aload_n 0, 1) := by decide +kernel
theorem dX3_add_1 : decode cX3_add 1 = .ok (.getfield 15, 3) := by decide +kernel
theorem dX3_add_4 : decode cX3_add 4 = .ok (.bipush 20, 2) := by decide +kernel
theorem dX3_add_6 : decode cX3_add 6 = .ok (.if_icmp .lt 37, 3) := by decide +kernel
theorem dX3_add_9 : decode cX3_add 9 = .ok (.iconst 1, 1) := by decide +kernel
theorem dX3_add_10 : decode cX3_add 10 = .ok (.istore_n 2, 1) := by decide +kernel
theorem dX3_add_11 : decode cX3_add 11 = .ok (.iload_n 2, 1) := by decide +kernel
theorem dX3_add_12 : decode cX3_add 12 = .ok (.bipush 20, 2) := by decide +kernel
theorem dX3_add_14 : decode cX3_add 14 = .ok (.if_icmp .ge 23, 3) := by decide +kernel
theorem dX3_add_17 : decode cX3_add 17 = .ok (.aload_n 0, 1) := by decide +kernel
theorem dX3_add_18 : decode cX3_add 18 = .ok (.getfield 9, 3) := by decide +kernel
theorem dX3_add_21 : decode cX3_add 21 = .ok (.iload_n 2, 1) := by decide +kernel
theorem dX3_add_22 : decode cX3_add 22 = .ok (.iconst 1, 1) := by decide +kernel
theorem dX3_add_23 : decode cX3_add 23 = .ok (.isub, 1) := by decide +kernel
theorem dX3_add_24 : decode cX3_add 24 = .ok (.aload_n 0, 1) := by decide +kernel
theorem dX3_add_25 : decode cX3_add 25 = .ok (.getfield 9, 3) := by decide +kernel
theorem dX3_add_28 : decode cX3_add 28 = .ok (.iload_n 2, 1) := by decide +kernel
theorem dX3_add_29 : decode cX3_add 29 = .ok (.iaload, 1) := by decide +kernel
theorem dX3_add_30 : decode cX3_add 30 = .ok (.iastore, 1) := by decide +kernel
theorem dX3_add_31 : decode cX3_add 31 = .ok (.iinc 2 1, 3) := by decide +kernel
theorem dX3_add_34 : decode cX3_add 34 = .ok (.goto (-23), 3) := by decide +kernel
theorem dX3_add_37 : decode cX3_add 37 = .ok (.aload_n 0, 1) := by decide +kernel
theorem dX3_add_38 : decode cX3_add 38 = .ok (.bipush 19, 2) := by decide +kernel
theorem dX3_add_40 : decode cX3_add 40 = .ok (.putfield 15, 3) := by decide +kernel
theorem dX3_add_43 : decode cX3_add 43 = .ok (.aload_n 0, 1) := by decide +kernel
theorem dX3_add_44 : decode cX3_add 44 = .ok (.getfield 15, 3) := by decide +kernel
theorem dX3_add_47 : decode cX3_add 47 = .ok (.ifCond .lt 23, 3) := by decide +kernel
theorem dX3_add_50 : decode cX3_add 50 = .ok (.aload_n 0, 1) := by decide +kernel
theorem dX3_add_51 : decode cX3_add 51 = .ok (.getfield 9, 3) := by decide +kernel
theorem dX3_add_54 : decode cX3_add 54 = .ok (.aload_n 0, 1) := by decide +kernel
theorem dX3_add_55 : decode cX3_add 55 = .ok (.getfield 15, 3) := by decide +kernel
theorem dX3_add_58 : decode cX3_add 58 = .ok (.iload_n 1, 1) := by decide +kernel
theorem dX3_add_59 : decode cX3_add 59 = .ok (.iastore, 1) := by decide +kernel
theorem dX3_add_60 : decode cX3_add 60 = .ok (.aload_n 0, 1) := by decide +kernel
theorem dX3_add_61 : decode cX3_add 61 = .ok (.dup, 1) := by decide +kernel
theorem dX3_add_62 : decode cX3_add 62 = .ok (.getfield 15, 3) := by decide +kernel
theorem dX3_add_65 : decode cX3_add 65 = .ok (.iconst 1, 1) := by decide +kernel
theorem dX3_add_66 : decode cX3_add 66 = .ok (.iadd, 1) := by decide +kernel
theorem dX3_add_67 : decode cX3_add 67 = .ok (.putfield 15, 3) := by decide +kernel
theorem dX3_add_70 : decode cX3_add 70 = .ok (.return_, 1) := by decide +kernel
theorem dX3_takeLatest_0 : decode cX3_takeLatest 0 = .ok (.aload_n 0, 1) := by decide +kernel
theorem dX3_takeLatest_1 : decode cX3_takeLatest 1 = .ok (.getfield 15, 3) := by decide +kernel
theorem dX3_takeLatest_4 : decode cX3_takeLatest 4 = .ok (.ifCond .le 12, 3) := by decide +kernel
theorem dX3_takeLatest_7 : decode cX3_takeLatest 7 = .ok (.aload_n 0, 1) := by decide +kernel
theorem dX3_takeLatest_8 : decode cX3_takeLatest 8 = .ok (.getfield 15, 3) := by decide +kernel
theorem dX3_takeLatest_11 : decode cX3_takeLatest 11 = .ok (.bipush 20, 2) := by decide +kernel
theorem dX3_takeLatest_13 : decode cX3_takeLatest 13 = .ok (.if_icmp .le 5, 3) := by decide +kernel
theorem dX3_takeLatest_16 : decode cX3_takeLatest 16 = .ok (.iconst 0, 1) := by decide +kernel
theorem dX3_takeLatest_17 : decode cX3_takeLatest 17 = .ok (.ireturn, 1) := by decide +kernel
theorem dX3_takeLatest_18 : decode cX3_takeLatest 18 = .ok (.aload_n 0, 1) := by decide +kernel
theorem dX3_takeLatest_19 : decode cX3_takeLatest 19 = .ok (.dup, 1) := by decide +kernel
theorem dX3_takeLatest_20 : decode cX3_takeLatest 20 = .ok (.getfield 15, 3) := by decide +kernel
theorem dX3_takeLatest_23 : decode cX3_takeLatest 23 = .ok (.iconst 1, 1) := by decide +kernel
theorem dX3_takeLatest_24 : decode cX3_takeLatest 24 = .ok (.isub, 1) := by decide +kernel
theorem dX3_takeLatest_25 : decode cX3_takeLatest 25 = .ok (.putfield 15, 3) := by decide +kernel
theorem dX3_takeLatest_28 : decode cX3_takeLatest 28 = .ok (.aload_n 0, 1) := by decide +kernel
theorem dX3_takeLatest_29 : decode cX3_takeLatest 29 = .ok (.getfield 9, 3) := by decide +kernel
theorem dX3_takeLatest_32 : decode cX3_takeLatest 32 = .ok (.aload_n 0, 1) := by decide +kernel
theorem dX3_takeLatest_33 : decode cX3_takeLatest 33 = .ok (.getfield 15, 3) := by decide +kernel
theorem dX3_takeLatest_36 : decode cX3_takeLatest 36 = .ok (.iaload, 1) := by decide +kernel
theorem dX3_takeLatest_37 : decode cX3_takeLatest 37 = .ok (.ireturn, 1) := by decide +kernel
theorem dX4_init_0 : decode cX4_init 0 = .ok (.aload_n 0, 1) := by decide +kernel
theorem dX4_init_1 : decode cX4_init 1 = .ok (.invokespecial 5, 3) := by decide +kernel
theorem dX4_init_4 : decode cX4_init 4 = .ok (.aload_n 0, 1) := by decide +kernel
theorem dX4_init_5 : decode cX4_init 5 = .ok (.new 11, 3) := by decide +kernel
theorem dX4_init_8 : decode cX4_init 8 = .ok (.dup, 1) := by decide +kernel
theorem dX4_init_9 : decode cX4_init 9 = .ok (.invokespecial 13, 3) := by decide +kernel
theorem dX4_init_12 : decode cX4_init 12 = .ok (.putfield 14, 3) := by decide +kernel
theorem dX4_init_15 : decode cX4_init 15 = .ok (.return_, 1) := by decide +kernel
theorem dX4_solve_0 : decode cX4_solve 0 = .ok (.aload_n 0, 1) := by decide +kernel
theorem dX4_solve_1 : decode cX4_solve 1 = .ok (.getfield 14, 3) := by decide +kernel
theorem dX4_solve_4 : decode cX4_solve 4 = .ok (.invokevirtual 18, 3) := by decide +kernel
theorem dX4_solve_7 : decode cX4_solve 7 = .ok (.aload_n 0, 1) := by decide +kernel
theorem dX4_solve_8 : decode cX4_solve 8 = .ok (.getfield 14, 3) := by decide +kernel
theorem dX4_solve_11 : decode cX4_solve 11 = .ok (.iconst 0, 1) := by decide +kernel
theorem dX4_solve_12 : decode cX4_solve 12 = .ok (.iconst 0, 1) := by decide +kernel
theorem dX4_solve_13 : decode cX4_solve 13 = .ok (.lconst 1, 1) := by decide +kernel
theorem dX4_solve_14 : decode cX4_solve 14 = .ok (.invokevirtual 21, 3) := by decide +kernel
theorem dX4_solve_17 : decode cX4_solve 17 = .ok (.aload_n 0, 1) := by decide +kernel
theorem dX4_solve_18 : decode cX4_solve 18 = .ok (.getfield 14, 3) := by decide +kernel
theorem dX4_solve_21 : decode cX4_solve 21 = .ok (.iconst 0, 1) := by decide +kernel
theorem dX4_solve_22 : decode cX4_solve 22 = .ok (.bipush 10, 2) := by decide +kernel
theorem dX4_solve_24 : decode cX4_solve 24 = .ok (.lconst 1, 1) := by decide +kernel
theorem dX4_solve_25 : decode cX4_solve 25 = .ok (.invokevirtual 21, 3) := by decide +kernel
theorem dX4_solve_28 : decode cX4_solve 28 = .ok (.aload_n 1, 1) := by decide +kernel
theorem dX4_solve_29 : decode cX4_solve 29 = .ok (.aload_n 0, 1) := by decide +kernel
theorem dX4_solve_30 : decode cX4_solve 30 = .ok (.getfield 14, 3) := by decide +kernel
theorem dX4_solve_33 : decode cX4_solve 33 = .ok (.iconst 1, 1) := by decide +kernel
theorem dX4_solve_34 : decode cX4_solve 34 = .ok (.invokevirtual 25, 3) := by decide +kernel
theorem dX4_solve_37 : decode cX4_solve 37 = .ok (.aload_n 1, 1) := by decide +kernel
theorem dX4_solve_38 : decode cX4_solve 38 = .ok (.aload_n 0, 1) := by decide +kernel
theorem dX4_solve_39 : decode cX4_solve 39 = .ok (.getfield 14, 3) := by decide +kernel
theorem dX4_solve_42 : decode cX4_solve 42 = .ok (.iconst 4, 1) := by decide +kernel
theorem dX4_solve_43 : decode cX4_solve 43 = .ok (.iload_n 2, 1) := by decide +kernel
theorem dX4_solve_44 : decode cX4_solve 44 = .ok (.invokevirtual 31, 3) := by decide +kernel
theorem dX4_solve_47 : decode cX4_solve 47 = .ok (.aload_n 0, 1) := by decide +kernel
theorem dX4_solve_48 : decode cX4_solve 48 = .ok (.getfield 14, 3) := by decide +kernel
theorem dX4_solve_51 : decode cX4_solve 51 = .ok (.invokevirtual 35, 3) := by decide +kernel
theorem dX4_solve_54 : decode cX4_solve 54 = .ok (.return_, 1) := by decide +kernel
theorem dX4_stateFound_0 : decode cX4_stateFound 0 = .ok (.aload_n 0, 1) := by decide +kernel
theorem dX4_stateFound_1 : decode cX4_stateFound 1 = .ok (.getfield 14, 3) := by decide +kernel
theorem dX4_stateFound_4 : decode cX4_stateFound 4 = .ok (.invokevirtual 38, 3) := by decide +kernel
theorem dX4_stateFound_7 : decode cX4_stateFound 7 = .ok (.ifCond .ne 5, 3) := by decide +kernel
theorem dX4_stateFound_10 : decode cX4_stateFound 10 = .ok (.iconst 3, 1) := by decide +kernel
theorem dX4_stateFound_11 : decode cX4_stateFound 11 = .ok (.ireturn, 1) := by decide +kernel
theorem dX4_stateFound_12 : decode cX4_stateFound 12 = .ok (.aload_n 0, 1) := by decide +kernel
theorem dX4_stateFound_13 : decode cX4_stateFound 13 = .ok (.getfield 14, 3) := by decide +kernel
theorem dX4_stateFound_16 : decode cX4_stateFound 16 = .ok (.iconst 1, 1) := by decide +kernel
theorem dX4_stateFound_17 : decode cX4_stateFound 17 = .ok (.invokevirtual 42, 3) := by decide +kernel
theorem dX4_stateFound_20 : decode cX4_stateFound 20 = .ok (.ifCond .ne 5, 3) := by decide +kernel
theorem dX4_stateFound_23 : decode cX4_stateFound 23 = .ok (.iconst 2, 1) := by decide +kernel
theorem dX4_stateFound_24 : decode cX4_stateFound 24 = .ok (.ireturn, 1) := by decide +kernel
theorem dX4_stateFound_25 : decode cX4_stateFound 25 = .ok (.aload_n 0, 1) := by decide +kernel
theorem dX4_stateFound_26 : decode cX4_stateFound 26 = .ok (.getfield 14, 3) := by decide +kernel
theorem dX4_stateFound_29 : decode cX4_stateFound 29 = .ok (.iconst 1, 1) := by decide +kernel
theorem dX4_stateFound_30 : decode cX4_stateFound 30 = .ok (.iconst 0, 1) := by decide +kernel
theorem dX4_stateFound_31 : decode cX4_stateFound 31 = .ok (.invokevirtual 46, 3) := by decide +kernel
theorem dX4_stateFound_34 : decode cX4_stateFound 34 = .ok (.lconst 0, 1) := by decide +kernel
theorem dX4_stateFound_35 : decode cX4_stateFound 35 = .ok (.lcmp, 1) := by decide +kernel
theorem dX4_stateFound_36 : decode cX4_stateFound 36 = .ok (.ifCond .ne 7, 3) := by decide +kernel
theorem dX4_stateFound_39 : decode cX4_stateFound 39 = .ok (.iconst 1, 1) := by decide +kernel
theorem dX4_stateFound_40 : decode cX4_stateFound 40 = .ok (.goto 4, 3) := by decide +kernel
theorem dX4_stateFound_43 : decode cX4_stateFound 43 = .ok (.iconst 0, 1) := by decide +kernel
theorem dX4_stateFound_44 : decode cX4_stateFound 44 = .ok (.ireturn, 1) := by decide +kernel
theorem dX4_isDetermined_0 : decode cX4_isDetermined 0 = .ok (.aload_n 0, 1) := by decide +kernel
theorem dX4_isDetermined_1 : decode cX4_isDetermined 1 = .ok (.getfield 14, 3) := by decide +kernel
theorem dX4_isDetermined_4 : decode cX4_isDetermined 4 = .ok (.iload_n 1, 1) := by decide +kernel
theorem dX4_isDetermined_5 : decode cX4_isDetermined 5 = .ok (.invokevirtual 42, 3) := by decide +kernel
theorem dX4_isDetermined_8 : decode cX4_isDetermined 8 = .ok (.ireturn, 1) := by decide +kernel
theorem dX4_speedPart_0 : decode cX4_speedPart 0 = .ok (.aload_n 0, 1) := by decide +kernel
theorem dX4_speedPart_1 : decode cX4_speedPart 1 = .ok (.getfield 14, 3) := by decide +kernel
theorem dX4_speedPart_4 : decode cX4_speedPart 4 = .ok (.iload_n 1, 1) := by decide +kernel
theorem dX4_speedPart_5 : decode cX4_speedPart 5 = .ok (.iload_n 2, 1) := by decide +kernel
theorem dX4_speedPart_6 : decode cX4_speedPart 6 = .ok (.invokevirtual 46, 3) := by decide +kernel
theorem dX4_speedPart_9 : decode cX4_speedPart 9 = .ok (.lreturn, 1) := by decide +kernel
theorem dX4_ratioPart_0 : decode cX4_ratioPart 0 = .ok (.aload_n 0, 1) := by decide +kernel
theorem dX4_ratioPart_1 : decode cX4_ratioPart 1 = .ok (.getfield 14, 3) := by decide +kernel
theorem dX4_ratioPart_4 : decode cX4_ratioPart 4 = .ok (.iconst 1, 1) := by decide +kernel
theorem dX4_ratioPart_5 : decode cX4_ratioPart 5 = .ok (.iconst 0, 1) := by decide +kernel
theorem dX4_ratioPart_6 : decode cX4_ratioPart 6 = .ok (.invokevirtual 46, 3) := by decide +kernel
theorem dX4_ratioPart_9 : decode cX4_ratioPart 9 = .ok (.lstore_n 2, 1) := by decide +kernel
theorem dX4_ratioPart_10 : decode cX4_ratioPart 10 = .ok (.aload_n 0, 1) := by decide +kernel
theorem dX4_ratioPart_11 : decode cX4_ratioPart 11 = .ok (.getfield 14, 3) := by decide +kernel
theorem dX4_ratioPart_14 : decode cX4_ratioPart 14 = .ok (.iconst 1, 1) := by decide +kernel
theorem dX4_ratioPart_15 : decode cX4_ratioPart 15 = .ok (.iconst 1, 1) := by decide +kernel
theorem dX4_ratioPart_16 : decode cX4_ratioPart 16 = .ok (.invokevirtual 46, 3) := by decide +kernel
theorem dX4_ratioPart_19 : decode cX4_ratioPart 19 = .ok (.lstore 4, 2) := by decide +kernel
theorem dX4_ratioPart_21 : decode cX4_ratioPart 21 = .ok (.iload_n 1, 1) := by decide +kernel
theorem dX4_ratioPart_22 : decode cX4_ratioPart 22 = .ok (.iconst 1, 1) := by decide +kernel
theorem dX4_ratioPart_23 : decode cX4_ratioPart 23 = .ok (.if_icmp .ne 16, 3) := by decide +kernel
theorem dX4_ratioPart_26 : decode cX4_ratioPart 26 = .ok (.lload_n 2, 1) := by decide +kernel
theorem dX4_ratioPart_27 : decode cX4_ratioPart 27 = .ok (.lconst 0, 1) := by decide +kernel
theorem dX4_ratioPart_28 : decode cX4_ratioPart 28 = .ok (.lcmp, 1) := by decide +kernel
theorem dX4_ratioPart_29 : decode cX4_ratioPart 29 = .ok (.ifCond .ge 8, 3) := by decide +kernel
theorem dX4_ratioPart_32 : decode cX4_ratioPart 32 = .ok (.lload_n 2, 1) := by decide +kernel
theorem dX4_ratioPart_33 : decode cX4_ratioPart 33 = .ok (.lneg, 1) := by decide +kernel
theorem dX4_ratioPart_34 : decode cX4_ratioPart 34 = .ok (.goto 4, 3) := by decide +kernel
theorem dX4_ratioPart_37 : decode cX4_ratioPart 37 = .ok (.lload_n 2, 1) := by decide +kernel
theorem dX4_ratioPart_38 : decode cX4_ratioPart 38 = .ok (.lreturn, 1) := by decide +kernel
theorem dX4_ratioPart_39 : decode cX4_ratioPart 39 = .ok (.lload_n 2, 1) := by decide +kernel
theorem dX4_ratioPart_40 : decode cX4_ratioPart 40 = .ok (.lconst 0, 1) := by decide +kernel
theorem dX4_ratioPart_41 : decode cX4_ratioPart 41 = .ok (.lcmp, 1) := by decide +kernel
theorem dX4_ratioPart_42 : decode cX4_ratioPart 42 = .ok (.ifCond .ge 9, 3) := by decide +kernel
theorem dX4_ratioPart_45 : decode cX4_ratioPart 45 = .ok (.lload 4, 2) := by decide +kernel
theorem dX4_ratioPart_47 : decode cX4_ratioPart 47 = .ok (.lneg, 1) := by decide +kernel
theorem dX4_ratioPart_48 : decode cX4_ratioPart 48 = .ok (.goto 5, 3) := by decide +kernel
theorem dX4_ratioPart_51 : decode cX4_ratioPart 51 = .ok (.lload 4, 2) := by decide +kernel
theorem dX4_ratioPart_53 : decode cX4_ratioPart 53 = .ok (.lreturn, 1) := by decide +kernel
theorem dX5_init_0 : decode cX5_init 0 = .ok (.aload_n 0, 1) := by decide +kernel
theorem dX5_init_1 : decode cX5_init 1 = .ok (.invokespecial 5, 3) := by decide +kernel
theorem dX5_init_4 : decode cX5_init 4 = .ok (.aload_n 0, 1) := by decide +kernel
theorem dX5_init_5 : decode cX5_init 5 = .ok (.new 11, 3) := by decide +kernel
theorem dX5_init_8 : decode cX5_init 8 = .ok (.dup, 1) := by decide +kernel
theorem dX5_init_9 : decode cX5_init 9 = .ok (.invokespecial 13, 3) := by decide +kernel
theorem dX5_init_12 : decode cX5_init 12 = .ok (.putfield 14, 3) := by decide +kernel
theorem dX5_init_15 : decode cX5_init 15 = .ok (.return_, 1) := by decide +kernel
theorem dX5_solve_0 : decode cX5_solve 0 = .ok (.aload_n 0, 1) := by decide +kernel
theorem dX5_solve_1 : decode cX5_solve 1 = .ok (.getfield 14, 3) := by decide +kernel
theorem dX5_solve_4 : decode cX5_solve 4 = .ok (.invokevirtual 18, 3) := by decide +kernel
theorem dX5_solve_7 : decode cX5_solve 7 = .ok (.aload_n 0, 1) := by decide +kernel
theorem dX5_solve_8 : decode cX5_solve 8 = .ok (.getfield 14, 3) := by decide +kernel
theorem dX5_solve_11 : decode cX5_solve 11 = .ok (.iconst 0, 1) := by decide +kernel
theorem dX5_solve_12 : decode cX5_solve 12 = .ok (.bipush 10, 2) := by decide +kernel
theorem dX5_solve_14 : decode cX5_solve 14 = .ok (.ldc2_w 21, 3) := by decide +kernel
theorem dX5_solve_17 : decode cX5_solve 17 = .ok (.invokevirtual 23, 3) := by decide +kernel
theorem dX5_solve_20 : decode cX5_solve 20 = .ok (.aload_n 0, 1) := by decide +kernel
theorem dX5_solve_21 : decode cX5_solve 21 = .ok (.getfield 14, 3) := by decide +kernel
theorem dX5_solve_24 : decode cX5_solve 24 = .ok (.iconst 1, 1) := by decide +kernel
theorem dX5_solve_25 : decode cX5_solve 25 = .ok (.iconst 0, 1) := by decide +kernel
theorem dX5_solve_26 : decode cX5_solve 26 = .ok (.lconst 1, 1) := by decide +kernel
theorem dX5_solve_27 : decode cX5_solve 27 = .ok (.invokevirtual 23, 3) := by decide +kernel
theorem dX5_solve_30 : decode cX5_solve 30 = .ok (.aload_n 1, 1) := by decide +kernel
theorem dX5_solve_31 : decode cX5_solve 31 = .ok (.aload_n 0, 1) := by decide +kernel
theorem dX5_solve_32 : decode cX5_solve 32 = .ok (.getfield 14, 3) := by decide +kernel
theorem dX5_solve_35 : decode cX5_solve 35 = .ok (.iconst 1, 1) := by decide +kernel
theorem dX5_solve_36 : decode cX5_solve 36 = .ok (.invokevirtual 27, 3) := by decide +kernel
theorem dX5_solve_39 : decode cX5_solve 39 = .ok (.aload_n 1, 1) := by decide +kernel
theorem dX5_solve_40 : decode cX5_solve 40 = .ok (.aload_n 0, 1) := by decide +kernel
theorem dX5_solve_41 : decode cX5_solve 41 = .ok (.getfield 14, 3) := by decide +kernel
theorem dX5_solve_44 : decode cX5_solve 44 = .ok (.iconst 4, 1) := by decide +kernel
theorem dX5_solve_45 : decode cX5_solve 45 = .ok (.iload_n 2, 1) := by decide +kernel
theorem dX5_solve_46 : decode cX5_solve 46 = .ok (.invokevirtual 33, 3) := by decide +kernel
theorem dX5_solve_49 : decode cX5_solve 49 = .ok (.aload_n 0, 1) := by decide +kernel
theorem dX5_solve_50 : decode cX5_solve 50 = .ok (.getfield 14, 3) := by decide +kernel
theorem dX5_solve_53 : decode cX5_solve 53 = .ok (.invokevirtual 37, 3) := by decide +kernel
theorem dX5_solve_56 : decode cX5_solve 56 = .ok (.return_, 1) := by decide +kernel
theorem dX5_isOutputDetermined_0 : decode cX5_isOutputDetermined 0 = .ok (.aload_n 0, 1) := by decide +kernel
theorem dX5_isOutputDetermined_1 : decode cX5_isOutputDetermined 1 = .ok (.getfield 14, 3) := by decide +kernel
theorem dX5_isOutputDetermined_4 : decode cX5_isOutputDetermined 4 = .ok (.iconst 0, 1) := by decide +kernel
theorem dX5_isOutputDetermined_5 : decode cX5_isOutputDetermined 5 = .ok (.invokevirtual 40, 3) := by decide +kernel
theorem dX5_isOutputDetermined_8 : decode cX5_isOutputDetermined 8 = .ok (.ireturn, 1) := by decide +kernel
theorem dX5_outputPart_0 : decode cX5_outputPart 0 = .ok (.aload_n 0, 1) := by decide +kernel
theorem dX5_outputPart_1 : decode cX5_outputPart 1 = .ok (.getfield 14, 3) := by decide +kernel
theorem dX5_outputPart_4 : decode cX5_outputPart 4 = .ok (.iconst 0, 1) := by decide +kernel
theorem dX5_outputPart_5 : decode cX5_outputPart 5 = .ok (.iload_n 1, 1) := by decide +kernel
theorem dX5_outputPart_6 : decode cX5_outputPart 6 = .ok (.invokevirtual 44, 3) := by decide +kernel
theorem dX5_outputPart_9 : decode cX5_outputPart 9 = .ok (.lreturn, 1) := by decide +kernel
theorem dX5_isDetermined_0 : decode cX5_isDetermined 0 = .ok (.aload_n 0, 1) := by decide +kernel
theorem dX5_isDetermined_1 : decode cX5_isDetermined 1 = .ok (.getfield 14, 3) := by decide +kernel
theorem dX5_isDetermined_4 : decode cX5_isDetermined 4 = .ok (.iconst 4, 1) := by decide +kernel
theorem dX5_isDetermined_5 : decode cX5_isDetermined 5 = .ok (.iload_n 1, 1) := by decide +kernel
theorem dX5_isDetermined_6 : decode cX5_isDetermined 6 = .ok (.iadd, 1) := by decide +kernel
theorem dX5_isDetermined_7 : decode cX5_isDetermined 7 = .ok (.invokevirtual 40, 3) := by decide +kernel
theorem dX5_isDetermined_10 : decode cX5_isDetermined 10 = .ok (.ireturn, 1) := by decide +kernel
theorem dX5_elementPart_0 : decode cX5_elementPart 0 = .ok (.aload_n 0, 1) := by decide +kernel
theorem dX5_elementPart_1 : decode cX5_elementPart 1 = .ok (.getfield 14, 3) := by decide +kernel
theorem dX5_elementPart_4 : decode cX5_elementPart 4 = .ok (.iconst 4, 1) := by decide +kernel
theorem dX5_elementPart_5 : decode cX5_elementPart 5 = .ok (.iload_n 1, 1) := by decide +kernel
theorem dX5_elementPart_6 : decode cX5_elementPart 6 = .ok (.iadd, 1) := by decide +kernel
theorem dX5_elementPart_7 : decode cX5_elementPart 7 = .ok (.iload_n 2, 1) := by decide +kernel
theorem dX5_elementPart_8 : decode cX5_elementPart 8 = .ok (.invokevirtual 44, 3) := by decide +kernel
theorem dX5_elementPart_11 : decode cX5_elementPart 11 = .ok (.lreturn, 1) := by decide +kernel
theorem dX5_holdsUpTo_0 : decode cX5_holdsUpTo 0 = .ok (.aload_n 0, 1) := by decide +kernel
theorem dX5_holdsUpTo_1 : decode cX5_holdsUpTo 1 = .ok (.iload_n 1, 1) := by decide +kernel
theorem dX5_holdsUpTo_2 : decode cX5_holdsUpTo 2 = .ok (.invokevirtual 48, 3) := by decide +kernel
theorem dX5_holdsUpTo_5 : decode cX5_holdsUpTo 5 = .ok (.ifCond .ne 7, 3) := by decide +kernel
theorem dX5_holdsUpTo_8 : decode cX5_holdsUpTo 8 = .ok (.sipush 10000, 3) := by decide +kernel
theorem dX5_holdsUpTo_11 : decode cX5_holdsUpTo 11 = .ok (.ireturn, 1) := by decide +kernel
theorem dX5_holdsUpTo_12 : decode cX5_holdsUpTo 12 = .ok (.aload_n 0, 1) := by decide +kernel
theorem dX5_holdsUpTo_13 : decode cX5_holdsUpTo 13 = .ok (.iload_n 1, 1) := by decide +kernel
theorem dX5_holdsUpTo_14 : decode cX5_holdsUpTo 14 = .ok (.iconst 0, 1) := by decide +kernel
theorem dX5_holdsUpTo_15 : decode cX5_holdsUpTo 15 = .ok (.invokevirtual 49, 3) := by decide +kernel
theorem dX5_holdsUpTo_18 : decode cX5_holdsUpTo 18 = .ok (.invokestatic 52, 3) := by decide +kernel
theorem dX5_holdsUpTo_21 : decode cX5_holdsUpTo 21 = .ok (.lstore_n 3, 1) := by decide +kernel
theorem dX5_holdsUpTo_22 : decode cX5_holdsUpTo 22 = .ok (.lload_n 3, 1) := by decide +kernel
theorem dX5_holdsUpTo_23 : decode cX5_holdsUpTo 23 = .ok (.lconst 0, 1) := by decide +kernel
theorem dX5_holdsUpTo_24 : decode cX5_holdsUpTo 24 = .ok (.lcmp, 1) := by decide +kernel
theorem dX5_holdsUpTo_25 : decode cX5_holdsUpTo 25 = .ok (.ifCond .ne 7, 3) := by decide +kernel
theorem dX5_holdsUpTo_28 : decode cX5_holdsUpTo 28 = .ok (.sipush 10000, 3) := by decide +kernel
theorem dX5_holdsUpTo_31 : decode cX5_holdsUpTo 31 = .ok (.ireturn, 1) := by decide +kernel
theorem dX5_holdsUpTo_32 : decode cX5_holdsUpTo 32 = .ok (.iload_n 2, 1) := by decide +kernel
theorem dX5_holdsUpTo_33 : decode cX5_holdsUpTo 33 = .ok (.i2l, 1) := by decide +kernel
theorem dX5_holdsUpTo_34 : decode cX5_holdsUpTo 34 = .ok (.aload_n 0, 1) := by decide +kernel
theorem dX5_holdsUpTo_35 : decode cX5_holdsUpTo 35 = .ok (.iload_n 1, 1) := by decide +kernel
theorem dX5_holdsUpTo_36 : decode cX5_holdsUpTo 36 = .ok (.iconst 1, 1) := by decide +kernel
theorem dX5_holdsUpTo_37 : decode cX5_holdsUpTo 37 = .ok (.invokevirtual 49, 3) := by decide +kernel
theorem dX5_holdsUpTo_40 : decode cX5_holdsUpTo 40 = .ok (.lmul, 1) := by decide +kernel
theorem dX5_holdsUpTo_41 : decode cX5_holdsUpTo 41 = .ok (.lload_n 3, 1) := by decide +kernel
theorem dX5_holdsUpTo_42 : decode cX5_holdsUpTo 42 = .ok (.ldiv, 1) := by decide +kernel
theorem dX5_holdsUpTo_43 : decode cX5_holdsUpTo 43 = .ok (.lstore 5, 2) := by decide +kernel
theorem dX5_holdsUpTo_45 : decode cX5_holdsUpTo 45 = .ok (.lload 5, 2) := by decide +kernel
theorem dX5_holdsUpTo_47 : decode cX5_holdsUpTo 47 = .ok (.ldc2_w 58, 3) := by decide +kernel
theorem dX5_holdsUpTo_50 : decode cX5_holdsUpTo 50 = .ok (.invokestatic 60, 3) := by decide +kernel
theorem dX5_holdsUpTo_53 : decode cX5_holdsUpTo 53 = .ok (.l2i, 1) := by decide +kernel
theorem dX5_holdsUpTo_54 : decode cX5_holdsUpTo 54 = .ok (.ireturn, 1) := by decide +kernel
theorem dJ6_bitCount_0f7a4_0 : decode cJ6_bitCount_0f7a4 0 = .ok (.iload_n 0, 1) := by decide +kernel
theorem dJ6_bitCount_0f7a4_1 : decode cJ6_bitCount_0f7a4 1 = .ok (.iload_n 0, 1) := by decide +kernel
theorem dJ6_bitCount_0f7a4_2 : decode cJ6_bitCount_0f7a4 2 = .ok (.iconst 1, 1) := by decide +kernel
theorem dJ6_bitCount_0f7a4_3 : decode cJ6_bitCount_0f7a4 3 = .ok (.iushr, 1) := by decide +kernel
theorem dJ6_bitCount_0f7a4_4 : decode cJ6_bitCount_0f7a4 4 = .ok (.ldc_w 265, 3) := by decide +kernel
theorem dJ6_bitCount_0f7a4_7 : decode cJ6_bitCount_0f7a4 7 = .ok (.iand, 1) := by decide +kernel
theorem dJ6_bitCount_0f7a4_8 : decode cJ6_bitCount_0f7a4 8 = .ok (.isub, 1) := by decide +kernel
theorem dJ6_bitCount_0f7a4_9 : decode cJ6_bitCount_0f7a4 9 = .ok (.istore_n 0, 1) := by decide +kernel
theorem dJ6_bitCount_0f7a4_10 : decode cJ6_bitCount_0f7a4 10 = .ok (.iload_n 0, 1) := by decide +kernel
theorem dJ6_bitCount_0f7a4_11 : decode cJ6_bitCount_0f7a4 11 = .ok (.ldc_w 266, 3) := by decide +kernel
theorem dJ6_bitCount_0f7a4_14 : decode cJ6_bitCount_0f7a4 14 = .ok (.iand, 1) := by decide +kernel
theorem dJ6_bitCount_0f7a4_15 : decode cJ6_bitCount_0f7a4 15 = .ok (.iload_n 0, 1) := by decide +kernel
theorem dJ6_bitCount_0f7a4_16 : decode cJ6_bitCount_0f7a4 16 = .ok (.iconst 2, 1) := by decide +kernel
theorem dJ6_bitCount_0f7a4_17 : decode cJ6_bitCount_0f7a4 17 = .ok (.iushr, 1) := by decide +kernel
theorem dJ6_bitCount_0f7a4_18 : decode cJ6_bitCount_0f7a4 18 = .ok (.ldc_w 266, 3) := by decide +kernel
theorem dJ6_bitCount_0f7a4_21 : decode cJ6_bitCount_0f7a4 21 = .ok (.iand, 1) := by decide +kernel
theorem dJ6_bitCount_0f7a4_22 : decode cJ6_bitCount_0f7a4 22 = .ok (.iadd, 1) := by decide +kernel
theorem dJ6_bitCount_0f7a4_23 : decode cJ6_bitCount_0f7a4 23 = .ok (.istore_n 0, 1) := by decide +kernel
theorem dJ6_bitCount_0f7a4_24 : decode cJ6_bitCount_0f7a4 24 = .ok (.iload_n 0, 1) := by decide +kernel
theorem dJ6_bitCount_0f7a4_25 : decode cJ6_bitCount_0f7a4 25 = .ok (.iload_n 0, 1) := by decide +kernel
theorem dJ6_bitCount_0f7a4_26 : decode cJ6_bitCount_0f7a4 26 = .ok (.iconst 4, 1) := by decide +kernel
theorem dJ6_bitCount_0f7a4_27 : decode cJ6_bitCount_0f7a4 27 = .ok (.iushr, 1) := by decide +kernel
theorem dJ6_bitCount_0f7a4_28 : decode cJ6_bitCount_0f7a4 28 = .ok (.iadd, 1) := by decide +kernel
theorem dJ6_bitCount_0f7a4_29 : decode cJ6_bitCount_0f7a4 29 = .ok (.ldc_w 267, 3) := by decide +kernel
theorem dJ6_bitCount_0f7a4_32 : decode cJ6_bitCount_0f7a4 32 = .ok (.iand, 1) := by decide +kernel
theorem dJ6_bitCount_0f7a4_33 : decode cJ6_bitCount_0f7a4 33 = .ok (.istore_n 0, 1) := by decide +kernel
theorem dJ6_bitCount_0f7a4_34 : decode cJ6_bitCount_0f7a4 34 = .ok (.iload_n 0, 1) := by decide +kernel
theorem dJ6_bitCount_0f7a4_35 : decode cJ6_bitCount_0f7a4 35 = .ok (.iload_n 0, 1) := by decide +kernel
theorem dJ6_bitCount_0f7a4_36 : decode cJ6_bitCount_0f7a4 36 = .ok (.bipush 8, 2) := by decide +kernel
theorem dJ6_bitCount_0f7a4_38 : decode cJ6_bitCount_0f7a4 38 = .ok (.iushr, 1) := by decide +kernel
theorem dJ6_bitCount_0f7a4_39 : decode cJ6_bitCount_0f7a4 39 = .ok (.iadd, 1) := by decide +kernel
theorem dJ6_bitCount_0f7a4_40 : decode cJ6_bitCount_0f7a4 40 = .ok (.istore_n 0, 1) := by decide +kernel
theorem dJ6_bitCount_0f7a4_41 : decode cJ6_bitCount_0f7a4 41 = .ok (.iload_n 0, 1) := by decide +kernel
theorem dJ6_bitCount_0f7a4_42 : decode cJ6_bitCount_0f7a4 42 = .ok (.iload_n 0, 1) := by decide +kernel
theorem dJ6_bitCount_0f7a4_43 : decode cJ6_bitCount_0f7a4 43 = .ok (.bipush 16, 2) := by decide +kernel
theorem dJ6_bitCount_0f7a4_45 : decode cJ6_bitCount_0f7a4 45 = .ok (.iushr, 1) := by decide +kernel
theorem dJ6_bitCount_0f7a4_46 : decode cJ6_bitCount_0f7a4 46 = .ok (.iadd, 1) := by decide +kernel
theorem dJ6_bitCount_0f7a4_47 : decode cJ6_bitCount_0f7a4 47 = .ok (.istore_n 0, 1) := by decide +kernel
theorem dJ6_bitCount_0f7a4_48 : decode cJ6_bitCount_0f7a4 48 = .ok (.iload_n 0, 1) := by decide +kernel
theorem dJ6_bitCount_0f7a4_49 : decode cJ6_bitCount_0f7a4 49 = .ok (.bipush 63, 2) := by decide +kernel
theorem dJ6_bitCount_0f7a4_51 : decode cJ6_bitCount_0f7a4 51 = .ok (.iand, 1) := by decide +kernel
theorem dJ6_bitCount_0f7a4_52 : decode cJ6_bitCount_0f7a4 52 = .ok (.ireturn, 1) := by decide +kernel
theorem dJ9_abs_067f4_0 : decode cJ9_abs_067f4 0 = .ok (.lload_n 0, 1) := by decide +kernel
theorem dJ9_abs_067f4_1 : decode cJ9_abs_067f4 1 = .ok (.lconst 0, 1) := by decide +kernel
theorem dJ9_abs_067f4_2 : decode cJ9_abs_067f4 2 = .ok (.lcmp, 1) := by decide +kernel
theorem dJ9_abs_067f4_3 : decode cJ9_abs_067f4 3 = .ok (.ifCond .ge 8, 3) := by decide +kernel
theorem dJ9_abs_067f4_6 : decode cJ9_abs_067f4 6 = .ok (.lload_n 0, 1) := by decide +kernel
theorem dJ9_abs_067f4_7 : decode cJ9_abs_067f4 7 = .ok (.lneg, 1) := by decide +kernel
theorem dJ9_abs_067f4_8 : decode cJ9_abs_067f4 8 = .ok (.goto 4, 3) := by decide +kernel
theorem dJ9_abs_067f4_11 : decode cJ9_abs_067f4 11 = .ok (.lload_n 0, 1) := by decide +kernel
theorem dJ9_abs_067f4_12 : decode cJ9_abs_067f4 12 = .ok (.lreturn, 1) := by decide +kernel
theorem dJ9_min_7cf53_0 : decode cJ9_min_7cf53 0 = .ok (.iload_n 0, 1) := by decide +kernel
theorem dJ9_min_7cf53_1 : decode cJ9_min_7cf53 1 = .ok (.iload_n 1, 1) := by decide +kernel
theorem dJ9_min_7cf53_2 : decode cJ9_min_7cf53 2 = .ok (.if_icmp .gt 7, 3) := by decide +kernel
theorem dJ9_min_7cf53_5 : decode cJ9_min_7cf53 5 = .ok (.iload_n 0, 1) := by decide +kernel
theorem dJ9_min_7cf53_6 : decode cJ9_min_7cf53 6 = .ok (.goto 4, 3) := by decide +kernel
theorem dJ9_min_7cf53_9 : decode cJ9_min_7cf53 9 = .ok (.iload_n 1, 1) := by decide +kernel
theorem dJ9_min_7cf53_10 : decode cJ9_min_7cf53 10 = .ok (.ireturn, 1) := by decide +kernel
theorem dJ9_min_f86c9_0 : decode cJ9_min_f86c9 0 = .ok (.lload_n 0, 1) := by decide +kernel
theorem dJ9_min_f86c9_1 : decode cJ9_min_f86c9 1 = .ok (.lload_n 2, 1) := by decide +kernel
theorem dJ9_min_f86c9_2 : decode cJ9_min_f86c9 2 = .ok (.lcmp, 1) := by decide +kernel
theorem dJ9_min_f86c9_3 : decode cJ9_min_f86c9 3 = .ok (.ifCond .gt 7, 3) := by decide +kernel
theorem dJ9_min_f86c9_6 : decode cJ9_min_f86c9 6 = .ok (.lload_n 0, 1) := by decide +kernel
theorem dJ9_min_f86c9_7 : decode cJ9_min_f86c9 7 = .ok (.goto 4, 3) := by decide +kernel
theorem dJ9_min_f86c9_10 : decode cJ9_min_f86c9 10 = .ok (.lload_n 2, 1) := by decide +kernel
theorem dJ9_min_f86c9_11 : decode cJ9_min_f86c9 11 = .ok (.lreturn, 1) := by decide +kernel
