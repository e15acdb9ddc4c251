theorem d_Math_min_0 : decode b_Math_min 0 = .ok (.iload_n 0, 1) := by decide +kernel
theorem d_Math_min_1 : decode b_Math_min 1 = .ok (.iload_n 1, 1) := by decide +kernel
theorem d_Math_min_2 : decode b_Math_min 2 = .ok (.if_icmp .gt 7, 3) := by decide +kernel
theorem d_Math_min_5 : decode b_Math_min 5 = .ok (.iload_n 0, 1) := by decide +kernel
theorem d_Math_min_6 : decode b_Math_min 6 = .ok (.goto 4, 3) := by decide +kernel
theorem d_Math_min_9 : decode b_Math_min 9 = .ok (.iload_n 1, 1) := by decide +kernel
theorem d_Math_min_10 : decode b_Math_min 10 = .ok (.ireturn, 1) := by decide +kernel
theorem d_Math_max_0 : decode b_Math_max 0 = .ok (.iload_n 0, 1) := by decide +kernel
theorem d_Math_max_1 : decode b_Math_max 1 = .ok (.iload_n 1, 1) := by decide +kernel
theorem d_Math_max_2 : decode b_Math_max 2 = .ok (.if_icmp .lt 7, 3) := by decide +kernel
theorem d_Math_max_5 : decode b_Math_max 5 = .ok (.iload_n 0, 1) := by decide +kernel
theorem d_Math_max_6 : decode b_Math_max 6 = .ok (.goto 4, 3) := by decide +kernel
theorem d_Math_max_9 : decode b_Math_max 9 = .ok (.iload_n 1, 1) := by decide +kernel
theorem d_Math_max_10 : decode b_Math_max 10 = .ok (.ireturn, 1) := by decide +kernel
theorem d_Math_floorMod_0 : decode b_Math_floorMod 0 = .ok (.iload_n 0, 1) := by decide +kernel
theorem d_Math_floorMod_1 : decode b_Math_floorMod 1 = .ok (.iload_n 1, 1) := by decide +kernel
theorem d_Math_floorMod_2 : decode b_Math_floorMod 2 = .ok (.irem, 1) := by decide +kernel
theorem d_Math_floorMod_3 : decode b_Math_floorMod 3 = .ok (.istore_n 2, 1) := by decide +kernel
theorem d_Math_floorMod_4 : decode b_Math_floorMod 4 = .ok (.iload_n 0, 1) := by decide +kernel
theorem d_Math_floorMod_5 : decode b_Math_floorMod 5 = .ok (.iload_n 1, 1) := by decide +kernel
theorem d_Math_floorMod_6 : decode b_Math_floorMod 6 = .ok (.ixor, 1) := by decide +kernel
theorem d_Math_floorMod_7 : decode b_Math_floorMod 7 = .ok (.ifCond .ge 11, 3) := by decide +kernel
theorem d_Math_floorMod_10 : decode b_Math_floorMod 10 = .ok (.iload_n 2, 1) := by decide +kernel
theorem d_Math_floorMod_11 : decode b_Math_floorMod 11 = .ok (.ifCond .eq 7, 3) := by decide +kernel
theorem d_Math_floorMod_14 : decode b_Math_floorMod 14 = .ok (.iload_n 2, 1) := by decide +kernel
theorem d_Math_floorMod_15 : decode b_Math_floorMod 15 = .ok (.iload_n 1, 1) := by decide +kernel
theorem d_Math_floorMod_16 : decode b_Math_floorMod 16 = .ok (.iadd, 1) := by decide +kernel
theorem d_Math_floorMod_17 : decode b_Math_floorMod 17 = .ok (.ireturn, 1) := by decide +kernel
theorem d_Math_floorMod_18 : decode b_Math_floorMod 18 = .ok (.iload_n 2, 1) := by decide +kernel
theorem d_Math_floorMod_19 : decode b_Math_floorMod 19 = .ok (.ireturn, 1) := by decide +kernel
theorem d_Long_bitCount_0 : decode b_Long_bitCount 0 = .ok (.lload_n 0, 1) := by decide +kernel
theorem d_Long_bitCount_1 : decode b_Long_bitCount 1 = .ok (.lload_n 0, 1) := by decide +kernel
theorem d_Long_bitCount_2 : decode b_Long_bitCount 2 = .ok (.iconst 1, 1) := by decide +kernel
theorem d_Long_bitCount_3 : decode b_Long_bitCount 3 = .ok (.lushr, 1) := by decide +kernel
theorem d_Long_bitCount_4 : decode b_Long_bitCount 4 = .ok (.ldc2_w 314, 3) := by decide +kernel
theorem d_Long_bitCount_7 : decode b_Long_bitCount 7 = .ok (.land, 1) := by decide +kernel
theorem d_Long_bitCount_8 : decode b_Long_bitCount 8 = .ok (.lsub, 1) := by decide +kernel
theorem d_Long_bitCount_9 : decode b_Long_bitCount 9 = .ok (.lstore_n 0, 1) := by decide +kernel
theorem d_Long_bitCount_10 : decode b_Long_bitCount 10 = .ok (.lload_n 0, 1) := by decide +kernel
theorem d_Long_bitCount_11 : decode b_Long_bitCount 11 = .ok (.ldc2_w 316, 3) := by decide +kernel
theorem d_Long_bitCount_14 : decode b_Long_bitCount 14 = .ok (.land, 1) := by decide +kernel
theorem d_Long_bitCount_15 : decode b_Long_bitCount 15 = .ok (.lload_n 0, 1) := by decide +kernel
theorem d_Long_bitCount_16 : decode b_Long_bitCount 16 = .ok (.iconst 2, 1) := by decide +kernel
theorem d_Long_bitCount_17 : decode b_Long_bitCount 17 = .ok (.lushr, 1) := by decide +kernel
theorem d_Long_bitCount_18 : decode b_Long_bitCount 18 = .ok (.ldc2_w 316, 3) := by decide +kernel
theorem d_Long_bitCount_21 : decode b_Long_bitCount 21 = .ok (.land, 1) := by decide +kernel
theorem d_Long_bitCount_22 : decode b_Long_bitCount 22 = .ok (.ladd, 1) := by decide +kernel
theorem d_Long_bitCount_23 : decode b_Long_bitCount 23 = .ok (.lstore_n 0, 1) := by decide +kernel
theorem d_Long_bitCount_24 : decode b_Long_bitCount 24 = .ok (.lload_n 0, 1) := by decide +kernel
theorem d_Long_bitCount_25 : decode b_Long_bitCount 25 = .ok (.lload_n 0, 1) := by decide +kernel
theorem d_Long_bitCount_26 : decode b_Long_bitCount 26 = .ok (.iconst 4, 1) := by decide +kernel
theorem d_Long_bitCount_27 : decode b_Long_bitCount 27 = .ok (.lushr, 1) := by decide +kernel
theorem d_Long_bitCount_28 : decode b_Long_bitCount 28 = .ok (.ladd, 1) := by decide +kernel
theorem d_Long_bitCount_29 : decode b_Long_bitCount 29 = .ok (.ldc2_w 318, 3) := by decide +kernel
theorem d_Long_bitCount_32 : decode b_Long_bitCount 32 = .ok (.land, 1) := by decide +kernel
theorem d_Long_bitCount_33 : decode b_Long_bitCount 33 = .ok (.lstore_n 0, 1) := by decide +kernel
theorem d_Long_bitCount_34 : decode b_Long_bitCount 34 = .ok (.lload_n 0, 1) := by decide +kernel
theorem d_Long_bitCount_35 : decode b_Long_bitCount 35 = .ok (.lload_n 0, 1) := by decide +kernel
theorem d_Long_bitCount_36 : decode b_Long_bitCount 36 = .ok (.bipush 8, 2) := by decide +kernel
theorem d_Long_bitCount_38 : decode b_Long_bitCount 38 = .ok (.lushr, 1) := by decide +kernel
theorem d_Long_bitCount_39 : decode b_Long_bitCount 39 = .ok (.ladd, 1) := by decide +kernel
theorem d_Long_bitCount_40 : decode b_Long_bitCount 40 = .ok (.lstore_n 0, 1) := by decide +kernel
theorem d_Long_bitCount_41 : decode b_Long_bitCount 41 = .ok (.lload_n 0, 1) := by decide +kernel
theorem d_Long_bitCount_42 : decode b_Long_bitCount 42 = .ok (.lload_n 0, 1) := by decide +kernel
theorem d_Long_bitCount_43 : decode b_Long_bitCount 43 = .ok (.bipush 16, 2) := by decide +kernel
theorem d_Long_bitCount_45 : decode b_Long_bitCount 45 = .ok (.lushr, 1) := by decide +kernel
theorem d_Long_bitCount_46 : decode b_Long_bitCount 46 = .ok (.ladd, 1) := by decide +kernel
theorem d_Long_bitCount_47 : decode b_Long_bitCount 47 = .ok (.lstore_n 0, 1) := by decide +kernel
theorem d_Long_bitCount_48 : decode b_Long_bitCount 48 = .ok (.lload_n 0, 1) := by decide +kernel
theorem d_Long_bitCount_49 : decode b_Long_bitCount 49 = .ok (.lload_n 0, 1) := by decide +kernel
theorem d_Long_bitCount_50 : decode b_Long_bitCount 50 = .ok (.bipush 32, 2) := by decide +kernel
theorem d_Long_bitCount_52 : decode b_Long_bitCount 52 = .ok (.lushr, 1) := by decide +kernel
theorem d_Long_bitCount_53 : decode b_Long_bitCount 53 = .ok (.ladd, 1) := by decide +kernel
theorem d_Long_bitCount_54 : decode b_Long_bitCount 54 = .ok (.lstore_n 0, 1) := by decide +kernel
theorem d_Long_bitCount_55 : decode b_Long_bitCount 55 = .ok (.lload_n 0, 1) := by decide +kernel
theorem d_Long_bitCount_56 : decode b_Long_bitCount 56 = .ok (.l2i, 1) := by decide +kernel
theorem d_Long_bitCount_57 : decode b_Long_bitCount 57 = .ok (.bipush 127, 2) := by decide +kernel
theorem d_Long_bitCount_59 : decode b_Long_bitCount 59 = .ok (.iand, 1) := by decide +kernel
theorem d_Long_bitCount_60 : decode b_Long_bitCount 60 = .ok (.ireturn, 1) := by decide +kernel
theorem d_WO_within_0 : decode b_WO_within 0 = .ok (.lload_n 0, 1) := by decide +kernel
theorem d_WO_within_1 : decode b_WO_within 1 = .ok (.lload_n 2, 1) := by decide +kernel
theorem d_WO_within_2 : decode b_WO_within 2 = .ok (.lcmp, 1) := by decide +kernel
theorem d_WO_within_3 : decode b_WO_within 3 = .ok (.ifCond .lt 14, 3) := by decide +kernel
theorem d_WO_within_6 : decode b_WO_within 6 = .ok (.lload_n 0, 1) := by decide +kernel
theorem d_WO_within_7 : decode b_WO_within 7 = .ok (.lload 4, 2) := by decide +kernel
theorem d_WO_within_9 : decode b_WO_within 9 = .ok (.lcmp, 1) := by decide +kernel
theorem d_WO_within_10 : decode b_WO_within 10 = .ok (.ifCond .gt 7, 3) := by decide +kernel
theorem d_WO_within_13 : decode b_WO_within 13 = .ok (.iconst 1, 1) := by decide +kernel
theorem d_WO_within_14 : decode b_WO_within 14 = .ok (.goto 4, 3) := by decide +kernel
theorem d_WO_within_17 : decode b_WO_within 17 = .ok (.iconst 0, 1) := by decide +kernel
theorem d_WO_within_18 : decode b_WO_within 18 = .ok (.ireturn, 1) := by decide +kernel
theorem d_WO_isPart_0 : decode b_WO_isPart 0 = .ok (.iload_n 0, 1) := by decide +kernel
theorem d_WO_isPart_1 : decode b_WO_isPart 1 = .ok (.ifCond .eq 8, 3) := by decide +kernel
theorem d_WO_isPart_4 : decode b_WO_isPart 4 = .ok (.iload_n 0, 1) := by decide +kernel
theorem d_WO_isPart_5 : decode b_WO_isPart 5 = .ok (.iconst 1, 1) := by decide +kernel
theorem d_WO_isPart_6 : decode b_WO_isPart 6 = .ok (.if_icmp .ne 7, 3) := by decide +kernel
theorem d_WO_isPart_9 : decode b_WO_isPart 9 = .ok (.iconst 1, 1) := by decide +kernel
theorem d_WO_isPart_10 : decode b_WO_isPart 10 = .ok (.goto 4, 3) := by decide +kernel
theorem d_WO_isPart_13 : decode b_WO_isPart 13 = .ok (.iconst 0, 1) := by decide +kernel
theorem d_WO_isPart_14 : decode b_WO_isPart 14 = .ok (.ireturn, 1) := by decide +kernel
theorem d_WO_wrap_0 : decode b_WO_wrap 0 = .ok (.iload_n 1, 1) := by decide +kernel
theorem d_WO_wrap_1 : decode b_WO_wrap 1 = .ok (.ifCond .gt 7, 3) := by decide +kernel
theorem d_WO_wrap_4 : decode b_WO_wrap 4 = .ok (.iconst 0, 1) := by decide +kernel
theorem d_WO_wrap_5 : decode b_WO_wrap 5 = .ok (.goto 8, 3) := by decide +kernel
theorem d_WO_wrap_8 : decode b_WO_wrap 8 = .ok (.iload_n 0, 1) := by decide +kernel
theorem d_WO_wrap_9 : decode b_WO_wrap 9 = .ok (.iload_n 1, 1) := by decide +kernel
theorem d_WO_wrap_10 : decode b_WO_wrap 10 = .ok (.invokestatic 222, 3) := by decide +kernel
theorem d_WO_wrap_13 : decode b_WO_wrap 13 = .ok (.ireturn, 1) := by decide +kernel
theorem d_WO_bitsBelow_0 : decode b_WO_bitsBelow 0 = .ok (.lconst 1, 1) := by decide +kernel
theorem d_WO_bitsBelow_1 : decode b_WO_bitsBelow 1 = .ok (.iconst 0, 1) := by decide +kernel
theorem d_WO_bitsBelow_2 : decode b_WO_bitsBelow 2 = .ok (.iload_n 0, 1) := by decide +kernel
theorem d_WO_bitsBelow_3 : decode b_WO_bitsBelow 3 = .ok (.bipush 60, 2) := by decide +kernel
theorem d_WO_bitsBelow_5 : decode b_WO_bitsBelow 5 = .ok (.invokestatic 231, 3) := by decide +kernel
theorem d_WO_bitsBelow_8 : decode b_WO_bitsBelow 8 = .ok (.invokestatic 240, 3) := by decide +kernel
theorem d_WO_bitsBelow_11 : decode b_WO_bitsBelow 11 = .ok (.lshl, 1) := by decide +kernel
theorem d_WO_bitsBelow_12 : decode b_WO_bitsBelow 12 = .ok (.lconst 1, 1) := by decide +kernel
theorem d_WO_bitsBelow_13 : decode b_WO_bitsBelow 13 = .ok (.lsub, 1) := by decide +kernel
theorem d_WO_bitsBelow_14 : decode b_WO_bitsBelow 14 = .ok (.lreturn, 1) := by decide +kernel
theorem d_WO_rangeBits_0 : decode b_WO_rangeBits 0 = .ok (.iload_n 0, 1) := by decide +kernel
theorem d_WO_rangeBits_1 : decode b_WO_rangeBits 1 = .ok (.iload_n 1, 1) := by decide +kernel
theorem d_WO_rangeBits_2 : decode b_WO_rangeBits 2 = .ok (.if_icmp .lt 7, 3) := by decide +kernel
theorem d_WO_rangeBits_5 : decode b_WO_rangeBits 5 = .ok (.lconst 0, 1) := by decide +kernel
theorem d_WO_rangeBits_6 : decode b_WO_rangeBits 6 = .ok (.goto 20, 3) := by decide +kernel
theorem d_WO_rangeBits_9 : decode b_WO_rangeBits 9 = .ok (.iload_n 1, 1) := by decide +kernel
theorem d_WO_rangeBits_10 : decode b_WO_rangeBits 10 = .ok (.iload_n 2, 1) := by decide +kernel
theorem d_WO_rangeBits_11 : decode b_WO_rangeBits 11 = .ok (.isub, 1) := by decide +kernel
theorem d_WO_rangeBits_12 : decode b_WO_rangeBits 12 = .ok (.invokestatic 237, 3) := by decide +kernel
theorem d_WO_rangeBits_15 : decode b_WO_rangeBits 15 = .ok (.iload_n 0, 1) := by decide +kernel
theorem d_WO_rangeBits_16 : decode b_WO_rangeBits 16 = .ok (.iload_n 2, 1) := by decide +kernel
theorem d_WO_rangeBits_17 : decode b_WO_rangeBits 17 = .ok (.isub, 1) := by decide +kernel
theorem d_WO_rangeBits_18 : decode b_WO_rangeBits 18 = .ok (.invokestatic 237, 3) := by decide +kernel
theorem d_WO_rangeBits_21 : decode b_WO_rangeBits 21 = .ok (.ldc2_w 126, 3) := by decide +kernel
theorem d_WO_rangeBits_24 : decode b_WO_rangeBits 24 = .ok (.lxor, 1) := by decide +kernel
theorem d_WO_rangeBits_25 : decode b_WO_rangeBits 25 = .ok (.land, 1) := by decide +kernel
theorem d_WO_rangeBits_26 : decode b_WO_rangeBits 26 = .ok (.lreturn, 1) := by decide +kernel
theorem d_WO_arcBits_0 : decode b_WO_arcBits 0 = .ok (.iload_n 0, 1) := by decide +kernel
theorem d_WO_arcBits_1 : decode b_WO_arcBits 1 = .ok (.iload_n 1, 1) := by decide +kernel
theorem d_WO_arcBits_2 : decode b_WO_arcBits 2 = .ok (.iadd, 1) := by decide +kernel
theorem d_WO_arcBits_3 : decode b_WO_arcBits 3 = .ok (.istore 4, 2) := by decide +kernel
theorem d_WO_arcBits_5 : decode b_WO_arcBits 5 = .ok (.iload_n 0, 1) := by decide +kernel
theorem d_WO_arcBits_6 : decode b_WO_arcBits 6 = .ok (.iload 4, 2) := by decide +kernel
theorem d_WO_arcBits_8 : decode b_WO_arcBits 8 = .ok (.iload_n 2, 1) := by decide +kernel
theorem d_WO_arcBits_9 : decode b_WO_arcBits 9 = .ok (.invokestatic 231, 3) := by decide +kernel
theorem d_WO_arcBits_12 : decode b_WO_arcBits 12 = .ok (.iload_n 3, 1) := by decide +kernel
theorem d_WO_arcBits_13 : decode b_WO_arcBits 13 = .ok (.invokestatic 234, 3) := by decide +kernel
theorem d_WO_arcBits_16 : decode b_WO_arcBits 16 = .ok (.iconst 0, 1) := by decide +kernel
theorem d_WO_arcBits_17 : decode b_WO_arcBits 17 = .ok (.iload 4, 2) := by decide +kernel
theorem d_WO_arcBits_19 : decode b_WO_arcBits 19 = .ok (.iload_n 2, 1) := by decide +kernel
theorem d_WO_arcBits_20 : decode b_WO_arcBits 20 = .ok (.isub, 1) := by decide +kernel
theorem d_WO_arcBits_21 : decode b_WO_arcBits 21 = .ok (.iload_n 3, 1) := by decide +kernel
theorem d_WO_arcBits_22 : decode b_WO_arcBits 22 = .ok (.invokestatic 234, 3) := by decide +kernel
theorem d_WO_arcBits_25 : decode b_WO_arcBits 25 = .ok (.lor, 1) := by decide +kernel
theorem d_WO_arcBits_26 : decode b_WO_arcBits 26 = .ok (.lreturn, 1) := by decide +kernel
theorem d_WO_shared_0 : decode b_WO_shared 0 = .ok (.iconst 0, 1) := by decide +kernel
theorem d_WO_shared_1 : decode b_WO_shared 1 = .ok (.iload_n 0, 1) := by decide +kernel
theorem d_WO_shared_2 : decode b_WO_shared 2 = .ok (.iload_n 2, 1) := by decide +kernel
theorem d_WO_shared_3 : decode b_WO_shared 3 = .ok (.isub, 1) := by decide +kernel
theorem d_WO_shared_4 : decode b_WO_shared 4 = .ok (.iload_n 1, 1) := by decide +kernel
theorem d_WO_shared_5 : decode b_WO_shared 5 = .ok (.invokestatic 231, 3) := by decide +kernel
theorem d_WO_shared_8 : decode b_WO_shared 8 = .ok (.invokestatic 240, 3) := by decide +kernel
theorem d_WO_shared_11 : decode b_WO_shared 11 = .ok (.istore 4, 2) := by decide +kernel
theorem d_WO_shared_13 : decode b_WO_shared 13 = .ok (.iconst 0, 1) := by decide +kernel
theorem d_WO_shared_14 : decode b_WO_shared 14 = .ok (.iload_n 0, 1) := by decide +kernel
theorem d_WO_shared_15 : decode b_WO_shared 15 = .ok (.iload_n 2, 1) := by decide +kernel
theorem d_WO_shared_16 : decode b_WO_shared 16 = .ok (.iload_n 1, 1) := by decide +kernel
theorem d_WO_shared_17 : decode b_WO_shared 17 = .ok (.iadd, 1) := by decide +kernel
theorem d_WO_shared_18 : decode b_WO_shared 18 = .ok (.iload_n 3, 1) := by decide +kernel
theorem d_WO_shared_19 : decode b_WO_shared 19 = .ok (.isub, 1) := by decide +kernel
theorem d_WO_shared_20 : decode b_WO_shared 20 = .ok (.invokestatic 231, 3) := by decide +kernel
theorem d_WO_shared_23 : decode b_WO_shared 23 = .ok (.invokestatic 240, 3) := by decide +kernel
theorem d_WO_shared_26 : decode b_WO_shared 26 = .ok (.istore 5, 2) := by decide +kernel
theorem d_WO_shared_28 : decode b_WO_shared 28 = .ok (.iload 4, 2) := by decide +kernel
theorem d_WO_shared_30 : decode b_WO_shared 30 = .ok (.iload 5, 2) := by decide +kernel
theorem d_WO_shared_32 : decode b_WO_shared 32 = .ok (.iadd, 1) := by decide +kernel
theorem d_WO_shared_33 : decode b_WO_shared 33 = .ok (.ireturn, 1) := by decide +kernel
theorem d_WO_commonDivisor_0 : decode b_WO_commonDivisor 0 = .ok (.lload_n 0, 1) := by decide +kernel
theorem d_WO_commonDivisor_1 : decode b_WO_commonDivisor 1 = .ok (.lstore 4, 2) := by decide +kernel
theorem d_WO_commonDivisor_3 : decode b_WO_commonDivisor 3 = .ok (.lload_n 2, 1) := by decide +kernel
theorem d_WO_commonDivisor_4 : decode b_WO_commonDivisor 4 = .ok (.lstore 6, 2) := by decide +kernel
theorem d_WO_commonDivisor_6 : decode b_WO_commonDivisor 6 = .ok (.iconst 0, 1) := by decide +kernel
theorem d_WO_commonDivisor_7 : decode b_WO_commonDivisor 7 = .ok (.istore 8, 2) := by decide +kernel
theorem d_WO_commonDivisor_9 : decode b_WO_commonDivisor 9 = .ok (.lload 6, 2) := by decide +kernel
theorem d_WO_commonDivisor_11 : decode b_WO_commonDivisor 11 = .ok (.lconst 0, 1) := by decide +kernel
theorem d_WO_commonDivisor_12 : decode b_WO_commonDivisor 12 = .ok (.lcmp, 1) := by decide +kernel
theorem d_WO_commonDivisor_13 : decode b_WO_commonDivisor 13 = .ok (.ifCond .eq 32, 3) := by decide +kernel
theorem d_WO_commonDivisor_16 : decode b_WO_commonDivisor 16 = .ok (.iload 8, 2) := by decide +kernel
theorem d_WO_commonDivisor_18 : decode b_WO_commonDivisor 18 = .ok (.sipush 200, 3) := by decide +kernel
theorem d_WO_commonDivisor_21 : decode b_WO_commonDivisor 21 = .ok (.if_icmp .ge 24, 3) := by decide +kernel
theorem d_WO_commonDivisor_24 : decode b_WO_commonDivisor 24 = .ok (.lload 4, 2) := by decide +kernel
theorem d_WO_commonDivisor_26 : decode b_WO_commonDivisor 26 = .ok (.lload 6, 2) := by decide +kernel
theorem d_WO_commonDivisor_28 : decode b_WO_commonDivisor 28 = .ok (.lrem, 1) := by decide +kernel
theorem d_WO_commonDivisor_29 : decode b_WO_commonDivisor 29 = .ok (.lstore 9, 2) := by decide +kernel
theorem d_WO_commonDivisor_31 : decode b_WO_commonDivisor 31 = .ok (.lload 6, 2) := by decide +kernel
theorem d_WO_commonDivisor_33 : decode b_WO_commonDivisor 33 = .ok (.lstore 4, 2) := by decide +kernel
theorem d_WO_commonDivisor_35 : decode b_WO_commonDivisor 35 = .ok (.lload 9, 2) := by decide +kernel
theorem d_WO_commonDivisor_37 : decode b_WO_commonDivisor 37 = .ok (.lstore 6, 2) := by decide +kernel
theorem d_WO_commonDivisor_39 : decode b_WO_commonDivisor 39 = .ok (.iinc 8 1, 3) := by decide +kernel
theorem d_WO_commonDivisor_42 : decode b_WO_commonDivisor 42 = .ok (.goto (-33), 3) := by decide +kernel
theorem d_WO_commonDivisor_45 : decode b_WO_commonDivisor 45 = .ok (.lload 4, 2) := by decide +kernel
theorem d_WO_commonDivisor_47 : decode b_WO_commonDivisor 47 = .ok (.lreturn, 1) := by decide +kernel
theorem d_WO_leastTerms_0 : decode b_WO_leastTerms 0 = .ok (.lload_n 0, 1) := by decide +kernel
theorem d_WO_leastTerms_1 : decode b_WO_leastTerms 1 = .ok (.lload_n 2, 1) := by decide +kernel
theorem d_WO_leastTerms_2 : decode b_WO_leastTerms 2 = .ok (.invokestatic 227, 3) := by decide +kernel
theorem d_WO_leastTerms_5 : decode b_WO_leastTerms 5 = .ok (.lstore 5, 2) := by decide +kernel
theorem d_WO_leastTerms_7 : decode b_WO_leastTerms 7 = .ok (.lload 5, 2) := by decide +kernel
theorem d_WO_leastTerms_9 : decode b_WO_leastTerms 9 = .ok (.lconst 0, 1) := by decide +kernel
theorem d_WO_leastTerms_10 : decode b_WO_leastTerms 10 = .ok (.lcmp, 1) := by decide +kernel
theorem d_WO_leastTerms_11 : decode b_WO_leastTerms 11 = .ok (.ifCond .gt 7, 3) := by decide +kernel
theorem d_WO_leastTerms_14 : decode b_WO_leastTerms 14 = .ok (.ldc2_w 126, 3) := by decide +kernel
theorem d_WO_leastTerms_17 : decode b_WO_leastTerms 17 = .ok (.lreturn, 1) := by decide +kernel
theorem d_WO_leastTerms_18 : decode b_WO_leastTerms 18 = .ok (.iload 4, 2) := by decide +kernel
theorem d_WO_leastTerms_20 : decode b_WO_leastTerms 20 = .ok (.ifCond .ne 10, 3) := by decide +kernel
theorem d_WO_leastTerms_23 : decode b_WO_leastTerms 23 = .ok (.lload_n 0, 1) := by decide +kernel
theorem d_WO_leastTerms_24 : decode b_WO_leastTerms 24 = .ok (.lload 5, 2) := by decide +kernel
theorem d_WO_leastTerms_26 : decode b_WO_leastTerms 26 = .ok (.ldiv, 1) := by decide +kernel
theorem d_WO_leastTerms_27 : decode b_WO_leastTerms 27 = .ok (.goto 7, 3) := by decide +kernel
theorem d_WO_leastTerms_30 : decode b_WO_leastTerms 30 = .ok (.lload_n 2, 1) := by decide +kernel
theorem d_WO_leastTerms_31 : decode b_WO_leastTerms 31 = .ok (.lload 5, 2) := by decide +kernel
theorem d_WO_leastTerms_33 : decode b_WO_leastTerms 33 = .ok (.ldiv, 1) := by decide +kernel
theorem d_WO_leastTerms_34 : decode b_WO_leastTerms 34 = .ok (.lreturn, 1) := by decide +kernel
set_option maxRecDepth 50000 in
theorem lk_0 : Cond.constantLong R_Long 314 6148914691236517205 ∈ lw_good := List.mem_filter.mpr ⟨List.mem_append_right _ (List.mem_of_getElem? (i := 427) (by decide +kernel)), rfl⟩
set_option maxRecDepth 50000 in
theorem lk_1 : Cond.constantLong R_Long 316 3689348814741910323 ∈ lw_good := List.mem_filter.mpr ⟨List.mem_append_right _ (List.mem_of_getElem? (i := 428) (by decide +kernel)), rfl⟩
set_option maxRecDepth 50000 in
theorem lk_2 : Cond.constantLong R_Long 318 1085102592571150095 ∈ lw_good := List.mem_filter.mpr ⟨List.mem_append_right _ (List.mem_of_getElem? (i := 429) (by decide +kernel)), rfl⟩
set_option maxRecDepth 50000 in
theorem lk_3 : Cond.methodLink R_WO 222 y_Math_floorMod ∈ lw_good := List.mem_filter.mpr ⟨List.mem_append_right _ (List.mem_of_getElem? (i := 313) (by decide +kernel)), rfl⟩
set_option maxRecDepth 50000 in
theorem lk_4 : Cond.code y_Math_floorMod b_Math_floorMod 3 (some .int) ∈ lw_good := List.mem_filter.mpr ⟨List.mem_append_right _ (List.mem_of_getElem? (i := 315) rfl), rfl⟩
set_option maxRecDepth 50000 in
theorem lk_5 : Cond.static y_Math_floorMod ∈ lw_good := List.mem_filter.mpr ⟨List.mem_append_right _ (List.mem_of_getElem? (i := 314) (by decide +kernel)), rfl⟩
set_option maxRecDepth 50000 in
theorem lk_6 : Cond.initialized R_Math ∈ lw_good := List.mem_filter.mpr ⟨List.mem_append_right _ (List.mem_of_getElem? (i := 11) (by decide +kernel)), rfl⟩
set_option maxRecDepth 50000 in
theorem lk_7 : Cond.methodLink R_WO 231 y_Math_min ∈ lw_good := List.mem_filter.mpr ⟨List.mem_append_right _ (List.mem_of_getElem? (i := 381) (by decide +kernel)), rfl⟩
set_option maxRecDepth 50000 in
theorem lk_8 : Cond.code y_Math_min b_Math_min 2 (some .int) ∈ lw_good := List.mem_filter.mpr ⟨List.mem_append_right _ (List.mem_of_getElem? (i := 383) rfl), rfl⟩
set_option maxRecDepth 50000 in
theorem lk_9 : Cond.static y_Math_min ∈ lw_good := List.mem_filter.mpr ⟨List.mem_append_right _ (List.mem_of_getElem? (i := 382) (by decide +kernel)), rfl⟩
set_option maxRecDepth 50000 in
theorem lk_10 : Cond.methodLink R_WO 240 y_Math_max ∈ lw_good := List.mem_filter.mpr ⟨List.mem_append_right _ (List.mem_of_getElem? (i := 390) (by decide +kernel)), rfl⟩
set_option maxRecDepth 50000 in
theorem lk_11 : Cond.code y_Math_max b_Math_max 2 (some .int) ∈ lw_good := List.mem_filter.mpr ⟨List.mem_append_right _ (List.mem_of_getElem? (i := 392) rfl), rfl⟩
set_option maxRecDepth 50000 in
theorem lk_12 : Cond.static y_Math_max ∈ lw_good := List.mem_filter.mpr ⟨List.mem_append_right _ (List.mem_of_getElem? (i := 391) (by decide +kernel)), rfl⟩
set_option maxRecDepth 50000 in
theorem lk_13 : Cond.methodLink R_WO 237 y_WO_bitsBelow ∈ lw_good := List.mem_filter.mpr ⟨List.mem_append_right _ (List.mem_of_getElem? (i := 387) (by decide +kernel)), rfl⟩
set_option maxRecDepth 50000 in
theorem lk_14 : Cond.code y_WO_bitsBelow b_WO_bitsBelow 1 (some .long) ∈ lw_good := List.mem_filter.mpr ⟨List.mem_append_right _ (List.mem_of_getElem? (i := 389) rfl), rfl⟩
set_option maxRecDepth 50000 in
theorem lk_15 : Cond.static y_WO_bitsBelow ∈ lw_good := List.mem_filter.mpr ⟨List.mem_append_right _ (List.mem_of_getElem? (i := 388) (by decide +kernel)), rfl⟩
set_option maxRecDepth 50000 in
theorem lk_16 : Cond.initialized R_WO ∈ lw_good := List.mem_filter.mpr ⟨List.mem_append_right _ (List.mem_of_getElem? (i := 1) (by decide +kernel)), rfl⟩
set_option maxRecDepth 50000 in
theorem lk_17 : Cond.constantLong R_WO 126 (-1) ∈ lw_good := List.mem_filter.mpr ⟨List.mem_append_right _ (List.mem_of_getElem? (i := 393) (by decide +kernel)), rfl⟩
set_option maxRecDepth 50000 in
theorem lk_18 : Cond.methodLink R_WO 234 y_WO_rangeBits ∈ lw_good := List.mem_filter.mpr ⟨List.mem_append_right _ (List.mem_of_getElem? (i := 384) (by decide +kernel)), rfl⟩
set_option maxRecDepth 50000 in
theorem lk_19 : Cond.code y_WO_rangeBits b_WO_rangeBits 3 (some .long) ∈ lw_good := List.mem_filter.mpr ⟨List.mem_append_right _ (List.mem_of_getElem? (i := 386) rfl), rfl⟩
set_option maxRecDepth 50000 in
theorem lk_20 : Cond.static y_WO_rangeBits ∈ lw_good := List.mem_filter.mpr ⟨List.mem_append_right _ (List.mem_of_getElem? (i := 385) (by decide +kernel)), rfl⟩
set_option maxRecDepth 50000 in
theorem lk_21 : Cond.methodLink R_WO 227 y_WO_commonDivisor ∈ lw_good := List.mem_filter.mpr ⟨List.mem_append_right _ (List.mem_of_getElem? (i := 464) (by decide +kernel)), rfl⟩
set_option maxRecDepth 50000 in
theorem lk_22 : Cond.code y_WO_commonDivisor b_WO_commonDivisor 11 (some .long) ∈ lw_good := List.mem_filter.mpr ⟨List.mem_append_right _ (List.mem_of_getElem? (i := 466) rfl), rfl⟩
set_option maxRecDepth 50000 in
theorem lk_23 : Cond.static y_WO_commonDivisor ∈ lw_good := List.mem_filter.mpr ⟨List.mem_append_right _ (List.mem_of_getElem? (i := 465) (by decide +kernel)), rfl⟩
def p_Math_min (n : Nat) (x0 : Int32) (x1 : Int32) : Option (Int32) :=
  if x1 < x0 then
    some x1
  else
    some x0
abbrev m_Math_min : Room := { frames := 0, cells := 0, slots := 0, locals := 0 }
set_option maxHeartbeats 4000000 in
set_option maxRecDepth 100000 in
theorem c_Math_min (l : Launch) (G : va_G) (K : Nat → ClassId) (n : Nat) (x0 : Int32) (x1 : Int32) (o : Int32) (hF : p_Math_min n x0 x1 = some o) :
    Met l y_Math_min (wd y_Math_min b_Math_min 2 (some .int)) m_Math_min (dk_Pp [.int x0, .int x1] G K []) (dk_Qp (some (.int o))) 0 0 (fun _ => False) := by
  refine va_MetF (cc := b_Math_min) (maxL := 2) (ret := (some .int)) (by decide +kernel) rfl ?_
  intro p e s m args below meth c s₁ B hml hv
  obtain ⟨rfl, hP, hK, hN⟩ := hv
  have hx := B.exec
  have hb := B.bytes
  have hr := B.returns
  have hts : ∀ w ∈ lw_good, w.before _ s = true := fun w h => atoms_spec (ws := wd y_Math_min b_Math_min 2 (some .int)) B.pre w (List.mem_cons_of_mem _ h)
  have hown : s.vm.findClass R_Math = some m.cls := findClass_of_methodNamed B.named
  have hlocks := B.notSynchronized
  have hfix : CallFix p m c b_Math_min 2 s _ lw_good R_Math := ⟨hx, hb, hml, hown, hts⟩
  have hl := lv_entry ([.int x0, .int x1]) (n := 2) (Nat.le_of_ble_eq_true rfl)
  rw [lg_entry_eq]
  generalize (lg_sl ([.int x0, .int x1]) ++ List.replicate (2 - (lg_sl ([.int x0, .int x1])).length) Slot.unset).toArray = ls at hl ⊢
  have hl : lv_has ls 2 [(0, .int x0), (1, .int x1)] := hl
  change W p l e m_Math_min s m _ below meth c s.heap [] 0 0 _ _
  unfold p_Math_min at hF
  refine lv_iload_n hx hb d_Math_min_0 rfl (lv_at hl 0 rfl) ?_
  refine lv_iload_n hx hb d_Math_min_1 rfl (lv_at hl 1 rfl) ?_
  refine lv_icmp_gt (tgt := 9) hx hb d_Math_min_2 (by decide) (fun c2_1 => ?_) (fun c2_1 => ?_)
  · have hF := dk_t c2_1 hF
    refine lv_iload_n hx hb d_Math_min_9 rfl (lv_at hl 1 rfl) ?_
    obtain rfl := Option.some.inj hF
    exact W.iret (v := x1) hx hb hr (fun t ht hW => ⟨rfl, ht⟩) (fun _ h => by cases h) d_Math_min_10
  · have hF := dk_f c2_1 hF
    refine lv_iload_n hx hb d_Math_min_5 rfl (lv_at hl 0 rfl) ?_
    refine lv_goto (tgt := 10) hx hb d_Math_min_6 (by decide) ?_
    obtain rfl := Option.some.inj hF
    exact W.iret (v := x0) hx hb hr (fun t ht hW => ⟨rfl, ht⟩) (fun _ h => by cases h) d_Math_min_10
def p_Math_max (n : Nat) (x0 : Int32) (x1 : Int32) : Option (Int32) :=
  if x0 < x1 then
    some x1
  else
    some x0
abbrev m_Math_max : Room := { frames := 0, cells := 0, slots := 0, locals := 0 }
set_option maxHeartbeats 4000000 in
set_option maxRecDepth 100000 in
theorem c_Math_max (l : Launch) (G : va_G) (K : Nat → ClassId) (n : Nat) (x0 : Int32) (x1 : Int32) (o : Int32) (hF : p_Math_max n x0 x1 = some o) :
    Met l y_Math_max (wd y_Math_max b_Math_max 2 (some .int)) m_Math_max (dk_Pp [.int x0, .int x1] G K []) (dk_Qp (some (.int o))) 0 0 (fun _ => False) := by
  refine va_MetF (cc := b_Math_max) (maxL := 2) (ret := (some .int)) (by decide +kernel) rfl ?_
  intro p e s m args below meth c s₁ B hml hv
  obtain ⟨rfl, hP, hK, hN⟩ := hv
  have hx := B.exec
  have hb := B.bytes
  have hr := B.returns
  have hts : ∀ w ∈ lw_good, w.before _ s = true := fun w h => atoms_spec (ws := wd y_Math_max b_Math_max 2 (some .int)) B.pre w (List.mem_cons_of_mem _ h)
  have hown : s.vm.findClass R_Math = some m.cls := findClass_of_methodNamed B.named
  have hlocks := B.notSynchronized
  have hfix : CallFix p m c b_Math_max 2 s _ lw_good R_Math := ⟨hx, hb, hml, hown, hts⟩
  have hl := lv_entry ([.int x0, .int x1]) (n := 2) (Nat.le_of_ble_eq_true rfl)
  rw [lg_entry_eq]
  generalize (lg_sl ([.int x0, .int x1]) ++ List.replicate (2 - (lg_sl ([.int x0, .int x1])).length) Slot.unset).toArray = ls at hl ⊢
  have hl : lv_has ls 2 [(0, .int x0), (1, .int x1)] := hl
  change W p l e m_Math_max s m _ below meth c s.heap [] 0 0 _ _
  unfold p_Math_max at hF
  refine lv_iload_n hx hb d_Math_max_0 rfl (lv_at hl 0 rfl) ?_
  refine lv_iload_n hx hb d_Math_max_1 rfl (lv_at hl 1 rfl) ?_
  refine lv_icmp_lt (tgt := 9) hx hb d_Math_max_2 (by decide) (fun c2_1 => ?_) (fun c2_1 => ?_)
  · have hF := dk_t c2_1 hF
    refine lv_iload_n hx hb d_Math_max_9 rfl (lv_at hl 1 rfl) ?_
    obtain rfl := Option.some.inj hF
    exact W.iret (v := x1) hx hb hr (fun t ht hW => ⟨rfl, ht⟩) (fun _ h => by cases h) d_Math_max_10
  · have hF := dk_f c2_1 hF
    refine lv_iload_n hx hb d_Math_max_5 rfl (lv_at hl 0 rfl) ?_
    refine lv_goto (tgt := 10) hx hb d_Math_max_6 (by decide) ?_
    obtain rfl := Option.some.inj hF
    exact W.iret (v := x0) hx hb hr (fun t ht hW => ⟨rfl, ht⟩) (fun _ h => by cases h) d_Math_max_10
def p_Math_floorMod (n : Nat) (x0 : Int32) (x1 : Int32) : Option (Int32) :=
  if x1 = 0 then none else
  if 0 ≤ (x0 ^^^ x1) then
    some (x0 - x0 / x1 * x1)
  else
    if (x0 - x0 / x1 * x1) = 0 then
      some (x0 - x0 / x1 * x1)
    else
      some ((x0 - x0 / x1 * x1) + x1)
abbrev m_Math_floorMod : Room := { frames := 0, cells := 0, slots := 0, locals := 0 }
set_option maxHeartbeats 4000000 in
set_option maxRecDepth 100000 in
theorem c_Math_floorMod (l : Launch) (G : va_G) (K : Nat → ClassId) (n : Nat) (x0 : Int32) (x1 : Int32) (o : Int32) (hF : p_Math_floorMod n x0 x1 = some o) :
    Met l y_Math_floorMod (wd y_Math_floorMod b_Math_floorMod 3 (some .int)) m_Math_floorMod (dk_Pp [.int x0, .int x1] G K []) (dk_Qp (some (.int o))) 0 0 (fun _ => False) := by
  refine va_MetF (cc := b_Math_floorMod) (maxL := 3) (ret := (some .int)) (by decide +kernel) rfl ?_
  intro p e s m args below meth c s₁ B hml hv
  obtain ⟨rfl, hP, hK, hN⟩ := hv
  have hx := B.exec
  have hb := B.bytes
  have hr := B.returns
  have hts : ∀ w ∈ lw_good, w.before _ s = true := fun w h => atoms_spec (ws := wd y_Math_floorMod b_Math_floorMod 3 (some .int)) B.pre w (List.mem_cons_of_mem _ h)
  have hown : s.vm.findClass R_Math = some m.cls := findClass_of_methodNamed B.named
  have hlocks := B.notSynchronized
  have hfix : CallFix p m c b_Math_floorMod 3 s _ lw_good R_Math := ⟨hx, hb, hml, hown, hts⟩
  have hl := lv_entry ([.int x0, .int x1]) (n := 3) (Nat.le_of_ble_eq_true rfl)
  rw [lg_entry_eq]
  generalize (lg_sl ([.int x0, .int x1]) ++ List.replicate (3 - (lg_sl ([.int x0, .int x1])).length) Slot.unset).toArray = ls at hl ⊢
  have hl : lv_has ls 3 [(0, .int x0), (1, .int x1)] := hl
  change W p l e m_Math_floorMod s m _ below meth c s.heap [] 0 0 _ _
  unfold p_Math_floorMod at hF
  refine lv_iload_n hx hb d_Math_floorMod_0 rfl (lv_at hl 0 rfl) ?_
  refine lv_iload_n hx hb d_Math_floorMod_1 rfl (lv_at hl 1 rfl) ?_
  obtain ⟨hz, hF⟩ := dk_z hF
  refine lv_irem hx hb d_Math_floorMod_2 hz ?_
  refine lv_istore_n (lv' := [(2, .int (x0 - x0 / x1 * x1)), (0, .int x0), (1, .int x1)]) hx hb d_Math_floorMod_3 rfl hl (by decide) rfl (fun ls hl => ?_)
  refine lv_iload_n hx hb d_Math_floorMod_4 rfl (lv_at hl 1 rfl) ?_
  refine lv_iload_n hx hb d_Math_floorMod_5 rfl (lv_at hl 2 rfl) ?_
  refine lv_ixor hx hb d_Math_floorMod_6 ?_
  refine lv_if_ge (tgt := 18) hx hb d_Math_floorMod_7 (by decide) (fun c7_1 => ?_) (fun c7_1 => ?_)
  · have hF := dk_t c7_1 hF
    refine lv_iload_n hx hb d_Math_floorMod_18 rfl (lv_at hl 0 rfl) ?_
    obtain rfl := Option.some.inj hF
    exact W.iret (v := x0 - x0 / x1 * x1) hx hb hr (fun t ht hW => ⟨rfl, ht⟩) (fun _ h => by cases h) d_Math_floorMod_19
  · have hF := dk_f c7_1 hF
    refine lv_iload_n hx hb d_Math_floorMod_10 rfl (lv_at hl 0 rfl) ?_
    refine lv_if_eq (tgt := 18) hx hb d_Math_floorMod_11 (by decide) (fun c11_2 => ?_) (fun c11_2 => ?_)
    · have hF := dk_t c11_2 hF
      refine lv_iload_n hx hb d_Math_floorMod_18 rfl (lv_at hl 0 rfl) ?_
      obtain rfl := Option.some.inj hF
      exact W.iret (v := x0 - x0 / x1 * x1) hx hb hr (fun t ht hW => ⟨rfl, ht⟩) (fun _ h => by cases h) d_Math_floorMod_19
    · have hF := dk_f c11_2 hF
      refine lv_iload_n hx hb d_Math_floorMod_14 rfl (lv_at hl 0 rfl) ?_
      refine lv_iload_n hx hb d_Math_floorMod_15 rfl (lv_at hl 2 rfl) ?_
      refine lv_iadd hx hb d_Math_floorMod_16 ?_
      obtain rfl := Option.some.inj hF
      exact W.iret (v := (x0 - x0 / x1 * x1) + x1) hx hb hr (fun t ht hW => ⟨rfl, ht⟩) (fun _ h => by cases h) d_Math_floorMod_17
def p_Long_bitCount (n : Nat) (x0 : Int64) : Option (Int32) :=
  some ((((((((((x0 - (((x0.toUInt64 >>> ((1 : Int32).toInt64.toUInt64 &&& Int64.toUInt64 63)).toInt64) &&& (6148914691236517205 : Int64))) &&& (3689348814741910323 : Int64)) + ((((x0 - (((x0.toUInt64 >>> ((1 : Int32).toInt64.toUInt64 &&& Int64.toUInt64 63)).toInt64) &&& (6148914691236517205 : Int64))).toUInt64 >>> ((2 : Int32).toInt64.toUInt64 &&& Int64.toUInt64 63)).toInt64) &&& (3689348814741910323 : Int64))) + (((((x0 - (((x0.toUInt64 >>> ((1 : Int32).toInt64.toUInt64 &&& Int64.toUInt64 63)).toInt64) &&& (6148914691236517205 : Int64))) &&& (3689348814741910323 : Int64)) + ((((x0 - (((x0.toUInt64 >>> ((1 : Int32).toInt64.toUInt64 &&& Int64.toUInt64 63)).toInt64) &&& (6148914691236517205 : Int64))).toUInt64 >>> ((2 : Int32).toInt64.toUInt64 &&& Int64.toUInt64 63)).toInt64) &&& (3689348814741910323 : Int64))).toUInt64 >>> ((4 : Int32).toInt64.toUInt64 &&& Int64.toUInt64 63)).toInt64)) &&& (1085102592571150095 : Int64)) + (((((((x0 - (((x0.toUInt64 >>> ((1 : Int32).toInt64.toUInt64 &&& Int64.toUInt64 63)).toInt64) &&& (6148914691236517205 : Int64))) &&& (3689348814741910323 : Int64)) + ((((x0 - (((x0.toUInt64 >>> ((1 : Int32).toInt64.toUInt64 &&& Int64.toUInt64 63)).toInt64) &&& (6148914691236517205 : Int64))).toUInt64 >>> ((2 : Int32).toInt64.toUInt64 &&& Int64.toUInt64 63)).toInt64) &&& (3689348814741910323 : Int64))) + (((((x0 - (((x0.toUInt64 >>> ((1 : Int32).toInt64.toUInt64 &&& Int64.toUInt64 63)).toInt64) &&& (6148914691236517205 : Int64))) &&& (3689348814741910323 : Int64)) + ((((x0 - (((x0.toUInt64 >>> ((1 : Int32).toInt64.toUInt64 &&& Int64.toUInt64 63)).toInt64) &&& (6148914691236517205 : Int64))).toUInt64 >>> ((2 : Int32).toInt64.toUInt64 &&& Int64.toUInt64 63)).toInt64) &&& (3689348814741910323 : Int64))).toUInt64 >>> ((4 : Int32).toInt64.toUInt64 &&& Int64.toUInt64 63)).toInt64)) &&& (1085102592571150095 : Int64)).toUInt64 >>> ((8 : Int32).toInt64.toUInt64 &&& Int64.toUInt64 63)).toInt64)) + ((((((((x0 - (((x0.toUInt64 >>> ((1 : Int32).toInt64.toUInt64 &&& Int64.toUInt64 63)).toInt64) &&& (6148914691236517205 : Int64))) &&& (3689348814741910323 : Int64)) + ((((x0 - (((x0.toUInt64 >>> ((1 : Int32).toInt64.toUInt64 &&& Int64.toUInt64 63)).toInt64) &&& (6148914691236517205 : Int64))).toUInt64 >>> ((2 : Int32).toInt64.toUInt64 &&& Int64.toUInt64 63)).toInt64) &&& (3689348814741910323 : Int64))) + (((((x0 - (((x0.toUInt64 >>> ((1 : Int32).toInt64.toUInt64 &&& Int64.toUInt64 63)).toInt64) &&& (6148914691236517205 : Int64))) &&& (3689348814741910323 : Int64)) + ((((x0 - (((x0.toUInt64 >>> ((1 : Int32).toInt64.toUInt64 &&& Int64.toUInt64 63)).toInt64) &&& (6148914691236517205 : Int64))).toUInt64 >>> ((2 : Int32).toInt64.toUInt64 &&& Int64.toUInt64 63)).toInt64) &&& (3689348814741910323 : Int64))).toUInt64 >>> ((4 : Int32).toInt64.toUInt64 &&& Int64.toUInt64 63)).toInt64)) &&& (1085102592571150095 : Int64)) + (((((((x0 - (((x0.toUInt64 >>> ((1 : Int32).toInt64.toUInt64 &&& Int64.toUInt64 63)).toInt64) &&& (6148914691236517205 : Int64))) &&& (3689348814741910323 : Int64)) + ((((x0 - (((x0.toUInt64 >>> ((1 : Int32).toInt64.toUInt64 &&& Int64.toUInt64 63)).toInt64) &&& (6148914691236517205 : Int64))).toUInt64 >>> ((2 : Int32).toInt64.toUInt64 &&& Int64.toUInt64 63)).toInt64) &&& (3689348814741910323 : Int64))) + (((((x0 - (((x0.toUInt64 >>> ((1 : Int32).toInt64.toUInt64 &&& Int64.toUInt64 63)).toInt64) &&& (6148914691236517205 : Int64))) &&& (3689348814741910323 : Int64)) + ((((x0 - (((x0.toUInt64 >>> ((1 : Int32).toInt64.toUInt64 &&& Int64.toUInt64 63)).toInt64) &&& (6148914691236517205 : Int64))).toUInt64 >>> ((2 : Int32).toInt64.toUInt64 &&& Int64.toUInt64 63)).toInt64) &&& (3689348814741910323 : Int64))).toUInt64 >>> ((4 : Int32).toInt64.toUInt64 &&& Int64.toUInt64 63)).toInt64)) &&& (1085102592571150095 : Int64)).toUInt64 >>> ((8 : Int32).toInt64.toUInt64 &&& Int64.toUInt64 63)).toInt64)).toUInt64 >>> ((16 : Int32).toInt64.toUInt64 &&& Int64.toUInt64 63)).toInt64)) + (((((((((x0 - (((x0.toUInt64 >>> ((1 : Int32).toInt64.toUInt64 &&& Int64.toUInt64 63)).toInt64) &&& (6148914691236517205 : Int64))) &&& (3689348814741910323 : Int64)) + ((((x0 - (((x0.toUInt64 >>> ((1 : Int32).toInt64.toUInt64 &&& Int64.toUInt64 63)).toInt64) &&& (6148914691236517205 : Int64))).toUInt64 >>> ((2 : Int32).toInt64.toUInt64 &&& Int64.toUInt64 63)).toInt64) &&& (3689348814741910323 : Int64))) + (((((x0 - (((x0.toUInt64 >>> ((1 : Int32).toInt64.toUInt64 &&& Int64.toUInt64 63)).toInt64) &&& (6148914691236517205 : Int64))) &&& (3689348814741910323 : Int64)) + ((((x0 - (((x0.toUInt64 >>> ((1 : Int32).toInt64.toUInt64 &&& Int64.toUInt64 63)).toInt64) &&& (6148914691236517205 : Int64))).toUInt64 >>> ((2 : Int32).toInt64.toUInt64 &&& Int64.toUInt64 63)).toInt64) &&& (3689348814741910323 : Int64))).toUInt64 >>> ((4 : Int32).toInt64.toUInt64 &&& Int64.toUInt64 63)).toInt64)) &&& (1085102592571150095 : Int64)) + (((((((x0 - (((x0.toUInt64 >>> ((1 : Int32).toInt64.toUInt64 &&& Int64.toUInt64 63)).toInt64) &&& (6148914691236517205 : Int64))) &&& (3689348814741910323 : Int64)) + ((((x0 - (((x0.toUInt64 >>> ((1 : Int32).toInt64.toUInt64 &&& Int64.toUInt64 63)).toInt64) &&& (6148914691236517205 : Int64))).toUInt64 >>> ((2 : Int32).toInt64.toUInt64 &&& Int64.toUInt64 63)).toInt64) &&& (3689348814741910323 : Int64))) + (((((x0 - (((x0.toUInt64 >>> ((1 : Int32).toInt64.toUInt64 &&& Int64.toUInt64 63)).toInt64) &&& (6148914691236517205 : Int64))) &&& (3689348814741910323 : Int64)) + ((((x0 - (((x0.toUInt64 >>> ((1 : Int32).toInt64.toUInt64 &&& Int64.toUInt64 63)).toInt64) &&& (6148914691236517205 : Int64))).toUInt64 >>> ((2 : Int32).toInt64.toUInt64 &&& Int64.toUInt64 63)).toInt64) &&& (3689348814741910323 : Int64))).toUInt64 >>> ((4 : Int32).toInt64.toUInt64 &&& Int64.toUInt64 63)).toInt64)) &&& (1085102592571150095 : Int64)).toUInt64 >>> ((8 : Int32).toInt64.toUInt64 &&& Int64.toUInt64 63)).toInt64)) + ((((((((x0 - (((x0.toUInt64 >>> ((1 : Int32).toInt64.toUInt64 &&& Int64.toUInt64 63)).toInt64) &&& (6148914691236517205 : Int64))) &&& (3689348814741910323 : Int64)) + ((((x0 - (((x0.toUInt64 >>> ((1 : Int32).toInt64.toUInt64 &&& Int64.toUInt64 63)).toInt64) &&& (6148914691236517205 : Int64))).toUInt64 >>> ((2 : Int32).toInt64.toUInt64 &&& Int64.toUInt64 63)).toInt64) &&& (3689348814741910323 : Int64))) + (((((x0 - (((x0.toUInt64 >>> ((1 : Int32).toInt64.toUInt64 &&& Int64.toUInt64 63)).toInt64) &&& (6148914691236517205 : Int64))) &&& (3689348814741910323 : Int64)) + ((((x0 - (((x0.toUInt64 >>> ((1 : Int32).toInt64.toUInt64 &&& Int64.toUInt64 63)).toInt64) &&& (6148914691236517205 : Int64))).toUInt64 >>> ((2 : Int32).toInt64.toUInt64 &&& Int64.toUInt64 63)).toInt64) &&& (3689348814741910323 : Int64))).toUInt64 >>> ((4 : Int32).toInt64.toUInt64 &&& Int64.toUInt64 63)).toInt64)) &&& (1085102592571150095 : Int64)) + (((((((x0 - (((x0.toUInt64 >>> ((1 : Int32).toInt64.toUInt64 &&& Int64.toUInt64 63)).toInt64) &&& (6148914691236517205 : Int64))) &&& (3689348814741910323 : Int64)) + ((((x0 - (((x0.toUInt64 >>> ((1 : Int32).toInt64.toUInt64 &&& Int64.toUInt64 63)).toInt64) &&& (6148914691236517205 : Int64))).toUInt64 >>> ((2 : Int32).toInt64.toUInt64 &&& Int64.toUInt64 63)).toInt64) &&& (3689348814741910323 : Int64))) + (((((x0 - (((x0.toUInt64 >>> ((1 : Int32).toInt64.toUInt64 &&& Int64.toUInt64 63)).toInt64) &&& (6148914691236517205 : Int64))) &&& (3689348814741910323 : Int64)) + ((((x0 - (((x0.toUInt64 >>> ((1 : Int32).toInt64.toUInt64 &&& Int64.toUInt64 63)).toInt64) &&& (6148914691236517205 : Int64))).toUInt64 >>> ((2 : Int32).toInt64.toUInt64 &&& Int64.toUInt64 63)).toInt64) &&& (3689348814741910323 : Int64))).toUInt64 >>> ((4 : Int32).toInt64.toUInt64 &&& Int64.toUInt64 63)).toInt64)) &&& (1085102592571150095 : Int64)).toUInt64 >>> ((8 : Int32).toInt64.toUInt64 &&& Int64.toUInt64 63)).toInt64)).toUInt64 >>> ((16 : Int32).toInt64.toUInt64 &&& Int64.toUInt64 63)).toInt64)).toUInt64 >>> ((32 : Int32).toInt64.toUInt64 &&& Int64.toUInt64 63)).toInt64)).toInt32) &&& (127 : Int32))
abbrev m_Long_bitCount : Room := { frames := 0, cells := 0, slots := 0, locals := 0 }
set_option maxHeartbeats 4000000 in
set_option maxRecDepth 100000 in
theorem c_Long_bitCount (l : Launch) (G : va_G) (K : Nat → ClassId) (n : Nat) (x0 : Int64) (o : Int32) (hF : p_Long_bitCount n x0 = some o) :
    Met l y_Long_bitCount (wd y_Long_bitCount b_Long_bitCount 2 (some .int)) m_Long_bitCount (dk_Pp [.long x0] G K []) (dk_Qp (some (.int o))) 0 0 (fun _ => False) := by
  refine Met.ofW (cc := b_Long_bitCount) (maxL := 2) (ret := (some .int)) (by decide) rfl ?_
  intro p e s m args below meth c s₁ B hml hv
  obtain ⟨rfl, hP, hK, hN⟩ := hv
  have hx := B.exec
  have hb := B.bytes
  have hr := B.returns
  have hts : ∀ w ∈ lw_good, w.before _ s = true := fun w h => atoms_spec (ws := wd y_Long_bitCount b_Long_bitCount 2 (some .int)) B.pre w (List.mem_cons_of_mem _ h)
  have hown : s.vm.findClass R_Long = some m.cls := findClass_of_methodNamed B.named
  have hlocks := B.notSynchronized
  have hfix : CallFix p m c b_Long_bitCount 2 s _ lw_good R_Long := ⟨hx, hb, hml, hown, hts⟩
  have hl := lv_entry ([.long x0]) (n := 2) (Nat.le_of_ble_eq_true rfl)
  rw [lg_entry_eq]
  generalize (lg_sl ([.long x0]) ++ List.replicate (2 - (lg_sl ([.long x0])).length) Slot.unset).toArray = ls at hl ⊢
  have hl : lv_has ls 2 [(0, .long x0)] := hl
  change W p l e m_Long_bitCount s m _ below meth c s.heap [] 0 0 _ _
  unfold p_Long_bitCount at hF
  refine lv_lload_n hx hb d_Long_bitCount_0 rfl (lv_at hl 0 rfl) ?_
  refine lv_lload_n hx hb d_Long_bitCount_1 rfl (lv_at hl 0 rfl) ?_
  refine lv_iconst (v := (1 : Int32)) hx hb d_Long_bitCount_2 (by decide) ?_
  refine lv_lushr hx hb d_Long_bitCount_3 rfl ?_
  refine lv_ldc2 (own := R_Long) (index := 314) (v := (6148914691236517205 : Int64)) hx hb hown (hts _ lk_0) d_Long_bitCount_4 ?_
  refine lv_land hx hb d_Long_bitCount_7 ?_
  refine lv_lsub hx hb d_Long_bitCount_8 ?_
  refine lv_lstore_n (lv' := [(0, .long (x0 - (((x0.toUInt64 >>> ((1 : Int32).toInt64.toUInt64 &&& Int64.toUInt64 63)).toInt64) &&& (6148914691236517205 : Int64))))]) hx hb d_Long_bitCount_9 rfl hl (by decide) rfl (fun ls hl => ?_)
  refine lv_lload_n hx hb d_Long_bitCount_10 rfl (lv_at hl 0 rfl) ?_
  refine lv_ldc2 (own := R_Long) (index := 316) (v := (3689348814741910323 : Int64)) hx hb hown (hts _ lk_1) d_Long_bitCount_11 ?_
  refine lv_land hx hb d_Long_bitCount_14 ?_
  refine lv_lload_n hx hb d_Long_bitCount_15 rfl (lv_at hl 0 rfl) ?_
  refine lv_iconst (v := (2 : Int32)) hx hb d_Long_bitCount_16 (by decide) ?_
  refine lv_lushr hx hb d_Long_bitCount_17 rfl ?_
  refine lv_ldc2 (own := R_Long) (index := 316) (v := (3689348814741910323 : Int64)) hx hb hown (hts _ lk_1) d_Long_bitCount_18 ?_
  refine lv_land hx hb d_Long_bitCount_21 ?_
  refine lv_ladd hx hb d_Long_bitCount_22 ?_
  refine lv_lstore_n (lv' := [(0, .long (((x0 - (((x0.toUInt64 >>> ((1 : Int32).toInt64.toUInt64 &&& Int64.toUInt64 63)).toInt64) &&& (6148914691236517205 : Int64))) &&& (3689348814741910323 : Int64)) + ((((x0 - (((x0.toUInt64 >>> ((1 : Int32).toInt64.toUInt64 &&& Int64.toUInt64 63)).toInt64) &&& (6148914691236517205 : Int64))).toUInt64 >>> ((2 : Int32).toInt64.toUInt64 &&& Int64.toUInt64 63)).toInt64) &&& (3689348814741910323 : Int64))))]) hx hb d_Long_bitCount_23 rfl hl (by decide) rfl (fun ls hl => ?_)
  refine lv_lload_n hx hb d_Long_bitCount_24 rfl (lv_at hl 0 rfl) ?_
  refine lv_lload_n hx hb d_Long_bitCount_25 rfl (lv_at hl 0 rfl) ?_
  refine lv_iconst (v := (4 : Int32)) hx hb d_Long_bitCount_26 (by decide) ?_
  refine lv_lushr hx hb d_Long_bitCount_27 rfl ?_
  refine lv_ladd hx hb d_Long_bitCount_28 ?_
  refine lv_ldc2 (own := R_Long) (index := 318) (v := (1085102592571150095 : Int64)) hx hb hown (hts _ lk_2) d_Long_bitCount_29 ?_
  refine lv_land hx hb d_Long_bitCount_32 ?_
  refine lv_lstore_n (lv' := [(0, .long (((((x0 - (((x0.toUInt64 >>> ((1 : Int32).toInt64.toUInt64 &&& Int64.toUInt64 63)).toInt64) &&& (6148914691236517205 : Int64))) &&& (3689348814741910323 : Int64)) + ((((x0 - (((x0.toUInt64 >>> ((1 : Int32).toInt64.toUInt64 &&& Int64.toUInt64 63)).toInt64) &&& (6148914691236517205 : Int64))).toUInt64 >>> ((2 : Int32).toInt64.toUInt64 &&& Int64.toUInt64 63)).toInt64) &&& (3689348814741910323 : Int64))) + (((((x0 - (((x0.toUInt64 >>> ((1 : Int32).toInt64.toUInt64 &&& Int64.toUInt64 63)).toInt64) &&& (6148914691236517205 : Int64))) &&& (3689348814741910323 : Int64)) + ((((x0 - (((x0.toUInt64 >>> ((1 : Int32).toInt64.toUInt64 &&& Int64.toUInt64 63)).toInt64) &&& (6148914691236517205 : Int64))).toUInt64 >>> ((2 : Int32).toInt64.toUInt64 &&& Int64.toUInt64 63)).toInt64) &&& (3689348814741910323 : Int64))).toUInt64 >>> ((4 : Int32).toInt64.toUInt64 &&& Int64.toUInt64 63)).toInt64)) &&& (1085102592571150095 : Int64)))]) hx hb d_Long_bitCount_33 rfl hl (by decide) rfl (fun ls hl => ?_)
  refine lv_lload_n hx hb d_Long_bitCount_34 rfl (lv_at hl 0 rfl) ?_
  refine lv_lload_n hx hb d_Long_bitCount_35 rfl (lv_at hl 0 rfl) ?_
  refine lv_bipush (v := (8 : Int32)) hx hb d_Long_bitCount_36 (by decide) ?_
  refine lv_lushr hx hb d_Long_bitCount_38 rfl ?_
  refine lv_ladd hx hb d_Long_bitCount_39 ?_
  refine lv_lstore_n (lv' := [(0, .long ((((((x0 - (((x0.toUInt64 >>> ((1 : Int32).toInt64.toUInt64 &&& Int64.toUInt64 63)).toInt64) &&& (6148914691236517205 : Int64))) &&& (3689348814741910323 : Int64)) + ((((x0 - (((x0.toUInt64 >>> ((1 : Int32).toInt64.toUInt64 &&& Int64.toUInt64 63)).toInt64) &&& (6148914691236517205 : Int64))).toUInt64 >>> ((2 : Int32).toInt64.toUInt64 &&& Int64.toUInt64 63)).toInt64) &&& (3689348814741910323 : Int64))) + (((((x0 - (((x0.toUInt64 >>> ((1 : Int32).toInt64.toUInt64 &&& Int64.toUInt64 63)).toInt64) &&& (6148914691236517205 : Int64))) &&& (3689348814741910323 : Int64)) + ((((x0 - (((x0.toUInt64 >>> ((1 : Int32).toInt64.toUInt64 &&& Int64.toUInt64 63)).toInt64) &&& (6148914691236517205 : Int64))).toUInt64 >>> ((2 : Int32).toInt64.toUInt64 &&& Int64.toUInt64 63)).toInt64) &&& (3689348814741910323 : Int64))).toUInt64 >>> ((4 : Int32).toInt64.toUInt64 &&& Int64.toUInt64 63)).toInt64)) &&& (1085102592571150095 : Int64)) + (((((((x0 - (((x0.toUInt64 >>> ((1 : Int32).toInt64.toUInt64 &&& Int64.toUInt64 63)).toInt64) &&& (6148914691236517205 : Int64))) &&& (3689348814741910323 : Int64)) + ((((x0 - (((x0.toUInt64 >>> ((1 : Int32).toInt64.toUInt64 &&& Int64.toUInt64 63)).toInt64) &&& (6148914691236517205 : Int64))).toUInt64 >>> ((2 : Int32).toInt64.toUInt64 &&& Int64.toUInt64 63)).toInt64) &&& (3689348814741910323 : Int64))) + (((((x0 - (((x0.toUInt64 >>> ((1 : Int32).toInt64.toUInt64 &&& Int64.toUInt64 63)).toInt64) &&& (6148914691236517205 : Int64))) &&& (3689348814741910323 : Int64)) + ((((x0 - (((x0.toUInt64 >>> ((1 : Int32).toInt64.toUInt64 &&& Int64.toUInt64 63)).toInt64) &&& (6148914691236517205 : Int64))).toUInt64 >>> ((2 : Int32).toInt64.toUInt64 &&& Int64.toUInt64 63)).toInt64) &&& (3689348814741910323 : Int64))).toUInt64 >>> ((4 : Int32).toInt64.toUInt64 &&& Int64.toUInt64 63)).toInt64)) &&& (1085102592571150095 : Int64)).toUInt64 >>> ((8 : Int32).toInt64.toUInt64 &&& Int64.toUInt64 63)).toInt64)))]) hx hb d_Long_bitCount_40 rfl hl (by decide) rfl (fun ls hl => ?_)
  refine lv_lload_n hx hb d_Long_bitCount_41 rfl (lv_at hl 0 rfl) ?_
  refine lv_lload_n hx hb d_Long_bitCount_42 rfl (lv_at hl 0 rfl) ?_
  refine lv_bipush (v := (16 : Int32)) hx hb d_Long_bitCount_43 (by decide) ?_
  refine lv_lushr hx hb d_Long_bitCount_45 rfl ?_
  refine lv_ladd hx hb d_Long_bitCount_46 ?_
  refine lv_lstore_n (lv' := [(0, .long (((((((x0 - (((x0.toUInt64 >>> ((1 : Int32).toInt64.toUInt64 &&& Int64.toUInt64 63)).toInt64) &&& (6148914691236517205 : Int64))) &&& (3689348814741910323 : Int64)) + ((((x0 - (((x0.toUInt64 >>> ((1 : Int32).toInt64.toUInt64 &&& Int64.toUInt64 63)).toInt64) &&& (6148914691236517205 : Int64))).toUInt64 >>> ((2 : Int32).toInt64.toUInt64 &&& Int64.toUInt64 63)).toInt64) &&& (3689348814741910323 : Int64))) + (((((x0 - (((x0.toUInt64 >>> ((1 : Int32).toInt64.toUInt64 &&& Int64.toUInt64 63)).toInt64) &&& (6148914691236517205 : Int64))) &&& (3689348814741910323 : Int64)) + ((((x0 - (((x0.toUInt64 >>> ((1 : Int32).toInt64.toUInt64 &&& Int64.toUInt64 63)).toInt64) &&& (6148914691236517205 : Int64))).toUInt64 >>> ((2 : Int32).toInt64.toUInt64 &&& Int64.toUInt64 63)).toInt64) &&& (3689348814741910323 : Int64))).toUInt64 >>> ((4 : Int32).toInt64.toUInt64 &&& Int64.toUInt64 63)).toInt64)) &&& (1085102592571150095 : Int64)) + (((((((x0 - (((x0.toUInt64 >>> ((1 : Int32).toInt64.toUInt64 &&& Int64.toUInt64 63)).toInt64) &&& (6148914691236517205 : Int64))) &&& (3689348814741910323 : Int64)) + ((((x0 - (((x0.toUInt64 >>> ((1 : Int32).toInt64.toUInt64 &&& Int64.toUInt64 63)).toInt64) &&& (6148914691236517205 : Int64))).toUInt64 >>> ((2 : Int32).toInt64.toUInt64 &&& Int64.toUInt64 63)).toInt64) &&& (3689348814741910323 : Int64))) + (((((x0 - (((x0.toUInt64 >>> ((1 : Int32).toInt64.toUInt64 &&& Int64.toUInt64 63)).toInt64) &&& (6148914691236517205 : Int64))) &&& (3689348814741910323 : Int64)) + ((((x0 - (((x0.toUInt64 >>> ((1 : Int32).toInt64.toUInt64 &&& Int64.toUInt64 63)).toInt64) &&& (6148914691236517205 : Int64))).toUInt64 >>> ((2 : Int32).toInt64.toUInt64 &&& Int64.toUInt64 63)).toInt64) &&& (3689348814741910323 : Int64))).toUInt64 >>> ((4 : Int32).toInt64.toUInt64 &&& Int64.toUInt64 63)).toInt64)) &&& (1085102592571150095 : Int64)).toUInt64 >>> ((8 : Int32).toInt64.toUInt64 &&& Int64.toUInt64 63)).toInt64)) + ((((((((x0 - (((x0.toUInt64 >>> ((1 : Int32).toInt64.toUInt64 &&& Int64.toUInt64 63)).toInt64) &&& (6148914691236517205 : Int64))) &&& (3689348814741910323 : Int64)) + ((((x0 - (((x0.toUInt64 >>> ((1 : Int32).toInt64.toUInt64 &&& Int64.toUInt64 63)).toInt64) &&& (6148914691236517205 : Int64))).toUInt64 >>> ((2 : Int32).toInt64.toUInt64 &&& Int64.toUInt64 63)).toInt64) &&& (3689348814741910323 : Int64))) + (((((x0 - (((x0.toUInt64 >>> ((1 : Int32).toInt64.toUInt64 &&& Int64.toUInt64 63)).toInt64) &&& (6148914691236517205 : Int64))) &&& (3689348814741910323 : Int64)) + ((((x0 - (((x0.toUInt64 >>> ((1 : Int32).toInt64.toUInt64 &&& Int64.toUInt64 63)).toInt64) &&& (6148914691236517205 : Int64))).toUInt64 >>> ((2 : Int32).toInt64.toUInt64 &&& Int64.toUInt64 63)).toInt64) &&& (3689348814741910323 : Int64))).toUInt64 >>> ((4 : Int32).toInt64.toUInt64 &&& Int64.toUInt64 63)).toInt64)) &&& (1085102592571150095 : Int64)) + (((((((x0 - (((x0.toUInt64 >>> ((1 : Int32).toInt64.toUInt64 &&& Int64.toUInt64 63)).toInt64) &&& (6148914691236517205 : Int64))) &&& (3689348814741910323 : Int64)) + ((((x0 - (((x0.toUInt64 >>> ((1 : Int32).toInt64.toUInt64 &&& Int64.toUInt64 63)).toInt64) &&& (6148914691236517205 : Int64))).toUInt64 >>> ((2 : Int32).toInt64.toUInt64 &&& Int64.toUInt64 63)).toInt64) &&& (3689348814741910323 : Int64))) + (((((x0 - (((x0.toUInt64 >>> ((1 : Int32).toInt64.toUInt64 &&& Int64.toUInt64 63)).toInt64) &&& (6148914691236517205 : Int64))) &&& (3689348814741910323 : Int64)) + ((((x0 - (((x0.toUInt64 >>> ((1 : Int32).toInt64.toUInt64 &&& Int64.toUInt64 63)).toInt64) &&& (6148914691236517205 : Int64))).toUInt64 >>> ((2 : Int32).toInt64.toUInt64 &&& Int64.toUInt64 63)).toInt64) &&& (3689348814741910323 : Int64))).toUInt64 >>> ((4 : Int32).toInt64.toUInt64 &&& Int64.toUInt64 63)).toInt64)) &&& (1085102592571150095 : Int64)).toUInt64 >>> ((8 : Int32).toInt64.toUInt64 &&& Int64.toUInt64 63)).toInt64)).toUInt64 >>> ((16 : Int32).toInt64.toUInt64 &&& Int64.toUInt64 63)).toInt64)))]) hx hb d_Long_bitCount_47 rfl hl (by decide) rfl (fun ls hl => ?_)
  refine lv_lload_n hx hb d_Long_bitCount_48 rfl (lv_at hl 0 rfl) ?_
  refine lv_lload_n hx hb d_Long_bitCount_49 rfl (lv_at hl 0 rfl) ?_
  refine lv_bipush (v := (32 : Int32)) hx hb d_Long_bitCount_50 (by decide) ?_
  refine lv_lushr hx hb d_Long_bitCount_52 rfl ?_
  refine lv_ladd hx hb d_Long_bitCount_53 ?_
  refine lv_lstore_n (lv' := [(0, .long ((((((((x0 - (((x0.toUInt64 >>> ((1 : Int32).toInt64.toUInt64 &&& Int64.toUInt64 63)).toInt64) &&& (6148914691236517205 : Int64))) &&& (3689348814741910323 : Int64)) + ((((x0 - (((x0.toUInt64 >>> ((1 : Int32).toInt64.toUInt64 &&& Int64.toUInt64 63)).toInt64) &&& (6148914691236517205 : Int64))).toUInt64 >>> ((2 : Int32).toInt64.toUInt64 &&& Int64.toUInt64 63)).toInt64) &&& (3689348814741910323 : Int64))) + (((((x0 - (((x0.toUInt64 >>> ((1 : Int32).toInt64.toUInt64 &&& Int64.toUInt64 63)).toInt64) &&& (6148914691236517205 : Int64))) &&& (3689348814741910323 : Int64)) + ((((x0 - (((x0.toUInt64 >>> ((1 : Int32).toInt64.toUInt64 &&& Int64.toUInt64 63)).toInt64) &&& (6148914691236517205 : Int64))).toUInt64 >>> ((2 : Int32).toInt64.toUInt64 &&& Int64.toUInt64 63)).toInt64) &&& (3689348814741910323 : Int64))).toUInt64 >>> ((4 : Int32).toInt64.toUInt64 &&& Int64.toUInt64 63)).toInt64)) &&& (1085102592571150095 : Int64)) + (((((((x0 - (((x0.toUInt64 >>> ((1 : Int32).toInt64.toUInt64 &&& Int64.toUInt64 63)).toInt64) &&& (6148914691236517205 : Int64))) &&& (3689348814741910323 : Int64)) + ((((x0 - (((x0.toUInt64 >>> ((1 : Int32).toInt64.toUInt64 &&& Int64.toUInt64 63)).toInt64) &&& (6148914691236517205 : Int64))).toUInt64 >>> ((2 : Int32).toInt64.toUInt64 &&& Int64.toUInt64 63)).toInt64) &&& (3689348814741910323 : Int64))) + (((((x0 - (((x0.toUInt64 >>> ((1 : Int32).toInt64.toUInt64 &&& Int64.toUInt64 63)).toInt64) &&& (6148914691236517205 : Int64))) &&& (3689348814741910323 : Int64)) + ((((x0 - (((x0.toUInt64 >>> ((1 : Int32).toInt64.toUInt64 &&& Int64.toUInt64 63)).toInt64) &&& (6148914691236517205 : Int64))).toUInt64 >>> ((2 : Int32).toInt64.toUInt64 &&& Int64.toUInt64 63)).toInt64) &&& (3689348814741910323 : Int64))).toUInt64 >>> ((4 : Int32).toInt64.toUInt64 &&& Int64.toUInt64 63)).toInt64)) &&& (1085102592571150095 : Int64)).toUInt64 >>> ((8 : Int32).toInt64.toUInt64 &&& Int64.toUInt64 63)).toInt64)) + ((((((((x0 - (((x0.toUInt64 >>> ((1 : Int32).toInt64.toUInt64 &&& Int64.toUInt64 63)).toInt64) &&& (6148914691236517205 : Int64))) &&& (3689348814741910323 : Int64)) + ((((x0 - (((x0.toUInt64 >>> ((1 : Int32).toInt64.toUInt64 &&& Int64.toUInt64 63)).toInt64) &&& (6148914691236517205 : Int64))).toUInt64 >>> ((2 : Int32).toInt64.toUInt64 &&& Int64.toUInt64 63)).toInt64) &&& (3689348814741910323 : Int64))) + (((((x0 - (((x0.toUInt64 >>> ((1 : Int32).toInt64.toUInt64 &&& Int64.toUInt64 63)).toInt64) &&& (6148914691236517205 : Int64))) &&& (3689348814741910323 : Int64)) + ((((x0 - (((x0.toUInt64 >>> ((1 : Int32).toInt64.toUInt64 &&& Int64.toUInt64 63)).toInt64) &&& (6148914691236517205 : Int64))).toUInt64 >>> ((2 : Int32).toInt64.toUInt64 &&& Int64.toUInt64 63)).toInt64) &&& (3689348814741910323 : Int64))).toUInt64 >>> ((4 : Int32).toInt64.toUInt64 &&& Int64.toUInt64 63)).toInt64)) &&& (1085102592571150095 : Int64)) + (((((((x0 - (((x0.toUInt64 >>> ((1 : Int32).toInt64.toUInt64 &&& Int64.toUInt64 63)).toInt64) &&& (6148914691236517205 : Int64))) &&& (3689348814741910323 : Int64)) + ((((x0 - (((x0.toUInt64 >>> ((1 : Int32).toInt64.toUInt64 &&& Int64.toUInt64 63)).toInt64) &&& (6148914691236517205 : Int64))).toUInt64 >>> ((2 : Int32).toInt64.toUInt64 &&& Int64.toUInt64 63)).toInt64) &&& (3689348814741910323 : Int64))) + (((((x0 - (((x0.toUInt64 >>> ((1 : Int32).toInt64.toUInt64 &&& Int64.toUInt64 63)).toInt64) &&& (6148914691236517205 : Int64))) &&& (3689348814741910323 : Int64)) + ((((x0 - (((x0.toUInt64 >>> ((1 : Int32).toInt64.toUInt64 &&& Int64.toUInt64 63)).toInt64) &&& (6148914691236517205 : Int64))).toUInt64 >>> ((2 : Int32).toInt64.toUInt64 &&& Int64.toUInt64 63)).toInt64) &&& (3689348814741910323 : Int64))).toUInt64 >>> ((4 : Int32).toInt64.toUInt64 &&& Int64.toUInt64 63)).toInt64)) &&& (1085102592571150095 : Int64)).toUInt64 >>> ((8 : Int32).toInt64.toUInt64 &&& Int64.toUInt64 63)).toInt64)).toUInt64 >>> ((16 : Int32).toInt64.toUInt64 &&& Int64.toUInt64 63)).toInt64)) + (((((((((x0 - (((x0.toUInt64 >>> ((1 : Int32).toInt64.toUInt64 &&& Int64.toUInt64 63)).toInt64) &&& (6148914691236517205 : Int64))) &&& (3689348814741910323 : Int64)) + ((((x0 - (((x0.toUInt64 >>> ((1 : Int32).toInt64.toUInt64 &&& Int64.toUInt64 63)).toInt64) &&& (6148914691236517205 : Int64))).toUInt64 >>> ((2 : Int32).toInt64.toUInt64 &&& Int64.toUInt64 63)).toInt64) &&& (3689348814741910323 : Int64))) + (((((x0 - (((x0.toUInt64 >>> ((1 : Int32).toInt64.toUInt64 &&& Int64.toUInt64 63)).toInt64) &&& (6148914691236517205 : Int64))) &&& (3689348814741910323 : Int64)) + ((((x0 - (((x0.toUInt64 >>> ((1 : Int32).toInt64.toUInt64 &&& Int64.toUInt64 63)).toInt64) &&& (6148914691236517205 : Int64))).toUInt64 >>> ((2 : Int32).toInt64.toUInt64 &&& Int64.toUInt64 63)).toInt64) &&& (3689348814741910323 : Int64))).toUInt64 >>> ((4 : Int32).toInt64.toUInt64 &&& Int64.toUInt64 63)).toInt64)) &&& (1085102592571150095 : Int64)) + (((((((x0 - (((x0.toUInt64 >>> ((1 : Int32).toInt64.toUInt64 &&& Int64.toUInt64 63)).toInt64) &&& (6148914691236517205 : Int64))) &&& (3689348814741910323 : Int64)) + ((((x0 - (((x0.toUInt64 >>> ((1 : Int32).toInt64.toUInt64 &&& Int64.toUInt64 63)).toInt64) &&& (6148914691236517205 : Int64))).toUInt64 >>> ((2 : Int32).toInt64.toUInt64 &&& Int64.toUInt64 63)).toInt64) &&& (3689348814741910323 : Int64))) + (((((x0 - (((x0.toUInt64 >>> ((1 : Int32).toInt64.toUInt64 &&& Int64.toUInt64 63)).toInt64) &&& (6148914691236517205 : Int64))) &&& (3689348814741910323 : Int64)) + ((((x0 - (((x0.toUInt64 >>> ((1 : Int32).toInt64.toUInt64 &&& Int64.toUInt64 63)).toInt64) &&& (6148914691236517205 : Int64))).toUInt64 >>> ((2 : Int32).toInt64.toUInt64 &&& Int64.toUInt64 63)).toInt64) &&& (3689348814741910323 : Int64))).toUInt64 >>> ((4 : Int32).toInt64.toUInt64 &&& Int64.toUInt64 63)).toInt64)) &&& (1085102592571150095 : Int64)).toUInt64 >>> ((8 : Int32).toInt64.toUInt64 &&& Int64.toUInt64 63)).toInt64)) + ((((((((x0 - (((x0.toUInt64 >>> ((1 : Int32).toInt64.toUInt64 &&& Int64.toUInt64 63)).toInt64) &&& (6148914691236517205 : Int64))) &&& (3689348814741910323 : Int64)) + ((((x0 - (((x0.toUInt64 >>> ((1 : Int32).toInt64.toUInt64 &&& Int64.toUInt64 63)).toInt64) &&& (6148914691236517205 : Int64))).toUInt64 >>> ((2 : Int32).toInt64.toUInt64 &&& Int64.toUInt64 63)).toInt64) &&& (3689348814741910323 : Int64))) + (((((x0 - (((x0.toUInt64 >>> ((1 : Int32).toInt64.toUInt64 &&& Int64.toUInt64 63)).toInt64) &&& (6148914691236517205 : Int64))) &&& (3689348814741910323 : Int64)) + ((((x0 - (((x0.toUInt64 >>> ((1 : Int32).toInt64.toUInt64 &&& Int64.toUInt64 63)).toInt64) &&& (6148914691236517205 : Int64))).toUInt64 >>> ((2 : Int32).toInt64.toUInt64 &&& Int64.toUInt64 63)).toInt64) &&& (3689348814741910323 : Int64))).toUInt64 >>> ((4 : Int32).toInt64.toUInt64 &&& Int64.toUInt64 63)).toInt64)) &&& (1085102592571150095 : Int64)) + (((((((x0 - (((x0.toUInt64 >>> ((1 : Int32).toInt64.toUInt64 &&& Int64.toUInt64 63)).toInt64) &&& (6148914691236517205 : Int64))) &&& (3689348814741910323 : Int64)) + ((((x0 - (((x0.toUInt64 >>> ((1 : Int32).toInt64.toUInt64 &&& Int64.toUInt64 63)).toInt64) &&& (6148914691236517205 : Int64))).toUInt64 >>> ((2 : Int32).toInt64.toUInt64 &&& Int64.toUInt64 63)).toInt64) &&& (3689348814741910323 : Int64))) + (((((x0 - (((x0.toUInt64 >>> ((1 : Int32).toInt64.toUInt64 &&& Int64.toUInt64 63)).toInt64) &&& (6148914691236517205 : Int64))) &&& (3689348814741910323 : Int64)) + ((((x0 - (((x0.toUInt64 >>> ((1 : Int32).toInt64.toUInt64 &&& Int64.toUInt64 63)).toInt64) &&& (6148914691236517205 : Int64))).toUInt64 >>> ((2 : Int32).toInt64.toUInt64 &&& Int64.toUInt64 63)).toInt64) &&& (3689348814741910323 : Int64))).toUInt64 >>> ((4 : Int32).toInt64.toUInt64 &&& Int64.toUInt64 63)).toInt64)) &&& (1085102592571150095 : Int64)).toUInt64 >>> ((8 : Int32).toInt64.toUInt64 &&& Int64.toUInt64 63)).toInt64)).toUInt64 >>> ((16 : Int32).toInt64.toUInt64 &&& Int64.toUInt64 63)).toInt64)).toUInt64 >>> ((32 : Int32).toInt64.toUInt64 &&& Int64.toUInt64 63)).toInt64)))]) hx hb d_Long_bitCount_54 rfl hl (by decide) rfl (fun ls hl => ?_)
  refine lv_lload_n hx hb d_Long_bitCount_55 rfl (lv_at hl 0 rfl) ?_
  refine lv_l2i hx hb d_Long_bitCount_56 rfl ?_
  refine lv_bipush (v := (127 : Int32)) hx hb d_Long_bitCount_57 (by decide) ?_
  refine lv_iand hx hb d_Long_bitCount_59 ?_
  obtain rfl := Option.some.inj hF
  exact W.iret (v := (((((((((x0 - (((x0.toUInt64 >>> ((1 : Int32).toInt64.toUInt64 &&& Int64.toUInt64 63)).toInt64) &&& (6148914691236517205 : Int64))) &&& (3689348814741910323 : Int64)) + ((((x0 - (((x0.toUInt64 >>> ((1 : Int32).toInt64.toUInt64 &&& Int64.toUInt64 63)).toInt64) &&& (6148914691236517205 : Int64))).toUInt64 >>> ((2 : Int32).toInt64.toUInt64 &&& Int64.toUInt64 63)).toInt64) &&& (3689348814741910323 : Int64))) + (((((x0 - (((x0.toUInt64 >>> ((1 : Int32).toInt64.toUInt64 &&& Int64.toUInt64 63)).toInt64) &&& (6148914691236517205 : Int64))) &&& (3689348814741910323 : Int64)) + ((((x0 - (((x0.toUInt64 >>> ((1 : Int32).toInt64.toUInt64 &&& Int64.toUInt64 63)).toInt64) &&& (6148914691236517205 : Int64))).toUInt64 >>> ((2 : Int32).toInt64.toUInt64 &&& Int64.toUInt64 63)).toInt64) &&& (3689348814741910323 : Int64))).toUInt64 >>> ((4 : Int32).toInt64.toUInt64 &&& Int64.toUInt64 63)).toInt64)) &&& (1085102592571150095 : Int64)) + (((((((x0 - (((x0.toUInt64 >>> ((1 : Int32).toInt64.toUInt64 &&& Int64.toUInt64 63)).toInt64) &&& (6148914691236517205 : Int64))) &&& (3689348814741910323 : Int64)) + ((((x0 - (((x0.toUInt64 >>> ((1 : Int32).toInt64.toUInt64 &&& Int64.toUInt64 63)).toInt64) &&& (6148914691236517205 : Int64))).toUInt64 >>> ((2 : Int32).toInt64.toUInt64 &&& Int64.toUInt64 63)).toInt64) &&& (3689348814741910323 : Int64))) + (((((x0 - (((x0.toUInt64 >>> ((1 : Int32).toInt64.toUInt64 &&& Int64.toUInt64 63)).toInt64) &&& (6148914691236517205 : Int64))) &&& (3689348814741910323 : Int64)) + ((((x0 - (((x0.toUInt64 >>> ((1 : Int32).toInt64.toUInt64 &&& Int64.toUInt64 63)).toInt64) &&& (6148914691236517205 : Int64))).toUInt64 >>> ((2 : Int32).toInt64.toUInt64 &&& Int64.toUInt64 63)).toInt64) &&& (3689348814741910323 : Int64))).toUInt64 >>> ((4 : Int32).toInt64.toUInt64 &&& Int64.toUInt64 63)).toInt64)) &&& (1085102592571150095 : Int64)).toUInt64 >>> ((8 : Int32).toInt64.toUInt64 &&& Int64.toUInt64 63)).toInt64)) + ((((((((x0 - (((x0.toUInt64 >>> ((1 : Int32).toInt64.toUInt64 &&& Int64.toUInt64 63)).toInt64) &&& (6148914691236517205 : Int64))) &&& (3689348814741910323 : Int64)) + ((((x0 - (((x0.toUInt64 >>> ((1 : Int32).toInt64.toUInt64 &&& Int64.toUInt64 63)).toInt64) &&& (6148914691236517205 : Int64))).toUInt64 >>> ((2 : Int32).toInt64.toUInt64 &&& Int64.toUInt64 63)).toInt64) &&& (3689348814741910323 : Int64))) + (((((x0 - (((x0.toUInt64 >>> ((1 : Int32).toInt64.toUInt64 &&& Int64.toUInt64 63)).toInt64) &&& (6148914691236517205 : Int64))) &&& (3689348814741910323 : Int64)) + ((((x0 - (((x0.toUInt64 >>> ((1 : Int32).toInt64.toUInt64 &&& Int64.toUInt64 63)).toInt64) &&& (6148914691236517205 : Int64))).toUInt64 >>> ((2 : Int32).toInt64.toUInt64 &&& Int64.toUInt64 63)).toInt64) &&& (3689348814741910323 : Int64))).toUInt64 >>> ((4 : Int32).toInt64.toUInt64 &&& Int64.toUInt64 63)).toInt64)) &&& (1085102592571150095 : Int64)) + (((((((x0 - (((x0.toUInt64 >>> ((1 : Int32).toInt64.toUInt64 &&& Int64.toUInt64 63)).toInt64) &&& (6148914691236517205 : Int64))) &&& (3689348814741910323 : Int64)) + ((((x0 - (((x0.toUInt64 >>> ((1 : Int32).toInt64.toUInt64 &&& Int64.toUInt64 63)).toInt64) &&& (6148914691236517205 : Int64))).toUInt64 >>> ((2 : Int32).toInt64.toUInt64 &&& Int64.toUInt64 63)).toInt64) &&& (3689348814741910323 : Int64))) + (((((x0 - (((x0.toUInt64 >>> ((1 : Int32).toInt64.toUInt64 &&& Int64.toUInt64 63)).toInt64) &&& (6148914691236517205 : Int64))) &&& (3689348814741910323 : Int64)) + ((((x0 - (((x0.toUInt64 >>> ((1 : Int32).toInt64.toUInt64 &&& Int64.toUInt64 63)).toInt64) &&& (6148914691236517205 : Int64))).toUInt64 >>> ((2 : Int32).toInt64.toUInt64 &&& Int64.toUInt64 63)).toInt64) &&& (3689348814741910323 : Int64))).toUInt64 >>> ((4 : Int32).toInt64.toUInt64 &&& Int64.toUInt64 63)).toInt64)) &&& (1085102592571150095 : Int64)).toUInt64 >>> ((8 : Int32).toInt64.toUInt64 &&& Int64.toUInt64 63)).toInt64)).toUInt64 >>> ((16 : Int32).toInt64.toUInt64 &&& Int64.toUInt64 63)).toInt64)) + (((((((((x0 - (((x0.toUInt64 >>> ((1 : Int32).toInt64.toUInt64 &&& Int64.toUInt64 63)).toInt64) &&& (6148914691236517205 : Int64))) &&& (3689348814741910323 : Int64)) + ((((x0 - (((x0.toUInt64 >>> ((1 : Int32).toInt64.toUInt64 &&& Int64.toUInt64 63)).toInt64) &&& (6148914691236517205 : Int64))).toUInt64 >>> ((2 : Int32).toInt64.toUInt64 &&& Int64.toUInt64 63)).toInt64) &&& (3689348814741910323 : Int64))) + (((((x0 - (((x0.toUInt64 >>> ((1 : Int32).toInt64.toUInt64 &&& Int64.toUInt64 63)).toInt64) &&& (6148914691236517205 : Int64))) &&& (3689348814741910323 : Int64)) + ((((x0 - (((x0.toUInt64 >>> ((1 : Int32).toInt64.toUInt64 &&& Int64.toUInt64 63)).toInt64) &&& (6148914691236517205 : Int64))).toUInt64 >>> ((2 : Int32).toInt64.toUInt64 &&& Int64.toUInt64 63)).toInt64) &&& (3689348814741910323 : Int64))).toUInt64 >>> ((4 : Int32).toInt64.toUInt64 &&& Int64.toUInt64 63)).toInt64)) &&& (1085102592571150095 : Int64)) + (((((((x0 - (((x0.toUInt64 >>> ((1 : Int32).toInt64.toUInt64 &&& Int64.toUInt64 63)).toInt64) &&& (6148914691236517205 : Int64))) &&& (3689348814741910323 : Int64)) + ((((x0 - (((x0.toUInt64 >>> ((1 : Int32).toInt64.toUInt64 &&& Int64.toUInt64 63)).toInt64) &&& (6148914691236517205 : Int64))).toUInt64 >>> ((2 : Int32).toInt64.toUInt64 &&& Int64.toUInt64 63)).toInt64) &&& (3689348814741910323 : Int64))) + (((((x0 - (((x0.toUInt64 >>> ((1 : Int32).toInt64.toUInt64 &&& Int64.toUInt64 63)).toInt64) &&& (6148914691236517205 : Int64))) &&& (3689348814741910323 : Int64)) + ((((x0 - (((x0.toUInt64 >>> ((1 : Int32).toInt64.toUInt64 &&& Int64.toUInt64 63)).toInt64) &&& (6148914691236517205 : Int64))).toUInt64 >>> ((2 : Int32).toInt64.toUInt64 &&& Int64.toUInt64 63)).toInt64) &&& (3689348814741910323 : Int64))).toUInt64 >>> ((4 : Int32).toInt64.toUInt64 &&& Int64.toUInt64 63)).toInt64)) &&& (1085102592571150095 : Int64)).toUInt64 >>> ((8 : Int32).toInt64.toUInt64 &&& Int64.toUInt64 63)).toInt64)) + ((((((((x0 - (((x0.toUInt64 >>> ((1 : Int32).toInt64.toUInt64 &&& Int64.toUInt64 63)).toInt64) &&& (6148914691236517205 : Int64))) &&& (3689348814741910323 : Int64)) + ((((x0 - (((x0.toUInt64 >>> ((1 : Int32).toInt64.toUInt64 &&& Int64.toUInt64 63)).toInt64) &&& (6148914691236517205 : Int64))).toUInt64 >>> ((2 : Int32).toInt64.toUInt64 &&& Int64.toUInt64 63)).toInt64) &&& (3689348814741910323 : Int64))) + (((((x0 - (((x0.toUInt64 >>> ((1 : Int32).toInt64.toUInt64 &&& Int64.toUInt64 63)).toInt64) &&& (6148914691236517205 : Int64))) &&& (3689348814741910323 : Int64)) + ((((x0 - (((x0.toUInt64 >>> ((1 : Int32).toInt64.toUInt64 &&& Int64.toUInt64 63)).toInt64) &&& (6148914691236517205 : Int64))).toUInt64 >>> ((2 : Int32).toInt64.toUInt64 &&& Int64.toUInt64 63)).toInt64) &&& (3689348814741910323 : Int64))).toUInt64 >>> ((4 : Int32).toInt64.toUInt64 &&& Int64.toUInt64 63)).toInt64)) &&& (1085102592571150095 : Int64)) + (((((((x0 - (((x0.toUInt64 >>> ((1 : Int32).toInt64.toUInt64 &&& Int64.toUInt64 63)).toInt64) &&& (6148914691236517205 : Int64))) &&& (3689348814741910323 : Int64)) + ((((x0 - (((x0.toUInt64 >>> ((1 : Int32).toInt64.toUInt64 &&& Int64.toUInt64 63)).toInt64) &&& (6148914691236517205 : Int64))).toUInt64 >>> ((2 : Int32).toInt64.toUInt64 &&& Int64.toUInt64 63)).toInt64) &&& (3689348814741910323 : Int64))) + (((((x0 - (((x0.toUInt64 >>> ((1 : Int32).toInt64.toUInt64 &&& Int64.toUInt64 63)).toInt64) &&& (6148914691236517205 : Int64))) &&& (3689348814741910323 : Int64)) + ((((x0 - (((x0.toUInt64 >>> ((1 : Int32).toInt64.toUInt64 &&& Int64.toUInt64 63)).toInt64) &&& (6148914691236517205 : Int64))).toUInt64 >>> ((2 : Int32).toInt64.toUInt64 &&& Int64.toUInt64 63)).toInt64) &&& (3689348814741910323 : Int64))).toUInt64 >>> ((4 : Int32).toInt64.toUInt64 &&& Int64.toUInt64 63)).toInt64)) &&& (1085102592571150095 : Int64)).toUInt64 >>> ((8 : Int32).toInt64.toUInt64 &&& Int64.toUInt64 63)).toInt64)).toUInt64 >>> ((16 : Int32).toInt64.toUInt64 &&& Int64.toUInt64 63)).toInt64)).toUInt64 >>> ((32 : Int32).toInt64.toUInt64 &&& Int64.toUInt64 63)).toInt64)).toInt32) &&& (127 : Int32)) hx hb hr (fun t ht hW => ⟨rfl, ht⟩) (fun _ h => by cases h) d_Long_bitCount_60
def p_WO_within (n : Nat) (x0 : Int64) (x2 : Int64) (x4 : Int64) : Option (Int32) :=
  if (lg_cmp x0 x2) < 0 then
    some (0 : Int32)
  else
    if 0 < (lg_cmp x0 x4) then
      some (0 : Int32)
    else
      some (1 : Int32)
abbrev m_WO_within : Room := { frames := 0, cells := 0, slots := 0, locals := 0 }
set_option maxHeartbeats 4000000 in
set_option maxRecDepth 100000 in
theorem c_WO_within (l : Launch) (G : va_G) (K : Nat → ClassId) (n : Nat) (x0 : Int64) (x2 : Int64) (x4 : Int64) (o : Int32) (hF : p_WO_within n x0 x2 x4 = some o) :
    Met l y_WO_within (wd y_WO_within b_WO_within 6 (some .boolean)) m_WO_within (dk_Pp [.long x0, .long x2, .long x4] G K []) (dk_Qp (some (.int o))) 0 0 (fun _ => False) := by
  refine Met.ofW (cc := b_WO_within) (maxL := 6) (ret := (some .boolean)) (by decide) rfl ?_
  intro p e s m args below meth c s₁ B hml hv
  obtain ⟨rfl, hP, hK, hN⟩ := hv
  have hx := B.exec
  have hb := B.bytes
  have hr := B.returns
  have hts : ∀ w ∈ lw_good, w.before _ s = true := fun w h => atoms_spec (ws := wd y_WO_within b_WO_within 6 (some .boolean)) B.pre w (List.mem_cons_of_mem _ h)
  have hown : s.vm.findClass R_WO = some m.cls := findClass_of_methodNamed B.named
  have hlocks := B.notSynchronized
  have hfix : CallFix p m c b_WO_within 6 s _ lw_good R_WO := ⟨hx, hb, hml, hown, hts⟩
  have hl := lv_entry ([.long x0, .long x2, .long x4]) (n := 6) (Nat.le_of_ble_eq_true rfl)
  rw [lg_entry_eq]
  generalize (lg_sl ([.long x0, .long x2, .long x4]) ++ List.replicate (6 - (lg_sl ([.long x0, .long x2, .long x4])).length) Slot.unset).toArray = ls at hl ⊢
  have hl : lv_has ls 6 [(0, .long x0), (2, .long x2), (4, .long x4)] := hl
  change W p l e m_WO_within s m _ below meth c s.heap [] 0 0 _ _
  unfold p_WO_within at hF
  refine lv_lload_n hx hb d_WO_within_0 rfl (lv_at hl 0 rfl) ?_
  refine lv_lload_n hx hb d_WO_within_1 rfl (lv_at hl 1 rfl) ?_
  refine W.lcmp hx hb d_WO_within_2 ?_
  refine lv_if_lt (tgt := 17) hx hb d_WO_within_3 (by decide) (fun c3_1 => ?_) (fun c3_1 => ?_)
  · have hF := dk_t c3_1 hF
    refine lv_iconst (v := (0 : Int32)) hx hb d_WO_within_17 (by decide) ?_
    obtain rfl := Option.some.inj hF
    exact W.zret (v := (0 : Int32)) hx hb hr rfl (fun t ht hW => ⟨rfl, ht⟩) (fun _ h => by cases h) d_WO_within_18
  · have hF := dk_f c3_1 hF
    refine lv_lload_n hx hb d_WO_within_6 rfl (lv_at hl 0 rfl) ?_
    refine lv_lload hx hb d_WO_within_7 (lv_at hl 2 rfl) ?_
    refine W.lcmp hx hb d_WO_within_9 ?_
    refine lv_if_gt (tgt := 17) hx hb d_WO_within_10 (by decide) (fun c10_2 => ?_) (fun c10_2 => ?_)
    · have hF := dk_t c10_2 hF
      refine lv_iconst (v := (0 : Int32)) hx hb d_WO_within_17 (by decide) ?_
      obtain rfl := Option.some.inj hF
      exact W.zret (v := (0 : Int32)) hx hb hr rfl (fun t ht hW => ⟨rfl, ht⟩) (fun _ h => by cases h) d_WO_within_18
    · have hF := dk_f c10_2 hF
      refine lv_iconst (v := (1 : Int32)) hx hb d_WO_within_13 (by decide) ?_
      refine lv_goto (tgt := 18) hx hb d_WO_within_14 (by decide) ?_
      obtain rfl := Option.some.inj hF
      exact W.zret (v := (1 : Int32)) hx hb hr rfl (fun t ht hW => ⟨rfl, ht⟩) (fun _ h => by cases h) d_WO_within_18
def p_WO_isPart (n : Nat) (x0 : Int32) : Option (Int32) :=
  if x0 = 0 then
    some (1 : Int32)
  else
    if x0 = (1 : Int32) then
      some (1 : Int32)
    else
      some (0 : Int32)
abbrev m_WO_isPart : Room := { frames := 0, cells := 0, slots := 0, locals := 0 }
set_option maxHeartbeats 4000000 in
set_option maxRecDepth 100000 in
theorem c_WO_isPart (l : Launch) (G : va_G) (K : Nat → ClassId) (n : Nat) (x0 : Int32) (o : Int32) (hF : p_WO_isPart n x0 = some o) :
    Met l y_WO_isPart (wd y_WO_isPart b_WO_isPart 1 (some .boolean)) m_WO_isPart (dk_Pp [.int x0] G K []) (dk_Qp (some (.int o))) 0 0 (fun _ => False) := by
  refine Met.ofW (cc := b_WO_isPart) (maxL := 1) (ret := (some .boolean)) (by decide) rfl ?_
  intro p e s m args below meth c s₁ B hml hv
  obtain ⟨rfl, hP, hK, hN⟩ := hv
  have hx := B.exec
  have hb := B.bytes
  have hr := B.returns
  have hts : ∀ w ∈ lw_good, w.before _ s = true := fun w h => atoms_spec (ws := wd y_WO_isPart b_WO_isPart 1 (some .boolean)) B.pre w (List.mem_cons_of_mem _ h)
  have hown : s.vm.findClass R_WO = some m.cls := findClass_of_methodNamed B.named
  have hlocks := B.notSynchronized
  have hfix : CallFix p m c b_WO_isPart 1 s _ lw_good R_WO := ⟨hx, hb, hml, hown, hts⟩
  have hl := lv_entry ([.int x0]) (n := 1) (Nat.le_of_ble_eq_true rfl)
  rw [lg_entry_eq]
  generalize (lg_sl ([.int x0]) ++ List.replicate (1 - (lg_sl ([.int x0])).length) Slot.unset).toArray = ls at hl ⊢
  have hl : lv_has ls 1 [(0, .int x0)] := hl
  change W p l e m_WO_isPart s m _ below meth c s.heap [] 0 0 _ _
  unfold p_WO_isPart at hF
  refine lv_iload_n hx hb d_WO_isPart_0 rfl (lv_at hl 0 rfl) ?_
  refine lv_if_eq (tgt := 9) hx hb d_WO_isPart_1 (by decide) (fun c1_1 => ?_) (fun c1_1 => ?_)
  · have hF := dk_t c1_1 hF
    refine lv_iconst (v := (1 : Int32)) hx hb d_WO_isPart_9 (by decide) ?_
    refine lv_goto (tgt := 14) hx hb d_WO_isPart_10 (by decide) ?_
    obtain rfl := Option.some.inj hF
    exact W.zret (v := (1 : Int32)) hx hb hr rfl (fun t ht hW => ⟨rfl, ht⟩) (fun _ h => by cases h) d_WO_isPart_14
  · have hF := dk_f c1_1 hF
    refine lv_iload_n hx hb d_WO_isPart_4 rfl (lv_at hl 0 rfl) ?_
    refine lv_iconst (v := (1 : Int32)) hx hb d_WO_isPart_5 (by decide) ?_
    refine lv_icmp_ne (tgt := 13) hx hb d_WO_isPart_6 (by decide) (fun c6_2 => ?_) (fun c6_2 => ?_)
    · have hF := dk_f c6_2 hF
      refine lv_iconst (v := (0 : Int32)) hx hb d_WO_isPart_13 (by decide) ?_
      obtain rfl := Option.some.inj hF
      exact W.zret (v := (0 : Int32)) hx hb hr rfl (fun t ht hW => ⟨rfl, ht⟩) (fun _ h => by cases h) d_WO_isPart_14
    · have hF := dk_t c6_2 hF
      refine lv_iconst (v := (1 : Int32)) hx hb d_WO_isPart_9 (by decide) ?_
      refine lv_goto (tgt := 14) hx hb d_WO_isPart_10 (by decide) ?_
      obtain rfl := Option.some.inj hF
      exact W.zret (v := (1 : Int32)) hx hb hr rfl (fun t ht hW => ⟨rfl, ht⟩) (fun _ h => by cases h) d_WO_isPart_14
def p_WO_wrap (n : Nat) (x0 : Int32) (x1 : Int32) : Option (Int32) :=
  if 0 < x1 then
    (p_Math_floorMod n x0 x1).bind fun r10_2 =>
    some r10_2
  else
    some (0 : Int32)
abbrev m_WO_wrap : Room := { frames := 1, cells := 0, slots := 0, locals := 22 }
set_option maxHeartbeats 4000000 in
set_option maxRecDepth 100000 in
theorem c_WO_wrap (l : Launch) (G : va_G) (K : Nat → ClassId) (n : Nat) (x0 : Int32) (x1 : Int32) (o : Int32) (hF : p_WO_wrap n x0 x1 = some o) :
    Met l y_WO_wrap (wd y_WO_wrap b_WO_wrap 2 (some .int)) m_WO_wrap (dk_Pp [.int x0, .int x1] G K []) (dk_Qp (some (.int o))) 0 0 (fun _ => False) := by
  refine Met.ofW (cc := b_WO_wrap) (maxL := 2) (ret := (some .int)) (by decide) rfl ?_
  intro p e s m args below meth c s₁ B hml hv
  obtain ⟨rfl, hP, hK, hN⟩ := hv
  have hx := B.exec
  have hb := B.bytes
  have hr := B.returns
  have hts : ∀ w ∈ lw_good, w.before _ s = true := fun w h => atoms_spec (ws := wd y_WO_wrap b_WO_wrap 2 (some .int)) B.pre w (List.mem_cons_of_mem _ h)
  have hown : s.vm.findClass R_WO = some m.cls := findClass_of_methodNamed B.named
  have hlocks := B.notSynchronized
  have hfix : CallFix p m c b_WO_wrap 2 s _ lw_good R_WO := ⟨hx, hb, hml, hown, hts⟩
  have hl := lv_entry ([.int x0, .int x1]) (n := 2) (Nat.le_of_ble_eq_true rfl)
  rw [lg_entry_eq]
  generalize (lg_sl ([.int x0, .int x1]) ++ List.replicate (2 - (lg_sl ([.int x0, .int x1])).length) Slot.unset).toArray = ls at hl ⊢
  have hl : lv_has ls 2 [(0, .int x0), (1, .int x1)] := hl
  change W p l e m_WO_wrap s m _ below meth c s.heap [] 0 0 _ _
  unfold p_WO_wrap at hF
  refine lv_iload_n hx hb d_WO_wrap_0 rfl (lv_at hl 1 rfl) ?_
  refine lv_if_gt (tgt := 8) hx hb d_WO_wrap_1 (by decide) (fun c1_1 => ?_) (fun c1_1 => ?_)
  · have hF := dk_t c1_1 hF
    refine lv_iload_n hx hb d_WO_wrap_8 rfl (lv_at hl 0 rfl) ?_
    refine lv_iload_n hx hb d_WO_wrap_9 rfl (lv_at hl 1 rfl) ?_
    obtain ⟨r10_2, hC, hF⟩ := dk_b hF
    refine dk_pure (va_runS (As := [.int x0, .int x1]) (rest := []) hfix (c_Math_floorMod l G K n x0 x1 r10_2 hC) (va_cwS 2 hts (gd_S lk_3 lk_5 lk_6 lk_4) rfl rfl rfl (by decide +kernel) ⟨Nat.le_of_ble_eq_true rfl, Nat.le_of_ble_eq_true rfl⟩) (dk_preS hK hN (hP.sub [] rfl)) rfl rfl hl.1 rfl (lv_room (Nat.le_of_ble_eq_true rfl)) d_WO_wrap_10 ⟨Nat.le_of_ble_eq_true rfl, Nat.le_of_ble_eq_true rfl⟩) ?_
    obtain rfl := Option.some.inj hF
    exact W.iret (v := r10_2) hx hb hr (fun t ht hW => ⟨rfl, ht⟩) (fun _ h => by cases h) d_WO_wrap_13
  · have hF := dk_f c1_1 hF
    refine lv_iconst (v := (0 : Int32)) hx hb d_WO_wrap_4 (by decide) ?_
    refine lv_goto (tgt := 13) hx hb d_WO_wrap_5 (by decide) ?_
    obtain rfl := Option.some.inj hF
    exact W.iret (v := (0 : Int32)) hx hb hr (fun t ht hW => ⟨rfl, ht⟩) (fun _ h => by cases h) d_WO_wrap_13
def p_WO_bitsBelow (n : Nat) (x0 : Int32) : Option (Int64) :=
  (p_Math_min n x0 (60 : Int32)).bind fun r5_1 =>
  (p_Math_max n (0 : Int32) r5_1).bind fun r8_2 =>
  some (((1 : Int64) <<< (r8_2.toInt64 &&& 63)) - (1 : Int64))
abbrev m_WO_bitsBelow : Room := { frames := 1, cells := 0, slots := 0, locals := 21 }
set_option maxHeartbeats 4000000 in
set_option maxRecDepth 100000 in
theorem c_WO_bitsBelow (l : Launch) (G : va_G) (K : Nat → ClassId) (n : Nat) (x0 : Int32) (o : Int64) (hF : p_WO_bitsBelow n x0 = some o) :
    Met l y_WO_bitsBelow (wd y_WO_bitsBelow b_WO_bitsBelow 1 (some .long)) m_WO_bitsBelow (dk_Pp [.int x0] G K []) (dk_Qp (some (.long o))) 0 0 (fun _ => False) := by
  refine Met.ofW (cc := b_WO_bitsBelow) (maxL := 1) (ret := (some .long)) (by decide) rfl ?_
  intro p e s m args below meth c s₁ B hml hv
  obtain ⟨rfl, hP, hK, hN⟩ := hv
  have hx := B.exec
  have hb := B.bytes
  have hr := B.returns
  have hts : ∀ w ∈ lw_good, w.before _ s = true := fun w h => atoms_spec (ws := wd y_WO_bitsBelow b_WO_bitsBelow 1 (some .long)) B.pre w (List.mem_cons_of_mem _ h)
  have hown : s.vm.findClass R_WO = some m.cls := findClass_of_methodNamed B.named
  have hlocks := B.notSynchronized
  have hfix : CallFix p m c b_WO_bitsBelow 1 s _ lw_good R_WO := ⟨hx, hb, hml, hown, hts⟩
  have hl := lv_entry ([.int x0]) (n := 1) (Nat.le_of_ble_eq_true rfl)
  rw [lg_entry_eq]
  generalize (lg_sl ([.int x0]) ++ List.replicate (1 - (lg_sl ([.int x0])).length) Slot.unset).toArray = ls at hl ⊢
  have hl : lv_has ls 1 [(0, .int x0)] := hl
  change W p l e m_WO_bitsBelow s m _ below meth c s.heap [] 0 0 _ _
  unfold p_WO_bitsBelow at hF
  refine lv_lconst (v := (1 : Int64)) hx hb d_WO_bitsBelow_0 (by decide) ?_
  refine lv_iconst (v := (0 : Int32)) hx hb d_WO_bitsBelow_1 (by decide) ?_
  refine lv_iload_n hx hb d_WO_bitsBelow_2 rfl (lv_at hl 0 rfl) ?_
  refine lv_bipush (v := (60 : Int32)) hx hb d_WO_bitsBelow_3 (by decide) ?_
  obtain ⟨r5_1, hC, hF⟩ := dk_b hF
  refine dk_pure (va_runS (As := [.int x0, .int (60 : Int32)]) (rest := [.int (0 : Int32), .long (1 : Int64)]) hfix (c_Math_min l G K n x0 (60 : Int32) r5_1 hC) (va_cwS 2 hts (gd_S lk_7 lk_9 lk_6 lk_8) rfl rfl rfl (by decide +kernel) ⟨Nat.le_of_ble_eq_true rfl, Nat.le_of_ble_eq_true rfl⟩) (dk_preS hK hN (hP.sub [] rfl)) rfl rfl hl.1 rfl (lv_room (Nat.le_of_ble_eq_true rfl)) d_WO_bitsBelow_5 ⟨Nat.le_of_ble_eq_true rfl, Nat.le_of_ble_eq_true rfl⟩) ?_
  obtain ⟨r8_2, hC, hF⟩ := dk_b hF
  refine dk_pure (va_runS (As := [.int (0 : Int32), .int r5_1]) (rest := [.long (1 : Int64)]) hfix (c_Math_max l G K n (0 : Int32) r5_1 r8_2 hC) (va_cwS 2 hts (gd_S lk_10 lk_12 lk_6 lk_11) rfl rfl rfl (by decide +kernel) ⟨Nat.le_of_ble_eq_true rfl, Nat.le_of_ble_eq_true rfl⟩) (dk_preS hK hN (hP.sub [] rfl)) rfl rfl hl.1 rfl (lv_room (Nat.le_of_ble_eq_true rfl)) d_WO_bitsBelow_8 ⟨Nat.le_of_ble_eq_true rfl, Nat.le_of_ble_eq_true rfl⟩) ?_
  refine lv_lshl hx hb d_WO_bitsBelow_11 rfl ?_
  refine lv_lconst (v := (1 : Int64)) hx hb d_WO_bitsBelow_12 (by decide) ?_
  refine lv_lsub hx hb d_WO_bitsBelow_13 ?_
  obtain rfl := Option.some.inj hF
  exact W.lret (v := ((1 : Int64) <<< (r8_2.toInt64 &&& 63)) - (1 : Int64)) hx hb hr (fun t ht hW => ⟨rfl, ht⟩) (fun _ h => by cases h) d_WO_bitsBelow_14
def p_WO_rangeBits (n : Nat) (x0 : Int32) (x1 : Int32) (x2 : Int32) : Option (Int64) :=
  if x0 < x1 then
    (p_WO_bitsBelow n (x1 - x2)).bind fun r12_2 =>
    (p_WO_bitsBelow n (x0 - x2)).bind fun r18_3 =>
    some (r12_2 &&& (r18_3 ^^^ ((-1) : Int64)))
  else
    some (0 : Int64)
abbrev m_WO_rangeBits : Room := { frames := 2, cells := 0, slots := 0, locals := 41 }
set_option maxHeartbeats 4000000 in
set_option maxRecDepth 100000 in
theorem c_WO_rangeBits (l : Launch) (G : va_G) (K : Nat → ClassId) (n : Nat) (x0 : Int32) (x1 : Int32) (x2 : Int32) (o : Int64) (hF : p_WO_rangeBits n x0 x1 x2 = some o) :
    Met l y_WO_rangeBits (wd y_WO_rangeBits b_WO_rangeBits 3 (some .long)) m_WO_rangeBits (dk_Pp [.int x0, .int x1, .int x2] G K []) (dk_Qp (some (.long o))) 0 0 (fun _ => False) := by
  refine Met.ofW (cc := b_WO_rangeBits) (maxL := 3) (ret := (some .long)) (by decide) rfl ?_
  intro p e s m args below meth c s₁ B hml hv
  obtain ⟨rfl, hP, hK, hN⟩ := hv
  have hx := B.exec
  have hb := B.bytes
  have hr := B.returns
  have hts : ∀ w ∈ lw_good, w.before _ s = true := fun w h => atoms_spec (ws := wd y_WO_rangeBits b_WO_rangeBits 3 (some .long)) B.pre w (List.mem_cons_of_mem _ h)
  have hown : s.vm.findClass R_WO = some m.cls := findClass_of_methodNamed B.named
  have hlocks := B.notSynchronized
  have hfix : CallFix p m c b_WO_rangeBits 3 s _ lw_good R_WO := ⟨hx, hb, hml, hown, hts⟩
  have hl := lv_entry ([.int x0, .int x1, .int x2]) (n := 3) (Nat.le_of_ble_eq_true rfl)
  rw [lg_entry_eq]
  generalize (lg_sl ([.int x0, .int x1, .int x2]) ++ List.replicate (3 - (lg_sl ([.int x0, .int x1, .int x2])).length) Slot.unset).toArray = ls at hl ⊢
  have hl : lv_has ls 3 [(0, .int x0), (1, .int x1), (2, .int x2)] := hl
  change W p l e m_WO_rangeBits s m _ below meth c s.heap [] 0 0 _ _
  unfold p_WO_rangeBits at hF
  refine lv_iload_n hx hb d_WO_rangeBits_0 rfl (lv_at hl 0 rfl) ?_
  refine lv_iload_n hx hb d_WO_rangeBits_1 rfl (lv_at hl 1 rfl) ?_
  refine lv_icmp_lt (tgt := 9) hx hb d_WO_rangeBits_2 (by decide) (fun c2_1 => ?_) (fun c2_1 => ?_)
  · have hF := dk_t c2_1 hF
    refine lv_iload_n hx hb d_WO_rangeBits_9 rfl (lv_at hl 1 rfl) ?_
    refine lv_iload_n hx hb d_WO_rangeBits_10 rfl (lv_at hl 2 rfl) ?_
    refine lv_isub hx hb d_WO_rangeBits_11 ?_
    obtain ⟨r12_2, hC, hF⟩ := dk_b hF
    refine dk_pure (va_runS (As := [.int (x1 - x2)]) (rest := []) hfix (c_WO_bitsBelow l G K n (x1 - x2) r12_2 hC) (va_cwS 1 hts (gd_S lk_13 lk_15 lk_16 lk_14) rfl rfl rfl (by decide +kernel) ⟨Nat.le_of_ble_eq_true rfl, Nat.le_of_ble_eq_true rfl⟩) (dk_preS hK hN (hP.sub [] rfl)) rfl rfl hl.1 rfl (lv_room (Nat.le_of_ble_eq_true rfl)) d_WO_rangeBits_12 ⟨Nat.le_of_ble_eq_true rfl, Nat.le_of_ble_eq_true rfl⟩) ?_
    refine lv_iload_n hx hb d_WO_rangeBits_15 rfl (lv_at hl 0 rfl) ?_
    refine lv_iload_n hx hb d_WO_rangeBits_16 rfl (lv_at hl 2 rfl) ?_
    refine lv_isub hx hb d_WO_rangeBits_17 ?_
    obtain ⟨r18_3, hC, hF⟩ := dk_b hF
    refine dk_pure (va_runS (As := [.int (x0 - x2)]) (rest := [.long r12_2]) hfix (c_WO_bitsBelow l G K n (x0 - x2) r18_3 hC) (va_cwS 1 hts (gd_S lk_13 lk_15 lk_16 lk_14) rfl rfl rfl (by decide +kernel) ⟨Nat.le_of_ble_eq_true rfl, Nat.le_of_ble_eq_true rfl⟩) (dk_preS hK hN (hP.sub [] rfl)) rfl rfl hl.1 rfl (lv_room (Nat.le_of_ble_eq_true rfl)) d_WO_rangeBits_18 ⟨Nat.le_of_ble_eq_true rfl, Nat.le_of_ble_eq_true rfl⟩) ?_
    refine lv_ldc2 (own := R_WO) (index := 126) (v := ((-1) : Int64)) hx hb hown (hts _ lk_17) d_WO_rangeBits_21 ?_
    refine lv_lxor hx hb d_WO_rangeBits_24 ?_
    refine lv_land hx hb d_WO_rangeBits_25 ?_
    obtain rfl := Option.some.inj hF
    exact W.lret (v := r12_2 &&& (r18_3 ^^^ ((-1) : Int64))) hx hb hr (fun t ht hW => ⟨rfl, ht⟩) (fun _ h => by cases h) d_WO_rangeBits_26
  · have hF := dk_f c2_1 hF
    refine lv_lconst (v := (0 : Int64)) hx hb d_WO_rangeBits_5 (by decide) ?_
    refine lv_goto (tgt := 26) hx hb d_WO_rangeBits_6 (by decide) ?_
    obtain rfl := Option.some.inj hF
    exact W.lret (v := (0 : Int64)) hx hb hr (fun t ht hW => ⟨rfl, ht⟩) (fun _ h => by cases h) d_WO_rangeBits_26
def p_WO_arcBits (n : Nat) (x0 : Int32) (x1 : Int32) (x2 : Int32) (x3 : Int32) : Option (Int64) :=
  (p_Math_min n (x0 + x1) x2).bind fun r9_1 =>
  (p_WO_rangeBits n x0 r9_1 x3).bind fun r13_2 =>
  (p_WO_rangeBits n (0 : Int32) ((x0 + x1) - x2) x3).bind fun r22_3 =>
  some (r13_2 ||| r22_3)
abbrev m_WO_arcBits : Room := { frames := 3, cells := 0, slots := 0, locals := 63 }
set_option maxHeartbeats 4000000 in
set_option maxRecDepth 100000 in
theorem c_WO_arcBits (l : Launch) (G : va_G) (K : Nat → ClassId) (n : Nat) (x0 : Int32) (x1 : Int32) (x2 : Int32) (x3 : Int32) (o : Int64) (hF : p_WO_arcBits n x0 x1 x2 x3 = some o) :
    Met l y_WO_arcBits (wd y_WO_arcBits b_WO_arcBits 5 (some .long)) m_WO_arcBits (dk_Pp [.int x0, .int x1, .int x2, .int x3] G K []) (dk_Qp (some (.long o))) 0 0 (fun _ => False) := by
  refine Met.ofW (cc := b_WO_arcBits) (maxL := 5) (ret := (some .long)) (by decide) rfl ?_
  intro p e s m args below meth c s₁ B hml hv
  obtain ⟨rfl, hP, hK, hN⟩ := hv
  have hx := B.exec
  have hb := B.bytes
  have hr := B.returns
  have hts : ∀ w ∈ lw_good, w.before _ s = true := fun w h => atoms_spec (ws := wd y_WO_arcBits b_WO_arcBits 5 (some .long)) B.pre w (List.mem_cons_of_mem _ h)
  have hown : s.vm.findClass R_WO = some m.cls := findClass_of_methodNamed B.named
  have hlocks := B.notSynchronized
  have hfix : CallFix p m c b_WO_arcBits 5 s _ lw_good R_WO := ⟨hx, hb, hml, hown, hts⟩
  have hl := lv_entry ([.int x0, .int x1, .int x2, .int x3]) (n := 5) (Nat.le_of_ble_eq_true rfl)
  rw [lg_entry_eq]
  generalize (lg_sl ([.int x0, .int x1, .int x2, .int x3]) ++ List.replicate (5 - (lg_sl ([.int x0, .int x1, .int x2, .int x3])).length) Slot.unset).toArray = ls at hl ⊢
  have hl : lv_has ls 5 [(0, .int x0), (1, .int x1), (2, .int x2), (3, .int x3)] := hl
  change W p l e m_WO_arcBits s m _ below meth c s.heap [] 0 0 _ _
  unfold p_WO_arcBits at hF
  refine lv_iload_n hx hb d_WO_arcBits_0 rfl (lv_at hl 0 rfl) ?_
  refine lv_iload_n hx hb d_WO_arcBits_1 rfl (lv_at hl 1 rfl) ?_
  refine lv_iadd hx hb d_WO_arcBits_2 ?_
  refine lv_istore (lv' := [(4, .int (x0 + x1)), (0, .int x0), (1, .int x1), (2, .int x2), (3, .int x3)]) hx hb d_WO_arcBits_3 hl (by decide) rfl (fun ls hl => ?_)
  refine lv_iload_n hx hb d_WO_arcBits_5 rfl (lv_at hl 1 rfl) ?_
  refine lv_iload hx hb d_WO_arcBits_6 (lv_at hl 0 rfl) ?_
  refine lv_iload_n hx hb d_WO_arcBits_8 rfl (lv_at hl 3 rfl) ?_
  obtain ⟨r9_1, hC, hF⟩ := dk_b hF
  refine dk_pure (va_runS (As := [.int (x0 + x1), .int x2]) (rest := [.int x0]) hfix (c_Math_min l G K n (x0 + x1) x2 r9_1 hC) (va_cwS 2 hts (gd_S lk_7 lk_9 lk_6 lk_8) rfl rfl rfl (by decide +kernel) ⟨Nat.le_of_ble_eq_true rfl, Nat.le_of_ble_eq_true rfl⟩) (dk_preS hK hN (hP.sub [] rfl)) rfl rfl hl.1 rfl (lv_room (Nat.le_of_ble_eq_true rfl)) d_WO_arcBits_9 ⟨Nat.le_of_ble_eq_true rfl, Nat.le_of_ble_eq_true rfl⟩) ?_
  refine lv_iload_n hx hb d_WO_arcBits_12 rfl (lv_at hl 4 rfl) ?_
  obtain ⟨r13_2, hC, hF⟩ := dk_b hF
  refine dk_pure (va_runS (As := [.int x0, .int r9_1, .int x3]) (rest := []) hfix (c_WO_rangeBits l G K n x0 r9_1 x3 r13_2 hC) (va_cwS 3 hts (gd_S lk_18 lk_20 lk_16 lk_19) rfl rfl rfl (by decide +kernel) ⟨Nat.le_of_ble_eq_true rfl, Nat.le_of_ble_eq_true rfl⟩) (dk_preS hK hN (hP.sub [] rfl)) rfl rfl hl.1 rfl (lv_room (Nat.le_of_ble_eq_true rfl)) d_WO_arcBits_13 ⟨Nat.le_of_ble_eq_true rfl, Nat.le_of_ble_eq_true rfl⟩) ?_
  refine lv_iconst (v := (0 : Int32)) hx hb d_WO_arcBits_16 (by decide) ?_
  refine lv_iload hx hb d_WO_arcBits_17 (lv_at hl 0 rfl) ?_
  refine lv_iload_n hx hb d_WO_arcBits_19 rfl (lv_at hl 3 rfl) ?_
  refine lv_isub hx hb d_WO_arcBits_20 ?_
  refine lv_iload_n hx hb d_WO_arcBits_21 rfl (lv_at hl 4 rfl) ?_
  obtain ⟨r22_3, hC, hF⟩ := dk_b hF
  refine dk_pure (va_runS (As := [.int (0 : Int32), .int ((x0 + x1) - x2), .int x3]) (rest := [.long r13_2]) hfix (c_WO_rangeBits l G K n (0 : Int32) ((x0 + x1) - x2) x3 r22_3 hC) (va_cwS 3 hts (gd_S lk_18 lk_20 lk_16 lk_19) rfl rfl rfl (by decide +kernel) ⟨Nat.le_of_ble_eq_true rfl, Nat.le_of_ble_eq_true rfl⟩) (dk_preS hK hN (hP.sub [] rfl)) rfl rfl hl.1 rfl (lv_room (Nat.le_of_ble_eq_true rfl)) d_WO_arcBits_22 ⟨Nat.le_of_ble_eq_true rfl, Nat.le_of_ble_eq_true rfl⟩) ?_
  refine lv_lor hx hb d_WO_arcBits_25 ?_
  obtain rfl := Option.some.inj hF
  exact W.lret (v := r13_2 ||| r22_3) hx hb hr (fun t ht hW => ⟨rfl, ht⟩) (fun _ h => by cases h) d_WO_arcBits_26
def p_WO_shared (n : Nat) (x0 : Int32) (x1 : Int32) (x2 : Int32) (x3 : Int32) : Option (Int32) :=
  (p_Math_min n (x0 - x2) x1).bind fun r5_1 =>
  (p_Math_max n (0 : Int32) r5_1).bind fun r8_2 =>
  (p_Math_min n x0 ((x2 + x1) - x3)).bind fun r20_3 =>
  (p_Math_max n (0 : Int32) r20_3).bind fun r23_4 =>
  some (r8_2 + r23_4)
abbrev m_WO_shared : Room := { frames := 1, cells := 0, slots := 0, locals := 21 }
set_option maxHeartbeats 4000000 in
set_option maxRecDepth 100000 in
theorem c_WO_shared (l : Launch) (G : va_G) (K : Nat → ClassId) (n : Nat) (x0 : Int32) (x1 : Int32) (x2 : Int32) (x3 : Int32) (o : Int32) (hF : p_WO_shared n x0 x1 x2 x3 = some o) :
    Met l y_WO_shared (wd y_WO_shared b_WO_shared 6 (some .int)) m_WO_shared (dk_Pp [.int x0, .int x1, .int x2, .int x3] G K []) (dk_Qp (some (.int o))) 0 0 (fun _ => False) := by
  refine Met.ofW (cc := b_WO_shared) (maxL := 6) (ret := (some .int)) (by decide) rfl ?_
  intro p e s m args below meth c s₁ B hml hv
  obtain ⟨rfl, hP, hK, hN⟩ := hv
  have hx := B.exec
  have hb := B.bytes
  have hr := B.returns
  have hts : ∀ w ∈ lw_good, w.before _ s = true := fun w h => atoms_spec (ws := wd y_WO_shared b_WO_shared 6 (some .int)) B.pre w (List.mem_cons_of_mem _ h)
  have hown : s.vm.findClass R_WO = some m.cls := findClass_of_methodNamed B.named
  have hlocks := B.notSynchronized
  have hfix : CallFix p m c b_WO_shared 6 s _ lw_good R_WO := ⟨hx, hb, hml, hown, hts⟩
  have hl := lv_entry ([.int x0, .int x1, .int x2, .int x3]) (n := 6) (Nat.le_of_ble_eq_true rfl)
  rw [lg_entry_eq]
  generalize (lg_sl ([.int x0, .int x1, .int x2, .int x3]) ++ List.replicate (6 - (lg_sl ([.int x0, .int x1, .int x2, .int x3])).length) Slot.unset).toArray = ls at hl ⊢
  have hl : lv_has ls 6 [(0, .int x0), (1, .int x1), (2, .int x2), (3, .int x3)] := hl
  change W p l e m_WO_shared s m _ below meth c s.heap [] 0 0 _ _
  unfold p_WO_shared at hF
  refine lv_iconst (v := (0 : Int32)) hx hb d_WO_shared_0 (by decide) ?_
  refine lv_iload_n hx hb d_WO_shared_1 rfl (lv_at hl 0 rfl) ?_
  refine lv_iload_n hx hb d_WO_shared_2 rfl (lv_at hl 2 rfl) ?_
  refine lv_isub hx hb d_WO_shared_3 ?_
  refine lv_iload_n hx hb d_WO_shared_4 rfl (lv_at hl 1 rfl) ?_
  obtain ⟨r5_1, hC, hF⟩ := dk_b hF
  refine dk_pure (va_runS (As := [.int (x0 - x2), .int x1]) (rest := [.int (0 : Int32)]) hfix (c_Math_min l G K n (x0 - x2) x1 r5_1 hC) (va_cwS 2 hts (gd_S lk_7 lk_9 lk_6 lk_8) rfl rfl rfl (by decide +kernel) ⟨Nat.le_of_ble_eq_true rfl, Nat.le_of_ble_eq_true rfl⟩) (dk_preS hK hN (hP.sub [] rfl)) rfl rfl hl.1 rfl (lv_room (Nat.le_of_ble_eq_true rfl)) d_WO_shared_5 ⟨Nat.le_of_ble_eq_true rfl, Nat.le_of_ble_eq_true rfl⟩) ?_
  obtain ⟨r8_2, hC, hF⟩ := dk_b hF
  refine dk_pure (va_runS (As := [.int (0 : Int32), .int r5_1]) (rest := []) hfix (c_Math_max l G K n (0 : Int32) r5_1 r8_2 hC) (va_cwS 2 hts (gd_S lk_10 lk_12 lk_6 lk_11) rfl rfl rfl (by decide +kernel) ⟨Nat.le_of_ble_eq_true rfl, Nat.le_of_ble_eq_true rfl⟩) (dk_preS hK hN (hP.sub [] rfl)) rfl rfl hl.1 rfl (lv_room (Nat.le_of_ble_eq_true rfl)) d_WO_shared_8 ⟨Nat.le_of_ble_eq_true rfl, Nat.le_of_ble_eq_true rfl⟩) ?_
  refine lv_istore (lv' := [(4, .int r8_2), (0, .int x0), (1, .int x1), (2, .int x2), (3, .int x3)]) hx hb d_WO_shared_11 hl (by decide) rfl (fun ls hl => ?_)
  refine lv_iconst (v := (0 : Int32)) hx hb d_WO_shared_13 (by decide) ?_
  refine lv_iload_n hx hb d_WO_shared_14 rfl (lv_at hl 1 rfl) ?_
  refine lv_iload_n hx hb d_WO_shared_15 rfl (lv_at hl 3 rfl) ?_
  refine lv_iload_n hx hb d_WO_shared_16 rfl (lv_at hl 2 rfl) ?_
  refine lv_iadd hx hb d_WO_shared_17 ?_
  refine lv_iload_n hx hb d_WO_shared_18 rfl (lv_at hl 4 rfl) ?_
  refine lv_isub hx hb d_WO_shared_19 ?_
  obtain ⟨r20_3, hC, hF⟩ := dk_b hF
  refine dk_pure (va_runS (As := [.int x0, .int ((x2 + x1) - x3)]) (rest := [.int (0 : Int32)]) hfix (c_Math_min l G K n x0 ((x2 + x1) - x3) r20_3 hC) (va_cwS 2 hts (gd_S lk_7 lk_9 lk_6 lk_8) rfl rfl rfl (by decide +kernel) ⟨Nat.le_of_ble_eq_true rfl, Nat.le_of_ble_eq_true rfl⟩) (dk_preS hK hN (hP.sub [] rfl)) rfl rfl hl.1 rfl (lv_room (Nat.le_of_ble_eq_true rfl)) d_WO_shared_20 ⟨Nat.le_of_ble_eq_true rfl, Nat.le_of_ble_eq_true rfl⟩) ?_
  obtain ⟨r23_4, hC, hF⟩ := dk_b hF
  refine dk_pure (va_runS (As := [.int (0 : Int32), .int r20_3]) (rest := []) hfix (c_Math_max l G K n (0 : Int32) r20_3 r23_4 hC) (va_cwS 2 hts (gd_S lk_10 lk_12 lk_6 lk_11) rfl rfl rfl (by decide +kernel) ⟨Nat.le_of_ble_eq_true rfl, Nat.le_of_ble_eq_true rfl⟩) (dk_preS hK hN (hP.sub [] rfl)) rfl rfl hl.1 rfl (lv_room (Nat.le_of_ble_eq_true rfl)) d_WO_shared_23 ⟨Nat.le_of_ble_eq_true rfl, Nat.le_of_ble_eq_true rfl⟩) ?_
  refine lv_istore (lv' := [(5, .int r23_4), (4, .int r8_2), (0, .int x0), (1, .int x1), (2, .int x2), (3, .int x3)]) hx hb d_WO_shared_26 hl (by decide) rfl (fun ls hl => ?_)
  refine lv_iload hx hb d_WO_shared_28 (lv_at hl 1 rfl) ?_
  refine lv_iload hx hb d_WO_shared_30 (lv_at hl 0 rfl) ?_
  refine lv_iadd hx hb d_WO_shared_32 ?_
  obtain rfl := Option.some.inj hF
  exact W.iret (v := r8_2 + r23_4) hx hb hr (fun t ht hW => ⟨rfl, ht⟩) (fun _ h => by cases h) d_WO_shared_33
def p_WO_commonDivisor_9 (n : Nat) : Nat → Int64 → Int64 → Int32 → Option (Int64)
  | 0, _, _, _ => none
  | k + 1, z4, z6, z8 =>
    if (lg_cmp z6 (0 : Int64)) = 0 then
      some z4
    else
      if (200 : Int32) ≤ z8 then
        some z4
      else
        if z6 = 0 then none else
        p_WO_commonDivisor_9 n k z6 (z4 - z4 / z6 * z6) (z8 + (1 : Int32))
theorem q_WO_commonDivisor_9 (n k : Nat) (z4 : Int64) (z6 : Int64) (z8 : Int32) : p_WO_commonDivisor_9 n (k + 1) z4 z6 z8 =
    if (lg_cmp z6 (0 : Int64)) = 0 then
      some z4
    else
      if (200 : Int32) ≤ z8 then
        some z4
      else
        if z6 = 0 then none else
        p_WO_commonDivisor_9 n k z6 (z4 - z4 / z6 * z6) (z8 + (1 : Int32)) := rfl
def p_WO_commonDivisor (n : Nat) (x0 : Int64) (x2 : Int64) : Option (Int64) :=
  (p_WO_commonDivisor_9 n n x0 x2 (0 : Int32)).bind fun q9_3 =>
  some q9_3
abbrev m_WO_commonDivisor : Room := { frames := 0, cells := 0, slots := 0, locals := 0 }
set_option maxHeartbeats 4000000 in
set_option maxRecDepth 100000 in
theorem c_WO_commonDivisor (l : Launch) (G : va_G) (K : Nat → ClassId) (n : Nat) (x0 : Int64) (x2 : Int64) (o : Int64) (hF : p_WO_commonDivisor n x0 x2 = some o) :
    Met l y_WO_commonDivisor (wd y_WO_commonDivisor b_WO_commonDivisor 11 (some .long)) m_WO_commonDivisor (dk_Pp [.long x0, .long x2] G K []) (dk_Qp (some (.long o))) 0 0 (fun _ => False) := by
  refine Met.ofW (cc := b_WO_commonDivisor) (maxL := 11) (ret := (some .long)) (by decide) rfl ?_
  intro p e s m args below meth c s₁ B hml hv
  obtain ⟨rfl, hP, hK, hN⟩ := hv
  have hx := B.exec
  have hb := B.bytes
  have hr := B.returns
  have hts : ∀ w ∈ lw_good, w.before _ s = true := fun w h => atoms_spec (ws := wd y_WO_commonDivisor b_WO_commonDivisor 11 (some .long)) B.pre w (List.mem_cons_of_mem _ h)
  have hown : s.vm.findClass R_WO = some m.cls := findClass_of_methodNamed B.named
  have hlocks := B.notSynchronized
  have hfix : CallFix p m c b_WO_commonDivisor 11 s _ lw_good R_WO := ⟨hx, hb, hml, hown, hts⟩
  have hl := lv_entry ([.long x0, .long x2]) (n := 11) (Nat.le_of_ble_eq_true rfl)
  rw [lg_entry_eq]
  generalize (lg_sl ([.long x0, .long x2]) ++ List.replicate (11 - (lg_sl ([.long x0, .long x2])).length) Slot.unset).toArray = ls at hl ⊢
  have hl : lv_has ls 11 [(0, .long x0), (2, .long x2)] := hl
  change W p l e m_WO_commonDivisor s m _ below meth c s.heap [] 0 0 _ _
  have L9 : ∀ (k : Nat) (z4 : Int64) (z6 : Int64) (z8 : Int32) (q : Int64), p_WO_commonDivisor_9 n k z4 z6 z8 = some q → ∀ ls : Array Slot, lv_has ls 11 [(4, .long z4), (6, .long z6), (8, .int z8)] → (∀ (ls1 : Array Slot), lv_has ls1 11 [(4, .long q)] → W p l e m_WO_commonDivisor s m ([.long x0, .long x2] : List Value).toArray below meth c s.heap [] 0 0 (MQ below (dk_Qp (some (.long o))) ([.long x0, .long x2] : List Value).toArray s 0 0 (fun _ => False)) (F0 m 45 ls1 [])) → W p l e m_WO_commonDivisor s m ([.long x0, .long x2] : List Value).toArray below meth c s.heap [] 0 0 (MQ below (dk_Qp (some (.long o))) ([.long x0, .long x2] : List Value).toArray s 0 0 (fun _ => False)) (F0 m 9 ls []) := by
    intro k
    induction k with
    | zero =>
      intro z4 z6 z8 q hF ls hl hk
      exact absurd hF (by simp [p_WO_commonDivisor_9])
    | succ k jh =>
      intro z4 z6 z8 q hF ls hl hk
      have hF := (q_WO_commonDivisor_9 n k z4 z6 z8).symm.trans hF
      refine lv_lload hx hb d_WO_commonDivisor_9 (lv_at hl 1 rfl) ?_
      refine lv_lconst (v := (0 : Int64)) hx hb d_WO_commonDivisor_11 (by decide) ?_
      refine W.lcmp hx hb d_WO_commonDivisor_12 ?_
      refine lv_if_eq (tgt := 45) hx hb d_WO_commonDivisor_13 (by decide) (fun c13_1 => ?_) (fun c13_1 => ?_)
      · have hF := dk_t c13_1 hF
        obtain rfl := Option.some.inj hF
        exact hk ls (lv_sub hl [0] rfl)
      · have hF := dk_f c13_1 hF
        refine lv_iload hx hb d_WO_commonDivisor_16 (lv_at hl 2 rfl) ?_
        refine lv_sipush (v := (200 : Int32)) hx hb d_WO_commonDivisor_18 (by decide) ?_
        refine lv_icmp_ge (tgt := 45) hx hb d_WO_commonDivisor_21 (by decide) (fun c21_2 => ?_) (fun c21_2 => ?_)
        · have hF := dk_t c21_2 hF
          obtain rfl := Option.some.inj hF
          exact hk ls (lv_sub hl [0] rfl)
        · have hF := dk_f c21_2 hF
          refine lv_lload hx hb d_WO_commonDivisor_24 (lv_at hl 0 rfl) ?_
          refine lv_lload hx hb d_WO_commonDivisor_26 (lv_at hl 1 rfl) ?_
          obtain ⟨hz, hF⟩ := dk_z hF
          refine lv_lrem hx hb d_WO_commonDivisor_28 hz ?_
          refine lv_lstore (lv' := [(9, .long (z4 - z4 / z6 * z6)), (4, .long z4), (6, .long z6), (8, .int z8)]) hx hb d_WO_commonDivisor_29 hl (by decide) rfl (fun ls hl => ?_)
          refine lv_lload hx hb d_WO_commonDivisor_31 (lv_at hl 2 rfl) ?_
          refine lv_lstore (lv' := [(4, .long z6), (9, .long (z4 - z4 / z6 * z6)), (6, .long z6), (8, .int z8)]) hx hb d_WO_commonDivisor_33 hl (by decide) rfl (fun ls hl => ?_)
          refine lv_lload hx hb d_WO_commonDivisor_35 (lv_at hl 1 rfl) ?_
          refine lv_lstore (lv' := [(6, .long (z4 - z4 / z6 * z6)), (4, .long z6), (9, .long (z4 - z4 / z6 * z6)), (8, .int z8)]) hx hb d_WO_commonDivisor_37 hl (by decide) rfl (fun ls hl => ?_)
          refine lv_iinc (v := z8 + (1 : Int32)) (lv' := [(8, .int (z8 + (1 : Int32))), (6, .long (z4 - z4 / z6 * z6)), (4, .long z6), (9, .long (z4 - z4 / z6 * z6))]) hx hb d_WO_commonDivisor_39 hl (k := 3) rfl rfl (by decide) rfl (fun ls hl => ?_)
          refine lv_goto (tgt := 9) hx hb d_WO_commonDivisor_42 (by decide) ?_
          exact jh z6 (z4 - z4 / z6 * z6) (z8 + (1 : Int32)) q hF ls (lv_sub hl [2, 1, 0] rfl) hk
  unfold p_WO_commonDivisor at hF
  refine lv_lload_n hx hb d_WO_commonDivisor_0 rfl (lv_at hl 0 rfl) ?_
  refine lv_lstore (lv' := [(4, .long x0), (0, .long x0), (2, .long x2)]) hx hb d_WO_commonDivisor_1 hl (by decide) rfl (fun ls hl => ?_)
  refine lv_lload_n hx hb d_WO_commonDivisor_3 rfl (lv_at hl 2 rfl) ?_
  refine lv_lstore (lv' := [(6, .long x2), (4, .long x0), (0, .long x0), (2, .long x2)]) hx hb d_WO_commonDivisor_4 hl (by decide) rfl (fun ls hl => ?_)
  refine lv_iconst (v := (0 : Int32)) hx hb d_WO_commonDivisor_6 (by decide) ?_
  refine lv_istore (lv' := [(8, .int (0 : Int32)), (6, .long x2), (4, .long x0), (0, .long x0), (2, .long x2)]) hx hb d_WO_commonDivisor_7 hl (by decide) rfl (fun ls hl => ?_)
  obtain ⟨q9_3, hC, hF⟩ := dk_b hF
  refine L9 n x0 x2 (0 : Int32) q9_3 hC ls (lv_sub hl [2, 1, 0] rfl) (fun ls hl => ?_)
  refine lv_lload hx hb d_WO_commonDivisor_45 (lv_at hl 0 rfl) ?_
  obtain rfl := Option.some.inj hF
  exact W.lret (v := q9_3) hx hb hr (fun t ht hW => ⟨rfl, ht⟩) (fun _ h => by cases h) d_WO_commonDivisor_47
def p_WO_leastTerms (n : Nat) (x0 : Int64) (x2 : Int64) (x4 : Int32) : Option (Int64) :=
  (p_WO_commonDivisor n x0 x2).bind fun r2_1 =>
  if 0 < (lg_cmp r2_1 (0 : Int64)) then
    if x4 = 0 then
      if r2_1 = 0 then none else
      some (x0 / r2_1)
    else
      if r2_1 = 0 then none else
      some (x2 / r2_1)
  else
    some ((-1) : Int64)
abbrev m_WO_leastTerms : Room := { frames := 1, cells := 0, slots := 0, locals := 30 }
set_option maxHeartbeats 4000000 in
set_option maxRecDepth 100000 in
theorem c_WO_leastTerms (l : Launch) (G : va_G) (K : Nat → ClassId) (n : Nat) (x0 : Int64) (x2 : Int64) (x4 : Int32) (o : Int64) (hF : p_WO_leastTerms n x0 x2 x4 = some o) :
    Met l y_WO_leastTerms (wd y_WO_leastTerms b_WO_leastTerms 7 (some .long)) m_WO_leastTerms (dk_Pp [.long x0, .long x2, .int x4] G K []) (dk_Qp (some (.long o))) 0 0 (fun _ => False) := by
  refine Met.ofW (cc := b_WO_leastTerms) (maxL := 7) (ret := (some .long)) (by decide) rfl ?_
  intro p e s m args below meth c s₁ B hml hv
  obtain ⟨rfl, hP, hK, hN⟩ := hv
  have hx := B.exec
  have hb := B.bytes
  have hr := B.returns
  have hts : ∀ w ∈ lw_good, w.before _ s = true := fun w h => atoms_spec (ws := wd y_WO_leastTerms b_WO_leastTerms 7 (some .long)) B.pre w (List.mem_cons_of_mem _ h)
  have hown : s.vm.findClass R_WO = some m.cls := findClass_of_methodNamed B.named
  have hlocks := B.notSynchronized
  have hfix : CallFix p m c b_WO_leastTerms 7 s _ lw_good R_WO := ⟨hx, hb, hml, hown, hts⟩
  have hl := lv_entry ([.long x0, .long x2, .int x4]) (n := 7) (Nat.le_of_ble_eq_true rfl)
  rw [lg_entry_eq]
  generalize (lg_sl ([.long x0, .long x2, .int x4]) ++ List.replicate (7 - (lg_sl ([.long x0, .long x2, .int x4])).length) Slot.unset).toArray = ls at hl ⊢
  have hl : lv_has ls 7 [(0, .long x0), (2, .long x2), (4, .int x4)] := hl
  change W p l e m_WO_leastTerms s m _ below meth c s.heap [] 0 0 _ _
  unfold p_WO_leastTerms at hF
  refine lv_lload_n hx hb d_WO_leastTerms_0 rfl (lv_at hl 0 rfl) ?_
  refine lv_lload_n hx hb d_WO_leastTerms_1 rfl (lv_at hl 1 rfl) ?_
  obtain ⟨r2_1, hC, hF⟩ := dk_b hF
  refine dk_pure (va_runS (As := [.long x0, .long x2]) (rest := []) hfix (c_WO_commonDivisor l G K n x0 x2 r2_1 hC) (va_cwS 2 hts (gd_S lk_21 lk_23 lk_16 lk_22) rfl rfl rfl (by decide +kernel) ⟨Nat.le_of_ble_eq_true rfl, Nat.le_of_ble_eq_true rfl⟩) (dk_preS hK hN (hP.sub [] rfl)) rfl rfl hl.1 rfl (lv_room (Nat.le_of_ble_eq_true rfl)) d_WO_leastTerms_2 ⟨Nat.le_of_ble_eq_true rfl, Nat.le_of_ble_eq_true rfl⟩) ?_
  refine lv_lstore (lv' := [(5, .long r2_1), (0, .long x0), (2, .long x2), (4, .int x4)]) hx hb d_WO_leastTerms_5 hl (by decide) rfl (fun ls hl => ?_)
  refine lv_lload hx hb d_WO_leastTerms_7 (lv_at hl 0 rfl) ?_
  refine lv_lconst (v := (0 : Int64)) hx hb d_WO_leastTerms_9 (by decide) ?_
  refine W.lcmp hx hb d_WO_leastTerms_10 ?_
  refine lv_if_gt (tgt := 18) hx hb d_WO_leastTerms_11 (by decide) (fun c11_2 => ?_) (fun c11_2 => ?_)
  · have hF := dk_t c11_2 hF
    refine lv_iload hx hb d_WO_leastTerms_18 (lv_at hl 3 rfl) ?_
    refine lv_if_ne (tgt := 30) hx hb d_WO_leastTerms_20 (by decide) (fun c20_3 => ?_) (fun c20_3 => ?_)
    · have hF := dk_f c20_3 hF
      refine lv_lload_n hx hb d_WO_leastTerms_30 rfl (lv_at hl 2 rfl) ?_
      refine lv_lload hx hb d_WO_leastTerms_31 (lv_at hl 0 rfl) ?_
      obtain ⟨hz, hF⟩ := dk_z hF
      refine lv_ldiv hx hb d_WO_leastTerms_33 hz ?_
      obtain rfl := Option.some.inj hF
      exact W.lret (v := x2 / r2_1) hx hb hr (fun t ht hW => ⟨rfl, ht⟩) (fun _ h => by cases h) d_WO_leastTerms_34
    · have hF := dk_t c20_3 hF
      refine lv_lload_n hx hb d_WO_leastTerms_23 rfl (lv_at hl 1 rfl) ?_
      refine lv_lload hx hb d_WO_leastTerms_24 (lv_at hl 0 rfl) ?_
      obtain ⟨hz, hF⟩ := dk_z hF
      refine lv_ldiv hx hb d_WO_leastTerms_26 hz ?_
      refine lv_goto (tgt := 34) hx hb d_WO_leastTerms_27 (by decide) ?_
      obtain rfl := Option.some.inj hF
      exact W.lret (v := x0 / r2_1) hx hb hr (fun t ht hW => ⟨rfl, ht⟩) (fun _ h => by cases h) d_WO_leastTerms_34
  · have hF := dk_f c11_2 hF
    refine lv_ldc2 (own := R_WO) (index := 126) (v := ((-1) : Int64)) hx hb hown (hts _ lk_17) d_WO_leastTerms_14 ?_
    obtain rfl := Option.some.inj hF
    exact W.lret (v := ((-1) : Int64)) hx hb hr (fun t ht hW => ⟨rfl, ht⟩) (fun _ h => by cases h) d_WO_leastTerms_17
