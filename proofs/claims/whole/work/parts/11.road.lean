theorem d_Road_size_0 : decode b_Road_size 0 = .ok (.aload_n 0, 1) := by decide +kernel
theorem d_Road_size_1 : decode b_Road_size 1 = .ok (.getfield 40, 3) := by decide +kernel
theorem d_Road_size_4 : decode b_Road_size 4 = .ok (.ireturn, 1) := by decide +kernel
theorem d_Road_isFull_0 : decode b_Road_isFull 0 = .ok (.aload_n 0, 1) := by decide +kernel
theorem d_Road_isFull_1 : decode b_Road_isFull 1 = .ok (.getfield 40, 3) := by decide +kernel
theorem d_Road_isFull_4 : decode b_Road_isFull 4 = .ok (.iconst 5, 1) := by decide +kernel
theorem d_Road_isFull_5 : decode b_Road_isFull 5 = .ok (.if_icmp .lt 7, 3) := by decide +kernel
theorem d_Road_isFull_8 : decode b_Road_isFull 8 = .ok (.iconst 1, 1) := by decide +kernel
theorem d_Road_isFull_9 : decode b_Road_isFull 9 = .ok (.goto 4, 3) := by decide +kernel
theorem d_Road_isFull_12 : decode b_Road_isFull 12 = .ok (.iconst 0, 1) := by decide +kernel
theorem d_Road_isFull_13 : decode b_Road_isFull 13 = .ok (.ireturn, 1) := by decide +kernel
theorem d_Road_has_0 : decode b_Road_has 0 = .ok (.iload_n 1, 1) := by decide +kernel
theorem d_Road_has_1 : decode b_Road_has 1 = .ok (.ifCond .lt 15, 3) := by decide +kernel
theorem d_Road_has_4 : decode b_Road_has 4 = .ok (.iload_n 1, 1) := by decide +kernel
theorem d_Road_has_5 : decode b_Road_has 5 = .ok (.aload_n 0, 1) := by decide +kernel
theorem d_Road_has_6 : decode b_Road_has 6 = .ok (.getfield 40, 3) := by decide +kernel
theorem d_Road_has_9 : decode b_Road_has 9 = .ok (.if_icmp .ge 7, 3) := by decide +kernel
theorem d_Road_has_12 : decode b_Road_has 12 = .ok (.iconst 1, 1) := by decide +kernel
theorem d_Road_has_13 : decode b_Road_has 13 = .ok (.goto 4, 3) := by decide +kernel
theorem d_Road_has_16 : decode b_Road_has 16 = .ok (.iconst 0, 1) := by decide +kernel
theorem d_Road_has_17 : decode b_Road_has 17 = .ok (.ireturn, 1) := by decide +kernel
theorem d_Road_streetAt_0 : decode b_Road_streetAt 0 = .ok (.iload_n 0, 1) := by decide +kernel
theorem d_Road_streetAt_1 : decode b_Road_streetAt 1 = .ok (.ifCond .ne 7, 3) := by decide +kernel
theorem d_Road_streetAt_4 : decode b_Road_streetAt 4 = .ok (.iload_n 1, 1) := by decide +kernel
theorem d_Road_streetAt_5 : decode b_Road_streetAt 5 = .ok (.goto 6, 3) := by decide +kernel
theorem d_Road_streetAt_8 : decode b_Road_streetAt 8 = .ok (.iconst 5, 1) := by decide +kernel
theorem d_Road_streetAt_9 : decode b_Road_streetAt 9 = .ok (.iload_n 1, 1) := by decide +kernel
theorem d_Road_streetAt_10 : decode b_Road_streetAt 10 = .ok (.iadd, 1) := by decide +kernel
theorem d_Road_streetAt_11 : decode b_Road_streetAt 11 = .ok (.ireturn, 1) := by decide +kernel
theorem d_Road_addCrossing_0 : decode b_Road_addCrossing 0 = .ok (.aload_n 0, 1) := by decide +kernel
theorem d_Road_addCrossing_1 : decode b_Road_addCrossing 1 = .ok (.invokevirtual 43, 3) := by decide +kernel
theorem d_Road_addCrossing_4 : decode b_Road_addCrossing 4 = .ok (.ifCond .eq 5, 3) := by decide +kernel
theorem d_Road_addCrossing_7 : decode b_Road_addCrossing 7 = .ok (.iconst (-1), 1) := by decide +kernel
theorem d_Road_addCrossing_8 : decode b_Road_addCrossing 8 = .ok (.ireturn, 1) := by decide +kernel
theorem d_Road_addCrossing_9 : decode b_Road_addCrossing 9 = .ok (.aload_n 0, 1) := by decide +kernel
theorem d_Road_addCrossing_10 : decode b_Road_addCrossing 10 = .ok (.getfield 9, 3) := by decide +kernel
theorem d_Road_addCrossing_13 : decode b_Road_addCrossing 13 = .ok (.aload_n 0, 1) := by decide +kernel
theorem d_Road_addCrossing_14 : decode b_Road_addCrossing 14 = .ok (.getfield 40, 3) := by decide +kernel
theorem d_Road_addCrossing_17 : decode b_Road_addCrossing 17 = .ok (.iload_n 1, 1) := by decide +kernel
theorem d_Road_addCrossing_18 : decode b_Road_addCrossing 18 = .ok (.iastore, 1) := by decide +kernel
theorem d_Road_addCrossing_19 : decode b_Road_addCrossing 19 = .ok (.aload_n 0, 1) := by decide +kernel
theorem d_Road_addCrossing_20 : decode b_Road_addCrossing 20 = .ok (.getfield 15, 3) := by decide +kernel
theorem d_Road_addCrossing_23 : decode b_Road_addCrossing 23 = .ok (.aload_n 0, 1) := by decide +kernel
theorem d_Road_addCrossing_24 : decode b_Road_addCrossing 24 = .ok (.getfield 40, 3) := by decide +kernel
theorem d_Road_addCrossing_27 : decode b_Road_addCrossing 27 = .ok (.iload_n 2, 1) := by decide +kernel
theorem d_Road_addCrossing_28 : decode b_Road_addCrossing 28 = .ok (.iastore, 1) := by decide +kernel
theorem d_Road_addCrossing_29 : decode b_Road_addCrossing 29 = .ok (.aload_n 0, 1) := by decide +kernel
theorem d_Road_addCrossing_30 : decode b_Road_addCrossing 30 = .ok (.dup, 1) := by decide +kernel
theorem d_Road_addCrossing_31 : decode b_Road_addCrossing 31 = .ok (.getfield 40, 3) := by decide +kernel
theorem d_Road_addCrossing_34 : decode b_Road_addCrossing 34 = .ok (.iconst 1, 1) := by decide +kernel
theorem d_Road_addCrossing_35 : decode b_Road_addCrossing 35 = .ok (.iadd, 1) := by decide +kernel
theorem d_Road_addCrossing_36 : decode b_Road_addCrossing 36 = .ok (.putfield 40, 3) := by decide +kernel
theorem d_Road_addCrossing_39 : decode b_Road_addCrossing 39 = .ok (.aload_n 0, 1) := by decide +kernel
theorem d_Road_addCrossing_40 : decode b_Road_addCrossing 40 = .ok (.getfield 40, 3) := by decide +kernel
theorem d_Road_addCrossing_43 : decode b_Road_addCrossing 43 = .ok (.iconst 1, 1) := by decide +kernel
theorem d_Road_addCrossing_44 : decode b_Road_addCrossing 44 = .ok (.isub, 1) := by decide +kernel
theorem d_Road_addCrossing_45 : decode b_Road_addCrossing 45 = .ok (.ireturn, 1) := by decide +kernel
theorem d_Road_tellStreet_0 : decode b_Road_tellStreet 0 = .ok (.aload_n 0, 1) := by decide +kernel
theorem d_Road_tellStreet_1 : decode b_Road_tellStreet 1 = .ok (.iload_n 2, 1) := by decide +kernel
theorem d_Road_tellStreet_2 : decode b_Road_tellStreet 2 = .ok (.invokevirtual 47, 3) := by decide +kernel
theorem d_Road_tellStreet_5 : decode b_Road_tellStreet 5 = .ok (.ifCond .eq 26, 3) := by decide +kernel
theorem d_Road_tellStreet_8 : decode b_Road_tellStreet 8 = .ok (.aload_n 0, 1) := by decide +kernel
theorem d_Road_tellStreet_9 : decode b_Road_tellStreet 9 = .ok (.getfield 21, 3) := by decide +kernel
theorem d_Road_tellStreet_12 : decode b_Road_tellStreet 12 = .ok (.iload_n 1, 1) := by decide +kernel
theorem d_Road_tellStreet_13 : decode b_Road_tellStreet 13 = .ok (.iload_n 2, 1) := by decide +kernel
theorem d_Road_tellStreet_14 : decode b_Road_tellStreet 14 = .ok (.invokestatic 51, 3) := by decide +kernel
theorem d_Road_tellStreet_17 : decode b_Road_tellStreet 17 = .ok (.iload_n 3, 1) := by decide +kernel
theorem d_Road_tellStreet_18 : decode b_Road_tellStreet 18 = .ok (.iastore, 1) := by decide +kernel
theorem d_Road_tellStreet_19 : decode b_Road_tellStreet 19 = .ok (.aload_n 0, 1) := by decide +kernel
theorem d_Road_tellStreet_20 : decode b_Road_tellStreet 20 = .ok (.getfield 24, 3) := by decide +kernel
theorem d_Road_tellStreet_23 : decode b_Road_tellStreet 23 = .ok (.iload_n 1, 1) := by decide +kernel
theorem d_Road_tellStreet_24 : decode b_Road_tellStreet 24 = .ok (.iload_n 2, 1) := by decide +kernel
theorem d_Road_tellStreet_25 : decode b_Road_tellStreet 25 = .ok (.invokestatic 51, 3) := by decide +kernel
theorem d_Road_tellStreet_28 : decode b_Road_tellStreet 28 = .ok (.iload 4, 2) := by decide +kernel
theorem d_Road_tellStreet_30 : decode b_Road_tellStreet 30 = .ok (.iastore, 1) := by decide +kernel
theorem d_Road_tellStreet_31 : decode b_Road_tellStreet 31 = .ok (.return_, 1) := by decide +kernel
theorem d_Road_tellQueue_0 : decode b_Road_tellQueue 0 = .ok (.aload_n 0, 1) := by decide +kernel
theorem d_Road_tellQueue_1 : decode b_Road_tellQueue 1 = .ok (.iload_n 1, 1) := by decide +kernel
theorem d_Road_tellQueue_2 : decode b_Road_tellQueue 2 = .ok (.invokevirtual 47, 3) := by decide +kernel
theorem d_Road_tellQueue_5 : decode b_Road_tellQueue 5 = .ok (.ifCond .eq 10, 3) := by decide +kernel
theorem d_Road_tellQueue_8 : decode b_Road_tellQueue 8 = .ok (.aload_n 0, 1) := by decide +kernel
theorem d_Road_tellQueue_9 : decode b_Road_tellQueue 9 = .ok (.getfield 18, 3) := by decide +kernel
theorem d_Road_tellQueue_12 : decode b_Road_tellQueue 12 = .ok (.iload_n 1, 1) := by decide +kernel
theorem d_Road_tellQueue_13 : decode b_Road_tellQueue 13 = .ok (.iload_n 2, 1) := by decide +kernel
theorem d_Road_tellQueue_14 : decode b_Road_tellQueue 14 = .ok (.iastore, 1) := by decide +kernel
theorem d_Road_tellQueue_15 : decode b_Road_tellQueue 15 = .ok (.return_, 1) := by decide +kernel
theorem d_Road_tellCycles_0 : decode b_Road_tellCycles 0 = .ok (.aload_n 0, 1) := by decide +kernel
theorem d_Road_tellCycles_1 : decode b_Road_tellCycles 1 = .ok (.iload_n 1, 1) := by decide +kernel
theorem d_Road_tellCycles_2 : decode b_Road_tellCycles 2 = .ok (.putfield 27, 3) := by decide +kernel
theorem d_Road_tellCycles_5 : decode b_Road_tellCycles 5 = .ok (.aload_n 0, 1) := by decide +kernel
theorem d_Road_tellCycles_6 : decode b_Road_tellCycles 6 = .ok (.iload_n 2, 1) := by decide +kernel
theorem d_Road_tellCycles_7 : decode b_Road_tellCycles 7 = .ok (.putfield 31, 3) := by decide +kernel
theorem d_Road_tellCycles_10 : decode b_Road_tellCycles 10 = .ok (.aload_n 0, 1) := by decide +kernel
theorem d_Road_tellCycles_11 : decode b_Road_tellCycles 11 = .ok (.iload_n 3, 1) := by decide +kernel
theorem d_Road_tellCycles_12 : decode b_Road_tellCycles 12 = .ok (.putfield 34, 3) := by decide +kernel
theorem d_Road_tellCycles_15 : decode b_Road_tellCycles 15 = .ok (.return_, 1) := by decide +kernel
theorem d_Road_tellStep_0 : decode b_Road_tellStep 0 = .ok (.aload_n 0, 1) := by decide +kernel
theorem d_Road_tellStep_1 : decode b_Road_tellStep 1 = .ok (.iload_n 1, 1) := by decide +kernel
theorem d_Road_tellStep_2 : decode b_Road_tellStep 2 = .ok (.putfield 37, 3) := by decide +kernel
theorem d_Road_tellStep_5 : decode b_Road_tellStep 5 = .ok (.return_, 1) := by decide +kernel
theorem d_Road_greenOf_0 : decode b_Road_greenOf 0 = .ok (.aload_n 0, 1) := by decide +kernel
theorem d_Road_greenOf_1 : decode b_Road_greenOf 1 = .ok (.iload_n 1, 1) := by decide +kernel
theorem d_Road_greenOf_2 : decode b_Road_greenOf 2 = .ok (.invokevirtual 47, 3) := by decide +kernel
theorem d_Road_greenOf_5 : decode b_Road_greenOf 5 = .ok (.ifCond .eq 12, 3) := by decide +kernel
theorem d_Road_greenOf_8 : decode b_Road_greenOf 8 = .ok (.aload_n 0, 1) := by decide +kernel
theorem d_Road_greenOf_9 : decode b_Road_greenOf 9 = .ok (.getfield 9, 3) := by decide +kernel
theorem d_Road_greenOf_12 : decode b_Road_greenOf 12 = .ok (.iload_n 1, 1) := by decide +kernel
theorem d_Road_greenOf_13 : decode b_Road_greenOf 13 = .ok (.iaload, 1) := by decide +kernel
theorem d_Road_greenOf_14 : decode b_Road_greenOf 14 = .ok (.goto 4, 3) := by decide +kernel
theorem d_Road_greenOf_17 : decode b_Road_greenOf 17 = .ok (.iconst 0, 1) := by decide +kernel
theorem d_Road_greenOf_18 : decode b_Road_greenOf 18 = .ok (.ireturn, 1) := by decide +kernel
theorem d_Road_leastOf_0 : decode b_Road_leastOf 0 = .ok (.aload_n 0, 1) := by decide +kernel
theorem d_Road_leastOf_1 : decode b_Road_leastOf 1 = .ok (.iload_n 1, 1) := by decide +kernel
theorem d_Road_leastOf_2 : decode b_Road_leastOf 2 = .ok (.invokevirtual 47, 3) := by decide +kernel
theorem d_Road_leastOf_5 : decode b_Road_leastOf 5 = .ok (.ifCond .eq 12, 3) := by decide +kernel
theorem d_Road_leastOf_8 : decode b_Road_leastOf 8 = .ok (.aload_n 0, 1) := by decide +kernel
theorem d_Road_leastOf_9 : decode b_Road_leastOf 9 = .ok (.getfield 15, 3) := by decide +kernel
theorem d_Road_leastOf_12 : decode b_Road_leastOf 12 = .ok (.iload_n 1, 1) := by decide +kernel
theorem d_Road_leastOf_13 : decode b_Road_leastOf 13 = .ok (.iaload, 1) := by decide +kernel
theorem d_Road_leastOf_14 : decode b_Road_leastOf 14 = .ok (.goto 4, 3) := by decide +kernel
theorem d_Road_leastOf_17 : decode b_Road_leastOf 17 = .ok (.iconst 0, 1) := by decide +kernel
theorem d_Road_leastOf_18 : decode b_Road_leastOf 18 = .ok (.ireturn, 1) := by decide +kernel
theorem d_Road_queueOf_0 : decode b_Road_queueOf 0 = .ok (.aload_n 0, 1) := by decide +kernel
theorem d_Road_queueOf_1 : decode b_Road_queueOf 1 = .ok (.iload_n 1, 1) := by decide +kernel
theorem d_Road_queueOf_2 : decode b_Road_queueOf 2 = .ok (.invokevirtual 47, 3) := by decide +kernel
theorem d_Road_queueOf_5 : decode b_Road_queueOf 5 = .ok (.ifCond .eq 12, 3) := by decide +kernel
theorem d_Road_queueOf_8 : decode b_Road_queueOf 8 = .ok (.aload_n 0, 1) := by decide +kernel
theorem d_Road_queueOf_9 : decode b_Road_queueOf 9 = .ok (.getfield 18, 3) := by decide +kernel
theorem d_Road_queueOf_12 : decode b_Road_queueOf 12 = .ok (.iload_n 1, 1) := by decide +kernel
theorem d_Road_queueOf_13 : decode b_Road_queueOf 13 = .ok (.iaload, 1) := by decide +kernel
theorem d_Road_queueOf_14 : decode b_Road_queueOf 14 = .ok (.goto 4, 3) := by decide +kernel
theorem d_Road_queueOf_17 : decode b_Road_queueOf 17 = .ok (.iconst 0, 1) := by decide +kernel
theorem d_Road_queueOf_18 : decode b_Road_queueOf 18 = .ok (.ireturn, 1) := by decide +kernel
theorem d_Road_openOf_0 : decode b_Road_openOf 0 = .ok (.aload_n 0, 1) := by decide +kernel
theorem d_Road_openOf_1 : decode b_Road_openOf 1 = .ok (.iload_n 1, 1) := by decide +kernel
theorem d_Road_openOf_2 : decode b_Road_openOf 2 = .ok (.invokevirtual 55, 3) := by decide +kernel
theorem d_Road_openOf_5 : decode b_Road_openOf 5 = .ok (.aload_n 0, 1) := by decide +kernel
theorem d_Road_openOf_6 : decode b_Road_openOf 6 = .ok (.iload_n 1, 1) := by decide +kernel
theorem d_Road_openOf_7 : decode b_Road_openOf 7 = .ok (.invokevirtual 59, 3) := by decide +kernel
theorem d_Road_openOf_10 : decode b_Road_openOf 10 = .ok (.isub, 1) := by decide +kernel
theorem d_Road_openOf_11 : decode b_Road_openOf 11 = .ok (.ireturn, 1) := by decide +kernel
theorem d_Road_stepOf_0 : decode b_Road_stepOf 0 = .ok (.aload_n 0, 1) := by decide +kernel
theorem d_Road_stepOf_1 : decode b_Road_stepOf 1 = .ok (.getfield 37, 3) := by decide +kernel
theorem d_Road_stepOf_4 : decode b_Road_stepOf 4 = .ok (.ireturn, 1) := by decide +kernel
theorem d_Road_leastOpen_0 : decode b_Road_leastOpen 0 = .ok (.bipush 90, 2) := by decide +kernel
theorem d_Road_leastOpen_2 : decode b_Road_leastOpen 2 = .ok (.istore_n 1, 1) := by decide +kernel
theorem d_Road_leastOpen_3 : decode b_Road_leastOpen 3 = .ok (.iconst 0, 1) := by decide +kernel
theorem d_Road_leastOpen_4 : decode b_Road_leastOpen 4 = .ok (.istore_n 2, 1) := by decide +kernel
theorem d_Road_leastOpen_5 : decode b_Road_leastOpen 5 = .ok (.iload_n 2, 1) := by decide +kernel
theorem d_Road_leastOpen_6 : decode b_Road_leastOpen 6 = .ok (.aload_n 0, 1) := by decide +kernel
theorem d_Road_leastOpen_7 : decode b_Road_leastOpen 7 = .ok (.getfield 40, 3) := by decide +kernel
theorem d_Road_leastOpen_10 : decode b_Road_leastOpen 10 = .ok (.if_icmp .ge 19, 3) := by decide +kernel
theorem d_Road_leastOpen_13 : decode b_Road_leastOpen 13 = .ok (.iload_n 1, 1) := by decide +kernel
theorem d_Road_leastOpen_14 : decode b_Road_leastOpen 14 = .ok (.aload_n 0, 1) := by decide +kernel
theorem d_Road_leastOpen_15 : decode b_Road_leastOpen 15 = .ok (.iload_n 2, 1) := by decide +kernel
theorem d_Road_leastOpen_16 : decode b_Road_leastOpen 16 = .ok (.invokevirtual 62, 3) := by decide +kernel
theorem d_Road_leastOpen_19 : decode b_Road_leastOpen 19 = .ok (.invokestatic 65, 3) := by decide +kernel
theorem d_Road_leastOpen_22 : decode b_Road_leastOpen 22 = .ok (.istore_n 1, 1) := by decide +kernel
theorem d_Road_leastOpen_23 : decode b_Road_leastOpen 23 = .ok (.iinc 2 1, 3) := by decide +kernel
theorem d_Road_leastOpen_26 : decode b_Road_leastOpen 26 = .ok (.goto (-21), 3) := by decide +kernel
theorem d_Road_leastOpen_29 : decode b_Road_leastOpen 29 = .ok (.iload_n 1, 1) := by decide +kernel
theorem d_Road_leastOpen_30 : decode b_Road_leastOpen 30 = .ok (.ireturn, 1) := by decide +kernel
theorem d_Road_weightOf_0 : decode b_Road_weightOf 0 = .ok (.iconst 0, 1) := by decide +kernel
theorem d_Road_weightOf_1 : decode b_Road_weightOf 1 = .ok (.istore_n 2, 1) := by decide +kernel
theorem d_Road_weightOf_2 : decode b_Road_weightOf 2 = .ok (.iconst 0, 1) := by decide +kernel
theorem d_Road_weightOf_3 : decode b_Road_weightOf 3 = .ok (.istore_n 3, 1) := by decide +kernel
theorem d_Road_weightOf_4 : decode b_Road_weightOf 4 = .ok (.iload_n 3, 1) := by decide +kernel
theorem d_Road_weightOf_5 : decode b_Road_weightOf 5 = .ok (.aload_n 0, 1) := by decide +kernel
theorem d_Road_weightOf_6 : decode b_Road_weightOf 6 = .ok (.getfield 40, 3) := by decide +kernel
theorem d_Road_weightOf_9 : decode b_Road_weightOf 9 = .ok (.if_icmp .ge 22, 3) := by decide +kernel
theorem d_Road_weightOf_12 : decode b_Road_weightOf 12 = .ok (.iload_n 2, 1) := by decide +kernel
theorem d_Road_weightOf_13 : decode b_Road_weightOf 13 = .ok (.aload_n 0, 1) := by decide +kernel
theorem d_Road_weightOf_14 : decode b_Road_weightOf 14 = .ok (.getfield 24, 3) := by decide +kernel
theorem d_Road_weightOf_17 : decode b_Road_weightOf 17 = .ok (.iload_n 1, 1) := by decide +kernel
theorem d_Road_weightOf_18 : decode b_Road_weightOf 18 = .ok (.iload_n 3, 1) := by decide +kernel
theorem d_Road_weightOf_19 : decode b_Road_weightOf 19 = .ok (.invokestatic 51, 3) := by decide +kernel
theorem d_Road_weightOf_22 : decode b_Road_weightOf 22 = .ok (.iaload, 1) := by decide +kernel
theorem d_Road_weightOf_23 : decode b_Road_weightOf 23 = .ok (.iadd, 1) := by decide +kernel
theorem d_Road_weightOf_24 : decode b_Road_weightOf 24 = .ok (.istore_n 2, 1) := by decide +kernel
theorem d_Road_weightOf_25 : decode b_Road_weightOf 25 = .ok (.iinc 3 1, 3) := by decide +kernel
theorem d_Road_weightOf_28 : decode b_Road_weightOf 28 = .ok (.goto (-24), 3) := by decide +kernel
theorem d_Road_weightOf_31 : decode b_Road_weightOf 31 = .ok (.iload_n 2, 1) := by decide +kernel
theorem d_Road_weightOf_32 : decode b_Road_weightOf 32 = .ok (.ireturn, 1) := by decide +kernel
theorem d_Road_tries_0 : decode b_Road_tries 0 = .ok (.iload_n 1, 1) := by decide +kernel
theorem d_Road_tries_1 : decode b_Road_tries 1 = .ok (.aload_n 0, 1) := by decide +kernel
theorem d_Road_tries_2 : decode b_Road_tries 2 = .ok (.getfield 27, 3) := by decide +kernel
theorem d_Road_tries_5 : decode b_Road_tries 5 = .ok (.if_icmp .lt 27, 3) := by decide +kernel
theorem d_Road_tries_8 : decode b_Road_tries 8 = .ok (.iload_n 1, 1) := by decide +kernel
theorem d_Road_tries_9 : decode b_Road_tries 9 = .ok (.aload_n 0, 1) := by decide +kernel
theorem d_Road_tries_10 : decode b_Road_tries 10 = .ok (.getfield 31, 3) := by decide +kernel
theorem d_Road_tries_13 : decode b_Road_tries 13 = .ok (.if_icmp .gt 19, 3) := by decide +kernel
theorem d_Road_tries_16 : decode b_Road_tries 16 = .ok (.iload_n 1, 1) := by decide +kernel
theorem d_Road_tries_17 : decode b_Road_tries 17 = .ok (.aload_n 0, 1) := by decide +kernel
theorem d_Road_tries_18 : decode b_Road_tries 18 = .ok (.getfield 27, 3) := by decide +kernel
theorem d_Road_tries_21 : decode b_Road_tries 21 = .ok (.isub, 1) := by decide +kernel
theorem d_Road_tries_22 : decode b_Road_tries 22 = .ok (.aload_n 0, 1) := by decide +kernel
theorem d_Road_tries_23 : decode b_Road_tries 23 = .ok (.getfield 34, 3) := by decide +kernel
theorem d_Road_tries_26 : decode b_Road_tries 26 = .ok (.invokestatic 70, 3) := by decide +kernel
theorem d_Road_tries_29 : decode b_Road_tries 29 = .ok (.ifCond .eq 5, 3) := by decide +kernel
theorem d_Road_tries_32 : decode b_Road_tries 32 = .ok (.iconst 0, 1) := by decide +kernel
theorem d_Road_tries_33 : decode b_Road_tries 33 = .ok (.ireturn, 1) := by decide +kernel
theorem d_Road_tries_34 : decode b_Road_tries 34 = .ok (.iconst 0, 1) := by decide +kernel
theorem d_Road_tries_35 : decode b_Road_tries 35 = .ok (.istore_n 2, 1) := by decide +kernel
theorem d_Road_tries_36 : decode b_Road_tries 36 = .ok (.iload_n 2, 1) := by decide +kernel
theorem d_Road_tries_37 : decode b_Road_tries 37 = .ok (.aload_n 0, 1) := by decide +kernel
theorem d_Road_tries_38 : decode b_Road_tries 38 = .ok (.getfield 40, 3) := by decide +kernel
theorem d_Road_tries_41 : decode b_Road_tries 41 = .ok (.if_icmp .ge 21, 3) := by decide +kernel
theorem d_Road_tries_44 : decode b_Road_tries 44 = .ok (.aload_n 0, 1) := by decide +kernel
theorem d_Road_tries_45 : decode b_Road_tries 45 = .ok (.getfield 15, 3) := by decide +kernel
theorem d_Road_tries_48 : decode b_Road_tries 48 = .ok (.iload_n 2, 1) := by decide +kernel
theorem d_Road_tries_49 : decode b_Road_tries 49 = .ok (.iaload, 1) := by decide +kernel
theorem d_Road_tries_50 : decode b_Road_tries 50 = .ok (.iload_n 1, 1) := by decide +kernel
theorem d_Road_tries_51 : decode b_Road_tries 51 = .ok (.if_icmp .le 5, 3) := by decide +kernel
theorem d_Road_tries_54 : decode b_Road_tries 54 = .ok (.iconst 0, 1) := by decide +kernel
theorem d_Road_tries_55 : decode b_Road_tries 55 = .ok (.ireturn, 1) := by decide +kernel
theorem d_Road_tries_56 : decode b_Road_tries 56 = .ok (.iinc 2 1, 3) := by decide +kernel
theorem d_Road_tries_59 : decode b_Road_tries 59 = .ok (.goto (-23), 3) := by decide +kernel
theorem d_Road_tries_62 : decode b_Road_tries 62 = .ok (.iconst 1, 1) := by decide +kernel
theorem d_Road_tries_63 : decode b_Road_tries 63 = .ok (.ireturn, 1) := by decide +kernel
theorem d_Road_shortestCycle_0 : decode b_Road_shortestCycle 0 = .ok (.bipush 10, 2) := by decide +kernel
theorem d_Road_shortestCycle_2 : decode b_Road_shortestCycle 2 = .ok (.istore_n 1, 1) := by decide +kernel
theorem d_Road_shortestCycle_3 : decode b_Road_shortestCycle 3 = .ok (.iload_n 1, 1) := by decide +kernel
theorem d_Road_shortestCycle_4 : decode b_Road_shortestCycle 4 = .ok (.bipush 120, 2) := by decide +kernel
theorem d_Road_shortestCycle_6 : decode b_Road_shortestCycle 6 = .ok (.if_icmp .gt 19, 3) := by decide +kernel
theorem d_Road_shortestCycle_9 : decode b_Road_shortestCycle 9 = .ok (.aload_n 0, 1) := by decide +kernel
theorem d_Road_shortestCycle_10 : decode b_Road_shortestCycle 10 = .ok (.iload_n 1, 1) := by decide +kernel
theorem d_Road_shortestCycle_11 : decode b_Road_shortestCycle 11 = .ok (.invokevirtual 73, 3) := by decide +kernel
theorem d_Road_shortestCycle_14 : decode b_Road_shortestCycle 14 = .ok (.ifCond .eq 5, 3) := by decide +kernel
theorem d_Road_shortestCycle_17 : decode b_Road_shortestCycle 17 = .ok (.iload_n 1, 1) := by decide +kernel
theorem d_Road_shortestCycle_18 : decode b_Road_shortestCycle 18 = .ok (.ireturn, 1) := by decide +kernel
theorem d_Road_shortestCycle_19 : decode b_Road_shortestCycle 19 = .ok (.iinc 1 1, 3) := by decide +kernel
theorem d_Road_shortestCycle_22 : decode b_Road_shortestCycle 22 = .ok (.goto (-19), 3) := by decide +kernel
theorem d_Road_shortestCycle_25 : decode b_Road_shortestCycle 25 = .ok (.iconst 0, 1) := by decide +kernel
theorem d_Road_shortestCycle_26 : decode b_Road_shortestCycle 26 = .ok (.ireturn, 1) := by decide +kernel
theorem d_Road_choices_0 : decode b_Road_choices 0 = .ok (.aload_n 0, 1) := by decide +kernel
theorem d_Road_choices_1 : decode b_Road_choices 1 = .ok (.getfield 37, 3) := by decide +kernel
theorem d_Road_choices_4 : decode b_Road_choices 4 = .ok (.ifCond .gt 7, 3) := by decide +kernel
theorem d_Road_choices_7 : decode b_Road_choices 7 = .ok (.iconst 0, 1) := by decide +kernel
theorem d_Road_choices_8 : decode b_Road_choices 8 = .ok (.goto 16, 3) := by decide +kernel
theorem d_Road_choices_11 : decode b_Road_choices 11 = .ok (.iload_n 1, 1) := by decide +kernel
theorem d_Road_choices_12 : decode b_Road_choices 12 = .ok (.aload_n 0, 1) := by decide +kernel
theorem d_Road_choices_13 : decode b_Road_choices 13 = .ok (.getfield 37, 3) := by decide +kernel
theorem d_Road_choices_16 : decode b_Road_choices 16 = .ok (.iadd, 1) := by decide +kernel
theorem d_Road_choices_17 : decode b_Road_choices 17 = .ok (.iconst 1, 1) := by decide +kernel
theorem d_Road_choices_18 : decode b_Road_choices 18 = .ok (.isub, 1) := by decide +kernel
theorem d_Road_choices_19 : decode b_Road_choices 19 = .ok (.aload_n 0, 1) := by decide +kernel
theorem d_Road_choices_20 : decode b_Road_choices 20 = .ok (.getfield 37, 3) := by decide +kernel
theorem d_Road_choices_23 : decode b_Road_choices 23 = .ok (.idiv, 1) := by decide +kernel
theorem d_Road_choices_24 : decode b_Road_choices 24 = .ok (.ireturn, 1) := by decide +kernel
theorem d_Road_rowsBehind_0 : decode b_Road_rowsBehind 0 = .ok (.lconst 1, 1) := by decide +kernel
theorem d_Road_rowsBehind_1 : decode b_Road_rowsBehind 1 = .ok (.lstore_n 3, 1) := by decide +kernel
theorem d_Road_rowsBehind_2 : decode b_Road_rowsBehind 2 = .ok (.iload_n 1, 1) := by decide +kernel
theorem d_Road_rowsBehind_3 : decode b_Road_rowsBehind 3 = .ok (.iconst 1, 1) := by decide +kernel
theorem d_Road_rowsBehind_4 : decode b_Road_rowsBehind 4 = .ok (.iadd, 1) := by decide +kernel
theorem d_Road_rowsBehind_5 : decode b_Road_rowsBehind 5 = .ok (.istore 5, 2) := by decide +kernel
theorem d_Road_rowsBehind_7 : decode b_Road_rowsBehind 7 = .ok (.iload 5, 2) := by decide +kernel
theorem d_Road_rowsBehind_9 : decode b_Road_rowsBehind 9 = .ok (.aload_n 0, 1) := by decide +kernel
theorem d_Road_rowsBehind_10 : decode b_Road_rowsBehind 10 = .ok (.getfield 40, 3) := by decide +kernel
theorem d_Road_rowsBehind_13 : decode b_Road_rowsBehind 13 = .ok (.if_icmp .ge 18, 3) := by decide +kernel
theorem d_Road_rowsBehind_16 : decode b_Road_rowsBehind 16 = .ok (.lload_n 3, 1) := by decide +kernel
theorem d_Road_rowsBehind_17 : decode b_Road_rowsBehind 17 = .ok (.aload_n 0, 1) := by decide +kernel
theorem d_Road_rowsBehind_18 : decode b_Road_rowsBehind 18 = .ok (.iload_n 2, 1) := by decide +kernel
theorem d_Road_rowsBehind_19 : decode b_Road_rowsBehind 19 = .ok (.invokevirtual 76, 3) := by decide +kernel
theorem d_Road_rowsBehind_22 : decode b_Road_rowsBehind 22 = .ok (.i2l, 1) := by decide +kernel
theorem d_Road_rowsBehind_23 : decode b_Road_rowsBehind 23 = .ok (.lmul, 1) := by decide +kernel
theorem d_Road_rowsBehind_24 : decode b_Road_rowsBehind 24 = .ok (.lstore_n 3, 1) := by decide +kernel
theorem d_Road_rowsBehind_25 : decode b_Road_rowsBehind 25 = .ok (.iinc 5 1, 3) := by decide +kernel
theorem d_Road_rowsBehind_28 : decode b_Road_rowsBehind 28 = .ok (.goto (-21), 3) := by decide +kernel
theorem d_Road_rowsBehind_31 : decode b_Road_rowsBehind 31 = .ok (.lload_n 3, 1) := by decide +kernel
theorem d_Road_rowsBehind_32 : decode b_Road_rowsBehind 32 = .ok (.lreturn, 1) := by decide +kernel
theorem d_Road_allRows_0 : decode b_Road_allRows 0 = .ok (.lconst 0, 1) := by decide +kernel
theorem d_Road_allRows_1 : decode b_Road_allRows 1 = .ok (.lstore_n 1, 1) := by decide +kernel
theorem d_Road_allRows_2 : decode b_Road_allRows 2 = .ok (.bipush 10, 2) := by decide +kernel
theorem d_Road_allRows_4 : decode b_Road_allRows 4 = .ok (.istore_n 3, 1) := by decide +kernel
theorem d_Road_allRows_5 : decode b_Road_allRows 5 = .ok (.iload_n 3, 1) := by decide +kernel
theorem d_Road_allRows_6 : decode b_Road_allRows 6 = .ok (.bipush 120, 2) := by decide +kernel
theorem d_Road_allRows_8 : decode b_Road_allRows 8 = .ok (.if_icmp .gt 37, 3) := by decide +kernel
theorem d_Road_allRows_11 : decode b_Road_allRows 11 = .ok (.aload_n 0, 1) := by decide +kernel
theorem d_Road_allRows_12 : decode b_Road_allRows 12 = .ok (.getfield 40, 3) := by decide +kernel
theorem d_Road_allRows_15 : decode b_Road_allRows 15 = .ok (.ifCond .le 30, 3) := by decide +kernel
theorem d_Road_allRows_18 : decode b_Road_allRows 18 = .ok (.lload_n 1, 1) := by decide +kernel
theorem d_Road_allRows_19 : decode b_Road_allRows 19 = .ok (.aload_n 0, 1) := by decide +kernel
theorem d_Road_allRows_20 : decode b_Road_allRows 20 = .ok (.iload_n 3, 1) := by decide +kernel
theorem d_Road_allRows_21 : decode b_Road_allRows 21 = .ok (.invokevirtual 73, 3) := by decide +kernel
theorem d_Road_allRows_24 : decode b_Road_allRows 24 = .ok (.ifCond .eq 12, 3) := by decide +kernel
theorem d_Road_allRows_27 : decode b_Road_allRows 27 = .ok (.aload_n 0, 1) := by decide +kernel
theorem d_Road_allRows_28 : decode b_Road_allRows 28 = .ok (.iconst 0, 1) := by decide +kernel
theorem d_Road_allRows_29 : decode b_Road_allRows 29 = .ok (.iload_n 3, 1) := by decide +kernel
theorem d_Road_allRows_30 : decode b_Road_allRows 30 = .ok (.invokevirtual 79, 3) := by decide +kernel
theorem d_Road_allRows_33 : decode b_Road_allRows 33 = .ok (.goto 4, 3) := by decide +kernel
theorem d_Road_allRows_36 : decode b_Road_allRows 36 = .ok (.lconst 0, 1) := by decide +kernel
theorem d_Road_allRows_37 : decode b_Road_allRows 37 = .ok (.ladd, 1) := by decide +kernel
theorem d_Road_allRows_38 : decode b_Road_allRows 38 = .ok (.lstore_n 1, 1) := by decide +kernel
theorem d_Road_allRows_39 : decode b_Road_allRows 39 = .ok (.iinc 3 1, 3) := by decide +kernel
theorem d_Road_allRows_42 : decode b_Road_allRows 42 = .ok (.goto (-37), 3) := by decide +kernel
theorem d_Road_allRows_45 : decode b_Road_allRows 45 = .ok (.lload_n 1, 1) := by decide +kernel
theorem d_Road_allRows_46 : decode b_Road_allRows 46 = .ok (.lreturn, 1) := by decide +kernel
theorem d_Road_goneTo_0 : decode b_Road_goneTo 0 = .ok (.iconst 0, 1) := by decide +kernel
theorem d_Road_goneTo_1 : decode b_Road_goneTo 1 = .ok (.istore_n 3, 1) := by decide +kernel
theorem d_Road_goneTo_2 : decode b_Road_goneTo 2 = .ok (.iload_n 2, 1) := by decide +kernel
theorem d_Road_goneTo_3 : decode b_Road_goneTo 3 = .ok (.ifCond .ne 44, 3) := by decide +kernel
theorem d_Road_goneTo_6 : decode b_Road_goneTo 6 = .ok (.iconst 0, 1) := by decide +kernel
theorem d_Road_goneTo_7 : decode b_Road_goneTo 7 = .ok (.istore 4, 2) := by decide +kernel
theorem d_Road_goneTo_9 : decode b_Road_goneTo 9 = .ok (.iload 4, 2) := by decide +kernel
theorem d_Road_goneTo_11 : decode b_Road_goneTo 11 = .ok (.iload_n 1, 1) := by decide +kernel
theorem d_Road_goneTo_12 : decode b_Road_goneTo 12 = .ok (.if_icmp .ge 32, 3) := by decide +kernel
theorem d_Road_goneTo_15 : decode b_Road_goneTo 15 = .ok (.iload 4, 2) := by decide +kernel
theorem d_Road_goneTo_17 : decode b_Road_goneTo 17 = .ok (.aload_n 0, 1) := by decide +kernel
theorem d_Road_goneTo_18 : decode b_Road_goneTo 18 = .ok (.getfield 40, 3) := by decide +kernel
theorem d_Road_goneTo_21 : decode b_Road_goneTo 21 = .ok (.if_icmp .ge 23, 3) := by decide +kernel
theorem d_Road_goneTo_24 : decode b_Road_goneTo 24 = .ok (.iload_n 3, 1) := by decide +kernel
theorem d_Road_goneTo_25 : decode b_Road_goneTo 25 = .ok (.aload_n 0, 1) := by decide +kernel
theorem d_Road_goneTo_26 : decode b_Road_goneTo 26 = .ok (.getfield 21, 3) := by decide +kernel
theorem d_Road_goneTo_29 : decode b_Road_goneTo 29 = .ok (.iconst 0, 1) := by decide +kernel
theorem d_Road_goneTo_30 : decode b_Road_goneTo 30 = .ok (.iload 4, 2) := by decide +kernel
theorem d_Road_goneTo_32 : decode b_Road_goneTo 32 = .ok (.invokestatic 51, 3) := by decide +kernel
theorem d_Road_goneTo_35 : decode b_Road_goneTo 35 = .ok (.iaload, 1) := by decide +kernel
theorem d_Road_goneTo_36 : decode b_Road_goneTo 36 = .ok (.iadd, 1) := by decide +kernel
theorem d_Road_goneTo_37 : decode b_Road_goneTo 37 = .ok (.istore_n 3, 1) := by decide +kernel
theorem d_Road_goneTo_38 : decode b_Road_goneTo 38 = .ok (.iinc 4 1, 3) := by decide +kernel
theorem d_Road_goneTo_41 : decode b_Road_goneTo 41 = .ok (.goto (-32), 3) := by decide +kernel
theorem d_Road_goneTo_44 : decode b_Road_goneTo 44 = .ok (.goto 42, 3) := by decide +kernel
theorem d_Road_goneTo_47 : decode b_Road_goneTo 47 = .ok (.aload_n 0, 1) := by decide +kernel
theorem d_Road_goneTo_48 : decode b_Road_goneTo 48 = .ok (.getfield 40, 3) := by decide +kernel
theorem d_Road_goneTo_51 : decode b_Road_goneTo 51 = .ok (.iconst 1, 1) := by decide +kernel
theorem d_Road_goneTo_52 : decode b_Road_goneTo 52 = .ok (.isub, 1) := by decide +kernel
theorem d_Road_goneTo_53 : decode b_Road_goneTo 53 = .ok (.istore 4, 2) := by decide +kernel
theorem d_Road_goneTo_55 : decode b_Road_goneTo 55 = .ok (.iload 4, 2) := by decide +kernel
theorem d_Road_goneTo_57 : decode b_Road_goneTo 57 = .ok (.iload_n 1, 1) := by decide +kernel
theorem d_Road_goneTo_58 : decode b_Road_goneTo 58 = .ok (.if_icmp .le 28, 3) := by decide +kernel
theorem d_Road_goneTo_61 : decode b_Road_goneTo 61 = .ok (.iload 4, 2) := by decide +kernel
theorem d_Road_goneTo_63 : decode b_Road_goneTo 63 = .ok (.ifCond .le 23, 3) := by decide +kernel
theorem d_Road_goneTo_66 : decode b_Road_goneTo 66 = .ok (.iload_n 3, 1) := by decide +kernel
theorem d_Road_goneTo_67 : decode b_Road_goneTo 67 = .ok (.aload_n 0, 1) := by decide +kernel
theorem d_Road_goneTo_68 : decode b_Road_goneTo 68 = .ok (.getfield 21, 3) := by decide +kernel
theorem d_Road_goneTo_71 : decode b_Road_goneTo 71 = .ok (.iconst 1, 1) := by decide +kernel
theorem d_Road_goneTo_72 : decode b_Road_goneTo 72 = .ok (.iload 4, 2) := by decide +kernel
theorem d_Road_goneTo_74 : decode b_Road_goneTo 74 = .ok (.invokestatic 51, 3) := by decide +kernel
theorem d_Road_goneTo_77 : decode b_Road_goneTo 77 = .ok (.iaload, 1) := by decide +kernel
theorem d_Road_goneTo_78 : decode b_Road_goneTo 78 = .ok (.iadd, 1) := by decide +kernel
theorem d_Road_goneTo_79 : decode b_Road_goneTo 79 = .ok (.istore_n 3, 1) := by decide +kernel
theorem d_Road_goneTo_80 : decode b_Road_goneTo 80 = .ok (.iinc 4 (-1), 3) := by decide +kernel
theorem d_Road_goneTo_83 : decode b_Road_goneTo 83 = .ok (.goto (-28), 3) := by decide +kernel
theorem d_Road_goneTo_86 : decode b_Road_goneTo 86 = .ok (.iload_n 3, 1) := by decide +kernel
theorem d_Road_goneTo_87 : decode b_Road_goneTo 87 = .ok (.ireturn, 1) := by decide +kernel
theorem d_Road_openFrom_0 : decode b_Road_openFrom 0 = .ok (.iload_n 3, 1) := by decide +kernel
theorem d_Road_openFrom_1 : decode b_Road_openFrom 1 = .ok (.aload_n 0, 1) := by decide +kernel
theorem d_Road_openFrom_2 : decode b_Road_openFrom 2 = .ok (.iload_n 1, 1) := by decide +kernel
theorem d_Road_openFrom_3 : decode b_Road_openFrom 3 = .ok (.invokevirtual 59, 3) := by decide +kernel
theorem d_Road_openFrom_6 : decode b_Road_openFrom 6 = .ok (.iadd, 1) := by decide +kernel
theorem d_Road_openFrom_7 : decode b_Road_openFrom 7 = .ok (.aload_n 0, 1) := by decide +kernel
theorem d_Road_openFrom_8 : decode b_Road_openFrom 8 = .ok (.iload_n 1, 1) := by decide +kernel
theorem d_Road_openFrom_9 : decode b_Road_openFrom 9 = .ok (.iload_n 2, 1) := by decide +kernel
theorem d_Road_openFrom_10 : decode b_Road_openFrom 10 = .ok (.invokevirtual 83, 3) := by decide +kernel
theorem d_Road_openFrom_13 : decode b_Road_openFrom 13 = .ok (.isub, 1) := by decide +kernel
theorem d_Road_openFrom_14 : decode b_Road_openFrom 14 = .ok (.iload 4, 2) := by decide +kernel
theorem d_Road_openFrom_16 : decode b_Road_openFrom 16 = .ok (.invokestatic 70, 3) := by decide +kernel
theorem d_Road_openFrom_19 : decode b_Road_openFrom 19 = .ok (.ireturn, 1) := by decide +kernel
theorem d_Road_stopsBefore_0 : decode b_Road_stopsBefore 0 = .ok (.iload_n 1, 1) := by decide +kernel
theorem d_Road_stopsBefore_1 : decode b_Road_stopsBefore 1 = .ok (.iconst 1, 1) := by decide +kernel
theorem d_Road_stopsBefore_2 : decode b_Road_stopsBefore 2 = .ok (.isub, 1) := by decide +kernel
theorem d_Road_stopsBefore_3 : decode b_Road_stopsBefore 3 = .ok (.istore 4, 2) := by decide +kernel
theorem d_Road_stopsBefore_5 : decode b_Road_stopsBefore 5 = .ok (.aload_n 0, 1) := by decide +kernel
theorem d_Road_stopsBefore_6 : decode b_Road_stopsBefore 6 = .ok (.iload 4, 2) := by decide +kernel
theorem d_Road_stopsBefore_8 : decode b_Road_stopsBefore 8 = .ok (.invokevirtual 47, 3) := by decide +kernel
theorem d_Road_stopsBefore_11 : decode b_Road_stopsBefore 11 = .ok (.ifCond .eq 11, 3) := by decide +kernel
theorem d_Road_stopsBefore_14 : decode b_Road_stopsBefore 14 = .ok (.aload_n 0, 1) := by decide +kernel
theorem d_Road_stopsBefore_15 : decode b_Road_stopsBefore 15 = .ok (.iload_n 1, 1) := by decide +kernel
theorem d_Road_stopsBefore_16 : decode b_Road_stopsBefore 16 = .ok (.invokevirtual 47, 3) := by decide +kernel
theorem d_Road_stopsBefore_19 : decode b_Road_stopsBefore 19 = .ok (.ifCond .ne 5, 3) := by decide +kernel
theorem d_Road_stopsBefore_22 : decode b_Road_stopsBefore 22 = .ok (.iconst 0, 1) := by decide +kernel
theorem d_Road_stopsBefore_23 : decode b_Road_stopsBefore 23 = .ok (.ireturn, 1) := by decide +kernel
theorem d_Road_stopsBefore_24 : decode b_Road_stopsBefore 24 = .ok (.iconst 0, 1) := by decide +kernel
theorem d_Road_stopsBefore_25 : decode b_Road_stopsBefore 25 = .ok (.iload 4, 2) := by decide +kernel
theorem d_Road_stopsBefore_27 : decode b_Road_stopsBefore 27 = .ok (.invokestatic 51, 3) := by decide +kernel
theorem d_Road_stopsBefore_30 : decode b_Road_stopsBefore 30 = .ok (.istore 5, 2) := by decide +kernel
theorem d_Road_stopsBefore_32 : decode b_Road_stopsBefore 32 = .ok (.iconst 1, 1) := by decide +kernel
theorem d_Road_stopsBefore_33 : decode b_Road_stopsBefore 33 = .ok (.iload_n 1, 1) := by decide +kernel
theorem d_Road_stopsBefore_34 : decode b_Road_stopsBefore 34 = .ok (.invokestatic 51, 3) := by decide +kernel
theorem d_Road_stopsBefore_37 : decode b_Road_stopsBefore 37 = .ok (.istore 6, 2) := by decide +kernel
theorem d_Road_stopsBefore_39 : decode b_Road_stopsBefore 39 = .ok (.iload_n 2, 1) := by decide +kernel
theorem d_Road_stopsBefore_40 : decode b_Road_stopsBefore 40 = .ok (.aload_n 0, 1) := by decide +kernel
theorem d_Road_stopsBefore_41 : decode b_Road_stopsBefore 41 = .ok (.getfield 18, 3) := by decide +kernel
theorem d_Road_stopsBefore_44 : decode b_Road_stopsBefore 44 = .ok (.iload_n 1, 1) := by decide +kernel
theorem d_Road_stopsBefore_45 : decode b_Road_stopsBefore 45 = .ok (.iaload, 1) := by decide +kernel
theorem d_Road_stopsBefore_46 : decode b_Road_stopsBefore 46 = .ok (.iadd, 1) := by decide +kernel
theorem d_Road_stopsBefore_47 : decode b_Road_stopsBefore 47 = .ok (.aload_n 0, 1) := by decide +kernel
theorem d_Road_stopsBefore_48 : decode b_Road_stopsBefore 48 = .ok (.getfield 18, 3) := by decide +kernel
theorem d_Road_stopsBefore_51 : decode b_Road_stopsBefore 51 = .ok (.iload 4, 2) := by decide +kernel
theorem d_Road_stopsBefore_53 : decode b_Road_stopsBefore 53 = .ok (.iaload, 1) := by decide +kernel
theorem d_Road_stopsBefore_54 : decode b_Road_stopsBefore 54 = .ok (.isub, 1) := by decide +kernel
theorem d_Road_stopsBefore_55 : decode b_Road_stopsBefore 55 = .ok (.istore 7, 2) := by decide +kernel
theorem d_Road_stopsBefore_57 : decode b_Road_stopsBefore 57 = .ok (.iload 7, 2) := by decide +kernel
theorem d_Road_stopsBefore_59 : decode b_Road_stopsBefore 59 = .ok (.aload_n 0, 1) := by decide +kernel
theorem d_Road_stopsBefore_60 : decode b_Road_stopsBefore 60 = .ok (.getfield 21, 3) := by decide +kernel
theorem d_Road_stopsBefore_63 : decode b_Road_stopsBefore 63 = .ok (.iload 5, 2) := by decide +kernel
theorem d_Road_stopsBefore_65 : decode b_Road_stopsBefore 65 = .ok (.iaload, 1) := by decide +kernel
theorem d_Road_stopsBefore_66 : decode b_Road_stopsBefore 66 = .ok (.isub, 1) := by decide +kernel
theorem d_Road_stopsBefore_67 : decode b_Road_stopsBefore 67 = .ok (.iload_n 3, 1) := by decide +kernel
theorem d_Road_stopsBefore_68 : decode b_Road_stopsBefore 68 = .ok (.invokestatic 70, 3) := by decide +kernel
theorem d_Road_stopsBefore_71 : decode b_Road_stopsBefore 71 = .ok (.istore 8, 2) := by decide +kernel
theorem d_Road_stopsBefore_73 : decode b_Road_stopsBefore 73 = .ok (.iload 7, 2) := by decide +kernel
theorem d_Road_stopsBefore_75 : decode b_Road_stopsBefore 75 = .ok (.ineg, 1) := by decide +kernel
theorem d_Road_stopsBefore_76 : decode b_Road_stopsBefore 76 = .ok (.aload_n 0, 1) := by decide +kernel
theorem d_Road_stopsBefore_77 : decode b_Road_stopsBefore 77 = .ok (.getfield 21, 3) := by decide +kernel
theorem d_Road_stopsBefore_80 : decode b_Road_stopsBefore 80 = .ok (.iload 6, 2) := by decide +kernel
theorem d_Road_stopsBefore_82 : decode b_Road_stopsBefore 82 = .ok (.iaload, 1) := by decide +kernel
theorem d_Road_stopsBefore_83 : decode b_Road_stopsBefore 83 = .ok (.isub, 1) := by decide +kernel
theorem d_Road_stopsBefore_84 : decode b_Road_stopsBefore 84 = .ok (.iload_n 3, 1) := by decide +kernel
theorem d_Road_stopsBefore_85 : decode b_Road_stopsBefore 85 = .ok (.invokestatic 70, 3) := by decide +kernel
theorem d_Road_stopsBefore_88 : decode b_Road_stopsBefore 88 = .ok (.istore 9, 2) := by decide +kernel
theorem d_Road_stopsBefore_90 : decode b_Road_stopsBefore 90 = .ok (.aload_n 0, 1) := by decide +kernel
theorem d_Road_stopsBefore_91 : decode b_Road_stopsBefore 91 = .ok (.iload 4, 2) := by decide +kernel
theorem d_Road_stopsBefore_93 : decode b_Road_stopsBefore 93 = .ok (.invokevirtual 62, 3) := by decide +kernel
theorem d_Road_stopsBefore_96 : decode b_Road_stopsBefore 96 = .ok (.aload_n 0, 1) := by decide +kernel
theorem d_Road_stopsBefore_97 : decode b_Road_stopsBefore 97 = .ok (.iload_n 1, 1) := by decide +kernel
theorem d_Road_stopsBefore_98 : decode b_Road_stopsBefore 98 = .ok (.invokevirtual 62, 3) := by decide +kernel
theorem d_Road_stopsBefore_101 : decode b_Road_stopsBefore 101 = .ok (.iload 8, 2) := by decide +kernel
theorem d_Road_stopsBefore_103 : decode b_Road_stopsBefore 103 = .ok (.iload_n 3, 1) := by decide +kernel
theorem d_Road_stopsBefore_104 : decode b_Road_stopsBefore 104 = .ok (.invokestatic 86, 3) := by decide +kernel
theorem d_Road_stopsBefore_107 : decode b_Road_stopsBefore 107 = .ok (.istore 10, 2) := by decide +kernel
theorem d_Road_stopsBefore_109 : decode b_Road_stopsBefore 109 = .ok (.aload_n 0, 1) := by decide +kernel
theorem d_Road_stopsBefore_110 : decode b_Road_stopsBefore 110 = .ok (.iload_n 1, 1) := by decide +kernel
theorem d_Road_stopsBefore_111 : decode b_Road_stopsBefore 111 = .ok (.invokevirtual 62, 3) := by decide +kernel
theorem d_Road_stopsBefore_114 : decode b_Road_stopsBefore 114 = .ok (.aload_n 0, 1) := by decide +kernel
theorem d_Road_stopsBefore_115 : decode b_Road_stopsBefore 115 = .ok (.iload 4, 2) := by decide +kernel
theorem d_Road_stopsBefore_117 : decode b_Road_stopsBefore 117 = .ok (.invokevirtual 62, 3) := by decide +kernel
theorem d_Road_stopsBefore_120 : decode b_Road_stopsBefore 120 = .ok (.iload 9, 2) := by decide +kernel
theorem d_Road_stopsBefore_122 : decode b_Road_stopsBefore 122 = .ok (.iload_n 3, 1) := by decide +kernel
theorem d_Road_stopsBefore_123 : decode b_Road_stopsBefore 123 = .ok (.invokestatic 86, 3) := by decide +kernel
theorem d_Road_stopsBefore_126 : decode b_Road_stopsBefore 126 = .ok (.istore 11, 2) := by decide +kernel
theorem d_Road_stopsBefore_128 : decode b_Road_stopsBefore 128 = .ok (.aload_n 0, 1) := by decide +kernel
theorem d_Road_stopsBefore_129 : decode b_Road_stopsBefore 129 = .ok (.getfield 24, 3) := by decide +kernel
theorem d_Road_stopsBefore_132 : decode b_Road_stopsBefore 132 = .ok (.iload 5, 2) := by decide +kernel
theorem d_Road_stopsBefore_134 : decode b_Road_stopsBefore 134 = .ok (.iaload, 1) := by decide +kernel
theorem d_Road_stopsBefore_135 : decode b_Road_stopsBefore 135 = .ok (.aload_n 0, 1) := by decide +kernel
theorem d_Road_stopsBefore_136 : decode b_Road_stopsBefore 136 = .ok (.iload 4, 2) := by decide +kernel
theorem d_Road_stopsBefore_138 : decode b_Road_stopsBefore 138 = .ok (.invokevirtual 62, 3) := by decide +kernel
theorem d_Road_stopsBefore_141 : decode b_Road_stopsBefore 141 = .ok (.iload 10, 2) := by decide +kernel
theorem d_Road_stopsBefore_143 : decode b_Road_stopsBefore 143 = .ok (.isub, 1) := by decide +kernel
theorem d_Road_stopsBefore_144 : decode b_Road_stopsBefore 144 = .ok (.imul, 1) := by decide +kernel
theorem d_Road_stopsBefore_145 : decode b_Road_stopsBefore 145 = .ok (.aload_n 0, 1) := by decide +kernel
theorem d_Road_stopsBefore_146 : decode b_Road_stopsBefore 146 = .ok (.getfield 24, 3) := by decide +kernel
theorem d_Road_stopsBefore_149 : decode b_Road_stopsBefore 149 = .ok (.iload 6, 2) := by decide +kernel
theorem d_Road_stopsBefore_151 : decode b_Road_stopsBefore 151 = .ok (.iaload, 1) := by decide +kernel
theorem d_Road_stopsBefore_152 : decode b_Road_stopsBefore 152 = .ok (.aload_n 0, 1) := by decide +kernel
theorem d_Road_stopsBefore_153 : decode b_Road_stopsBefore 153 = .ok (.iload_n 1, 1) := by decide +kernel
theorem d_Road_stopsBefore_154 : decode b_Road_stopsBefore 154 = .ok (.invokevirtual 62, 3) := by decide +kernel
theorem d_Road_stopsBefore_157 : decode b_Road_stopsBefore 157 = .ok (.iload 11, 2) := by decide +kernel
theorem d_Road_stopsBefore_159 : decode b_Road_stopsBefore 159 = .ok (.isub, 1) := by decide +kernel
theorem d_Road_stopsBefore_160 : decode b_Road_stopsBefore 160 = .ok (.imul, 1) := by decide +kernel
theorem d_Road_stopsBefore_161 : decode b_Road_stopsBefore 161 = .ok (.iadd, 1) := by decide +kernel
theorem d_Road_stopsBefore_162 : decode b_Road_stopsBefore 162 = .ok (.ireturn, 1) := by decide +kernel
set_option maxRecDepth 50000 in
theorem lk_24 : Cond.fieldLink R_Road 40 "WaveOffsets$Road" "size" "I" ∈ lw_good := List.mem_filter.mpr ⟨List.mem_append_right _ (List.mem_of_getElem? (i := 32) (by decide +kernel)), rfl⟩
set_option maxRecDepth 50000 in
theorem lk_25 : Cond.methodLink R_Road 43 y_Road_isFull ∈ lw_good := List.mem_filter.mpr ⟨List.mem_append_right _ (List.mem_of_getElem? (i := 244) (by decide +kernel)), rfl⟩
set_option maxRecDepth 50000 in
theorem lk_26 : Cond.code y_Road_isFull b_Road_isFull 1 (some .boolean) ∈ lw_good := List.mem_filter.mpr ⟨List.mem_append_right _ (List.mem_of_getElem? (i := 235) rfl), rfl⟩
set_option maxRecDepth 50000 in
theorem lk_27 : Cond.instanceMethod y_Road_isFull ∈ lw_good := List.mem_filter.mpr ⟨List.mem_append_right _ (List.mem_of_getElem? (i := 233) (by decide +kernel)), rfl⟩
set_option maxRecDepth 50000 in
theorem lk_28 : Cond.selects R_Road y_Road_isFull y_Road_isFull ∈ lw_good := List.mem_filter.mpr ⟨List.mem_append_right _ (List.mem_of_getElem? (i := 234) (by decide +kernel)), rfl⟩
set_option maxRecDepth 50000 in
theorem lk_29 : Cond.initialized R_Road ∈ lw_good := List.mem_filter.mpr ⟨List.mem_append_right _ (List.mem_of_getElem? (i := 2) (by decide +kernel)), rfl⟩
set_option maxRecDepth 50000 in
theorem lk_30 : Cond.fieldLink R_Road 9 "WaveOffsets$Road" "greens" "[I" ∈ lw_good := List.mem_filter.mpr ⟨List.mem_append_right _ (List.mem_of_getElem? (i := 27) (by decide +kernel)), rfl⟩
set_option maxRecDepth 50000 in
theorem lk_31 : Cond.fieldLink R_Road 15 "WaveOffsets$Road" "leasts" "[I" ∈ lw_good := List.mem_filter.mpr ⟨List.mem_append_right _ (List.mem_of_getElem? (i := 28) (by decide +kernel)), rfl⟩
set_option maxRecDepth 50000 in
theorem lk_32 : Cond.methodLink R_Road 47 y_Road_has ∈ lw_good := List.mem_filter.mpr ⟨List.mem_append_right _ (List.mem_of_getElem? (i := 259) (by decide +kernel)), rfl⟩
set_option maxRecDepth 50000 in
theorem lk_33 : Cond.code y_Road_has b_Road_has 2 (some .boolean) ∈ lw_good := List.mem_filter.mpr ⟨List.mem_append_right _ (List.mem_of_getElem? (i := 252) rfl), rfl⟩
set_option maxRecDepth 50000 in
theorem lk_34 : Cond.instanceMethod y_Road_has ∈ lw_good := List.mem_filter.mpr ⟨List.mem_append_right _ (List.mem_of_getElem? (i := 250) (by decide +kernel)), rfl⟩
set_option maxRecDepth 50000 in
theorem lk_35 : Cond.selects R_Road y_Road_has y_Road_has ∈ lw_good := List.mem_filter.mpr ⟨List.mem_append_right _ (List.mem_of_getElem? (i := 251) (by decide +kernel)), rfl⟩
set_option maxRecDepth 50000 in
theorem lk_36 : Cond.fieldLink R_Road 21 "WaveOffsets$Road" "seconds" "[I" ∈ lw_good := List.mem_filter.mpr ⟨List.mem_append_right _ (List.mem_of_getElem? (i := 30) (by decide +kernel)), rfl⟩
set_option maxRecDepth 50000 in
theorem lk_37 : Cond.methodLink R_Road 51 y_Road_streetAt ∈ lw_good := List.mem_filter.mpr ⟨List.mem_append_right _ (List.mem_of_getElem? (i := 260) (by decide +kernel)), rfl⟩
set_option maxRecDepth 50000 in
theorem lk_38 : Cond.code y_Road_streetAt b_Road_streetAt 2 (some .int) ∈ lw_good := List.mem_filter.mpr ⟨List.mem_append_right _ (List.mem_of_getElem? (i := 262) rfl), rfl⟩
set_option maxRecDepth 50000 in
theorem lk_39 : Cond.static y_Road_streetAt ∈ lw_good := List.mem_filter.mpr ⟨List.mem_append_right _ (List.mem_of_getElem? (i := 261) (by decide +kernel)), rfl⟩
set_option maxRecDepth 50000 in
theorem lk_40 : Cond.fieldLink R_Road 24 "WaveOffsets$Road" "weights" "[I" ∈ lw_good := List.mem_filter.mpr ⟨List.mem_append_right _ (List.mem_of_getElem? (i := 31) (by decide +kernel)), rfl⟩
set_option maxRecDepth 50000 in
theorem lk_41 : Cond.fieldLink R_Road 18 "WaveOffsets$Road" "queues" "[I" ∈ lw_good := List.mem_filter.mpr ⟨List.mem_append_right _ (List.mem_of_getElem? (i := 29) (by decide +kernel)), rfl⟩
set_option maxRecDepth 50000 in
theorem lk_42 : Cond.fieldLink R_Road 27 "WaveOffsets$Road" "firstCycle" "I" ∈ lw_good := List.mem_filter.mpr ⟨List.mem_append_right _ (List.mem_of_getElem? (i := 33) (by decide +kernel)), rfl⟩
set_option maxRecDepth 50000 in
theorem lk_43 : Cond.fieldLink R_Road 31 "WaveOffsets$Road" "lastCycle" "I" ∈ lw_good := List.mem_filter.mpr ⟨List.mem_append_right _ (List.mem_of_getElem? (i := 34) (by decide +kernel)), rfl⟩
set_option maxRecDepth 50000 in
theorem lk_44 : Cond.fieldLink R_Road 34 "WaveOffsets$Road" "cycleBy" "I" ∈ lw_good := List.mem_filter.mpr ⟨List.mem_append_right _ (List.mem_of_getElem? (i := 35) (by decide +kernel)), rfl⟩
set_option maxRecDepth 50000 in
theorem lk_45 : Cond.fieldLink R_Road 37 "WaveOffsets$Road" "stepSeconds" "I" ∈ lw_good := List.mem_filter.mpr ⟨List.mem_append_right _ (List.mem_of_getElem? (i := 36) (by decide +kernel)), rfl⟩
set_option maxRecDepth 50000 in
theorem lk_46 : Cond.methodLink R_Road 55 y_Road_greenOf ∈ lw_good := List.mem_filter.mpr ⟨List.mem_append_right _ (List.mem_of_getElem? (i := 364) (by decide +kernel)), rfl⟩
set_option maxRecDepth 50000 in
theorem lk_47 : Cond.code y_Road_greenOf b_Road_greenOf 2 (some .int) ∈ lw_good := List.mem_filter.mpr ⟨List.mem_append_right _ (List.mem_of_getElem? (i := 288) rfl), rfl⟩
set_option maxRecDepth 50000 in
theorem lk_48 : Cond.instanceMethod y_Road_greenOf ∈ lw_good := List.mem_filter.mpr ⟨List.mem_append_right _ (List.mem_of_getElem? (i := 286) (by decide +kernel)), rfl⟩
set_option maxRecDepth 50000 in
theorem lk_49 : Cond.selects R_Road y_Road_greenOf y_Road_greenOf ∈ lw_good := List.mem_filter.mpr ⟨List.mem_append_right _ (List.mem_of_getElem? (i := 287) (by decide +kernel)), rfl⟩
set_option maxRecDepth 50000 in
theorem lk_50 : Cond.methodLink R_Road 59 y_Road_queueOf ∈ lw_good := List.mem_filter.mpr ⟨List.mem_append_right _ (List.mem_of_getElem? (i := 365) (by decide +kernel)), rfl⟩
set_option maxRecDepth 50000 in
theorem lk_51 : Cond.code y_Road_queueOf b_Road_queueOf 2 (some .int) ∈ lw_good := List.mem_filter.mpr ⟨List.mem_append_right _ (List.mem_of_getElem? (i := 368) rfl), rfl⟩
set_option maxRecDepth 50000 in
theorem lk_52 : Cond.instanceMethod y_Road_queueOf ∈ lw_good := List.mem_filter.mpr ⟨List.mem_append_right _ (List.mem_of_getElem? (i := 366) (by decide +kernel)), rfl⟩
set_option maxRecDepth 50000 in
theorem lk_53 : Cond.selects R_Road y_Road_queueOf y_Road_queueOf ∈ lw_good := List.mem_filter.mpr ⟨List.mem_append_right _ (List.mem_of_getElem? (i := 367) (by decide +kernel)), rfl⟩
set_option maxRecDepth 50000 in
theorem lk_54 : Cond.methodLink R_Road 62 y_Road_openOf ∈ lw_good := List.mem_filter.mpr ⟨List.mem_append_right _ (List.mem_of_getElem? (i := 405) (by decide +kernel)), rfl⟩
set_option maxRecDepth 50000 in
theorem lk_55 : Cond.code y_Road_openOf b_Road_openOf 2 (some .int) ∈ lw_good := List.mem_filter.mpr ⟨List.mem_append_right _ (List.mem_of_getElem? (i := 363) rfl), rfl⟩
set_option maxRecDepth 50000 in
theorem lk_56 : Cond.instanceMethod y_Road_openOf ∈ lw_good := List.mem_filter.mpr ⟨List.mem_append_right _ (List.mem_of_getElem? (i := 361) (by decide +kernel)), rfl⟩
set_option maxRecDepth 50000 in
theorem lk_57 : Cond.selects R_Road y_Road_openOf y_Road_openOf ∈ lw_good := List.mem_filter.mpr ⟨List.mem_append_right _ (List.mem_of_getElem? (i := 362) (by decide +kernel)), rfl⟩
set_option maxRecDepth 50000 in
theorem lk_58 : Cond.methodLink R_Road 65 y_Math_min ∈ lw_good := List.mem_filter.mpr ⟨List.mem_append_right _ (List.mem_of_getElem? (i := 472) (by decide +kernel)), rfl⟩
set_option maxRecDepth 50000 in
theorem lk_59 : Cond.methodLinkNest R_Road 70 y_WO_wrap "WaveOffsets" ∈ lw_nest := List.mem_filter.mpr ⟨List.mem_append_right _ (List.mem_of_getElem? (i := 310) (by decide +kernel)), rfl⟩
set_option maxRecDepth 50000 in
theorem lk_60 : Cond.code y_WO_wrap b_WO_wrap 2 (some .int) ∈ lw_good := List.mem_filter.mpr ⟨List.mem_append_right _ (List.mem_of_getElem? (i := 312) rfl), rfl⟩
set_option maxRecDepth 50000 in
theorem lk_61 : Cond.static y_WO_wrap ∈ lw_good := List.mem_filter.mpr ⟨List.mem_append_right _ (List.mem_of_getElem? (i := 311) (by decide +kernel)), rfl⟩
set_option maxRecDepth 50000 in
theorem lk_62 : Cond.methodLink R_Road 73 y_Road_tries ∈ lw_good := List.mem_filter.mpr ⟨List.mem_append_right _ (List.mem_of_getElem? (i := 306) (by decide +kernel)), rfl⟩
set_option maxRecDepth 50000 in
theorem lk_63 : Cond.code y_Road_tries b_Road_tries 3 (some .boolean) ∈ lw_good := List.mem_filter.mpr ⟨List.mem_append_right _ (List.mem_of_getElem? (i := 309) rfl), rfl⟩
set_option maxRecDepth 50000 in
theorem lk_64 : Cond.instanceMethod y_Road_tries ∈ lw_good := List.mem_filter.mpr ⟨List.mem_append_right _ (List.mem_of_getElem? (i := 307) (by decide +kernel)), rfl⟩
set_option maxRecDepth 50000 in
theorem lk_65 : Cond.selects R_Road y_Road_tries y_Road_tries ∈ lw_good := List.mem_filter.mpr ⟨List.mem_append_right _ (List.mem_of_getElem? (i := 308) (by decide +kernel)), rfl⟩
set_option maxRecDepth 50000 in
theorem lk_66 : Cond.methodLink R_Road 76 y_Road_choices ∈ lw_good := List.mem_filter.mpr ⟨List.mem_append_right _ (List.mem_of_getElem? (i := 329) (by decide +kernel)), rfl⟩
set_option maxRecDepth 50000 in
theorem lk_67 : Cond.code y_Road_choices b_Road_choices 2 (some .int) ∈ lw_good := List.mem_filter.mpr ⟨List.mem_append_right _ (List.mem_of_getElem? (i := 332) rfl), rfl⟩
set_option maxRecDepth 50000 in
theorem lk_68 : Cond.instanceMethod y_Road_choices ∈ lw_good := List.mem_filter.mpr ⟨List.mem_append_right _ (List.mem_of_getElem? (i := 330) (by decide +kernel)), rfl⟩
set_option maxRecDepth 50000 in
theorem lk_69 : Cond.selects R_Road y_Road_choices y_Road_choices ∈ lw_good := List.mem_filter.mpr ⟨List.mem_append_right _ (List.mem_of_getElem? (i := 331) (by decide +kernel)), rfl⟩
set_option maxRecDepth 50000 in
theorem lk_70 : Cond.methodLink R_Road 79 y_Road_rowsBehind ∈ lw_good := List.mem_filter.mpr ⟨List.mem_append_right _ (List.mem_of_getElem? (i := 325) (by decide +kernel)), rfl⟩
set_option maxRecDepth 50000 in
theorem lk_71 : Cond.code y_Road_rowsBehind b_Road_rowsBehind 6 (some .long) ∈ lw_good := List.mem_filter.mpr ⟨List.mem_append_right _ (List.mem_of_getElem? (i := 328) rfl), rfl⟩
set_option maxRecDepth 50000 in
theorem lk_72 : Cond.instanceMethod y_Road_rowsBehind ∈ lw_good := List.mem_filter.mpr ⟨List.mem_append_right _ (List.mem_of_getElem? (i := 326) (by decide +kernel)), rfl⟩
set_option maxRecDepth 50000 in
theorem lk_73 : Cond.selects R_Road y_Road_rowsBehind y_Road_rowsBehind ∈ lw_good := List.mem_filter.mpr ⟨List.mem_append_right _ (List.mem_of_getElem? (i := 327) (by decide +kernel)), rfl⟩
set_option maxRecDepth 50000 in
theorem lk_74 : Cond.methodLink R_Road 83 y_Road_goneTo ∈ lw_good := List.mem_filter.mpr ⟨List.mem_append_right _ (List.mem_of_getElem? (i := 373) (by decide +kernel)), rfl⟩
set_option maxRecDepth 50000 in
theorem lk_75 : Cond.code y_Road_goneTo b_Road_goneTo 5 (some .int) ∈ lw_good := List.mem_filter.mpr ⟨List.mem_append_right _ (List.mem_of_getElem? (i := 376) rfl), rfl⟩
set_option maxRecDepth 50000 in
theorem lk_76 : Cond.instanceMethod y_Road_goneTo ∈ lw_good := List.mem_filter.mpr ⟨List.mem_append_right _ (List.mem_of_getElem? (i := 375) (by decide +kernel)), rfl⟩
set_option maxRecDepth 50000 in
theorem lk_77 : Cond.selects R_Road y_Road_goneTo y_Road_goneTo ∈ lw_good := List.mem_filter.mpr ⟨List.mem_append_left _ (List.mem_of_getElem? (i := 2) (by decide +kernel)), rfl⟩
set_option maxRecDepth 50000 in
theorem lk_78 : Cond.methodLinkNest R_Road 86 y_WO_shared "WaveOffsets" ∈ lw_nest := List.mem_filter.mpr ⟨List.mem_append_right _ (List.mem_of_getElem? (i := 406) (by decide +kernel)), rfl⟩
set_option maxRecDepth 50000 in
theorem lk_79 : Cond.code y_WO_shared b_WO_shared 6 (some .int) ∈ lw_good := List.mem_filter.mpr ⟨List.mem_append_right _ (List.mem_of_getElem? (i := 408) rfl), rfl⟩
set_option maxRecDepth 50000 in
theorem lk_80 : Cond.static y_WO_shared ∈ lw_good := List.mem_filter.mpr ⟨List.mem_append_right _ (List.mem_of_getElem? (i := 407) (by decide +kernel)), rfl⟩
def p_Road_size (n : Nat) (v_t_size : Int32) : Option (Int32) :=
  some v_t_size
abbrev m_Road_size : Room := { frames := 0, cells := 0, slots := 0, locals := 0 }
set_option maxHeartbeats 4000000 in
set_option maxRecDepth 100000 in
theorem c_Road_size (l : Launch) (G : va_G) (K : Nat → ClassId) (n : Nat) (t : Nat) (t_greens : Nat) (t_leasts : Nat) (t_queues : Nat) (t_seconds : Nat) (t_weights : Nat) (v_t_size : Int32) (v_t_firstCycle : Int32) (v_t_lastCycle : Int32) (v_t_cycleBy : Int32) (v_t_stepSeconds : Int32) (o : Int32) (hF : p_Road_size n v_t_size = some o) :
    Met l y_Road_size (wd y_Road_size b_Road_size 1 (some .int)) m_Road_size (dk_Pp [.ref t] G K [(t, .inr (1, [.ref t_greens, .ref t_leasts, .ref t_queues, .ref t_seconds, .ref t_weights, .int v_t_size, .int v_t_firstCycle, .int v_t_lastCycle, .int v_t_cycleBy, .int v_t_stepSeconds]))]) (dk_Qp (some (.int o))) 0 0 (fun _ => False) := by
  refine Met.ofW (cc := b_Road_size) (maxL := 1) (ret := (some .int)) (by decide) rfl ?_
  intro p e s m args below meth c s₁ B hml hv
  obtain ⟨rfl, hP, hK, hN⟩ := hv
  have hx := B.exec
  have hb := B.bytes
  have hr := B.returns
  have hts : ∀ w ∈ lw_good, w.before _ s = true := fun w h => atoms_spec (ws := wd y_Road_size b_Road_size 1 (some .int)) B.pre w (List.mem_cons_of_mem _ h)
  have hown : s.vm.findClass R_Road = some m.cls := findClass_of_methodNamed B.named
  have hlocks := B.notSynchronized
  have hfix : CallFix p m c b_Road_size 1 s _ lw_good R_Road := ⟨hx, hb, hml, hown, hts⟩
  have hl := lv_entry ([.ref t]) (n := 1) (Nat.le_of_ble_eq_true rfl)
  rw [lg_entry_eq]
  generalize (lg_sl ([.ref t]) ++ List.replicate (1 - (lg_sl ([.ref t])).length) Slot.unset).toArray = ls at hl ⊢
  have hl : lv_has ls 1 [(0, .ref t)] := hl
  change W p l e m_Road_size s m _ below meth c s.heap [] 0 0 _ _
  unfold p_Road_size at hF
  refine lv_aload_n hx hb d_Road_size_0 rfl (lv_at hl 0 rfl) ?_
  refine va_get (D := G) (ci := 1) (v := .int v_t_size) (C := R_Road) (T := F_Road) (N := 10) hx hb hts i_Road hown hK hP 0 rfl rfl 5 (by decide) (hts _ lk_24) (fun _ h9 => h9) rfl d_Road_size_1 ?_
  obtain rfl := Option.some.inj hF
  exact W.iret (v := v_t_size) hx hb hr (fun t ht hW => ⟨rfl, ht⟩) (fun _ h => by cases h) d_Road_size_4
def p_Road_isFull (n : Nat) (v_t_size : Int32) : Option (Int32) :=
  if v_t_size < (5 : Int32) then
    some (0 : Int32)
  else
    some (1 : Int32)
abbrev m_Road_isFull : Room := { frames := 0, cells := 0, slots := 0, locals := 0 }
set_option maxHeartbeats 4000000 in
set_option maxRecDepth 100000 in
theorem c_Road_isFull (l : Launch) (G : va_G) (K : Nat → ClassId) (n : Nat) (t : Nat) (t_greens : Nat) (t_leasts : Nat) (t_queues : Nat) (t_seconds : Nat) (t_weights : Nat) (v_t_size : Int32) (v_t_firstCycle : Int32) (v_t_lastCycle : Int32) (v_t_cycleBy : Int32) (v_t_stepSeconds : Int32) (o : Int32) (hF : p_Road_isFull n v_t_size = some o) :
    Met l y_Road_isFull (wd y_Road_isFull b_Road_isFull 1 (some .boolean)) m_Road_isFull (dk_Pp [.ref t] G K [(t, .inr (1, [.ref t_greens, .ref t_leasts, .ref t_queues, .ref t_seconds, .ref t_weights, .int v_t_size, .int v_t_firstCycle, .int v_t_lastCycle, .int v_t_cycleBy, .int v_t_stepSeconds]))]) (dk_Qp (some (.int o))) 0 0 (fun _ => False) := by
  refine Met.ofW (cc := b_Road_isFull) (maxL := 1) (ret := (some .boolean)) (by decide) rfl ?_
  intro p e s m args below meth c s₁ B hml hv
  obtain ⟨rfl, hP, hK, hN⟩ := hv
  have hx := B.exec
  have hb := B.bytes
  have hr := B.returns
  have hts : ∀ w ∈ lw_good, w.before _ s = true := fun w h => atoms_spec (ws := wd y_Road_isFull b_Road_isFull 1 (some .boolean)) B.pre w (List.mem_cons_of_mem _ h)
  have hown : s.vm.findClass R_Road = some m.cls := findClass_of_methodNamed B.named
  have hlocks := B.notSynchronized
  have hfix : CallFix p m c b_Road_isFull 1 s _ lw_good R_Road := ⟨hx, hb, hml, hown, hts⟩
  have hl := lv_entry ([.ref t]) (n := 1) (Nat.le_of_ble_eq_true rfl)
  rw [lg_entry_eq]
  generalize (lg_sl ([.ref t]) ++ List.replicate (1 - (lg_sl ([.ref t])).length) Slot.unset).toArray = ls at hl ⊢
  have hl : lv_has ls 1 [(0, .ref t)] := hl
  change W p l e m_Road_isFull s m _ below meth c s.heap [] 0 0 _ _
  unfold p_Road_isFull at hF
  refine lv_aload_n hx hb d_Road_isFull_0 rfl (lv_at hl 0 rfl) ?_
  refine va_get (D := G) (ci := 1) (v := .int v_t_size) (C := R_Road) (T := F_Road) (N := 10) hx hb hts i_Road hown hK hP 0 rfl rfl 5 (by decide) (hts _ lk_24) (fun _ h9 => h9) rfl d_Road_isFull_1 ?_
  refine lv_iconst (v := (5 : Int32)) hx hb d_Road_isFull_4 (by decide) ?_
  refine lv_icmp_lt (tgt := 12) hx hb d_Road_isFull_5 (by decide) (fun c5_1 => ?_) (fun c5_1 => ?_)
  · have hF := dk_t c5_1 hF
    refine lv_iconst (v := (0 : Int32)) hx hb d_Road_isFull_12 (by decide) ?_
    obtain rfl := Option.some.inj hF
    exact W.zret (v := (0 : Int32)) hx hb hr rfl (fun t ht hW => ⟨rfl, ht⟩) (fun _ h => by cases h) d_Road_isFull_13
  · have hF := dk_f c5_1 hF
    refine lv_iconst (v := (1 : Int32)) hx hb d_Road_isFull_8 (by decide) ?_
    refine lv_goto (tgt := 13) hx hb d_Road_isFull_9 (by decide) ?_
    obtain rfl := Option.some.inj hF
    exact W.zret (v := (1 : Int32)) hx hb hr rfl (fun t ht hW => ⟨rfl, ht⟩) (fun _ h => by cases h) d_Road_isFull_13
def p_Road_has (n : Nat) (x1 : Int32) (v_t_size : Int32) : Option (Int32) :=
  if x1 < 0 then
    some (0 : Int32)
  else
    if v_t_size ≤ x1 then
      some (0 : Int32)
    else
      some (1 : Int32)
abbrev m_Road_has : Room := { frames := 0, cells := 0, slots := 0, locals := 0 }
set_option maxHeartbeats 4000000 in
set_option maxRecDepth 100000 in
theorem c_Road_has (l : Launch) (G : va_G) (K : Nat → ClassId) (n : Nat) (t : Nat) (t_greens : Nat) (t_leasts : Nat) (t_queues : Nat) (t_seconds : Nat) (t_weights : Nat) (x1 : Int32) (v_t_size : Int32) (v_t_firstCycle : Int32) (v_t_lastCycle : Int32) (v_t_cycleBy : Int32) (v_t_stepSeconds : Int32) (o : Int32) (hF : p_Road_has n x1 v_t_size = some o) :
    Met l y_Road_has (wd y_Road_has b_Road_has 2 (some .boolean)) m_Road_has (dk_Pp [.ref t, .int x1] G K [(t, .inr (1, [.ref t_greens, .ref t_leasts, .ref t_queues, .ref t_seconds, .ref t_weights, .int v_t_size, .int v_t_firstCycle, .int v_t_lastCycle, .int v_t_cycleBy, .int v_t_stepSeconds]))]) (dk_Qp (some (.int o))) 0 0 (fun _ => False) := by
  refine Met.ofW (cc := b_Road_has) (maxL := 2) (ret := (some .boolean)) (by decide) rfl ?_
  intro p e s m args below meth c s₁ B hml hv
  obtain ⟨rfl, hP, hK, hN⟩ := hv
  have hx := B.exec
  have hb := B.bytes
  have hr := B.returns
  have hts : ∀ w ∈ lw_good, w.before _ s = true := fun w h => atoms_spec (ws := wd y_Road_has b_Road_has 2 (some .boolean)) B.pre w (List.mem_cons_of_mem _ h)
  have hown : s.vm.findClass R_Road = some m.cls := findClass_of_methodNamed B.named
  have hlocks := B.notSynchronized
  have hfix : CallFix p m c b_Road_has 2 s _ lw_good R_Road := ⟨hx, hb, hml, hown, hts⟩
  have hl := lv_entry ([.ref t, .int x1]) (n := 2) (Nat.le_of_ble_eq_true rfl)
  rw [lg_entry_eq]
  generalize (lg_sl ([.ref t, .int x1]) ++ List.replicate (2 - (lg_sl ([.ref t, .int x1])).length) Slot.unset).toArray = ls at hl ⊢
  have hl : lv_has ls 2 [(0, .ref t), (1, .int x1)] := hl
  change W p l e m_Road_has s m _ below meth c s.heap [] 0 0 _ _
  unfold p_Road_has at hF
  refine lv_iload_n hx hb d_Road_has_0 rfl (lv_at hl 1 rfl) ?_
  refine lv_if_lt (tgt := 16) hx hb d_Road_has_1 (by decide) (fun c1_1 => ?_) (fun c1_1 => ?_)
  · have hF := dk_t c1_1 hF
    refine lv_iconst (v := (0 : Int32)) hx hb d_Road_has_16 (by decide) ?_
    obtain rfl := Option.some.inj hF
    exact W.zret (v := (0 : Int32)) hx hb hr rfl (fun t ht hW => ⟨rfl, ht⟩) (fun _ h => by cases h) d_Road_has_17
  · have hF := dk_f c1_1 hF
    refine lv_iload_n hx hb d_Road_has_4 rfl (lv_at hl 1 rfl) ?_
    refine lv_aload_n hx hb d_Road_has_5 rfl (lv_at hl 0 rfl) ?_
    refine va_get (D := G) (ci := 1) (v := .int v_t_size) (C := R_Road) (T := F_Road) (N := 10) hx hb hts i_Road hown hK hP 0 rfl rfl 5 (by decide) (hts _ lk_24) (fun _ h9 => h9) rfl d_Road_has_6 ?_
    refine lv_icmp_ge (tgt := 16) hx hb d_Road_has_9 (by decide) (fun c9_2 => ?_) (fun c9_2 => ?_)
    · have hF := dk_t c9_2 hF
      refine lv_iconst (v := (0 : Int32)) hx hb d_Road_has_16 (by decide) ?_
      obtain rfl := Option.some.inj hF
      exact W.zret (v := (0 : Int32)) hx hb hr rfl (fun t ht hW => ⟨rfl, ht⟩) (fun _ h => by cases h) d_Road_has_17
    · have hF := dk_f c9_2 hF
      refine lv_iconst (v := (1 : Int32)) hx hb d_Road_has_12 (by decide) ?_
      refine lv_goto (tgt := 17) hx hb d_Road_has_13 (by decide) ?_
      obtain rfl := Option.some.inj hF
      exact W.zret (v := (1 : Int32)) hx hb hr rfl (fun t ht hW => ⟨rfl, ht⟩) (fun _ h => by cases h) d_Road_has_17
def p_Road_streetAt (n : Nat) (x0 : Int32) (x1 : Int32) : Option (Int32) :=
  if x0 = 0 then
    some x1
  else
    some ((5 : Int32) + x1)
abbrev m_Road_streetAt : Room := { frames := 0, cells := 0, slots := 0, locals := 0 }
set_option maxHeartbeats 4000000 in
set_option maxRecDepth 100000 in
theorem c_Road_streetAt (l : Launch) (G : va_G) (K : Nat → ClassId) (n : Nat) (x0 : Int32) (x1 : Int32) (o : Int32) (hF : p_Road_streetAt n x0 x1 = some o) :
    Met l y_Road_streetAt (wd y_Road_streetAt b_Road_streetAt 2 (some .int)) m_Road_streetAt (dk_Pp [.int x0, .int x1] G K []) (dk_Qp (some (.int o))) 0 0 (fun _ => False) := by
  refine Met.ofW (cc := b_Road_streetAt) (maxL := 2) (ret := (some .int)) (by decide) rfl ?_
  intro p e s m args below meth c s₁ B hml hv
  obtain ⟨rfl, hP, hK, hN⟩ := hv
  have hx := B.exec
  have hb := B.bytes
  have hr := B.returns
  have hts : ∀ w ∈ lw_good, w.before _ s = true := fun w h => atoms_spec (ws := wd y_Road_streetAt b_Road_streetAt 2 (some .int)) B.pre w (List.mem_cons_of_mem _ h)
  have hown : s.vm.findClass R_Road = some m.cls := findClass_of_methodNamed B.named
  have hlocks := B.notSynchronized
  have hfix : CallFix p m c b_Road_streetAt 2 s _ lw_good R_Road := ⟨hx, hb, hml, hown, hts⟩
  have hl := lv_entry ([.int x0, .int x1]) (n := 2) (Nat.le_of_ble_eq_true rfl)
  rw [lg_entry_eq]
  generalize (lg_sl ([.int x0, .int x1]) ++ List.replicate (2 - (lg_sl ([.int x0, .int x1])).length) Slot.unset).toArray = ls at hl ⊢
  have hl : lv_has ls 2 [(0, .int x0), (1, .int x1)] := hl
  change W p l e m_Road_streetAt s m _ below meth c s.heap [] 0 0 _ _
  unfold p_Road_streetAt at hF
  refine lv_iload_n hx hb d_Road_streetAt_0 rfl (lv_at hl 0 rfl) ?_
  refine lv_if_ne (tgt := 8) hx hb d_Road_streetAt_1 (by decide) (fun c1_1 => ?_) (fun c1_1 => ?_)
  · have hF := dk_f c1_1 hF
    refine lv_iconst (v := (5 : Int32)) hx hb d_Road_streetAt_8 (by decide) ?_
    refine lv_iload_n hx hb d_Road_streetAt_9 rfl (lv_at hl 1 rfl) ?_
    refine lv_iadd hx hb d_Road_streetAt_10 ?_
    obtain rfl := Option.some.inj hF
    exact W.iret (v := (5 : Int32) + x1) hx hb hr (fun t ht hW => ⟨rfl, ht⟩) (fun _ h => by cases h) d_Road_streetAt_11
  · have hF := dk_t c1_1 hF
    refine lv_iload_n hx hb d_Road_streetAt_4 rfl (lv_at hl 1 rfl) ?_
    refine lv_goto (tgt := 11) hx hb d_Road_streetAt_5 (by decide) ?_
    obtain rfl := Option.some.inj hF
    exact W.iret (v := x1) hx hb hr (fun t ht hW => ⟨rfl, ht⟩) (fun _ h => by cases h) d_Road_streetAt_11
def p_Road_addCrossing (n : Nat) (x1 : Int32) (x2 : Int32) (v_t_size : Int32) (v_t_greens : Nat → Int32) (v_t_leasts : Nat → Int32) : Option (Int32 × Int32 × (Nat → Int32) × (Nat → Int32)) :=
  (p_Road_isFull n v_t_size).bind fun r1_1 =>
  if r1_1 = 0 then
    if dk_in v_t_size 5 = true then
      if dk_in v_t_size 5 = true then
        some ((v_t_size + (1 : Int32)) - (1 : Int32), v_t_size + (1 : Int32), upd v_t_greens v_t_size.toNatClampNeg x1, upd v_t_leasts v_t_size.toNatClampNeg x2)
      else none
    else none
  else
    some (((-1) : Int32), v_t_size, v_t_greens, v_t_leasts)
abbrev m_Road_addCrossing : Room := { frames := 1, cells := 0, slots := 0, locals := 20 }
set_option maxHeartbeats 4000000 in
set_option maxRecDepth 100000 in
theorem c_Road_addCrossing (l : Launch) (G : va_G) (K : Nat → ClassId) (n : Nat) (sz : Nat) (t : Nat) (t_greens : Nat) (t_leasts : Nat) (t_queues : Nat) (t_seconds : Nat) (t_weights : Nat) (x1 : Int32) (x2 : Int32) (v_t_size : Int32) (v_t_firstCycle : Int32) (v_t_lastCycle : Int32) (v_t_cycleBy : Int32) (v_t_stepSeconds : Int32) (v_t_greens : Nat → Int32) (v_t_leasts : Nat → Int32) (o : Int32 × Int32 × (Nat → Int32) × (Nat → Int32)) (hF : p_Road_addCrossing n x1 x2 v_t_size v_t_greens v_t_leasts = some o) :
    Met l y_Road_addCrossing (wd y_Road_addCrossing b_Road_addCrossing 3 (some .int)) m_Road_addCrossing (dk_Pm [.ref t, .int x1, .int x2] G K [(t, .inr (1, [.ref t_greens, .ref t_leasts, .ref t_queues, .ref t_seconds, .ref t_weights, .int v_t_size, .int v_t_firstCycle, .int v_t_lastCycle, .int v_t_cycleBy, .int v_t_stepSeconds])), (t_greens, .inl (K 0, 5, .inl v_t_greens)), (t_leasts, .inl (K 0, 5, .inl v_t_leasts))] sz) (dk_Qm (some (.int o.1)) G (fun _ : Unit => [(t, .inr (1, [.ref t_greens, .ref t_leasts, .ref t_queues, .ref t_seconds, .ref t_weights, .int o.2.1, .int v_t_firstCycle, .int v_t_lastCycle, .int v_t_cycleBy, .int v_t_stepSeconds])), (t_greens, .inl (K 0, 5, .inl o.2.2.1)), (t_leasts, .inl (K 0, 5, .inl o.2.2.2))]) (va_A [(t, .inr (1, [.ref t_greens, .ref t_leasts, .ref t_queues, .ref t_seconds, .ref t_weights, .int v_t_size, .int v_t_firstCycle, .int v_t_lastCycle, .int v_t_cycleBy, .int v_t_stepSeconds])), (t_greens, .inl (K 0, 5, .inl v_t_greens)), (t_leasts, .inl (K 0, 5, .inl v_t_leasts))] sz)) 0 0 (va_A [(t, .inr (1, [.ref t_greens, .ref t_leasts, .ref t_queues, .ref t_seconds, .ref t_weights, .int v_t_size, .int v_t_firstCycle, .int v_t_lastCycle, .int v_t_cycleBy, .int v_t_stepSeconds])), (t_greens, .inl (K 0, 5, .inl v_t_greens)), (t_leasts, .inl (K 0, 5, .inl v_t_leasts))] sz) := by
  refine Met.ofW (cc := b_Road_addCrossing) (maxL := 3) (ret := (some .int)) (by decide) rfl ?_
  intro p e s m args below meth c s₁ B hml hv
  obtain ⟨rfl, hsz, hP, hK, hN, hD0⟩ := hv
  have hx := B.exec
  have hb := B.bytes
  have hr := B.returns
  have hts : ∀ w ∈ lw_good, w.before _ s = true := fun w h => atoms_spec (ws := wd y_Road_addCrossing b_Road_addCrossing 3 (some .int)) B.pre w (List.mem_cons_of_mem _ h)
  have hown : s.vm.findClass R_Road = some m.cls := findClass_of_methodNamed B.named
  have hlocks := B.notSynchronized
  have hfix : CallFix p m c b_Road_addCrossing 3 s _ lw_good R_Road := ⟨hx, hb, hml, hown, hts⟩
  subst hsz
  have hD := hD0.self (sz := s.heap.size)
  generalize hAe : va_A [(t, .inr (1, [.ref t_greens, .ref t_leasts, .ref t_queues, .ref t_seconds, .ref t_weights, .int v_t_size, .int v_t_firstCycle, .int v_t_lastCycle, .int v_t_cycleBy, .int v_t_stepSeconds])), (t_greens, .inl (K 0, 5, .inl v_t_greens)), (t_leasts, .inl (K 0, 5, .inl v_t_leasts))] s.heap.size = A at hD ⊢
  have hA : ∀ q : Nat, s.heap.size ≤ q → A q := fun q h => by rw [← hAe]; exact Or.inr h
  have hS : va_S A s.heap s.heap [] := va_S.rf
  have hl := lv_entry ([.ref t, .int x1, .int x2]) (n := 3) (Nat.le_of_ble_eq_true rfl)
  rw [lg_entry_eq]
  generalize (lg_sl ([.ref t, .int x1, .int x2]) ++ List.replicate (3 - (lg_sl ([.ref t, .int x1, .int x2])).length) Slot.unset).toArray = ls at hl ⊢
  have hl : lv_has ls 3 [(0, .ref t), (1, .int x1), (2, .int x2)] := hl
  change W p l e m_Road_addCrossing s m _ below meth c s.heap [] 0 0 _ _
  unfold p_Road_addCrossing at hF
  refine lv_aload_n hx hb d_Road_addCrossing_0 rfl (lv_at hl 0 rfl) ?_
  obtain ⟨r1_1, hC, hF⟩ := dk_b hF
  refine dk_pure (va_runV (As := []) (rest := []) hfix (c_Road_isFull l G K n t t_greens t_leasts t_queues t_seconds t_weights v_t_size v_t_firstCycle v_t_lastCycle v_t_cycleBy v_t_stepSeconds r1_1 hC) (cwV 0 hts (gd_V lk_25 lk_27 lk_28 lk_29 lk_26) rfl rfl rfl (by decide +kernel) ⟨Nat.le_of_ble_eq_true rfl, Nat.le_of_ble_eq_true rfl⟩) (dk_preV hK hN (hP.sub [0] rfl) (va_recv hK hP (ci := 1) (q0 := 0) rfl rfl)) rfl rfl hl.1 rfl (lv_room (Nat.le_of_ble_eq_true rfl)) d_Road_addCrossing_1 ⟨Nat.le_of_ble_eq_true rfl, Nat.le_of_ble_eq_true rfl⟩) ?_
  refine lv_if_eq (tgt := 9) hx hb d_Road_addCrossing_4 (by decide) (fun c4_2 => ?_) (fun c4_2 => ?_)
  · have hF := dk_t c4_2 hF
    refine lv_aload_n hx hb d_Road_addCrossing_9 rfl (lv_at hl 0 rfl) ?_
    refine va_get (D := G) (ci := 1) (v := .ref t_greens) (C := R_Road) (T := F_Road) (N := 10) hx hb hts i_Road hown hK hP 0 rfl rfl 0 (by decide) (hts _ lk_30) (fun _ h9 => h9) rfl d_Road_addCrossing_10 ?_
    refine lv_aload_n hx hb d_Road_addCrossing_13 rfl (lv_at hl 0 rfl) ?_
    refine va_get (D := G) (ci := 1) (v := .int v_t_size) (C := R_Road) (T := F_Road) (N := 10) hx hb hts i_Road hown hK hP 0 rfl rfl 5 (by decide) (hts _ lk_24) (fun _ h9 => h9) rfl d_Road_addCrossing_14 ?_
    refine lv_iload_n hx hb d_Road_addCrossing_17 rfl (lv_at hl 1 rfl) ?_
    obtain ⟨hi, hF⟩ := dk_a hF
    refine va_iast (D := G) hx hb hK hP hD hS 1 0 rfl rfl (dk_vp hi) d_Road_addCrossing_18 (fun H locs hP hD hS => ?_)
    have hP : va_P G classes [(t, .inr (1, [.ref t_greens, .ref t_leasts, .ref t_queues, .ref t_seconds, .ref t_weights, .int v_t_size, .int v_t_firstCycle, .int v_t_lastCycle, .int v_t_cycleBy, .int v_t_stepSeconds])), (t_greens, .inl (K 0, 5, .inl (upd v_t_greens v_t_size.toNatClampNeg x1))), (t_leasts, .inl (K 0, 5, .inl v_t_leasts))] H := hP
    have hD : va_D A [(t, .inr (1, [.ref t_greens, .ref t_leasts, .ref t_queues, .ref t_seconds, .ref t_weights, .int v_t_size, .int v_t_firstCycle, .int v_t_lastCycle, .int v_t_cycleBy, .int v_t_stepSeconds])), (t_greens, .inl (K 0, 5, .inl (upd v_t_greens v_t_size.toNatClampNeg x1))), (t_leasts, .inl (K 0, 5, .inl v_t_leasts))] := hD
    refine lv_aload_n hx hb d_Road_addCrossing_19 rfl (lv_at hl 0 rfl) ?_
    refine va_get (D := G) (ci := 1) (v := .ref t_leasts) (C := R_Road) (T := F_Road) (N := 10) hx hb hts i_Road hown hK hP 0 rfl rfl 1 (by decide) (hts _ lk_31) (fun _ h9 => h9) rfl d_Road_addCrossing_20 ?_
    refine lv_aload_n hx hb d_Road_addCrossing_23 rfl (lv_at hl 0 rfl) ?_
    refine va_get (D := G) (ci := 1) (v := .int v_t_size) (C := R_Road) (T := F_Road) (N := 10) hx hb hts i_Road hown hK hP 0 rfl rfl 5 (by decide) (hts _ lk_24) (fun _ h9 => h9) rfl d_Road_addCrossing_24 ?_
    refine lv_iload_n hx hb d_Road_addCrossing_27 rfl (lv_at hl 2 rfl) ?_
    obtain ⟨hi, hF⟩ := dk_a hF
    refine va_iast (D := G) hx hb hK hP hD hS 2 0 rfl rfl (dk_vp hi) d_Road_addCrossing_28 (fun H locs hP hD hS => ?_)
    have hP : va_P G classes [(t, .inr (1, [.ref t_greens, .ref t_leasts, .ref t_queues, .ref t_seconds, .ref t_weights, .int v_t_size, .int v_t_firstCycle, .int v_t_lastCycle, .int v_t_cycleBy, .int v_t_stepSeconds])), (t_greens, .inl (K 0, 5, .inl (upd v_t_greens v_t_size.toNatClampNeg x1))), (t_leasts, .inl (K 0, 5, .inl (upd v_t_leasts v_t_size.toNatClampNeg x2)))] H := hP
    have hD : va_D A [(t, .inr (1, [.ref t_greens, .ref t_leasts, .ref t_queues, .ref t_seconds, .ref t_weights, .int v_t_size, .int v_t_firstCycle, .int v_t_lastCycle, .int v_t_cycleBy, .int v_t_stepSeconds])), (t_greens, .inl (K 0, 5, .inl (upd v_t_greens v_t_size.toNatClampNeg x1))), (t_leasts, .inl (K 0, 5, .inl (upd v_t_leasts v_t_size.toNatClampNeg x2)))] := hD
    refine lv_aload_n hx hb d_Road_addCrossing_29 rfl (lv_at hl 0 rfl) ?_
    refine lv_dup hx hb d_Road_addCrossing_30 rfl ?_
    refine va_get (D := G) (ci := 1) (v := .int v_t_size) (C := R_Road) (T := F_Road) (N := 10) hx hb hts i_Road hown hK hP 0 rfl rfl 5 (by decide) (hts _ lk_24) (fun _ h9 => h9) rfl d_Road_addCrossing_31 ?_
    refine lv_iconst (v := (1 : Int32)) hx hb d_Road_addCrossing_34 (by decide) ?_
    refine lv_iadd hx hb d_Road_addCrossing_35 ?_
    refine va_put (D := G) (ci := 1) (v := .int (v_t_size + (1 : Int32))) (ty := .int) (C := R_Road) (T := F_Road) (N := 10) hx hb hts i_Road t_Road t_Road_ok n_Road hown hK hP hD hS 0 rfl rfl 5 (by decide) (hts _ lk_24) (fun _ h9 => h9) rfl (by decide +kernel) rfl rfl (Nat.le_of_ble_eq_true rfl) d_Road_addCrossing_36 (fun H locs hP hD hS => ?_)
    have hP : va_P G classes [(t, .inr (1, [.ref t_greens, .ref t_leasts, .ref t_queues, .ref t_seconds, .ref t_weights, .int (v_t_size + (1 : Int32)), .int v_t_firstCycle, .int v_t_lastCycle, .int v_t_cycleBy, .int v_t_stepSeconds])), (t_greens, .inl (K 0, 5, .inl (upd v_t_greens v_t_size.toNatClampNeg x1))), (t_leasts, .inl (K 0, 5, .inl (upd v_t_leasts v_t_size.toNatClampNeg x2)))] H := hP
    have hD : va_D A [(t, .inr (1, [.ref t_greens, .ref t_leasts, .ref t_queues, .ref t_seconds, .ref t_weights, .int (v_t_size + (1 : Int32)), .int v_t_firstCycle, .int v_t_lastCycle, .int v_t_cycleBy, .int v_t_stepSeconds])), (t_greens, .inl (K 0, 5, .inl (upd v_t_greens v_t_size.toNatClampNeg x1))), (t_leasts, .inl (K 0, 5, .inl (upd v_t_leasts v_t_size.toNatClampNeg x2)))] := hD
    refine lv_aload_n hx hb d_Road_addCrossing_39 rfl (lv_at hl 0 rfl) ?_
    refine va_get (D := G) (ci := 1) (v := .int (v_t_size + (1 : Int32))) (C := R_Road) (T := F_Road) (N := 10) hx hb hts i_Road hown hK hP 0 rfl rfl 5 (by decide) (hts _ lk_24) (fun _ h9 => h9) rfl d_Road_addCrossing_40 ?_
    refine lv_iconst (v := (1 : Int32)) hx hb d_Road_addCrossing_43 (by decide) ?_
    refine lv_isub hx hb d_Road_addCrossing_44 ?_
    obtain rfl := Option.some.inj hF
    exact W.iret (v := (v_t_size + (1 : Int32)) - (1 : Int32)) hx hb hr (fun t ht hW => ⟨⟨(), rfl, by rw [ht]; exact hP, hD⟩, hS.F ht⟩) hS.2.2 d_Road_addCrossing_45
  · have hF := dk_f c4_2 hF
    refine lv_iconst (v := ((-1) : Int32)) hx hb d_Road_addCrossing_7 (by decide) ?_
    obtain rfl := Option.some.inj hF
    exact W.iret (v := ((-1) : Int32)) hx hb hr (fun t ht hW => ⟨⟨(), rfl, by rw [ht]; exact hP, hD⟩, hS.F ht⟩) hS.2.2 d_Road_addCrossing_8
def p_Road_tellStreet (n : Nat) (x1 : Int32) (x2 : Int32) (x3 : Int32) (x4 : Int32) (v_t_size : Int32) (v_t_seconds : Nat → Int32) (v_t_weights : Nat → Int32) : Option ((Nat → Int32) × (Nat → Int32)) :=
  (p_Road_has n x2 v_t_size).bind fun r2_1 =>
  if r2_1 = 0 then
    some (v_t_seconds, v_t_weights)
  else
    (p_Road_streetAt n x1 x2).bind fun r14_3 =>
    if dk_in r14_3 10 = true then
      (p_Road_streetAt n x1 x2).bind fun r25_4 =>
      if dk_in r25_4 10 = true then
        some (upd v_t_seconds r14_3.toNatClampNeg x3, upd v_t_weights r25_4.toNatClampNeg x4)
      else none
    else none
abbrev m_Road_tellStreet : Room := { frames := 1, cells := 0, slots := 0, locals := 21 }
set_option maxHeartbeats 4000000 in
set_option maxRecDepth 100000 in
theorem c_Road_tellStreet (l : Launch) (G : va_G) (K : Nat → ClassId) (n : Nat) (sz : Nat) (t : Nat) (t_greens : Nat) (t_leasts : Nat) (t_queues : Nat) (t_seconds : Nat) (t_weights : Nat) (x1 : Int32) (x2 : Int32) (x3 : Int32) (x4 : Int32) (v_t_size : Int32) (v_t_firstCycle : Int32) (v_t_lastCycle : Int32) (v_t_cycleBy : Int32) (v_t_stepSeconds : Int32) (v_t_seconds : Nat → Int32) (v_t_weights : Nat → Int32) (o : (Nat → Int32) × (Nat → Int32)) (hF : p_Road_tellStreet n x1 x2 x3 x4 v_t_size v_t_seconds v_t_weights = some o) :
    Met l y_Road_tellStreet (wd y_Road_tellStreet b_Road_tellStreet 5 none) m_Road_tellStreet (dk_Pm [.ref t, .int x1, .int x2, .int x3, .int x4] G K [(t, .inr (1, [.ref t_greens, .ref t_leasts, .ref t_queues, .ref t_seconds, .ref t_weights, .int v_t_size, .int v_t_firstCycle, .int v_t_lastCycle, .int v_t_cycleBy, .int v_t_stepSeconds])), (t_seconds, .inl (K 0, 10, .inl v_t_seconds)), (t_weights, .inl (K 0, 10, .inl v_t_weights))] sz) (dk_Qm none G (fun _ : Unit => [(t, .inr (1, [.ref t_greens, .ref t_leasts, .ref t_queues, .ref t_seconds, .ref t_weights, .int v_t_size, .int v_t_firstCycle, .int v_t_lastCycle, .int v_t_cycleBy, .int v_t_stepSeconds])), (t_seconds, .inl (K 0, 10, .inl o.1)), (t_weights, .inl (K 0, 10, .inl o.2))]) (va_A [(t, .inr (1, [.ref t_greens, .ref t_leasts, .ref t_queues, .ref t_seconds, .ref t_weights, .int v_t_size, .int v_t_firstCycle, .int v_t_lastCycle, .int v_t_cycleBy, .int v_t_stepSeconds])), (t_seconds, .inl (K 0, 10, .inl v_t_seconds)), (t_weights, .inl (K 0, 10, .inl v_t_weights))] sz)) 0 0 (va_A [(t, .inr (1, [.ref t_greens, .ref t_leasts, .ref t_queues, .ref t_seconds, .ref t_weights, .int v_t_size, .int v_t_firstCycle, .int v_t_lastCycle, .int v_t_cycleBy, .int v_t_stepSeconds])), (t_seconds, .inl (K 0, 10, .inl v_t_seconds)), (t_weights, .inl (K 0, 10, .inl v_t_weights))] sz) := by
  refine Met.ofW (cc := b_Road_tellStreet) (maxL := 5) (ret := none) (by decide) rfl ?_
  intro p e s m args below meth c s₁ B hml hv
  obtain ⟨rfl, hsz, hP, hK, hN, hD0⟩ := hv
  have hx := B.exec
  have hb := B.bytes
  have hr := B.returns
  have hts : ∀ w ∈ lw_good, w.before _ s = true := fun w h => atoms_spec (ws := wd y_Road_tellStreet b_Road_tellStreet 5 none) B.pre w (List.mem_cons_of_mem _ h)
  have hown : s.vm.findClass R_Road = some m.cls := findClass_of_methodNamed B.named
  have hlocks := B.notSynchronized
  have hfix : CallFix p m c b_Road_tellStreet 5 s _ lw_good R_Road := ⟨hx, hb, hml, hown, hts⟩
  subst hsz
  have hD := hD0.self (sz := s.heap.size)
  generalize hAe : va_A [(t, .inr (1, [.ref t_greens, .ref t_leasts, .ref t_queues, .ref t_seconds, .ref t_weights, .int v_t_size, .int v_t_firstCycle, .int v_t_lastCycle, .int v_t_cycleBy, .int v_t_stepSeconds])), (t_seconds, .inl (K 0, 10, .inl v_t_seconds)), (t_weights, .inl (K 0, 10, .inl v_t_weights))] s.heap.size = A at hD ⊢
  have hA : ∀ q : Nat, s.heap.size ≤ q → A q := fun q h => by rw [← hAe]; exact Or.inr h
  have hS : va_S A s.heap s.heap [] := va_S.rf
  have hl := lv_entry ([.ref t, .int x1, .int x2, .int x3, .int x4]) (n := 5) (Nat.le_of_ble_eq_true rfl)
  rw [lg_entry_eq]
  generalize (lg_sl ([.ref t, .int x1, .int x2, .int x3, .int x4]) ++ List.replicate (5 - (lg_sl ([.ref t, .int x1, .int x2, .int x3, .int x4])).length) Slot.unset).toArray = ls at hl ⊢
  have hl : lv_has ls 5 [(0, .ref t), (1, .int x1), (2, .int x2), (3, .int x3), (4, .int x4)] := hl
  change W p l e m_Road_tellStreet s m _ below meth c s.heap [] 0 0 _ _
  unfold p_Road_tellStreet at hF
  refine lv_aload_n hx hb d_Road_tellStreet_0 rfl (lv_at hl 0 rfl) ?_
  refine lv_iload_n hx hb d_Road_tellStreet_1 rfl (lv_at hl 2 rfl) ?_
  obtain ⟨r2_1, hC, hF⟩ := dk_b hF
  refine dk_pure (va_runV (As := [.int x2]) (rest := []) hfix (c_Road_has l G K n t t_greens t_leasts t_queues t_seconds t_weights x2 v_t_size v_t_firstCycle v_t_lastCycle v_t_cycleBy v_t_stepSeconds r2_1 hC) (cwV 1 hts (gd_V lk_32 lk_34 lk_35 lk_29 lk_33) rfl rfl rfl (by decide +kernel) ⟨Nat.le_of_ble_eq_true rfl, Nat.le_of_ble_eq_true rfl⟩) (dk_preV hK hN (hP.sub [0] rfl) (va_recv hK hP (ci := 1) (q0 := 0) rfl rfl)) rfl rfl hl.1 rfl (lv_room (Nat.le_of_ble_eq_true rfl)) d_Road_tellStreet_2 ⟨Nat.le_of_ble_eq_true rfl, Nat.le_of_ble_eq_true rfl⟩) ?_
  refine lv_if_eq (tgt := 31) hx hb d_Road_tellStreet_5 (by decide) (fun c5_2 => ?_) (fun c5_2 => ?_)
  · have hF := dk_t c5_2 hF
    obtain rfl := Option.some.inj hF
    exact W.vret hx hb hr (fun t ht hW => ⟨⟨(), rfl, by rw [ht]; exact hP, hD⟩, hS.F ht⟩) hS.2.2 d_Road_tellStreet_31
  · have hF := dk_f c5_2 hF
    refine lv_aload_n hx hb d_Road_tellStreet_8 rfl (lv_at hl 0 rfl) ?_
    refine va_get (D := G) (ci := 1) (v := .ref t_seconds) (C := R_Road) (T := F_Road) (N := 10) hx hb hts i_Road hown hK hP 0 rfl rfl 3 (by decide) (hts _ lk_36) (fun _ h9 => h9) rfl d_Road_tellStreet_9 ?_
    refine lv_iload_n hx hb d_Road_tellStreet_12 rfl (lv_at hl 1 rfl) ?_
    refine lv_iload_n hx hb d_Road_tellStreet_13 rfl (lv_at hl 2 rfl) ?_
    obtain ⟨r14_3, hC, hF⟩ := dk_b hF
    refine dk_pure (va_runS (As := [.int x1, .int x2]) (rest := [.ref t_seconds]) hfix (c_Road_streetAt l G K n x1 x2 r14_3 hC) (va_cwS 2 hts (gd_S lk_37 lk_39 lk_29 lk_38) rfl rfl rfl (by decide +kernel) ⟨Nat.le_of_ble_eq_true rfl, Nat.le_of_ble_eq_true rfl⟩) (dk_preS hK hN (hP.sub [] rfl)) rfl rfl hl.1 rfl (lv_room (Nat.le_of_ble_eq_true rfl)) d_Road_tellStreet_14 ⟨Nat.le_of_ble_eq_true rfl, Nat.le_of_ble_eq_true rfl⟩) ?_
    refine lv_iload_n hx hb d_Road_tellStreet_17 rfl (lv_at hl 3 rfl) ?_
    obtain ⟨hi, hF⟩ := dk_a hF
    refine va_iast (D := G) hx hb hK hP hD hS 1 0 rfl rfl (dk_vp hi) d_Road_tellStreet_18 (fun H locs hP hD hS => ?_)
    have hP : va_P G classes [(t, .inr (1, [.ref t_greens, .ref t_leasts, .ref t_queues, .ref t_seconds, .ref t_weights, .int v_t_size, .int v_t_firstCycle, .int v_t_lastCycle, .int v_t_cycleBy, .int v_t_stepSeconds])), (t_seconds, .inl (K 0, 10, .inl (upd v_t_seconds r14_3.toNatClampNeg x3))), (t_weights, .inl (K 0, 10, .inl v_t_weights))] H := hP
    have hD : va_D A [(t, .inr (1, [.ref t_greens, .ref t_leasts, .ref t_queues, .ref t_seconds, .ref t_weights, .int v_t_size, .int v_t_firstCycle, .int v_t_lastCycle, .int v_t_cycleBy, .int v_t_stepSeconds])), (t_seconds, .inl (K 0, 10, .inl (upd v_t_seconds r14_3.toNatClampNeg x3))), (t_weights, .inl (K 0, 10, .inl v_t_weights))] := hD
    refine lv_aload_n hx hb d_Road_tellStreet_19 rfl (lv_at hl 0 rfl) ?_
    refine va_get (D := G) (ci := 1) (v := .ref t_weights) (C := R_Road) (T := F_Road) (N := 10) hx hb hts i_Road hown hK hP 0 rfl rfl 4 (by decide) (hts _ lk_40) (fun _ h9 => h9) rfl d_Road_tellStreet_20 ?_
    refine lv_iload_n hx hb d_Road_tellStreet_23 rfl (lv_at hl 1 rfl) ?_
    refine lv_iload_n hx hb d_Road_tellStreet_24 rfl (lv_at hl 2 rfl) ?_
    obtain ⟨r25_4, hC, hF⟩ := dk_b hF
    refine dk_pure (va_runS (As := [.int x1, .int x2]) (rest := [.ref t_weights]) hfix (c_Road_streetAt l G K n x1 x2 r25_4 hC) (va_cwS 2 hts (gd_S lk_37 lk_39 lk_29 lk_38) rfl rfl rfl (by decide +kernel) ⟨Nat.le_of_ble_eq_true rfl, Nat.le_of_ble_eq_true rfl⟩) (dk_preS hK hN (hP.sub [] rfl)) rfl rfl hl.1 rfl (lv_room (Nat.le_of_ble_eq_true rfl)) d_Road_tellStreet_25 ⟨Nat.le_of_ble_eq_true rfl, Nat.le_of_ble_eq_true rfl⟩) ?_
    refine lv_iload hx hb d_Road_tellStreet_28 (lv_at hl 4 rfl) ?_
    obtain ⟨hi, hF⟩ := dk_a hF
    refine va_iast (D := G) hx hb hK hP hD hS 2 0 rfl rfl (dk_vp hi) d_Road_tellStreet_30 (fun H locs hP hD hS => ?_)
    have hP : va_P G classes [(t, .inr (1, [.ref t_greens, .ref t_leasts, .ref t_queues, .ref t_seconds, .ref t_weights, .int v_t_size, .int v_t_firstCycle, .int v_t_lastCycle, .int v_t_cycleBy, .int v_t_stepSeconds])), (t_seconds, .inl (K 0, 10, .inl (upd v_t_seconds r14_3.toNatClampNeg x3))), (t_weights, .inl (K 0, 10, .inl (upd v_t_weights r25_4.toNatClampNeg x4)))] H := hP
    have hD : va_D A [(t, .inr (1, [.ref t_greens, .ref t_leasts, .ref t_queues, .ref t_seconds, .ref t_weights, .int v_t_size, .int v_t_firstCycle, .int v_t_lastCycle, .int v_t_cycleBy, .int v_t_stepSeconds])), (t_seconds, .inl (K 0, 10, .inl (upd v_t_seconds r14_3.toNatClampNeg x3))), (t_weights, .inl (K 0, 10, .inl (upd v_t_weights r25_4.toNatClampNeg x4)))] := hD
    obtain rfl := Option.some.inj hF
    exact W.vret hx hb hr (fun t ht hW => ⟨⟨(), rfl, by rw [ht]; exact hP, hD⟩, hS.F ht⟩) hS.2.2 d_Road_tellStreet_31
def p_Road_tellQueue (n : Nat) (x1 : Int32) (x2 : Int32) (v_t_size : Int32) (v_t_queues : Nat → Int32) : Option ((Nat → Int32)) :=
  (p_Road_has n x1 v_t_size).bind fun r2_1 =>
  if r2_1 = 0 then
    some v_t_queues
  else
    if dk_in x1 5 = true then
      some (upd v_t_queues x1.toNatClampNeg x2)
    else none
abbrev m_Road_tellQueue : Room := { frames := 1, cells := 0, slots := 0, locals := 21 }
set_option maxHeartbeats 4000000 in
set_option maxRecDepth 100000 in
theorem c_Road_tellQueue (l : Launch) (G : va_G) (K : Nat → ClassId) (n : Nat) (sz : Nat) (t : Nat) (t_greens : Nat) (t_leasts : Nat) (t_queues : Nat) (t_seconds : Nat) (t_weights : Nat) (x1 : Int32) (x2 : Int32) (v_t_size : Int32) (v_t_firstCycle : Int32) (v_t_lastCycle : Int32) (v_t_cycleBy : Int32) (v_t_stepSeconds : Int32) (v_t_queues : Nat → Int32) (o : (Nat → Int32)) (hF : p_Road_tellQueue n x1 x2 v_t_size v_t_queues = some o) :
    Met l y_Road_tellQueue (wd y_Road_tellQueue b_Road_tellQueue 3 none) m_Road_tellQueue (dk_Pm [.ref t, .int x1, .int x2] G K [(t, .inr (1, [.ref t_greens, .ref t_leasts, .ref t_queues, .ref t_seconds, .ref t_weights, .int v_t_size, .int v_t_firstCycle, .int v_t_lastCycle, .int v_t_cycleBy, .int v_t_stepSeconds])), (t_queues, .inl (K 0, 5, .inl v_t_queues))] sz) (dk_Qm none G (fun _ : Unit => [(t, .inr (1, [.ref t_greens, .ref t_leasts, .ref t_queues, .ref t_seconds, .ref t_weights, .int v_t_size, .int v_t_firstCycle, .int v_t_lastCycle, .int v_t_cycleBy, .int v_t_stepSeconds])), (t_queues, .inl (K 0, 5, .inl o))]) (va_A [(t, .inr (1, [.ref t_greens, .ref t_leasts, .ref t_queues, .ref t_seconds, .ref t_weights, .int v_t_size, .int v_t_firstCycle, .int v_t_lastCycle, .int v_t_cycleBy, .int v_t_stepSeconds])), (t_queues, .inl (K 0, 5, .inl v_t_queues))] sz)) 0 0 (va_A [(t, .inr (1, [.ref t_greens, .ref t_leasts, .ref t_queues, .ref t_seconds, .ref t_weights, .int v_t_size, .int v_t_firstCycle, .int v_t_lastCycle, .int v_t_cycleBy, .int v_t_stepSeconds])), (t_queues, .inl (K 0, 5, .inl v_t_queues))] sz) := by
  refine Met.ofW (cc := b_Road_tellQueue) (maxL := 3) (ret := none) (by decide) rfl ?_
  intro p e s m args below meth c s₁ B hml hv
  obtain ⟨rfl, hsz, hP, hK, hN, hD0⟩ := hv
  have hx := B.exec
  have hb := B.bytes
  have hr := B.returns
  have hts : ∀ w ∈ lw_good, w.before _ s = true := fun w h => atoms_spec (ws := wd y_Road_tellQueue b_Road_tellQueue 3 none) B.pre w (List.mem_cons_of_mem _ h)
  have hown : s.vm.findClass R_Road = some m.cls := findClass_of_methodNamed B.named
  have hlocks := B.notSynchronized
  have hfix : CallFix p m c b_Road_tellQueue 3 s _ lw_good R_Road := ⟨hx, hb, hml, hown, hts⟩
  subst hsz
  have hD := hD0.self (sz := s.heap.size)
  generalize hAe : va_A [(t, .inr (1, [.ref t_greens, .ref t_leasts, .ref t_queues, .ref t_seconds, .ref t_weights, .int v_t_size, .int v_t_firstCycle, .int v_t_lastCycle, .int v_t_cycleBy, .int v_t_stepSeconds])), (t_queues, .inl (K 0, 5, .inl v_t_queues))] s.heap.size = A at hD ⊢
  have hA : ∀ q : Nat, s.heap.size ≤ q → A q := fun q h => by rw [← hAe]; exact Or.inr h
  have hS : va_S A s.heap s.heap [] := va_S.rf
  have hl := lv_entry ([.ref t, .int x1, .int x2]) (n := 3) (Nat.le_of_ble_eq_true rfl)
  rw [lg_entry_eq]
  generalize (lg_sl ([.ref t, .int x1, .int x2]) ++ List.replicate (3 - (lg_sl ([.ref t, .int x1, .int x2])).length) Slot.unset).toArray = ls at hl ⊢
  have hl : lv_has ls 3 [(0, .ref t), (1, .int x1), (2, .int x2)] := hl
  change W p l e m_Road_tellQueue s m _ below meth c s.heap [] 0 0 _ _
  unfold p_Road_tellQueue at hF
  refine lv_aload_n hx hb d_Road_tellQueue_0 rfl (lv_at hl 0 rfl) ?_
  refine lv_iload_n hx hb d_Road_tellQueue_1 rfl (lv_at hl 1 rfl) ?_
  obtain ⟨r2_1, hC, hF⟩ := dk_b hF
  refine dk_pure (va_runV (As := [.int x1]) (rest := []) hfix (c_Road_has l G K n t t_greens t_leasts t_queues t_seconds t_weights x1 v_t_size v_t_firstCycle v_t_lastCycle v_t_cycleBy v_t_stepSeconds r2_1 hC) (cwV 1 hts (gd_V lk_32 lk_34 lk_35 lk_29 lk_33) rfl rfl rfl (by decide +kernel) ⟨Nat.le_of_ble_eq_true rfl, Nat.le_of_ble_eq_true rfl⟩) (dk_preV hK hN (hP.sub [0] rfl) (va_recv hK hP (ci := 1) (q0 := 0) rfl rfl)) rfl rfl hl.1 rfl (lv_room (Nat.le_of_ble_eq_true rfl)) d_Road_tellQueue_2 ⟨Nat.le_of_ble_eq_true rfl, Nat.le_of_ble_eq_true rfl⟩) ?_
  refine lv_if_eq (tgt := 15) hx hb d_Road_tellQueue_5 (by decide) (fun c5_2 => ?_) (fun c5_2 => ?_)
  · have hF := dk_t c5_2 hF
    obtain rfl := Option.some.inj hF
    exact W.vret hx hb hr (fun t ht hW => ⟨⟨(), rfl, by rw [ht]; exact hP, hD⟩, hS.F ht⟩) hS.2.2 d_Road_tellQueue_15
  · have hF := dk_f c5_2 hF
    refine lv_aload_n hx hb d_Road_tellQueue_8 rfl (lv_at hl 0 rfl) ?_
    refine va_get (D := G) (ci := 1) (v := .ref t_queues) (C := R_Road) (T := F_Road) (N := 10) hx hb hts i_Road hown hK hP 0 rfl rfl 2 (by decide) (hts _ lk_41) (fun _ h9 => h9) rfl d_Road_tellQueue_9 ?_
    refine lv_iload_n hx hb d_Road_tellQueue_12 rfl (lv_at hl 1 rfl) ?_
    refine lv_iload_n hx hb d_Road_tellQueue_13 rfl (lv_at hl 2 rfl) ?_
    obtain ⟨hi, hF⟩ := dk_a hF
    refine va_iast (D := G) hx hb hK hP hD hS 1 0 rfl rfl (dk_vp hi) d_Road_tellQueue_14 (fun H locs hP hD hS => ?_)
    have hP : va_P G classes [(t, .inr (1, [.ref t_greens, .ref t_leasts, .ref t_queues, .ref t_seconds, .ref t_weights, .int v_t_size, .int v_t_firstCycle, .int v_t_lastCycle, .int v_t_cycleBy, .int v_t_stepSeconds])), (t_queues, .inl (K 0, 5, .inl (upd v_t_queues x1.toNatClampNeg x2)))] H := hP
    have hD : va_D A [(t, .inr (1, [.ref t_greens, .ref t_leasts, .ref t_queues, .ref t_seconds, .ref t_weights, .int v_t_size, .int v_t_firstCycle, .int v_t_lastCycle, .int v_t_cycleBy, .int v_t_stepSeconds])), (t_queues, .inl (K 0, 5, .inl (upd v_t_queues x1.toNatClampNeg x2)))] := hD
    obtain rfl := Option.some.inj hF
    exact W.vret hx hb hr (fun t ht hW => ⟨⟨(), rfl, by rw [ht]; exact hP, hD⟩, hS.F ht⟩) hS.2.2 d_Road_tellQueue_15
def p_Road_tellCycles (n : Nat) (x1 : Int32) (x2 : Int32) (x3 : Int32) (v_t_firstCycle : Int32) (v_t_lastCycle : Int32) (v_t_cycleBy : Int32) : Option (Int32 × Int32 × Int32) :=
  some (x1, x2, x3)
abbrev m_Road_tellCycles : Room := { frames := 0, cells := 0, slots := 0, locals := 0 }
set_option maxHeartbeats 4000000 in
set_option maxRecDepth 100000 in
theorem c_Road_tellCycles (l : Launch) (G : va_G) (K : Nat → ClassId) (n : Nat) (sz : Nat) (t : Nat) (t_greens : Nat) (t_leasts : Nat) (t_queues : Nat) (t_seconds : Nat) (t_weights : Nat) (x1 : Int32) (x2 : Int32) (x3 : Int32) (v_t_size : Int32) (v_t_firstCycle : Int32) (v_t_lastCycle : Int32) (v_t_cycleBy : Int32) (v_t_stepSeconds : Int32) (o : Int32 × Int32 × Int32) (hF : p_Road_tellCycles n x1 x2 x3 v_t_firstCycle v_t_lastCycle v_t_cycleBy = some o) :
    Met l y_Road_tellCycles (wd y_Road_tellCycles b_Road_tellCycles 4 none) m_Road_tellCycles (dk_Pm [.ref t, .int x1, .int x2, .int x3] G K [(t, .inr (1, [.ref t_greens, .ref t_leasts, .ref t_queues, .ref t_seconds, .ref t_weights, .int v_t_size, .int v_t_firstCycle, .int v_t_lastCycle, .int v_t_cycleBy, .int v_t_stepSeconds]))] sz) (dk_Qm none G (fun _ : Unit => [(t, .inr (1, [.ref t_greens, .ref t_leasts, .ref t_queues, .ref t_seconds, .ref t_weights, .int v_t_size, .int o.1, .int o.2.1, .int o.2.2, .int v_t_stepSeconds]))]) (va_A [(t, .inr (1, [.ref t_greens, .ref t_leasts, .ref t_queues, .ref t_seconds, .ref t_weights, .int v_t_size, .int v_t_firstCycle, .int v_t_lastCycle, .int v_t_cycleBy, .int v_t_stepSeconds]))] sz)) 0 0 (va_A [(t, .inr (1, [.ref t_greens, .ref t_leasts, .ref t_queues, .ref t_seconds, .ref t_weights, .int v_t_size, .int v_t_firstCycle, .int v_t_lastCycle, .int v_t_cycleBy, .int v_t_stepSeconds]))] sz) := by
  refine Met.ofW (cc := b_Road_tellCycles) (maxL := 4) (ret := none) (by decide) rfl ?_
  intro p e s m args below meth c s₁ B hml hv
  obtain ⟨rfl, hsz, hP, hK, hN, hD0⟩ := hv
  have hx := B.exec
  have hb := B.bytes
  have hr := B.returns
  have hts : ∀ w ∈ lw_good, w.before _ s = true := fun w h => atoms_spec (ws := wd y_Road_tellCycles b_Road_tellCycles 4 none) B.pre w (List.mem_cons_of_mem _ h)
  have hown : s.vm.findClass R_Road = some m.cls := findClass_of_methodNamed B.named
  have hlocks := B.notSynchronized
  have hfix : CallFix p m c b_Road_tellCycles 4 s _ lw_good R_Road := ⟨hx, hb, hml, hown, hts⟩
  subst hsz
  have hD := hD0.self (sz := s.heap.size)
  generalize hAe : va_A [(t, .inr (1, [.ref t_greens, .ref t_leasts, .ref t_queues, .ref t_seconds, .ref t_weights, .int v_t_size, .int v_t_firstCycle, .int v_t_lastCycle, .int v_t_cycleBy, .int v_t_stepSeconds]))] s.heap.size = A at hD ⊢
  have hA : ∀ q : Nat, s.heap.size ≤ q → A q := fun q h => by rw [← hAe]; exact Or.inr h
  have hS : va_S A s.heap s.heap [] := va_S.rf
  have hl := lv_entry ([.ref t, .int x1, .int x2, .int x3]) (n := 4) (Nat.le_of_ble_eq_true rfl)
  rw [lg_entry_eq]
  generalize (lg_sl ([.ref t, .int x1, .int x2, .int x3]) ++ List.replicate (4 - (lg_sl ([.ref t, .int x1, .int x2, .int x3])).length) Slot.unset).toArray = ls at hl ⊢
  have hl : lv_has ls 4 [(0, .ref t), (1, .int x1), (2, .int x2), (3, .int x3)] := hl
  change W p l e m_Road_tellCycles s m _ below meth c s.heap [] 0 0 _ _
  unfold p_Road_tellCycles at hF
  refine lv_aload_n hx hb d_Road_tellCycles_0 rfl (lv_at hl 0 rfl) ?_
  refine lv_iload_n hx hb d_Road_tellCycles_1 rfl (lv_at hl 1 rfl) ?_
  refine va_put (D := G) (ci := 1) (v := .int x1) (ty := .int) (C := R_Road) (T := F_Road) (N := 10) hx hb hts i_Road t_Road t_Road_ok n_Road hown hK hP hD hS 0 rfl rfl 6 (by decide) (hts _ lk_42) (fun _ h9 => h9) rfl (by decide +kernel) rfl rfl (Nat.le_of_ble_eq_true rfl) d_Road_tellCycles_2 (fun H locs hP hD hS => ?_)
  have hP : va_P G classes [(t, .inr (1, [.ref t_greens, .ref t_leasts, .ref t_queues, .ref t_seconds, .ref t_weights, .int v_t_size, .int x1, .int v_t_lastCycle, .int v_t_cycleBy, .int v_t_stepSeconds]))] H := hP
  have hD : va_D A [(t, .inr (1, [.ref t_greens, .ref t_leasts, .ref t_queues, .ref t_seconds, .ref t_weights, .int v_t_size, .int x1, .int v_t_lastCycle, .int v_t_cycleBy, .int v_t_stepSeconds]))] := hD
  refine lv_aload_n hx hb d_Road_tellCycles_5 rfl (lv_at hl 0 rfl) ?_
  refine lv_iload_n hx hb d_Road_tellCycles_6 rfl (lv_at hl 2 rfl) ?_
  refine va_put (D := G) (ci := 1) (v := .int x2) (ty := .int) (C := R_Road) (T := F_Road) (N := 10) hx hb hts i_Road t_Road t_Road_ok n_Road hown hK hP hD hS 0 rfl rfl 7 (by decide) (hts _ lk_43) (fun _ h9 => h9) rfl (by decide +kernel) rfl rfl (Nat.le_of_ble_eq_true rfl) d_Road_tellCycles_7 (fun H locs hP hD hS => ?_)
  have hP : va_P G classes [(t, .inr (1, [.ref t_greens, .ref t_leasts, .ref t_queues, .ref t_seconds, .ref t_weights, .int v_t_size, .int x1, .int x2, .int v_t_cycleBy, .int v_t_stepSeconds]))] H := hP
  have hD : va_D A [(t, .inr (1, [.ref t_greens, .ref t_leasts, .ref t_queues, .ref t_seconds, .ref t_weights, .int v_t_size, .int x1, .int x2, .int v_t_cycleBy, .int v_t_stepSeconds]))] := hD
  refine lv_aload_n hx hb d_Road_tellCycles_10 rfl (lv_at hl 0 rfl) ?_
  refine lv_iload_n hx hb d_Road_tellCycles_11 rfl (lv_at hl 3 rfl) ?_
  refine va_put (D := G) (ci := 1) (v := .int x3) (ty := .int) (C := R_Road) (T := F_Road) (N := 10) hx hb hts i_Road t_Road t_Road_ok n_Road hown hK hP hD hS 0 rfl rfl 8 (by decide) (hts _ lk_44) (fun _ h9 => h9) rfl (by decide +kernel) rfl rfl (Nat.le_of_ble_eq_true rfl) d_Road_tellCycles_12 (fun H locs hP hD hS => ?_)
  have hP : va_P G classes [(t, .inr (1, [.ref t_greens, .ref t_leasts, .ref t_queues, .ref t_seconds, .ref t_weights, .int v_t_size, .int x1, .int x2, .int x3, .int v_t_stepSeconds]))] H := hP
  have hD : va_D A [(t, .inr (1, [.ref t_greens, .ref t_leasts, .ref t_queues, .ref t_seconds, .ref t_weights, .int v_t_size, .int x1, .int x2, .int x3, .int v_t_stepSeconds]))] := hD
  obtain rfl := Option.some.inj hF
  exact W.vret hx hb hr (fun t ht hW => ⟨⟨(), rfl, by rw [ht]; exact hP, hD⟩, hS.F ht⟩) hS.2.2 d_Road_tellCycles_15
def p_Road_tellStep (n : Nat) (x1 : Int32) (v_t_stepSeconds : Int32) : Option (Int32) :=
  some x1
abbrev m_Road_tellStep : Room := { frames := 0, cells := 0, slots := 0, locals := 0 }
set_option maxHeartbeats 4000000 in
set_option maxRecDepth 100000 in
theorem c_Road_tellStep (l : Launch) (G : va_G) (K : Nat → ClassId) (n : Nat) (sz : Nat) (t : Nat) (t_greens : Nat) (t_leasts : Nat) (t_queues : Nat) (t_seconds : Nat) (t_weights : Nat) (x1 : Int32) (v_t_size : Int32) (v_t_firstCycle : Int32) (v_t_lastCycle : Int32) (v_t_cycleBy : Int32) (v_t_stepSeconds : Int32) (o : Int32) (hF : p_Road_tellStep n x1 v_t_stepSeconds = some o) :
    Met l y_Road_tellStep (wd y_Road_tellStep b_Road_tellStep 2 none) m_Road_tellStep (dk_Pm [.ref t, .int x1] G K [(t, .inr (1, [.ref t_greens, .ref t_leasts, .ref t_queues, .ref t_seconds, .ref t_weights, .int v_t_size, .int v_t_firstCycle, .int v_t_lastCycle, .int v_t_cycleBy, .int v_t_stepSeconds]))] sz) (dk_Qm none G (fun _ : Unit => [(t, .inr (1, [.ref t_greens, .ref t_leasts, .ref t_queues, .ref t_seconds, .ref t_weights, .int v_t_size, .int v_t_firstCycle, .int v_t_lastCycle, .int v_t_cycleBy, .int o]))]) (va_A [(t, .inr (1, [.ref t_greens, .ref t_leasts, .ref t_queues, .ref t_seconds, .ref t_weights, .int v_t_size, .int v_t_firstCycle, .int v_t_lastCycle, .int v_t_cycleBy, .int v_t_stepSeconds]))] sz)) 0 0 (va_A [(t, .inr (1, [.ref t_greens, .ref t_leasts, .ref t_queues, .ref t_seconds, .ref t_weights, .int v_t_size, .int v_t_firstCycle, .int v_t_lastCycle, .int v_t_cycleBy, .int v_t_stepSeconds]))] sz) := by
  refine Met.ofW (cc := b_Road_tellStep) (maxL := 2) (ret := none) (by decide) rfl ?_
  intro p e s m args below meth c s₁ B hml hv
  obtain ⟨rfl, hsz, hP, hK, hN, hD0⟩ := hv
  have hx := B.exec
  have hb := B.bytes
  have hr := B.returns
  have hts : ∀ w ∈ lw_good, w.before _ s = true := fun w h => atoms_spec (ws := wd y_Road_tellStep b_Road_tellStep 2 none) B.pre w (List.mem_cons_of_mem _ h)
  have hown : s.vm.findClass R_Road = some m.cls := findClass_of_methodNamed B.named
  have hlocks := B.notSynchronized
  have hfix : CallFix p m c b_Road_tellStep 2 s _ lw_good R_Road := ⟨hx, hb, hml, hown, hts⟩
  subst hsz
  have hD := hD0.self (sz := s.heap.size)
  generalize hAe : va_A [(t, .inr (1, [.ref t_greens, .ref t_leasts, .ref t_queues, .ref t_seconds, .ref t_weights, .int v_t_size, .int v_t_firstCycle, .int v_t_lastCycle, .int v_t_cycleBy, .int v_t_stepSeconds]))] s.heap.size = A at hD ⊢
  have hA : ∀ q : Nat, s.heap.size ≤ q → A q := fun q h => by rw [← hAe]; exact Or.inr h
  have hS : va_S A s.heap s.heap [] := va_S.rf
  have hl := lv_entry ([.ref t, .int x1]) (n := 2) (Nat.le_of_ble_eq_true rfl)
  rw [lg_entry_eq]
  generalize (lg_sl ([.ref t, .int x1]) ++ List.replicate (2 - (lg_sl ([.ref t, .int x1])).length) Slot.unset).toArray = ls at hl ⊢
  have hl : lv_has ls 2 [(0, .ref t), (1, .int x1)] := hl
  change W p l e m_Road_tellStep s m _ below meth c s.heap [] 0 0 _ _
  unfold p_Road_tellStep at hF
  refine lv_aload_n hx hb d_Road_tellStep_0 rfl (lv_at hl 0 rfl) ?_
  refine lv_iload_n hx hb d_Road_tellStep_1 rfl (lv_at hl 1 rfl) ?_
  refine va_put (D := G) (ci := 1) (v := .int x1) (ty := .int) (C := R_Road) (T := F_Road) (N := 10) hx hb hts i_Road t_Road t_Road_ok n_Road hown hK hP hD hS 0 rfl rfl 9 (by decide) (hts _ lk_45) (fun _ h9 => h9) rfl (by decide +kernel) rfl rfl (Nat.le_of_ble_eq_true rfl) d_Road_tellStep_2 (fun H locs hP hD hS => ?_)
  have hP : va_P G classes [(t, .inr (1, [.ref t_greens, .ref t_leasts, .ref t_queues, .ref t_seconds, .ref t_weights, .int v_t_size, .int v_t_firstCycle, .int v_t_lastCycle, .int v_t_cycleBy, .int x1]))] H := hP
  have hD : va_D A [(t, .inr (1, [.ref t_greens, .ref t_leasts, .ref t_queues, .ref t_seconds, .ref t_weights, .int v_t_size, .int v_t_firstCycle, .int v_t_lastCycle, .int v_t_cycleBy, .int x1]))] := hD
  obtain rfl := Option.some.inj hF
  exact W.vret hx hb hr (fun t ht hW => ⟨⟨(), rfl, by rw [ht]; exact hP, hD⟩, hS.F ht⟩) hS.2.2 d_Road_tellStep_5
def p_Road_greenOf (n : Nat) (x1 : Int32) (v_t_size : Int32) (v_t_greens : Nat → Int32) : Option (Int32) :=
  (p_Road_has n x1 v_t_size).bind fun r2_1 =>
  if r2_1 = 0 then
    some (0 : Int32)
  else
    if dk_in x1 5 = true then
      some (v_t_greens x1.toNatClampNeg)
    else none
abbrev m_Road_greenOf : Room := { frames := 1, cells := 0, slots := 0, locals := 21 }
set_option maxHeartbeats 4000000 in
set_option maxRecDepth 100000 in
theorem c_Road_greenOf (l : Launch) (G : va_G) (K : Nat → ClassId) (n : Nat) (t : Nat) (t_greens : Nat) (t_leasts : Nat) (t_queues : Nat) (t_seconds : Nat) (t_weights : Nat) (x1 : Int32) (v_t_size : Int32) (v_t_firstCycle : Int32) (v_t_lastCycle : Int32) (v_t_cycleBy : Int32) (v_t_stepSeconds : Int32) (v_t_greens : Nat → Int32) (o : Int32) (hF : p_Road_greenOf n x1 v_t_size v_t_greens = some o) :
    Met l y_Road_greenOf (wd y_Road_greenOf b_Road_greenOf 2 (some .int)) m_Road_greenOf (dk_Pp [.ref t, .int x1] G K [(t, .inr (1, [.ref t_greens, .ref t_leasts, .ref t_queues, .ref t_seconds, .ref t_weights, .int v_t_size, .int v_t_firstCycle, .int v_t_lastCycle, .int v_t_cycleBy, .int v_t_stepSeconds])), (t_greens, .inl (K 0, 5, .inl v_t_greens))]) (dk_Qp (some (.int o))) 0 0 (fun _ => False) := by
  refine Met.ofW (cc := b_Road_greenOf) (maxL := 2) (ret := (some .int)) (by decide) rfl ?_
  intro p e s m args below meth c s₁ B hml hv
  obtain ⟨rfl, hP, hK, hN⟩ := hv
  have hx := B.exec
  have hb := B.bytes
  have hr := B.returns
  have hts : ∀ w ∈ lw_good, w.before _ s = true := fun w h => atoms_spec (ws := wd y_Road_greenOf b_Road_greenOf 2 (some .int)) B.pre w (List.mem_cons_of_mem _ h)
  have hown : s.vm.findClass R_Road = some m.cls := findClass_of_methodNamed B.named
  have hlocks := B.notSynchronized
  have hfix : CallFix p m c b_Road_greenOf 2 s _ lw_good R_Road := ⟨hx, hb, hml, hown, hts⟩
  have hl := lv_entry ([.ref t, .int x1]) (n := 2) (Nat.le_of_ble_eq_true rfl)
  rw [lg_entry_eq]
  generalize (lg_sl ([.ref t, .int x1]) ++ List.replicate (2 - (lg_sl ([.ref t, .int x1])).length) Slot.unset).toArray = ls at hl ⊢
  have hl : lv_has ls 2 [(0, .ref t), (1, .int x1)] := hl
  change W p l e m_Road_greenOf s m _ below meth c s.heap [] 0 0 _ _
  unfold p_Road_greenOf at hF
  refine lv_aload_n hx hb d_Road_greenOf_0 rfl (lv_at hl 0 rfl) ?_
  refine lv_iload_n hx hb d_Road_greenOf_1 rfl (lv_at hl 1 rfl) ?_
  obtain ⟨r2_1, hC, hF⟩ := dk_b hF
  refine dk_pure (va_runV (As := [.int x1]) (rest := []) hfix (c_Road_has l G K n t t_greens t_leasts t_queues t_seconds t_weights x1 v_t_size v_t_firstCycle v_t_lastCycle v_t_cycleBy v_t_stepSeconds r2_1 hC) (cwV 1 hts (gd_V lk_32 lk_34 lk_35 lk_29 lk_33) rfl rfl rfl (by decide +kernel) ⟨Nat.le_of_ble_eq_true rfl, Nat.le_of_ble_eq_true rfl⟩) (dk_preV hK hN (hP.sub [0] rfl) (va_recv hK hP (ci := 1) (q0 := 0) rfl rfl)) rfl rfl hl.1 rfl (lv_room (Nat.le_of_ble_eq_true rfl)) d_Road_greenOf_2 ⟨Nat.le_of_ble_eq_true rfl, Nat.le_of_ble_eq_true rfl⟩) ?_
  refine lv_if_eq (tgt := 17) hx hb d_Road_greenOf_5 (by decide) (fun c5_2 => ?_) (fun c5_2 => ?_)
  · have hF := dk_t c5_2 hF
    refine lv_iconst (v := (0 : Int32)) hx hb d_Road_greenOf_17 (by decide) ?_
    obtain rfl := Option.some.inj hF
    exact W.iret (v := (0 : Int32)) hx hb hr (fun t ht hW => ⟨rfl, ht⟩) (fun _ h => by cases h) d_Road_greenOf_18
  · have hF := dk_f c5_2 hF
    refine lv_aload_n hx hb d_Road_greenOf_8 rfl (lv_at hl 0 rfl) ?_
    refine va_get (D := G) (ci := 1) (v := .ref t_greens) (C := R_Road) (T := F_Road) (N := 10) hx hb hts i_Road hown hK hP 0 rfl rfl 0 (by decide) (hts _ lk_30) (fun _ h9 => h9) rfl d_Road_greenOf_9 ?_
    refine lv_iload_n hx hb d_Road_greenOf_12 rfl (lv_at hl 1 rfl) ?_
    obtain ⟨hi, hF⟩ := dk_a hF
    refine va_iald (D := G) hx hb hK hP 1 0 rfl rfl (dk_vp hi) d_Road_greenOf_13 ?_
    refine lv_goto (tgt := 18) hx hb d_Road_greenOf_14 (by decide) ?_
    obtain rfl := Option.some.inj hF
    exact W.iret (v := v_t_greens x1.toNatClampNeg) hx hb hr (fun t ht hW => ⟨rfl, ht⟩) (fun _ h => by cases h) d_Road_greenOf_18
def p_Road_leastOf (n : Nat) (x1 : Int32) (v_t_size : Int32) (v_t_leasts : Nat → Int32) : Option (Int32) :=
  (p_Road_has n x1 v_t_size).bind fun r2_1 =>
  if r2_1 = 0 then
    some (0 : Int32)
  else
    if dk_in x1 5 = true then
      some (v_t_leasts x1.toNatClampNeg)
    else none
abbrev m_Road_leastOf : Room := { frames := 1, cells := 0, slots := 0, locals := 21 }
set_option maxHeartbeats 4000000 in
set_option maxRecDepth 100000 in
theorem c_Road_leastOf (l : Launch) (G : va_G) (K : Nat → ClassId) (n : Nat) (t : Nat) (t_greens : Nat) (t_leasts : Nat) (t_queues : Nat) (t_seconds : Nat) (t_weights : Nat) (x1 : Int32) (v_t_size : Int32) (v_t_firstCycle : Int32) (v_t_lastCycle : Int32) (v_t_cycleBy : Int32) (v_t_stepSeconds : Int32) (v_t_leasts : Nat → Int32) (o : Int32) (hF : p_Road_leastOf n x1 v_t_size v_t_leasts = some o) :
    Met l y_Road_leastOf (wd y_Road_leastOf b_Road_leastOf 2 (some .int)) m_Road_leastOf (dk_Pp [.ref t, .int x1] G K [(t, .inr (1, [.ref t_greens, .ref t_leasts, .ref t_queues, .ref t_seconds, .ref t_weights, .int v_t_size, .int v_t_firstCycle, .int v_t_lastCycle, .int v_t_cycleBy, .int v_t_stepSeconds])), (t_leasts, .inl (K 0, 5, .inl v_t_leasts))]) (dk_Qp (some (.int o))) 0 0 (fun _ => False) := by
  refine Met.ofW (cc := b_Road_leastOf) (maxL := 2) (ret := (some .int)) (by decide) rfl ?_
  intro p e s m args below meth c s₁ B hml hv
  obtain ⟨rfl, hP, hK, hN⟩ := hv
  have hx := B.exec
  have hb := B.bytes
  have hr := B.returns
  have hts : ∀ w ∈ lw_good, w.before _ s = true := fun w h => atoms_spec (ws := wd y_Road_leastOf b_Road_leastOf 2 (some .int)) B.pre w (List.mem_cons_of_mem _ h)
  have hown : s.vm.findClass R_Road = some m.cls := findClass_of_methodNamed B.named
  have hlocks := B.notSynchronized
  have hfix : CallFix p m c b_Road_leastOf 2 s _ lw_good R_Road := ⟨hx, hb, hml, hown, hts⟩
  have hl := lv_entry ([.ref t, .int x1]) (n := 2) (Nat.le_of_ble_eq_true rfl)
  rw [lg_entry_eq]
  generalize (lg_sl ([.ref t, .int x1]) ++ List.replicate (2 - (lg_sl ([.ref t, .int x1])).length) Slot.unset).toArray = ls at hl ⊢
  have hl : lv_has ls 2 [(0, .ref t), (1, .int x1)] := hl
  change W p l e m_Road_leastOf s m _ below meth c s.heap [] 0 0 _ _
  unfold p_Road_leastOf at hF
  refine lv_aload_n hx hb d_Road_leastOf_0 rfl (lv_at hl 0 rfl) ?_
  refine lv_iload_n hx hb d_Road_leastOf_1 rfl (lv_at hl 1 rfl) ?_
  obtain ⟨r2_1, hC, hF⟩ := dk_b hF
  refine dk_pure (va_runV (As := [.int x1]) (rest := []) hfix (c_Road_has l G K n t t_greens t_leasts t_queues t_seconds t_weights x1 v_t_size v_t_firstCycle v_t_lastCycle v_t_cycleBy v_t_stepSeconds r2_1 hC) (cwV 1 hts (gd_V lk_32 lk_34 lk_35 lk_29 lk_33) rfl rfl rfl (by decide +kernel) ⟨Nat.le_of_ble_eq_true rfl, Nat.le_of_ble_eq_true rfl⟩) (dk_preV hK hN (hP.sub [0] rfl) (va_recv hK hP (ci := 1) (q0 := 0) rfl rfl)) rfl rfl hl.1 rfl (lv_room (Nat.le_of_ble_eq_true rfl)) d_Road_leastOf_2 ⟨Nat.le_of_ble_eq_true rfl, Nat.le_of_ble_eq_true rfl⟩) ?_
  refine lv_if_eq (tgt := 17) hx hb d_Road_leastOf_5 (by decide) (fun c5_2 => ?_) (fun c5_2 => ?_)
  · have hF := dk_t c5_2 hF
    refine lv_iconst (v := (0 : Int32)) hx hb d_Road_leastOf_17 (by decide) ?_
    obtain rfl := Option.some.inj hF
    exact W.iret (v := (0 : Int32)) hx hb hr (fun t ht hW => ⟨rfl, ht⟩) (fun _ h => by cases h) d_Road_leastOf_18
  · have hF := dk_f c5_2 hF
    refine lv_aload_n hx hb d_Road_leastOf_8 rfl (lv_at hl 0 rfl) ?_
    refine va_get (D := G) (ci := 1) (v := .ref t_leasts) (C := R_Road) (T := F_Road) (N := 10) hx hb hts i_Road hown hK hP 0 rfl rfl 1 (by decide) (hts _ lk_31) (fun _ h9 => h9) rfl d_Road_leastOf_9 ?_
    refine lv_iload_n hx hb d_Road_leastOf_12 rfl (lv_at hl 1 rfl) ?_
    obtain ⟨hi, hF⟩ := dk_a hF
    refine va_iald (D := G) hx hb hK hP 1 0 rfl rfl (dk_vp hi) d_Road_leastOf_13 ?_
    refine lv_goto (tgt := 18) hx hb d_Road_leastOf_14 (by decide) ?_
    obtain rfl := Option.some.inj hF
    exact W.iret (v := v_t_leasts x1.toNatClampNeg) hx hb hr (fun t ht hW => ⟨rfl, ht⟩) (fun _ h => by cases h) d_Road_leastOf_18
def p_Road_queueOf (n : Nat) (x1 : Int32) (v_t_size : Int32) (v_t_queues : Nat → Int32) : Option (Int32) :=
  (p_Road_has n x1 v_t_size).bind fun r2_1 =>
  if r2_1 = 0 then
    some (0 : Int32)
  else
    if dk_in x1 5 = true then
      some (v_t_queues x1.toNatClampNeg)
    else none
abbrev m_Road_queueOf : Room := { frames := 1, cells := 0, slots := 0, locals := 21 }
set_option maxHeartbeats 4000000 in
set_option maxRecDepth 100000 in
theorem c_Road_queueOf (l : Launch) (G : va_G) (K : Nat → ClassId) (n : Nat) (t : Nat) (t_greens : Nat) (t_leasts : Nat) (t_queues : Nat) (t_seconds : Nat) (t_weights : Nat) (x1 : Int32) (v_t_size : Int32) (v_t_firstCycle : Int32) (v_t_lastCycle : Int32) (v_t_cycleBy : Int32) (v_t_stepSeconds : Int32) (v_t_queues : Nat → Int32) (o : Int32) (hF : p_Road_queueOf n x1 v_t_size v_t_queues = some o) :
    Met l y_Road_queueOf (wd y_Road_queueOf b_Road_queueOf 2 (some .int)) m_Road_queueOf (dk_Pp [.ref t, .int x1] G K [(t, .inr (1, [.ref t_greens, .ref t_leasts, .ref t_queues, .ref t_seconds, .ref t_weights, .int v_t_size, .int v_t_firstCycle, .int v_t_lastCycle, .int v_t_cycleBy, .int v_t_stepSeconds])), (t_queues, .inl (K 0, 5, .inl v_t_queues))]) (dk_Qp (some (.int o))) 0 0 (fun _ => False) := by
  refine Met.ofW (cc := b_Road_queueOf) (maxL := 2) (ret := (some .int)) (by decide) rfl ?_
  intro p e s m args below meth c s₁ B hml hv
  obtain ⟨rfl, hP, hK, hN⟩ := hv
  have hx := B.exec
  have hb := B.bytes
  have hr := B.returns
  have hts : ∀ w ∈ lw_good, w.before _ s = true := fun w h => atoms_spec (ws := wd y_Road_queueOf b_Road_queueOf 2 (some .int)) B.pre w (List.mem_cons_of_mem _ h)
  have hown : s.vm.findClass R_Road = some m.cls := findClass_of_methodNamed B.named
  have hlocks := B.notSynchronized
  have hfix : CallFix p m c b_Road_queueOf 2 s _ lw_good R_Road := ⟨hx, hb, hml, hown, hts⟩
  have hl := lv_entry ([.ref t, .int x1]) (n := 2) (Nat.le_of_ble_eq_true rfl)
  rw [lg_entry_eq]
  generalize (lg_sl ([.ref t, .int x1]) ++ List.replicate (2 - (lg_sl ([.ref t, .int x1])).length) Slot.unset).toArray = ls at hl ⊢
  have hl : lv_has ls 2 [(0, .ref t), (1, .int x1)] := hl
  change W p l e m_Road_queueOf s m _ below meth c s.heap [] 0 0 _ _
  unfold p_Road_queueOf at hF
  refine lv_aload_n hx hb d_Road_queueOf_0 rfl (lv_at hl 0 rfl) ?_
  refine lv_iload_n hx hb d_Road_queueOf_1 rfl (lv_at hl 1 rfl) ?_
  obtain ⟨r2_1, hC, hF⟩ := dk_b hF
  refine dk_pure (va_runV (As := [.int x1]) (rest := []) hfix (c_Road_has l G K n t t_greens t_leasts t_queues t_seconds t_weights x1 v_t_size v_t_firstCycle v_t_lastCycle v_t_cycleBy v_t_stepSeconds r2_1 hC) (cwV 1 hts (gd_V lk_32 lk_34 lk_35 lk_29 lk_33) rfl rfl rfl (by decide +kernel) ⟨Nat.le_of_ble_eq_true rfl, Nat.le_of_ble_eq_true rfl⟩) (dk_preV hK hN (hP.sub [0] rfl) (va_recv hK hP (ci := 1) (q0 := 0) rfl rfl)) rfl rfl hl.1 rfl (lv_room (Nat.le_of_ble_eq_true rfl)) d_Road_queueOf_2 ⟨Nat.le_of_ble_eq_true rfl, Nat.le_of_ble_eq_true rfl⟩) ?_
  refine lv_if_eq (tgt := 17) hx hb d_Road_queueOf_5 (by decide) (fun c5_2 => ?_) (fun c5_2 => ?_)
  · have hF := dk_t c5_2 hF
    refine lv_iconst (v := (0 : Int32)) hx hb d_Road_queueOf_17 (by decide) ?_
    obtain rfl := Option.some.inj hF
    exact W.iret (v := (0 : Int32)) hx hb hr (fun t ht hW => ⟨rfl, ht⟩) (fun _ h => by cases h) d_Road_queueOf_18
  · have hF := dk_f c5_2 hF
    refine lv_aload_n hx hb d_Road_queueOf_8 rfl (lv_at hl 0 rfl) ?_
    refine va_get (D := G) (ci := 1) (v := .ref t_queues) (C := R_Road) (T := F_Road) (N := 10) hx hb hts i_Road hown hK hP 0 rfl rfl 2 (by decide) (hts _ lk_41) (fun _ h9 => h9) rfl d_Road_queueOf_9 ?_
    refine lv_iload_n hx hb d_Road_queueOf_12 rfl (lv_at hl 1 rfl) ?_
    obtain ⟨hi, hF⟩ := dk_a hF
    refine va_iald (D := G) hx hb hK hP 1 0 rfl rfl (dk_vp hi) d_Road_queueOf_13 ?_
    refine lv_goto (tgt := 18) hx hb d_Road_queueOf_14 (by decide) ?_
    obtain rfl := Option.some.inj hF
    exact W.iret (v := v_t_queues x1.toNatClampNeg) hx hb hr (fun t ht hW => ⟨rfl, ht⟩) (fun _ h => by cases h) d_Road_queueOf_18
def p_Road_openOf (n : Nat) (x1 : Int32) (v_t_size : Int32) (v_t_greens : Nat → Int32) (v_t_queues : Nat → Int32) : Option (Int32) :=
  (p_Road_greenOf n x1 v_t_size v_t_greens).bind fun r2_1 =>
  (p_Road_queueOf n x1 v_t_size v_t_queues).bind fun r7_2 =>
  some (r2_1 - r7_2)
abbrev m_Road_openOf : Room := { frames := 2, cells := 0, slots := 0, locals := 42 }
set_option maxHeartbeats 4000000 in
set_option maxRecDepth 100000 in
theorem c_Road_openOf (l : Launch) (G : va_G) (K : Nat → ClassId) (n : Nat) (t : Nat) (t_greens : Nat) (t_leasts : Nat) (t_queues : Nat) (t_seconds : Nat) (t_weights : Nat) (x1 : Int32) (v_t_size : Int32) (v_t_firstCycle : Int32) (v_t_lastCycle : Int32) (v_t_cycleBy : Int32) (v_t_stepSeconds : Int32) (v_t_greens : Nat → Int32) (v_t_queues : Nat → Int32) (o : Int32) (hF : p_Road_openOf n x1 v_t_size v_t_greens v_t_queues = some o) :
    Met l y_Road_openOf (wd y_Road_openOf b_Road_openOf 2 (some .int)) m_Road_openOf (dk_Pp [.ref t, .int x1] G K [(t, .inr (1, [.ref t_greens, .ref t_leasts, .ref t_queues, .ref t_seconds, .ref t_weights, .int v_t_size, .int v_t_firstCycle, .int v_t_lastCycle, .int v_t_cycleBy, .int v_t_stepSeconds])), (t_greens, .inl (K 0, 5, .inl v_t_greens)), (t_queues, .inl (K 0, 5, .inl v_t_queues))]) (dk_Qp (some (.int o))) 0 0 (fun _ => False) := by
  refine Met.ofW (cc := b_Road_openOf) (maxL := 2) (ret := (some .int)) (by decide) rfl ?_
  intro p e s m args below meth c s₁ B hml hv
  obtain ⟨rfl, hP, hK, hN⟩ := hv
  have hx := B.exec
  have hb := B.bytes
  have hr := B.returns
  have hts : ∀ w ∈ lw_good, w.before _ s = true := fun w h => atoms_spec (ws := wd y_Road_openOf b_Road_openOf 2 (some .int)) B.pre w (List.mem_cons_of_mem _ h)
  have hown : s.vm.findClass R_Road = some m.cls := findClass_of_methodNamed B.named
  have hlocks := B.notSynchronized
  have hfix : CallFix p m c b_Road_openOf 2 s _ lw_good R_Road := ⟨hx, hb, hml, hown, hts⟩
  have hl := lv_entry ([.ref t, .int x1]) (n := 2) (Nat.le_of_ble_eq_true rfl)
  rw [lg_entry_eq]
  generalize (lg_sl ([.ref t, .int x1]) ++ List.replicate (2 - (lg_sl ([.ref t, .int x1])).length) Slot.unset).toArray = ls at hl ⊢
  have hl : lv_has ls 2 [(0, .ref t), (1, .int x1)] := hl
  change W p l e m_Road_openOf s m _ below meth c s.heap [] 0 0 _ _
  unfold p_Road_openOf at hF
  refine lv_aload_n hx hb d_Road_openOf_0 rfl (lv_at hl 0 rfl) ?_
  refine lv_iload_n hx hb d_Road_openOf_1 rfl (lv_at hl 1 rfl) ?_
  obtain ⟨r2_1, hC, hF⟩ := dk_b hF
  refine dk_pure (va_runV (As := [.int x1]) (rest := []) hfix (c_Road_greenOf l G K n t t_greens t_leasts t_queues t_seconds t_weights x1 v_t_size v_t_firstCycle v_t_lastCycle v_t_cycleBy v_t_stepSeconds v_t_greens r2_1 hC) (cwV 1 hts (gd_V lk_46 lk_48 lk_49 lk_29 lk_47) rfl rfl rfl (by decide +kernel) ⟨Nat.le_of_ble_eq_true rfl, Nat.le_of_ble_eq_true rfl⟩) (dk_preV hK hN (hP.sub [0, 1] rfl) (va_recv hK hP (ci := 1) (q0 := 0) rfl rfl)) rfl rfl hl.1 rfl (lv_room (Nat.le_of_ble_eq_true rfl)) d_Road_openOf_2 ⟨Nat.le_of_ble_eq_true rfl, Nat.le_of_ble_eq_true rfl⟩) ?_
  refine lv_aload_n hx hb d_Road_openOf_5 rfl (lv_at hl 0 rfl) ?_
  refine lv_iload_n hx hb d_Road_openOf_6 rfl (lv_at hl 1 rfl) ?_
  obtain ⟨r7_2, hC, hF⟩ := dk_b hF
  refine dk_pure (va_runV (As := [.int x1]) (rest := [.int r2_1]) hfix (c_Road_queueOf l G K n t t_greens t_leasts t_queues t_seconds t_weights x1 v_t_size v_t_firstCycle v_t_lastCycle v_t_cycleBy v_t_stepSeconds v_t_queues r7_2 hC) (cwV 1 hts (gd_V lk_50 lk_52 lk_53 lk_29 lk_51) rfl rfl rfl (by decide +kernel) ⟨Nat.le_of_ble_eq_true rfl, Nat.le_of_ble_eq_true rfl⟩) (dk_preV hK hN (hP.sub [0, 2] rfl) (va_recv hK hP (ci := 1) (q0 := 0) rfl rfl)) rfl rfl hl.1 rfl (lv_room (Nat.le_of_ble_eq_true rfl)) d_Road_openOf_7 ⟨Nat.le_of_ble_eq_true rfl, Nat.le_of_ble_eq_true rfl⟩) ?_
  refine lv_isub hx hb d_Road_openOf_10 ?_
  obtain rfl := Option.some.inj hF
  exact W.iret (v := r2_1 - r7_2) hx hb hr (fun t ht hW => ⟨rfl, ht⟩) (fun _ h => by cases h) d_Road_openOf_11
def p_Road_stepOf (n : Nat) (v_t_stepSeconds : Int32) : Option (Int32) :=
  some v_t_stepSeconds
abbrev m_Road_stepOf : Room := { frames := 0, cells := 0, slots := 0, locals := 0 }
set_option maxHeartbeats 4000000 in
set_option maxRecDepth 100000 in
theorem c_Road_stepOf (l : Launch) (G : va_G) (K : Nat → ClassId) (n : Nat) (t : Nat) (t_greens : Nat) (t_leasts : Nat) (t_queues : Nat) (t_seconds : Nat) (t_weights : Nat) (v_t_size : Int32) (v_t_firstCycle : Int32) (v_t_lastCycle : Int32) (v_t_cycleBy : Int32) (v_t_stepSeconds : Int32) (o : Int32) (hF : p_Road_stepOf n v_t_stepSeconds = some o) :
    Met l y_Road_stepOf (wd y_Road_stepOf b_Road_stepOf 1 (some .int)) m_Road_stepOf (dk_Pp [.ref t] G K [(t, .inr (1, [.ref t_greens, .ref t_leasts, .ref t_queues, .ref t_seconds, .ref t_weights, .int v_t_size, .int v_t_firstCycle, .int v_t_lastCycle, .int v_t_cycleBy, .int v_t_stepSeconds]))]) (dk_Qp (some (.int o))) 0 0 (fun _ => False) := by
  refine Met.ofW (cc := b_Road_stepOf) (maxL := 1) (ret := (some .int)) (by decide) rfl ?_
  intro p e s m args below meth c s₁ B hml hv
  obtain ⟨rfl, hP, hK, hN⟩ := hv
  have hx := B.exec
  have hb := B.bytes
  have hr := B.returns
  have hts : ∀ w ∈ lw_good, w.before _ s = true := fun w h => atoms_spec (ws := wd y_Road_stepOf b_Road_stepOf 1 (some .int)) B.pre w (List.mem_cons_of_mem _ h)
  have hown : s.vm.findClass R_Road = some m.cls := findClass_of_methodNamed B.named
  have hlocks := B.notSynchronized
  have hfix : CallFix p m c b_Road_stepOf 1 s _ lw_good R_Road := ⟨hx, hb, hml, hown, hts⟩
  have hl := lv_entry ([.ref t]) (n := 1) (Nat.le_of_ble_eq_true rfl)
  rw [lg_entry_eq]
  generalize (lg_sl ([.ref t]) ++ List.replicate (1 - (lg_sl ([.ref t])).length) Slot.unset).toArray = ls at hl ⊢
  have hl : lv_has ls 1 [(0, .ref t)] := hl
  change W p l e m_Road_stepOf s m _ below meth c s.heap [] 0 0 _ _
  unfold p_Road_stepOf at hF
  refine lv_aload_n hx hb d_Road_stepOf_0 rfl (lv_at hl 0 rfl) ?_
  refine va_get (D := G) (ci := 1) (v := .int v_t_stepSeconds) (C := R_Road) (T := F_Road) (N := 10) hx hb hts i_Road hown hK hP 0 rfl rfl 9 (by decide) (hts _ lk_45) (fun _ h9 => h9) rfl d_Road_stepOf_1 ?_
  obtain rfl := Option.some.inj hF
  exact W.iret (v := v_t_stepSeconds) hx hb hr (fun t ht hW => ⟨rfl, ht⟩) (fun _ h => by cases h) d_Road_stepOf_4
def p_Road_leastOpen_5 (n : Nat) : Nat → Int32 → (Nat → Int32) → (Nat → Int32) → Int32 → Int32 → Option (Int32)
  | 0, _, _, _, _, _ => none
  | k + 1, v_t_size, v_t_greens, v_t_queues, z1, z2 =>
    if v_t_size ≤ z2 then
      some z1
    else
      (p_Road_openOf n z2 v_t_size v_t_greens v_t_queues).bind fun r16_2 =>
      (p_Math_min n z1 r16_2).bind fun r19_3 =>
      p_Road_leastOpen_5 n k v_t_size v_t_greens v_t_queues r19_3 (z2 + (1 : Int32))
theorem q_Road_leastOpen_5 (n k : Nat) (v_t_size : Int32) (v_t_greens : Nat → Int32) (v_t_queues : Nat → Int32) (z1 : Int32) (z2 : Int32) : p_Road_leastOpen_5 n (k + 1) v_t_size v_t_greens v_t_queues z1 z2 =
    if v_t_size ≤ z2 then
      some z1
    else
      (p_Road_openOf n z2 v_t_size v_t_greens v_t_queues).bind fun r16_2 =>
      (p_Math_min n z1 r16_2).bind fun r19_3 =>
      p_Road_leastOpen_5 n k v_t_size v_t_greens v_t_queues r19_3 (z2 + (1 : Int32)) := rfl
def p_Road_leastOpen (n : Nat) (v_t_size : Int32) (v_t_greens : Nat → Int32) (v_t_queues : Nat → Int32) : Option (Int32) :=
  (p_Road_leastOpen_5 n n v_t_size v_t_greens v_t_queues (90 : Int32) (0 : Int32)).bind fun q5_4 =>
  some q5_4
abbrev m_Road_leastOpen : Room := { frames := 3, cells := 0, slots := 0, locals := 63 }
set_option maxHeartbeats 4000000 in
set_option maxRecDepth 100000 in
theorem c_Road_leastOpen (l : Launch) (G : va_G) (K : Nat → ClassId) (n : Nat) (t : Nat) (t_greens : Nat) (t_leasts : Nat) (t_queues : Nat) (t_seconds : Nat) (t_weights : Nat) (v_t_size : Int32) (v_t_firstCycle : Int32) (v_t_lastCycle : Int32) (v_t_cycleBy : Int32) (v_t_stepSeconds : Int32) (v_t_greens : Nat → Int32) (v_t_queues : Nat → Int32) (o : Int32) (hF : p_Road_leastOpen n v_t_size v_t_greens v_t_queues = some o) :
    Met l y_Road_leastOpen (wd y_Road_leastOpen b_Road_leastOpen 3 (some .int)) m_Road_leastOpen (dk_Pp [.ref t] G K [(t, .inr (1, [.ref t_greens, .ref t_leasts, .ref t_queues, .ref t_seconds, .ref t_weights, .int v_t_size, .int v_t_firstCycle, .int v_t_lastCycle, .int v_t_cycleBy, .int v_t_stepSeconds])), (t_greens, .inl (K 0, 5, .inl v_t_greens)), (t_queues, .inl (K 0, 5, .inl v_t_queues))]) (dk_Qp (some (.int o))) 0 0 (fun _ => False) := by
  refine Met.ofW (cc := b_Road_leastOpen) (maxL := 3) (ret := (some .int)) (by decide) rfl ?_
  intro p e s m args below meth c s₁ B hml hv
  obtain ⟨rfl, hP, hK, hN⟩ := hv
  have hx := B.exec
  have hb := B.bytes
  have hr := B.returns
  have hts : ∀ w ∈ lw_good, w.before _ s = true := fun w h => atoms_spec (ws := wd y_Road_leastOpen b_Road_leastOpen 3 (some .int)) B.pre w (List.mem_cons_of_mem _ h)
  have hown : s.vm.findClass R_Road = some m.cls := findClass_of_methodNamed B.named
  have hlocks := B.notSynchronized
  have hfix : CallFix p m c b_Road_leastOpen 3 s _ lw_good R_Road := ⟨hx, hb, hml, hown, hts⟩
  have hl := lv_entry ([.ref t]) (n := 3) (Nat.le_of_ble_eq_true rfl)
  rw [lg_entry_eq]
  generalize (lg_sl ([.ref t]) ++ List.replicate (3 - (lg_sl ([.ref t])).length) Slot.unset).toArray = ls at hl ⊢
  have hl : lv_has ls 3 [(0, .ref t)] := hl
  change W p l e m_Road_leastOpen s m _ below meth c s.heap [] 0 0 _ _
  have L5 : ∀ (k : Nat) (z1 : Int32) (z2 : Int32) (q : Int32), p_Road_leastOpen_5 n k v_t_size v_t_greens v_t_queues z1 z2 = some q → ∀ ls : Array Slot, lv_has ls 3 [(0, .ref t), (1, .int z1), (2, .int z2)] → (∀ (ls1 : Array Slot), lv_has ls1 3 [(1, .int q)] → W p l e m_Road_leastOpen s m ([.ref t] : List Value).toArray below meth c s.heap [] 0 0 (MQ below (dk_Qp (some (.int o))) ([.ref t] : List Value).toArray s 0 0 (fun _ => False)) (F0 m 29 ls1 [])) → W p l e m_Road_leastOpen s m ([.ref t] : List Value).toArray below meth c s.heap [] 0 0 (MQ below (dk_Qp (some (.int o))) ([.ref t] : List Value).toArray s 0 0 (fun _ => False)) (F0 m 5 ls []) := by
    intro k
    induction k with
    | zero =>
      intro z1 z2 q hF ls hl hk
      exact absurd hF (by simp [p_Road_leastOpen_5])
    | succ k jh =>
      intro z1 z2 q hF ls hl hk
      have hF := (q_Road_leastOpen_5 n k v_t_size v_t_greens v_t_queues z1 z2).symm.trans hF
      refine lv_iload_n hx hb d_Road_leastOpen_5 rfl (lv_at hl 2 rfl) ?_
      refine lv_aload_n hx hb d_Road_leastOpen_6 rfl (lv_at hl 0 rfl) ?_
      refine va_get (D := G) (ci := 1) (v := .int v_t_size) (C := R_Road) (T := F_Road) (N := 10) hx hb hts i_Road hown hK hP 0 rfl rfl 5 (by decide) (hts _ lk_24) (fun _ h9 => h9) rfl d_Road_leastOpen_7 ?_
      refine lv_icmp_ge (tgt := 29) hx hb d_Road_leastOpen_10 (by decide) (fun c10_1 => ?_) (fun c10_1 => ?_)
      · have hF := dk_t c10_1 hF
        obtain rfl := Option.some.inj hF
        exact hk ls (lv_sub hl [1] rfl)
      · have hF := dk_f c10_1 hF
        refine lv_iload_n hx hb d_Road_leastOpen_13 rfl (lv_at hl 1 rfl) ?_
        refine lv_aload_n hx hb d_Road_leastOpen_14 rfl (lv_at hl 0 rfl) ?_
        refine lv_iload_n hx hb d_Road_leastOpen_15 rfl (lv_at hl 2 rfl) ?_
        obtain ⟨r16_2, hC, hF⟩ := dk_b hF
        refine dk_pure (va_runV (As := [.int z2]) (rest := [.int z1]) hfix (c_Road_openOf l G K n t t_greens t_leasts t_queues t_seconds t_weights z2 v_t_size v_t_firstCycle v_t_lastCycle v_t_cycleBy v_t_stepSeconds v_t_greens v_t_queues r16_2 hC) (cwV 1 hts (gd_V lk_54 lk_56 lk_57 lk_29 lk_55) rfl rfl rfl (by decide +kernel) ⟨Nat.le_of_ble_eq_true rfl, Nat.le_of_ble_eq_true rfl⟩) (dk_preV hK hN (hP.sub [0, 1, 2] rfl) (va_recv hK hP (ci := 1) (q0 := 0) rfl rfl)) rfl rfl hl.1 rfl (lv_room (Nat.le_of_ble_eq_true rfl)) d_Road_leastOpen_16 ⟨Nat.le_of_ble_eq_true rfl, Nat.le_of_ble_eq_true rfl⟩) ?_
        obtain ⟨r19_3, hC, hF⟩ := dk_b hF
        refine dk_pure (va_runS (As := [.int z1, .int r16_2]) (rest := []) hfix (c_Math_min l G K n z1 r16_2 r19_3 hC) (va_cwS 2 hts (gd_S lk_58 lk_9 lk_6 lk_8) rfl rfl rfl (by decide +kernel) ⟨Nat.le_of_ble_eq_true rfl, Nat.le_of_ble_eq_true rfl⟩) (dk_preS hK hN (hP.sub [] rfl)) rfl rfl hl.1 rfl (lv_room (Nat.le_of_ble_eq_true rfl)) d_Road_leastOpen_19 ⟨Nat.le_of_ble_eq_true rfl, Nat.le_of_ble_eq_true rfl⟩) ?_
        refine lv_istore_n (lv' := [(1, .int r19_3), (0, .ref t), (2, .int z2)]) hx hb d_Road_leastOpen_22 rfl hl (by decide) rfl (fun ls hl => ?_)
        refine lv_iinc (v := z2 + (1 : Int32)) (lv' := [(2, .int (z2 + (1 : Int32))), (1, .int r19_3), (0, .ref t)]) hx hb d_Road_leastOpen_23 hl (k := 2) rfl rfl (by decide) rfl (fun ls hl => ?_)
        refine lv_goto (tgt := 5) hx hb d_Road_leastOpen_26 (by decide) ?_
        exact jh r19_3 (z2 + (1 : Int32)) q hF ls (lv_sub hl [2, 1, 0] rfl) hk
  unfold p_Road_leastOpen at hF
  refine lv_bipush (v := (90 : Int32)) hx hb d_Road_leastOpen_0 (by decide) ?_
  refine lv_istore_n (lv' := [(1, .int (90 : Int32)), (0, .ref t)]) hx hb d_Road_leastOpen_2 rfl hl (by decide) rfl (fun ls hl => ?_)
  refine lv_iconst (v := (0 : Int32)) hx hb d_Road_leastOpen_3 (by decide) ?_
  refine lv_istore_n (lv' := [(2, .int (0 : Int32)), (1, .int (90 : Int32)), (0, .ref t)]) hx hb d_Road_leastOpen_4 rfl hl (by decide) rfl (fun ls hl => ?_)
  obtain ⟨q5_4, hC, hF⟩ := dk_b hF
  refine L5 n (90 : Int32) (0 : Int32) q5_4 hC ls (lv_sub hl [2, 1, 0] rfl) (fun ls hl => ?_)
  refine lv_iload_n hx hb d_Road_leastOpen_29 rfl (lv_at hl 0 rfl) ?_
  obtain rfl := Option.some.inj hF
  exact W.iret (v := q5_4) hx hb hr (fun t ht hW => ⟨rfl, ht⟩) (fun _ h => by cases h) d_Road_leastOpen_30
def p_Road_weightOf_4 (n : Nat) : Nat → Int32 → (Nat → Int32) → Int32 → Int32 → Int32 → Option (Int32)
  | 0, _, _, _, _, _ => none
  | k + 1, v_t_size, v_t_weights, z1, z2, z3 =>
    if v_t_size ≤ z3 then
      some z2
    else
      (p_Road_streetAt n z1 z3).bind fun r19_2 =>
      if dk_in r19_2 10 = true then
        p_Road_weightOf_4 n k v_t_size v_t_weights z1 (z2 + (v_t_weights r19_2.toNatClampNeg)) (z3 + (1 : Int32))
      else none
theorem q_Road_weightOf_4 (n k : Nat) (v_t_size : Int32) (v_t_weights : Nat → Int32) (z1 : Int32) (z2 : Int32) (z3 : Int32) : p_Road_weightOf_4 n (k + 1) v_t_size v_t_weights z1 z2 z3 =
    if v_t_size ≤ z3 then
      some z2
    else
      (p_Road_streetAt n z1 z3).bind fun r19_2 =>
      if dk_in r19_2 10 = true then
        p_Road_weightOf_4 n k v_t_size v_t_weights z1 (z2 + (v_t_weights r19_2.toNatClampNeg)) (z3 + (1 : Int32))
      else none := rfl
def p_Road_weightOf (n : Nat) (x1 : Int32) (v_t_size : Int32) (v_t_weights : Nat → Int32) : Option (Int32) :=
  (p_Road_weightOf_4 n n v_t_size v_t_weights x1 (0 : Int32) (0 : Int32)).bind fun q4_3 =>
  some q4_3
abbrev m_Road_weightOf : Room := { frames := 1, cells := 0, slots := 0, locals := 21 }
set_option maxHeartbeats 4000000 in
set_option maxRecDepth 100000 in
theorem c_Road_weightOf (l : Launch) (G : va_G) (K : Nat → ClassId) (n : Nat) (t : Nat) (t_greens : Nat) (t_leasts : Nat) (t_queues : Nat) (t_seconds : Nat) (t_weights : Nat) (x1 : Int32) (v_t_size : Int32) (v_t_firstCycle : Int32) (v_t_lastCycle : Int32) (v_t_cycleBy : Int32) (v_t_stepSeconds : Int32) (v_t_weights : Nat → Int32) (o : Int32) (hF : p_Road_weightOf n x1 v_t_size v_t_weights = some o) :
    Met l y_Road_weightOf (wd y_Road_weightOf b_Road_weightOf 4 (some .int)) m_Road_weightOf (dk_Pp [.ref t, .int x1] G K [(t, .inr (1, [.ref t_greens, .ref t_leasts, .ref t_queues, .ref t_seconds, .ref t_weights, .int v_t_size, .int v_t_firstCycle, .int v_t_lastCycle, .int v_t_cycleBy, .int v_t_stepSeconds])), (t_weights, .inl (K 0, 10, .inl v_t_weights))]) (dk_Qp (some (.int o))) 0 0 (fun _ => False) := by
  refine Met.ofW (cc := b_Road_weightOf) (maxL := 4) (ret := (some .int)) (by decide) rfl ?_
  intro p e s m args below meth c s₁ B hml hv
  obtain ⟨rfl, hP, hK, hN⟩ := hv
  have hx := B.exec
  have hb := B.bytes
  have hr := B.returns
  have hts : ∀ w ∈ lw_good, w.before _ s = true := fun w h => atoms_spec (ws := wd y_Road_weightOf b_Road_weightOf 4 (some .int)) B.pre w (List.mem_cons_of_mem _ h)
  have hown : s.vm.findClass R_Road = some m.cls := findClass_of_methodNamed B.named
  have hlocks := B.notSynchronized
  have hfix : CallFix p m c b_Road_weightOf 4 s _ lw_good R_Road := ⟨hx, hb, hml, hown, hts⟩
  have hl := lv_entry ([.ref t, .int x1]) (n := 4) (Nat.le_of_ble_eq_true rfl)
  rw [lg_entry_eq]
  generalize (lg_sl ([.ref t, .int x1]) ++ List.replicate (4 - (lg_sl ([.ref t, .int x1])).length) Slot.unset).toArray = ls at hl ⊢
  have hl : lv_has ls 4 [(0, .ref t), (1, .int x1)] := hl
  change W p l e m_Road_weightOf s m _ below meth c s.heap [] 0 0 _ _
  have L4 : ∀ (k : Nat) (z1 : Int32) (z2 : Int32) (z3 : Int32) (q : Int32), p_Road_weightOf_4 n k v_t_size v_t_weights z1 z2 z3 = some q → ∀ ls : Array Slot, lv_has ls 4 [(0, .ref t), (1, .int z1), (2, .int z2), (3, .int z3)] → (∀ (ls1 : Array Slot), lv_has ls1 4 [(2, .int q)] → W p l e m_Road_weightOf s m ([.ref t, .int x1] : List Value).toArray below meth c s.heap [] 0 0 (MQ below (dk_Qp (some (.int o))) ([.ref t, .int x1] : List Value).toArray s 0 0 (fun _ => False)) (F0 m 31 ls1 [])) → W p l e m_Road_weightOf s m ([.ref t, .int x1] : List Value).toArray below meth c s.heap [] 0 0 (MQ below (dk_Qp (some (.int o))) ([.ref t, .int x1] : List Value).toArray s 0 0 (fun _ => False)) (F0 m 4 ls []) := by
    intro k
    induction k with
    | zero =>
      intro z1 z2 z3 q hF ls hl hk
      exact absurd hF (by simp [p_Road_weightOf_4])
    | succ k jh =>
      intro z1 z2 z3 q hF ls hl hk
      have hF := (q_Road_weightOf_4 n k v_t_size v_t_weights z1 z2 z3).symm.trans hF
      refine lv_iload_n hx hb d_Road_weightOf_4 rfl (lv_at hl 3 rfl) ?_
      refine lv_aload_n hx hb d_Road_weightOf_5 rfl (lv_at hl 0 rfl) ?_
      refine va_get (D := G) (ci := 1) (v := .int v_t_size) (C := R_Road) (T := F_Road) (N := 10) hx hb hts i_Road hown hK hP 0 rfl rfl 5 (by decide) (hts _ lk_24) (fun _ h9 => h9) rfl d_Road_weightOf_6 ?_
      refine lv_icmp_ge (tgt := 31) hx hb d_Road_weightOf_9 (by decide) (fun c9_1 => ?_) (fun c9_1 => ?_)
      · have hF := dk_t c9_1 hF
        obtain rfl := Option.some.inj hF
        exact hk ls (lv_sub hl [2] rfl)
      · have hF := dk_f c9_1 hF
        refine lv_iload_n hx hb d_Road_weightOf_12 rfl (lv_at hl 2 rfl) ?_
        refine lv_aload_n hx hb d_Road_weightOf_13 rfl (lv_at hl 0 rfl) ?_
        refine va_get (D := G) (ci := 1) (v := .ref t_weights) (C := R_Road) (T := F_Road) (N := 10) hx hb hts i_Road hown hK hP 0 rfl rfl 4 (by decide) (hts _ lk_40) (fun _ h9 => h9) rfl d_Road_weightOf_14 ?_
        refine lv_iload_n hx hb d_Road_weightOf_17 rfl (lv_at hl 1 rfl) ?_
        refine lv_iload_n hx hb d_Road_weightOf_18 rfl (lv_at hl 3 rfl) ?_
        obtain ⟨r19_2, hC, hF⟩ := dk_b hF
        refine dk_pure (va_runS (As := [.int z1, .int z3]) (rest := [.ref t_weights, .int z2]) hfix (c_Road_streetAt l G K n z1 z3 r19_2 hC) (va_cwS 2 hts (gd_S lk_37 lk_39 lk_29 lk_38) rfl rfl rfl (by decide +kernel) ⟨Nat.le_of_ble_eq_true rfl, Nat.le_of_ble_eq_true rfl⟩) (dk_preS hK hN (hP.sub [] rfl)) rfl rfl hl.1 rfl (lv_room (Nat.le_of_ble_eq_true rfl)) d_Road_weightOf_19 ⟨Nat.le_of_ble_eq_true rfl, Nat.le_of_ble_eq_true rfl⟩) ?_
        obtain ⟨hi, hF⟩ := dk_a hF
        refine va_iald (D := G) hx hb hK hP 1 0 rfl rfl (dk_vp hi) d_Road_weightOf_22 ?_
        refine lv_iadd hx hb d_Road_weightOf_23 ?_
        refine lv_istore_n (lv' := [(2, .int (z2 + (v_t_weights r19_2.toNatClampNeg))), (0, .ref t), (1, .int z1), (3, .int z3)]) hx hb d_Road_weightOf_24 rfl hl (by decide) rfl (fun ls hl => ?_)
        refine lv_iinc (v := z3 + (1 : Int32)) (lv' := [(3, .int (z3 + (1 : Int32))), (2, .int (z2 + (v_t_weights r19_2.toNatClampNeg))), (0, .ref t), (1, .int z1)]) hx hb d_Road_weightOf_25 hl (k := 3) rfl rfl (by decide) rfl (fun ls hl => ?_)
        refine lv_goto (tgt := 4) hx hb d_Road_weightOf_28 (by decide) ?_
        exact jh z1 (z2 + (v_t_weights r19_2.toNatClampNeg)) (z3 + (1 : Int32)) q hF ls (lv_sub hl [2, 3, 1, 0] rfl) hk
  unfold p_Road_weightOf at hF
  refine lv_iconst (v := (0 : Int32)) hx hb d_Road_weightOf_0 (by decide) ?_
  refine lv_istore_n (lv' := [(2, .int (0 : Int32)), (0, .ref t), (1, .int x1)]) hx hb d_Road_weightOf_1 rfl hl (by decide) rfl (fun ls hl => ?_)
  refine lv_iconst (v := (0 : Int32)) hx hb d_Road_weightOf_2 (by decide) ?_
  refine lv_istore_n (lv' := [(3, .int (0 : Int32)), (2, .int (0 : Int32)), (0, .ref t), (1, .int x1)]) hx hb d_Road_weightOf_3 rfl hl (by decide) rfl (fun ls hl => ?_)
  obtain ⟨q4_3, hC, hF⟩ := dk_b hF
  refine L4 n x1 (0 : Int32) (0 : Int32) q4_3 hC ls (lv_sub hl [2, 3, 1, 0] rfl) (fun ls hl => ?_)
  refine lv_iload_n hx hb d_Road_weightOf_31 rfl (lv_at hl 0 rfl) ?_
  obtain rfl := Option.some.inj hF
  exact W.iret (v := q4_3) hx hb hr (fun t ht hW => ⟨rfl, ht⟩) (fun _ h => by cases h) d_Road_weightOf_32
def p_Road_tries_36 (n : Nat) : Nat → Int32 → (Nat → Int32) → Int32 → Int32 → Option (Int32)
  | 0, _, _, _, _ => none
  | k + 1, v_t_size, v_t_leasts, z1, z2 =>
    if v_t_size ≤ z2 then
      some (1 : Int32)
    else
      if dk_in z2 5 = true then
        if (v_t_leasts z2.toNatClampNeg) ≤ z1 then
          p_Road_tries_36 n k v_t_size v_t_leasts z1 (z2 + (1 : Int32))
        else
          some (0 : Int32)
      else none
theorem q_Road_tries_36 (n k : Nat) (v_t_size : Int32) (v_t_leasts : Nat → Int32) (z1 : Int32) (z2 : Int32) : p_Road_tries_36 n (k + 1) v_t_size v_t_leasts z1 z2 =
    if v_t_size ≤ z2 then
      some (1 : Int32)
    else
      if dk_in z2 5 = true then
        if (v_t_leasts z2.toNatClampNeg) ≤ z1 then
          p_Road_tries_36 n k v_t_size v_t_leasts z1 (z2 + (1 : Int32))
        else
          some (0 : Int32)
      else none := rfl
def p_Road_tries (n : Nat) (x1 : Int32) (v_t_firstCycle : Int32) (v_t_lastCycle : Int32) (v_t_cycleBy : Int32) (v_t_size : Int32) (v_t_leasts : Nat → Int32) : Option (Int32) :=
  if x1 < v_t_firstCycle then
    some (0 : Int32)
  else
    if v_t_lastCycle < x1 then
      some (0 : Int32)
    else
      (p_WO_wrap n (x1 - v_t_firstCycle) v_t_cycleBy).bind fun r26_3 =>
      if r26_3 = 0 then
        p_Road_tries_36 n n v_t_size v_t_leasts x1 (0 : Int32)
      else
        some (0 : Int32)
abbrev m_Road_tries : Room := { frames := 2, cells := 0, slots := 0, locals := 43 }
set_option maxHeartbeats 4000000 in
set_option maxRecDepth 100000 in
theorem c_Road_tries (l : Launch) (G : va_G) (K : Nat → ClassId) (n : Nat) (t : Nat) (t_greens : Nat) (t_leasts : Nat) (t_queues : Nat) (t_seconds : Nat) (t_weights : Nat) (x1 : Int32) (v_t_size : Int32) (v_t_firstCycle : Int32) (v_t_lastCycle : Int32) (v_t_cycleBy : Int32) (v_t_stepSeconds : Int32) (v_t_leasts : Nat → Int32) (o : Int32) (hF : p_Road_tries n x1 v_t_firstCycle v_t_lastCycle v_t_cycleBy v_t_size v_t_leasts = some o) :
    Met l y_Road_tries (wd y_Road_tries b_Road_tries 3 (some .boolean)) m_Road_tries (dk_Pp [.ref t, .int x1] G K [(t, .inr (1, [.ref t_greens, .ref t_leasts, .ref t_queues, .ref t_seconds, .ref t_weights, .int v_t_size, .int v_t_firstCycle, .int v_t_lastCycle, .int v_t_cycleBy, .int v_t_stepSeconds])), (t_leasts, .inl (K 0, 5, .inl v_t_leasts))]) (dk_Qp (some (.int o))) 0 0 (fun _ => False) := by
  refine Met.ofW (cc := b_Road_tries) (maxL := 3) (ret := (some .boolean)) (by decide) rfl ?_
  intro p e s m args below meth c s₁ B hml hv
  obtain ⟨rfl, hP, hK, hN⟩ := hv
  have hx := B.exec
  have hb := B.bytes
  have hr := B.returns
  have hts : ∀ w ∈ lw_good, w.before _ s = true := fun w h => atoms_spec (ws := wd y_Road_tries b_Road_tries 3 (some .boolean)) B.pre w (List.mem_cons_of_mem _ h)
  have hown : s.vm.findClass R_Road = some m.cls := findClass_of_methodNamed B.named
  have hlocks := B.notSynchronized
  have hfix : CallFix p m c b_Road_tries 3 s _ lw_good R_Road := ⟨hx, hb, hml, hown, hts⟩
  have hl := lv_entry ([.ref t, .int x1]) (n := 3) (Nat.le_of_ble_eq_true rfl)
  rw [lg_entry_eq]
  generalize (lg_sl ([.ref t, .int x1]) ++ List.replicate (3 - (lg_sl ([.ref t, .int x1])).length) Slot.unset).toArray = ls at hl ⊢
  have hl : lv_has ls 3 [(0, .ref t), (1, .int x1)] := hl
  change W p l e m_Road_tries s m _ below meth c s.heap [] 0 0 _ _
  have L36 : ∀ (k : Nat) (z1 : Int32) (z2 : Int32), p_Road_tries_36 n k v_t_size v_t_leasts z1 z2 = some o → ∀ ls : Array Slot, lv_has ls 3 [(0, .ref t), (1, .int z1), (2, .int z2)] → W p l e m_Road_tries s m ([.ref t, .int x1] : List Value).toArray below meth c s.heap [] 0 0 (MQ below (dk_Qp (some (.int o))) ([.ref t, .int x1] : List Value).toArray s 0 0 (fun _ => False)) (F0 m 36 ls []) := by
    intro k
    induction k with
    | zero =>
      intro z1 z2 hF ls hl
      exact absurd hF (by simp [p_Road_tries_36])
    | succ k jh =>
      intro z1 z2 hF ls hl
      have hF := (q_Road_tries_36 n k v_t_size v_t_leasts z1 z2).symm.trans hF
      refine lv_iload_n hx hb d_Road_tries_36 rfl (lv_at hl 2 rfl) ?_
      refine lv_aload_n hx hb d_Road_tries_37 rfl (lv_at hl 0 rfl) ?_
      refine va_get (D := G) (ci := 1) (v := .int v_t_size) (C := R_Road) (T := F_Road) (N := 10) hx hb hts i_Road hown hK hP 0 rfl rfl 5 (by decide) (hts _ lk_24) (fun _ h9 => h9) rfl d_Road_tries_38 ?_
      refine lv_icmp_ge (tgt := 62) hx hb d_Road_tries_41 (by decide) (fun c41_5 => ?_) (fun c41_5 => ?_)
      · have hF := dk_t c41_5 hF
        refine lv_iconst (v := (1 : Int32)) hx hb d_Road_tries_62 (by decide) ?_
        obtain rfl := Option.some.inj hF
        exact W.zret (v := (1 : Int32)) hx hb hr rfl (fun t ht hW => ⟨rfl, ht⟩) (fun _ h => by cases h) d_Road_tries_63
      · have hF := dk_f c41_5 hF
        refine lv_aload_n hx hb d_Road_tries_44 rfl (lv_at hl 0 rfl) ?_
        refine va_get (D := G) (ci := 1) (v := .ref t_leasts) (C := R_Road) (T := F_Road) (N := 10) hx hb hts i_Road hown hK hP 0 rfl rfl 1 (by decide) (hts _ lk_31) (fun _ h9 => h9) rfl d_Road_tries_45 ?_
        refine lv_iload_n hx hb d_Road_tries_48 rfl (lv_at hl 2 rfl) ?_
        obtain ⟨hi, hF⟩ := dk_a hF
        refine va_iald (D := G) hx hb hK hP 1 0 rfl rfl (dk_vp hi) d_Road_tries_49 ?_
        refine lv_iload_n hx hb d_Road_tries_50 rfl (lv_at hl 1 rfl) ?_
        refine lv_icmp_le (tgt := 56) hx hb d_Road_tries_51 (by decide) (fun c51_6 => ?_) (fun c51_6 => ?_)
        · have hF := dk_t c51_6 hF
          refine lv_iinc (v := z2 + (1 : Int32)) (lv' := [(2, .int (z2 + (1 : Int32))), (0, .ref t), (1, .int z1)]) hx hb d_Road_tries_56 hl (k := 2) rfl rfl (by decide) rfl (fun ls hl => ?_)
          refine lv_goto (tgt := 36) hx hb d_Road_tries_59 (by decide) ?_
          exact jh z1 (z2 + (1 : Int32)) hF ls (lv_sub hl [1, 2, 0] rfl)
        · have hF := dk_f c51_6 hF
          refine lv_iconst (v := (0 : Int32)) hx hb d_Road_tries_54 (by decide) ?_
          obtain rfl := Option.some.inj hF
          exact W.zret (v := (0 : Int32)) hx hb hr rfl (fun t ht hW => ⟨rfl, ht⟩) (fun _ h => by cases h) d_Road_tries_55
  unfold p_Road_tries at hF
  refine lv_iload_n hx hb d_Road_tries_0 rfl (lv_at hl 1 rfl) ?_
  refine lv_aload_n hx hb d_Road_tries_1 rfl (lv_at hl 0 rfl) ?_
  refine va_get (D := G) (ci := 1) (v := .int v_t_firstCycle) (C := R_Road) (T := F_Road) (N := 10) hx hb hts i_Road hown hK hP 0 rfl rfl 6 (by decide) (hts _ lk_42) (fun _ h9 => h9) rfl d_Road_tries_2 ?_
  refine lv_icmp_lt (tgt := 32) hx hb d_Road_tries_5 (by decide) (fun c5_1 => ?_) (fun c5_1 => ?_)
  · have hF := dk_t c5_1 hF
    refine lv_iconst (v := (0 : Int32)) hx hb d_Road_tries_32 (by decide) ?_
    obtain rfl := Option.some.inj hF
    exact W.zret (v := (0 : Int32)) hx hb hr rfl (fun t ht hW => ⟨rfl, ht⟩) (fun _ h => by cases h) d_Road_tries_33
  · have hF := dk_f c5_1 hF
    refine lv_iload_n hx hb d_Road_tries_8 rfl (lv_at hl 1 rfl) ?_
    refine lv_aload_n hx hb d_Road_tries_9 rfl (lv_at hl 0 rfl) ?_
    refine va_get (D := G) (ci := 1) (v := .int v_t_lastCycle) (C := R_Road) (T := F_Road) (N := 10) hx hb hts i_Road hown hK hP 0 rfl rfl 7 (by decide) (hts _ lk_43) (fun _ h9 => h9) rfl d_Road_tries_10 ?_
    refine lv_icmp_gt (tgt := 32) hx hb d_Road_tries_13 (by decide) (fun c13_2 => ?_) (fun c13_2 => ?_)
    · have hF := dk_t c13_2 hF
      refine lv_iconst (v := (0 : Int32)) hx hb d_Road_tries_32 (by decide) ?_
      obtain rfl := Option.some.inj hF
      exact W.zret (v := (0 : Int32)) hx hb hr rfl (fun t ht hW => ⟨rfl, ht⟩) (fun _ h => by cases h) d_Road_tries_33
    · have hF := dk_f c13_2 hF
      refine lv_iload_n hx hb d_Road_tries_16 rfl (lv_at hl 1 rfl) ?_
      refine lv_aload_n hx hb d_Road_tries_17 rfl (lv_at hl 0 rfl) ?_
      refine va_get (D := G) (ci := 1) (v := .int v_t_firstCycle) (C := R_Road) (T := F_Road) (N := 10) hx hb hts i_Road hown hK hP 0 rfl rfl 6 (by decide) (hts _ lk_42) (fun _ h9 => h9) rfl d_Road_tries_18 ?_
      refine lv_isub hx hb d_Road_tries_21 ?_
      refine lv_aload_n hx hb d_Road_tries_22 rfl (lv_at hl 0 rfl) ?_
      refine va_get (D := G) (ci := 1) (v := .int v_t_cycleBy) (C := R_Road) (T := F_Road) (N := 10) hx hb hts i_Road hown hK hP 0 rfl rfl 8 (by decide) (hts _ lk_44) (fun _ h9 => h9) rfl d_Road_tries_23 ?_
      obtain ⟨r26_3, hC, hF⟩ := dk_b hF
      refine dk_pure (va_runSN (As := [.int (x1 - v_t_firstCycle), .int v_t_cycleBy]) (rest := []) hfix (c_WO_wrap l G K n (x1 - v_t_firstCycle) v_t_cycleBy r26_3 hC) (⟨va_cnB 2 hts (gd_w lk_60) rfl rfl rfl (hN.1 _ lk_59) (hts _ lk_16) (by decide +kernel) ⟨Nat.le_of_ble_eq_true rfl, Nat.le_of_ble_eq_true rfl⟩, hts _ lk_61, trivial⟩) (dk_preS hK hN (hP.sub [] rfl)) rfl rfl hl.1 rfl (lv_room (Nat.le_of_ble_eq_true rfl)) d_Road_tries_26 ⟨Nat.le_of_ble_eq_true rfl, Nat.le_of_ble_eq_true rfl⟩) ?_
      refine lv_if_eq (tgt := 34) hx hb d_Road_tries_29 (by decide) (fun c29_4 => ?_) (fun c29_4 => ?_)
      · have hF := dk_t c29_4 hF
        refine lv_iconst (v := (0 : Int32)) hx hb d_Road_tries_34 (by decide) ?_
        refine lv_istore_n (lv' := [(2, .int (0 : Int32)), (0, .ref t), (1, .int x1)]) hx hb d_Road_tries_35 rfl hl (by decide) rfl (fun ls hl => ?_)
        exact L36 n x1 (0 : Int32) hF ls (lv_sub hl [1, 2, 0] rfl)
      · have hF := dk_f c29_4 hF
        refine lv_iconst (v := (0 : Int32)) hx hb d_Road_tries_32 (by decide) ?_
        obtain rfl := Option.some.inj hF
        exact W.zret (v := (0 : Int32)) hx hb hr rfl (fun t ht hW => ⟨rfl, ht⟩) (fun _ h => by cases h) d_Road_tries_33
def p_Road_shortestCycle_3 (n : Nat) : Nat → Int32 → Int32 → Int32 → Int32 → (Nat → Int32) → Int32 → Option (Int32)
  | 0, _, _, _, _, _, _ => none
  | k + 1, v_t_firstCycle, v_t_lastCycle, v_t_cycleBy, v_t_size, v_t_leasts, z1 =>
    if (120 : Int32) < z1 then
      some (0 : Int32)
    else
      (p_Road_tries n z1 v_t_firstCycle v_t_lastCycle v_t_cycleBy v_t_size v_t_leasts).bind fun r11_2 =>
      if r11_2 = 0 then
        p_Road_shortestCycle_3 n k v_t_firstCycle v_t_lastCycle v_t_cycleBy v_t_size v_t_leasts (z1 + (1 : Int32))
      else
        some z1
theorem q_Road_shortestCycle_3 (n k : Nat) (v_t_firstCycle : Int32) (v_t_lastCycle : Int32) (v_t_cycleBy : Int32) (v_t_size : Int32) (v_t_leasts : Nat → Int32) (z1 : Int32) : p_Road_shortestCycle_3 n (k + 1) v_t_firstCycle v_t_lastCycle v_t_cycleBy v_t_size v_t_leasts z1 =
    if (120 : Int32) < z1 then
      some (0 : Int32)
    else
      (p_Road_tries n z1 v_t_firstCycle v_t_lastCycle v_t_cycleBy v_t_size v_t_leasts).bind fun r11_2 =>
      if r11_2 = 0 then
        p_Road_shortestCycle_3 n k v_t_firstCycle v_t_lastCycle v_t_cycleBy v_t_size v_t_leasts (z1 + (1 : Int32))
      else
        some z1 := rfl
def p_Road_shortestCycle (n : Nat) (v_t_firstCycle : Int32) (v_t_lastCycle : Int32) (v_t_cycleBy : Int32) (v_t_size : Int32) (v_t_leasts : Nat → Int32) : Option (Int32) :=
  p_Road_shortestCycle_3 n n v_t_firstCycle v_t_lastCycle v_t_cycleBy v_t_size v_t_leasts (10 : Int32)
abbrev m_Road_shortestCycle : Room := { frames := 3, cells := 0, slots := 0, locals := 65 }
set_option maxHeartbeats 4000000 in
set_option maxRecDepth 100000 in
theorem c_Road_shortestCycle (l : Launch) (G : va_G) (K : Nat → ClassId) (n : Nat) (t : Nat) (t_greens : Nat) (t_leasts : Nat) (t_queues : Nat) (t_seconds : Nat) (t_weights : Nat) (v_t_size : Int32) (v_t_firstCycle : Int32) (v_t_lastCycle : Int32) (v_t_cycleBy : Int32) (v_t_stepSeconds : Int32) (v_t_leasts : Nat → Int32) (o : Int32) (hF : p_Road_shortestCycle n v_t_firstCycle v_t_lastCycle v_t_cycleBy v_t_size v_t_leasts = some o) :
    Met l y_Road_shortestCycle (wd y_Road_shortestCycle b_Road_shortestCycle 2 (some .int)) m_Road_shortestCycle (dk_Pp [.ref t] G K [(t, .inr (1, [.ref t_greens, .ref t_leasts, .ref t_queues, .ref t_seconds, .ref t_weights, .int v_t_size, .int v_t_firstCycle, .int v_t_lastCycle, .int v_t_cycleBy, .int v_t_stepSeconds])), (t_leasts, .inl (K 0, 5, .inl v_t_leasts))]) (dk_Qp (some (.int o))) 0 0 (fun _ => False) := by
  refine Met.ofW (cc := b_Road_shortestCycle) (maxL := 2) (ret := (some .int)) (by decide) rfl ?_
  intro p e s m args below meth c s₁ B hml hv
  obtain ⟨rfl, hP, hK, hN⟩ := hv
  have hx := B.exec
  have hb := B.bytes
  have hr := B.returns
  have hts : ∀ w ∈ lw_good, w.before _ s = true := fun w h => atoms_spec (ws := wd y_Road_shortestCycle b_Road_shortestCycle 2 (some .int)) B.pre w (List.mem_cons_of_mem _ h)
  have hown : s.vm.findClass R_Road = some m.cls := findClass_of_methodNamed B.named
  have hlocks := B.notSynchronized
  have hfix : CallFix p m c b_Road_shortestCycle 2 s _ lw_good R_Road := ⟨hx, hb, hml, hown, hts⟩
  have hl := lv_entry ([.ref t]) (n := 2) (Nat.le_of_ble_eq_true rfl)
  rw [lg_entry_eq]
  generalize (lg_sl ([.ref t]) ++ List.replicate (2 - (lg_sl ([.ref t])).length) Slot.unset).toArray = ls at hl ⊢
  have hl : lv_has ls 2 [(0, .ref t)] := hl
  change W p l e m_Road_shortestCycle s m _ below meth c s.heap [] 0 0 _ _
  have L3 : ∀ (k : Nat) (z1 : Int32), p_Road_shortestCycle_3 n k v_t_firstCycle v_t_lastCycle v_t_cycleBy v_t_size v_t_leasts z1 = some o → ∀ ls : Array Slot, lv_has ls 2 [(0, .ref t), (1, .int z1)] → W p l e m_Road_shortestCycle s m ([.ref t] : List Value).toArray below meth c s.heap [] 0 0 (MQ below (dk_Qp (some (.int o))) ([.ref t] : List Value).toArray s 0 0 (fun _ => False)) (F0 m 3 ls []) := by
    intro k
    induction k with
    | zero =>
      intro z1 hF ls hl
      exact absurd hF (by simp [p_Road_shortestCycle_3])
    | succ k jh =>
      intro z1 hF ls hl
      have hF := (q_Road_shortestCycle_3 n k v_t_firstCycle v_t_lastCycle v_t_cycleBy v_t_size v_t_leasts z1).symm.trans hF
      refine lv_iload_n hx hb d_Road_shortestCycle_3 rfl (lv_at hl 1 rfl) ?_
      refine lv_bipush (v := (120 : Int32)) hx hb d_Road_shortestCycle_4 (by decide) ?_
      refine lv_icmp_gt (tgt := 25) hx hb d_Road_shortestCycle_6 (by decide) (fun c6_1 => ?_) (fun c6_1 => ?_)
      · have hF := dk_t c6_1 hF
        refine lv_iconst (v := (0 : Int32)) hx hb d_Road_shortestCycle_25 (by decide) ?_
        obtain rfl := Option.some.inj hF
        exact W.iret (v := (0 : Int32)) hx hb hr (fun t ht hW => ⟨rfl, ht⟩) (fun _ h => by cases h) d_Road_shortestCycle_26
      · have hF := dk_f c6_1 hF
        refine lv_aload_n hx hb d_Road_shortestCycle_9 rfl (lv_at hl 0 rfl) ?_
        refine lv_iload_n hx hb d_Road_shortestCycle_10 rfl (lv_at hl 1 rfl) ?_
        obtain ⟨r11_2, hC, hF⟩ := dk_b hF
        refine dk_pure (va_runV (As := [.int z1]) (rest := []) hfix (c_Road_tries l G K n t t_greens t_leasts t_queues t_seconds t_weights z1 v_t_size v_t_firstCycle v_t_lastCycle v_t_cycleBy v_t_stepSeconds v_t_leasts r11_2 hC) (cwV 1 hts (gd_V lk_62 lk_64 lk_65 lk_29 lk_63) rfl rfl rfl (by decide +kernel) ⟨Nat.le_of_ble_eq_true rfl, Nat.le_of_ble_eq_true rfl⟩) (dk_preV hK hN (hP.sub [0, 1] rfl) (va_recv hK hP (ci := 1) (q0 := 0) rfl rfl)) rfl rfl hl.1 rfl (lv_room (Nat.le_of_ble_eq_true rfl)) d_Road_shortestCycle_11 ⟨Nat.le_of_ble_eq_true rfl, Nat.le_of_ble_eq_true rfl⟩) ?_
        refine lv_if_eq (tgt := 19) hx hb d_Road_shortestCycle_14 (by decide) (fun c14_3 => ?_) (fun c14_3 => ?_)
        · have hF := dk_t c14_3 hF
          refine lv_iinc (v := z1 + (1 : Int32)) (lv' := [(1, .int (z1 + (1 : Int32))), (0, .ref t)]) hx hb d_Road_shortestCycle_19 hl (k := 1) rfl rfl (by decide) rfl (fun ls hl => ?_)
          refine lv_goto (tgt := 3) hx hb d_Road_shortestCycle_22 (by decide) ?_
          exact jh (z1 + (1 : Int32)) hF ls (lv_sub hl [1, 0] rfl)
        · have hF := dk_f c14_3 hF
          refine lv_iload_n hx hb d_Road_shortestCycle_17 rfl (lv_at hl 1 rfl) ?_
          obtain rfl := Option.some.inj hF
          exact W.iret (v := z1) hx hb hr (fun t ht hW => ⟨rfl, ht⟩) (fun _ h => by cases h) d_Road_shortestCycle_18
  unfold p_Road_shortestCycle at hF
  refine lv_bipush (v := (10 : Int32)) hx hb d_Road_shortestCycle_0 (by decide) ?_
  refine lv_istore_n (lv' := [(1, .int (10 : Int32)), (0, .ref t)]) hx hb d_Road_shortestCycle_2 rfl hl (by decide) rfl (fun ls hl => ?_)
  exact L3 n (10 : Int32) hF ls (lv_sub hl [1, 0] rfl)
def p_Road_choices (n : Nat) (x1 : Int32) (v_t_stepSeconds : Int32) : Option (Int32) :=
  if 0 < v_t_stepSeconds then
    if v_t_stepSeconds = 0 then none else
    some (((x1 + v_t_stepSeconds) - (1 : Int32)) / v_t_stepSeconds)
  else
    some (0 : Int32)
abbrev m_Road_choices : Room := { frames := 0, cells := 0, slots := 0, locals := 0 }
set_option maxHeartbeats 4000000 in
set_option maxRecDepth 100000 in
theorem c_Road_choices (l : Launch) (G : va_G) (K : Nat → ClassId) (n : Nat) (t : Nat) (t_greens : Nat) (t_leasts : Nat) (t_queues : Nat) (t_seconds : Nat) (t_weights : Nat) (x1 : Int32) (v_t_size : Int32) (v_t_firstCycle : Int32) (v_t_lastCycle : Int32) (v_t_cycleBy : Int32) (v_t_stepSeconds : Int32) (o : Int32) (hF : p_Road_choices n x1 v_t_stepSeconds = some o) :
    Met l y_Road_choices (wd y_Road_choices b_Road_choices 2 (some .int)) m_Road_choices (dk_Pp [.ref t, .int x1] G K [(t, .inr (1, [.ref t_greens, .ref t_leasts, .ref t_queues, .ref t_seconds, .ref t_weights, .int v_t_size, .int v_t_firstCycle, .int v_t_lastCycle, .int v_t_cycleBy, .int v_t_stepSeconds]))]) (dk_Qp (some (.int o))) 0 0 (fun _ => False) := by
  refine Met.ofW (cc := b_Road_choices) (maxL := 2) (ret := (some .int)) (by decide) rfl ?_
  intro p e s m args below meth c s₁ B hml hv
  obtain ⟨rfl, hP, hK, hN⟩ := hv
  have hx := B.exec
  have hb := B.bytes
  have hr := B.returns
  have hts : ∀ w ∈ lw_good, w.before _ s = true := fun w h => atoms_spec (ws := wd y_Road_choices b_Road_choices 2 (some .int)) B.pre w (List.mem_cons_of_mem _ h)
  have hown : s.vm.findClass R_Road = some m.cls := findClass_of_methodNamed B.named
  have hlocks := B.notSynchronized
  have hfix : CallFix p m c b_Road_choices 2 s _ lw_good R_Road := ⟨hx, hb, hml, hown, hts⟩
  have hl := lv_entry ([.ref t, .int x1]) (n := 2) (Nat.le_of_ble_eq_true rfl)
  rw [lg_entry_eq]
  generalize (lg_sl ([.ref t, .int x1]) ++ List.replicate (2 - (lg_sl ([.ref t, .int x1])).length) Slot.unset).toArray = ls at hl ⊢
  have hl : lv_has ls 2 [(0, .ref t), (1, .int x1)] := hl
  change W p l e m_Road_choices s m _ below meth c s.heap [] 0 0 _ _
  unfold p_Road_choices at hF
  refine lv_aload_n hx hb d_Road_choices_0 rfl (lv_at hl 0 rfl) ?_
  refine va_get (D := G) (ci := 1) (v := .int v_t_stepSeconds) (C := R_Road) (T := F_Road) (N := 10) hx hb hts i_Road hown hK hP 0 rfl rfl 9 (by decide) (hts _ lk_45) (fun _ h9 => h9) rfl d_Road_choices_1 ?_
  refine lv_if_gt (tgt := 11) hx hb d_Road_choices_4 (by decide) (fun c4_1 => ?_) (fun c4_1 => ?_)
  · have hF := dk_t c4_1 hF
    refine lv_iload_n hx hb d_Road_choices_11 rfl (lv_at hl 1 rfl) ?_
    refine lv_aload_n hx hb d_Road_choices_12 rfl (lv_at hl 0 rfl) ?_
    refine va_get (D := G) (ci := 1) (v := .int v_t_stepSeconds) (C := R_Road) (T := F_Road) (N := 10) hx hb hts i_Road hown hK hP 0 rfl rfl 9 (by decide) (hts _ lk_45) (fun _ h9 => h9) rfl d_Road_choices_13 ?_
    refine lv_iadd hx hb d_Road_choices_16 ?_
    refine lv_iconst (v := (1 : Int32)) hx hb d_Road_choices_17 (by decide) ?_
    refine lv_isub hx hb d_Road_choices_18 ?_
    refine lv_aload_n hx hb d_Road_choices_19 rfl (lv_at hl 0 rfl) ?_
    refine va_get (D := G) (ci := 1) (v := .int v_t_stepSeconds) (C := R_Road) (T := F_Road) (N := 10) hx hb hts i_Road hown hK hP 0 rfl rfl 9 (by decide) (hts _ lk_45) (fun _ h9 => h9) rfl d_Road_choices_20 ?_
    obtain ⟨hz, hF⟩ := dk_z hF
    refine lv_idiv hx hb d_Road_choices_23 hz ?_
    obtain rfl := Option.some.inj hF
    exact W.iret (v := ((x1 + v_t_stepSeconds) - (1 : Int32)) / v_t_stepSeconds) hx hb hr (fun t ht hW => ⟨rfl, ht⟩) (fun _ h => by cases h) d_Road_choices_24
  · have hF := dk_f c4_1 hF
    refine lv_iconst (v := (0 : Int32)) hx hb d_Road_choices_7 (by decide) ?_
    refine lv_goto (tgt := 24) hx hb d_Road_choices_8 (by decide) ?_
    obtain rfl := Option.some.inj hF
    exact W.iret (v := (0 : Int32)) hx hb hr (fun t ht hW => ⟨rfl, ht⟩) (fun _ h => by cases h) d_Road_choices_24
def p_Road_rowsBehind_7 (n : Nat) : Nat → Int32 → Int32 → Int32 → Int64 → Int32 → Option (Int64)
  | 0, _, _, _, _, _ => none
  | k + 1, v_t_size, v_t_stepSeconds, z2, z3, z5 =>
    if v_t_size ≤ z5 then
      some z3
    else
      (p_Road_choices n z2 v_t_stepSeconds).bind fun r19_2 =>
      p_Road_rowsBehind_7 n k v_t_size v_t_stepSeconds z2 (z3 * r19_2.toInt64) (z5 + (1 : Int32))
theorem q_Road_rowsBehind_7 (n k : Nat) (v_t_size : Int32) (v_t_stepSeconds : Int32) (z2 : Int32) (z3 : Int64) (z5 : Int32) : p_Road_rowsBehind_7 n (k + 1) v_t_size v_t_stepSeconds z2 z3 z5 =
    if v_t_size ≤ z5 then
      some z3
    else
      (p_Road_choices n z2 v_t_stepSeconds).bind fun r19_2 =>
      p_Road_rowsBehind_7 n k v_t_size v_t_stepSeconds z2 (z3 * r19_2.toInt64) (z5 + (1 : Int32)) := rfl
def p_Road_rowsBehind (n : Nat) (x1 : Int32) (x2 : Int32) (v_t_size : Int32) (v_t_stepSeconds : Int32) : Option (Int64) :=
  (p_Road_rowsBehind_7 n n v_t_size v_t_stepSeconds x2 (1 : Int64) (x1 + (1 : Int32))).bind fun q7_3 =>
  some q7_3
abbrev m_Road_rowsBehind : Room := { frames := 1, cells := 0, slots := 0, locals := 21 }
set_option maxHeartbeats 4000000 in
set_option maxRecDepth 100000 in
theorem c_Road_rowsBehind (l : Launch) (G : va_G) (K : Nat → ClassId) (n : Nat) (t : Nat) (t_greens : Nat) (t_leasts : Nat) (t_queues : Nat) (t_seconds : Nat) (t_weights : Nat) (x1 : Int32) (x2 : Int32) (v_t_size : Int32) (v_t_firstCycle : Int32) (v_t_lastCycle : Int32) (v_t_cycleBy : Int32) (v_t_stepSeconds : Int32) (o : Int64) (hF : p_Road_rowsBehind n x1 x2 v_t_size v_t_stepSeconds = some o) :
    Met l y_Road_rowsBehind (wd y_Road_rowsBehind b_Road_rowsBehind 6 (some .long)) m_Road_rowsBehind (dk_Pp [.ref t, .int x1, .int x2] G K [(t, .inr (1, [.ref t_greens, .ref t_leasts, .ref t_queues, .ref t_seconds, .ref t_weights, .int v_t_size, .int v_t_firstCycle, .int v_t_lastCycle, .int v_t_cycleBy, .int v_t_stepSeconds]))]) (dk_Qp (some (.long o))) 0 0 (fun _ => False) := by
  refine Met.ofW (cc := b_Road_rowsBehind) (maxL := 6) (ret := (some .long)) (by decide) rfl ?_
  intro p e s m args below meth c s₁ B hml hv
  obtain ⟨rfl, hP, hK, hN⟩ := hv
  have hx := B.exec
  have hb := B.bytes
  have hr := B.returns
  have hts : ∀ w ∈ lw_good, w.before _ s = true := fun w h => atoms_spec (ws := wd y_Road_rowsBehind b_Road_rowsBehind 6 (some .long)) B.pre w (List.mem_cons_of_mem _ h)
  have hown : s.vm.findClass R_Road = some m.cls := findClass_of_methodNamed B.named
  have hlocks := B.notSynchronized
  have hfix : CallFix p m c b_Road_rowsBehind 6 s _ lw_good R_Road := ⟨hx, hb, hml, hown, hts⟩
  have hl := lv_entry ([.ref t, .int x1, .int x2]) (n := 6) (Nat.le_of_ble_eq_true rfl)
  rw [lg_entry_eq]
  generalize (lg_sl ([.ref t, .int x1, .int x2]) ++ List.replicate (6 - (lg_sl ([.ref t, .int x1, .int x2])).length) Slot.unset).toArray = ls at hl ⊢
  have hl : lv_has ls 6 [(0, .ref t), (1, .int x1), (2, .int x2)] := hl
  change W p l e m_Road_rowsBehind s m _ below meth c s.heap [] 0 0 _ _
  have L7 : ∀ (k : Nat) (z2 : Int32) (z3 : Int64) (z5 : Int32) (q : Int64), p_Road_rowsBehind_7 n k v_t_size v_t_stepSeconds z2 z3 z5 = some q → ∀ ls : Array Slot, lv_has ls 6 [(0, .ref t), (2, .int z2), (3, .long z3), (5, .int z5)] → (∀ (ls1 : Array Slot), lv_has ls1 6 [(3, .long q)] → W p l e m_Road_rowsBehind s m ([.ref t, .int x1, .int x2] : List Value).toArray below meth c s.heap [] 0 0 (MQ below (dk_Qp (some (.long o))) ([.ref t, .int x1, .int x2] : List Value).toArray s 0 0 (fun _ => False)) (F0 m 31 ls1 [])) → W p l e m_Road_rowsBehind s m ([.ref t, .int x1, .int x2] : List Value).toArray below meth c s.heap [] 0 0 (MQ below (dk_Qp (some (.long o))) ([.ref t, .int x1, .int x2] : List Value).toArray s 0 0 (fun _ => False)) (F0 m 7 ls []) := by
    intro k
    induction k with
    | zero =>
      intro z2 z3 z5 q hF ls hl hk
      exact absurd hF (by simp [p_Road_rowsBehind_7])
    | succ k jh =>
      intro z2 z3 z5 q hF ls hl hk
      have hF := (q_Road_rowsBehind_7 n k v_t_size v_t_stepSeconds z2 z3 z5).symm.trans hF
      refine lv_iload hx hb d_Road_rowsBehind_7 (lv_at hl 3 rfl) ?_
      refine lv_aload_n hx hb d_Road_rowsBehind_9 rfl (lv_at hl 0 rfl) ?_
      refine va_get (D := G) (ci := 1) (v := .int v_t_size) (C := R_Road) (T := F_Road) (N := 10) hx hb hts i_Road hown hK hP 0 rfl rfl 5 (by decide) (hts _ lk_24) (fun _ h9 => h9) rfl d_Road_rowsBehind_10 ?_
      refine lv_icmp_ge (tgt := 31) hx hb d_Road_rowsBehind_13 (by decide) (fun c13_1 => ?_) (fun c13_1 => ?_)
      · have hF := dk_t c13_1 hF
        obtain rfl := Option.some.inj hF
        exact hk ls (lv_sub hl [2] rfl)
      · have hF := dk_f c13_1 hF
        refine lv_lload_n hx hb d_Road_rowsBehind_16 rfl (lv_at hl 2 rfl) ?_
        refine lv_aload_n hx hb d_Road_rowsBehind_17 rfl (lv_at hl 0 rfl) ?_
        refine lv_iload_n hx hb d_Road_rowsBehind_18 rfl (lv_at hl 1 rfl) ?_
        obtain ⟨r19_2, hC, hF⟩ := dk_b hF
        refine dk_pure (va_runV (As := [.int z2]) (rest := [.long z3]) hfix (c_Road_choices l G K n t t_greens t_leasts t_queues t_seconds t_weights z2 v_t_size v_t_firstCycle v_t_lastCycle v_t_cycleBy v_t_stepSeconds r19_2 hC) (cwV 1 hts (gd_V lk_66 lk_68 lk_69 lk_29 lk_67) rfl rfl rfl (by decide +kernel) ⟨Nat.le_of_ble_eq_true rfl, Nat.le_of_ble_eq_true rfl⟩) (dk_preV hK hN (hP.sub [0] rfl) (va_recv hK hP (ci := 1) (q0 := 0) rfl rfl)) rfl rfl hl.1 rfl (lv_room (Nat.le_of_ble_eq_true rfl)) d_Road_rowsBehind_19 ⟨Nat.le_of_ble_eq_true rfl, Nat.le_of_ble_eq_true rfl⟩) ?_
        refine lv_i2l hx hb d_Road_rowsBehind_22 rfl ?_
        refine lv_lmul hx hb d_Road_rowsBehind_23 ?_
        refine lv_lstore_n (lv' := [(3, .long (z3 * r19_2.toInt64)), (0, .ref t), (2, .int z2), (5, .int z5)]) hx hb d_Road_rowsBehind_24 rfl hl (by decide) rfl (fun ls hl => ?_)
        refine lv_iinc (v := z5 + (1 : Int32)) (lv' := [(5, .int (z5 + (1 : Int32))), (3, .long (z3 * r19_2.toInt64)), (0, .ref t), (2, .int z2)]) hx hb d_Road_rowsBehind_25 hl (k := 3) rfl rfl (by decide) rfl (fun ls hl => ?_)
        refine lv_goto (tgt := 7) hx hb d_Road_rowsBehind_28 (by decide) ?_
        exact jh z2 (z3 * r19_2.toInt64) (z5 + (1 : Int32)) q hF ls (lv_sub hl [2, 3, 1, 0] rfl) hk
  unfold p_Road_rowsBehind at hF
  refine lv_lconst (v := (1 : Int64)) hx hb d_Road_rowsBehind_0 (by decide) ?_
  refine lv_lstore_n (lv' := [(3, .long (1 : Int64)), (0, .ref t), (1, .int x1), (2, .int x2)]) hx hb d_Road_rowsBehind_1 rfl hl (by decide) rfl (fun ls hl => ?_)
  refine lv_iload_n hx hb d_Road_rowsBehind_2 rfl (lv_at hl 2 rfl) ?_
  refine lv_iconst (v := (1 : Int32)) hx hb d_Road_rowsBehind_3 (by decide) ?_
  refine lv_iadd hx hb d_Road_rowsBehind_4 ?_
  refine lv_istore (lv' := [(5, .int (x1 + (1 : Int32))), (3, .long (1 : Int64)), (0, .ref t), (1, .int x1), (2, .int x2)]) hx hb d_Road_rowsBehind_5 hl (by decide) rfl (fun ls hl => ?_)
  obtain ⟨q7_3, hC, hF⟩ := dk_b hF
  refine L7 n x2 (1 : Int64) (x1 + (1 : Int32)) q7_3 hC ls (lv_sub hl [2, 4, 1, 0] rfl) (fun ls hl => ?_)
  refine lv_lload_n hx hb d_Road_rowsBehind_31 rfl (lv_at hl 0 rfl) ?_
  obtain rfl := Option.some.inj hF
  exact W.lret (v := q7_3) hx hb hr (fun t ht hW => ⟨rfl, ht⟩) (fun _ h => by cases h) d_Road_rowsBehind_32
def p_Road_allRows_5 (n : Nat) : Nat → Int32 → Int32 → Int32 → Int32 → (Nat → Int32) → Int32 → Int64 → Int32 → Option (Int64)
  | 0, _, _, _, _, _, _, _, _ => none
  | k + 1, v_t_size, v_t_firstCycle, v_t_lastCycle, v_t_cycleBy, v_t_leasts, v_t_stepSeconds, z1, z3 =>
    if (120 : Int32) < z3 then
      some z1
    else
      if v_t_size ≤ 0 then
        some z1
      else
        (p_Road_tries n z3 v_t_firstCycle v_t_lastCycle v_t_cycleBy v_t_size v_t_leasts).bind fun r21_3 =>
        if r21_3 = 0 then
          p_Road_allRows_5 n k v_t_size v_t_firstCycle v_t_lastCycle v_t_cycleBy v_t_leasts v_t_stepSeconds (z1 + (0 : Int64)) (z3 + (1 : Int32))
        else
          (p_Road_rowsBehind n (0 : Int32) z3 v_t_size v_t_stepSeconds).bind fun r30_5 =>
          p_Road_allRows_5 n k v_t_size v_t_firstCycle v_t_lastCycle v_t_cycleBy v_t_leasts v_t_stepSeconds (z1 + r30_5) (z3 + (1 : Int32))
theorem q_Road_allRows_5 (n k : Nat) (v_t_size : Int32) (v_t_firstCycle : Int32) (v_t_lastCycle : Int32) (v_t_cycleBy : Int32) (v_t_leasts : Nat → Int32) (v_t_stepSeconds : Int32) (z1 : Int64) (z3 : Int32) : p_Road_allRows_5 n (k + 1) v_t_size v_t_firstCycle v_t_lastCycle v_t_cycleBy v_t_leasts v_t_stepSeconds z1 z3 =
    if (120 : Int32) < z3 then
      some z1
    else
      if v_t_size ≤ 0 then
        some z1
      else
        (p_Road_tries n z3 v_t_firstCycle v_t_lastCycle v_t_cycleBy v_t_size v_t_leasts).bind fun r21_3 =>
        if r21_3 = 0 then
          p_Road_allRows_5 n k v_t_size v_t_firstCycle v_t_lastCycle v_t_cycleBy v_t_leasts v_t_stepSeconds (z1 + (0 : Int64)) (z3 + (1 : Int32))
        else
          (p_Road_rowsBehind n (0 : Int32) z3 v_t_size v_t_stepSeconds).bind fun r30_5 =>
          p_Road_allRows_5 n k v_t_size v_t_firstCycle v_t_lastCycle v_t_cycleBy v_t_leasts v_t_stepSeconds (z1 + r30_5) (z3 + (1 : Int32)) := rfl
def p_Road_allRows (n : Nat) (v_t_size : Int32) (v_t_firstCycle : Int32) (v_t_lastCycle : Int32) (v_t_cycleBy : Int32) (v_t_leasts : Nat → Int32) (v_t_stepSeconds : Int32) : Option (Int64) :=
  (p_Road_allRows_5 n n v_t_size v_t_firstCycle v_t_lastCycle v_t_cycleBy v_t_leasts v_t_stepSeconds (0 : Int64) (10 : Int32)).bind fun q5_6 =>
  some q5_6
abbrev m_Road_allRows : Room := { frames := 3, cells := 0, slots := 0, locals := 65 }
set_option maxHeartbeats 4000000 in
set_option maxRecDepth 100000 in
theorem c_Road_allRows (l : Launch) (G : va_G) (K : Nat → ClassId) (n : Nat) (t : Nat) (t_greens : Nat) (t_leasts : Nat) (t_queues : Nat) (t_seconds : Nat) (t_weights : Nat) (v_t_size : Int32) (v_t_firstCycle : Int32) (v_t_lastCycle : Int32) (v_t_cycleBy : Int32) (v_t_stepSeconds : Int32) (v_t_leasts : Nat → Int32) (o : Int64) (hF : p_Road_allRows n v_t_size v_t_firstCycle v_t_lastCycle v_t_cycleBy v_t_leasts v_t_stepSeconds = some o) :
    Met l y_Road_allRows (wd y_Road_allRows b_Road_allRows 4 (some .long)) m_Road_allRows (dk_Pp [.ref t] G K [(t, .inr (1, [.ref t_greens, .ref t_leasts, .ref t_queues, .ref t_seconds, .ref t_weights, .int v_t_size, .int v_t_firstCycle, .int v_t_lastCycle, .int v_t_cycleBy, .int v_t_stepSeconds])), (t_leasts, .inl (K 0, 5, .inl v_t_leasts))]) (dk_Qp (some (.long o))) 0 0 (fun _ => False) := by
  refine Met.ofW (cc := b_Road_allRows) (maxL := 4) (ret := (some .long)) (by decide) rfl ?_
  intro p e s m args below meth c s₁ B hml hv
  obtain ⟨rfl, hP, hK, hN⟩ := hv
  have hx := B.exec
  have hb := B.bytes
  have hr := B.returns
  have hts : ∀ w ∈ lw_good, w.before _ s = true := fun w h => atoms_spec (ws := wd y_Road_allRows b_Road_allRows 4 (some .long)) B.pre w (List.mem_cons_of_mem _ h)
  have hown : s.vm.findClass R_Road = some m.cls := findClass_of_methodNamed B.named
  have hlocks := B.notSynchronized
  have hfix : CallFix p m c b_Road_allRows 4 s _ lw_good R_Road := ⟨hx, hb, hml, hown, hts⟩
  have hl := lv_entry ([.ref t]) (n := 4) (Nat.le_of_ble_eq_true rfl)
  rw [lg_entry_eq]
  generalize (lg_sl ([.ref t]) ++ List.replicate (4 - (lg_sl ([.ref t])).length) Slot.unset).toArray = ls at hl ⊢
  have hl : lv_has ls 4 [(0, .ref t)] := hl
  change W p l e m_Road_allRows s m _ below meth c s.heap [] 0 0 _ _
  have L5 : ∀ (k : Nat) (z1 : Int64) (z3 : Int32) (q : Int64), p_Road_allRows_5 n k v_t_size v_t_firstCycle v_t_lastCycle v_t_cycleBy v_t_leasts v_t_stepSeconds z1 z3 = some q → ∀ ls : Array Slot, lv_has ls 4 [(0, .ref t), (1, .long z1), (3, .int z3)] → (∀ (ls1 : Array Slot), lv_has ls1 4 [(1, .long q)] → W p l e m_Road_allRows s m ([.ref t] : List Value).toArray below meth c s.heap [] 0 0 (MQ below (dk_Qp (some (.long o))) ([.ref t] : List Value).toArray s 0 0 (fun _ => False)) (F0 m 45 ls1 [])) → W p l e m_Road_allRows s m ([.ref t] : List Value).toArray below meth c s.heap [] 0 0 (MQ below (dk_Qp (some (.long o))) ([.ref t] : List Value).toArray s 0 0 (fun _ => False)) (F0 m 5 ls []) := by
    intro k
    induction k with
    | zero =>
      intro z1 z3 q hF ls hl hk
      exact absurd hF (by simp [p_Road_allRows_5])
    | succ k jh =>
      intro z1 z3 q hF ls hl hk
      have hF := (q_Road_allRows_5 n k v_t_size v_t_firstCycle v_t_lastCycle v_t_cycleBy v_t_leasts v_t_stepSeconds z1 z3).symm.trans hF
      refine lv_iload_n hx hb d_Road_allRows_5 rfl (lv_at hl 2 rfl) ?_
      refine lv_bipush (v := (120 : Int32)) hx hb d_Road_allRows_6 (by decide) ?_
      refine lv_icmp_gt (tgt := 45) hx hb d_Road_allRows_8 (by decide) (fun c8_1 => ?_) (fun c8_1 => ?_)
      · have hF := dk_t c8_1 hF
        obtain rfl := Option.some.inj hF
        exact hk ls (lv_sub hl [1] rfl)
      · have hF := dk_f c8_1 hF
        refine lv_aload_n hx hb d_Road_allRows_11 rfl (lv_at hl 0 rfl) ?_
        refine va_get (D := G) (ci := 1) (v := .int v_t_size) (C := R_Road) (T := F_Road) (N := 10) hx hb hts i_Road hown hK hP 0 rfl rfl 5 (by decide) (hts _ lk_24) (fun _ h9 => h9) rfl d_Road_allRows_12 ?_
        refine lv_if_le (tgt := 45) hx hb d_Road_allRows_15 (by decide) (fun c15_2 => ?_) (fun c15_2 => ?_)
        · have hF := dk_t c15_2 hF
          obtain rfl := Option.some.inj hF
          exact hk ls (lv_sub hl [1] rfl)
        · have hF := dk_f c15_2 hF
          refine lv_lload_n hx hb d_Road_allRows_18 rfl (lv_at hl 1 rfl) ?_
          refine lv_aload_n hx hb d_Road_allRows_19 rfl (lv_at hl 0 rfl) ?_
          refine lv_iload_n hx hb d_Road_allRows_20 rfl (lv_at hl 2 rfl) ?_
          obtain ⟨r21_3, hC, hF⟩ := dk_b hF
          refine dk_pure (va_runV (As := [.int z3]) (rest := [.long z1]) hfix (c_Road_tries l G K n t t_greens t_leasts t_queues t_seconds t_weights z3 v_t_size v_t_firstCycle v_t_lastCycle v_t_cycleBy v_t_stepSeconds v_t_leasts r21_3 hC) (cwV 1 hts (gd_V lk_62 lk_64 lk_65 lk_29 lk_63) rfl rfl rfl (by decide +kernel) ⟨Nat.le_of_ble_eq_true rfl, Nat.le_of_ble_eq_true rfl⟩) (dk_preV hK hN (hP.sub [0, 1] rfl) (va_recv hK hP (ci := 1) (q0 := 0) rfl rfl)) rfl rfl hl.1 rfl (lv_room (Nat.le_of_ble_eq_true rfl)) d_Road_allRows_21 ⟨Nat.le_of_ble_eq_true rfl, Nat.le_of_ble_eq_true rfl⟩) ?_
          refine lv_if_eq (tgt := 36) hx hb d_Road_allRows_24 (by decide) (fun c24_4 => ?_) (fun c24_4 => ?_)
          · have hF := dk_t c24_4 hF
            refine lv_lconst (v := (0 : Int64)) hx hb d_Road_allRows_36 (by decide) ?_
            refine lv_ladd hx hb d_Road_allRows_37 ?_
            refine lv_lstore_n (lv' := [(1, .long (z1 + (0 : Int64))), (0, .ref t), (3, .int z3)]) hx hb d_Road_allRows_38 rfl hl (by decide) rfl (fun ls hl => ?_)
            refine lv_iinc (v := z3 + (1 : Int32)) (lv' := [(3, .int (z3 + (1 : Int32))), (1, .long (z1 + (0 : Int64))), (0, .ref t)]) hx hb d_Road_allRows_39 hl (k := 2) rfl rfl (by decide) rfl (fun ls hl => ?_)
            refine lv_goto (tgt := 5) hx hb d_Road_allRows_42 (by decide) ?_
            exact jh (z1 + (0 : Int64)) (z3 + (1 : Int32)) q hF ls (lv_sub hl [2, 1, 0] rfl) hk
          · have hF := dk_f c24_4 hF
            refine lv_aload_n hx hb d_Road_allRows_27 rfl (lv_at hl 0 rfl) ?_
            refine lv_iconst (v := (0 : Int32)) hx hb d_Road_allRows_28 (by decide) ?_
            refine lv_iload_n hx hb d_Road_allRows_29 rfl (lv_at hl 2 rfl) ?_
            obtain ⟨r30_5, hC, hF⟩ := dk_b hF
            refine dk_pure (va_runV (As := [.int (0 : Int32), .int z3]) (rest := [.long z1]) hfix (c_Road_rowsBehind l G K n t t_greens t_leasts t_queues t_seconds t_weights (0 : Int32) z3 v_t_size v_t_firstCycle v_t_lastCycle v_t_cycleBy v_t_stepSeconds r30_5 hC) (cwV 2 hts (gd_V lk_70 lk_72 lk_73 lk_29 lk_71) rfl rfl rfl (by decide +kernel) ⟨Nat.le_of_ble_eq_true rfl, Nat.le_of_ble_eq_true rfl⟩) (dk_preV hK hN (hP.sub [0] rfl) (va_recv hK hP (ci := 1) (q0 := 0) rfl rfl)) rfl rfl hl.1 rfl (lv_room (Nat.le_of_ble_eq_true rfl)) d_Road_allRows_30 ⟨Nat.le_of_ble_eq_true rfl, Nat.le_of_ble_eq_true rfl⟩) ?_
            refine lv_goto (tgt := 37) hx hb d_Road_allRows_33 (by decide) ?_
            refine lv_ladd hx hb d_Road_allRows_37 ?_
            refine lv_lstore_n (lv' := [(1, .long (z1 + r30_5)), (0, .ref t), (3, .int z3)]) hx hb d_Road_allRows_38 rfl hl (by decide) rfl (fun ls hl => ?_)
            refine lv_iinc (v := z3 + (1 : Int32)) (lv' := [(3, .int (z3 + (1 : Int32))), (1, .long (z1 + r30_5)), (0, .ref t)]) hx hb d_Road_allRows_39 hl (k := 2) rfl rfl (by decide) rfl (fun ls hl => ?_)
            refine lv_goto (tgt := 5) hx hb d_Road_allRows_42 (by decide) ?_
            exact jh (z1 + r30_5) (z3 + (1 : Int32)) q hF ls (lv_sub hl [2, 1, 0] rfl) hk
  unfold p_Road_allRows at hF
  refine lv_lconst (v := (0 : Int64)) hx hb d_Road_allRows_0 (by decide) ?_
  refine lv_lstore_n (lv' := [(1, .long (0 : Int64)), (0, .ref t)]) hx hb d_Road_allRows_1 rfl hl (by decide) rfl (fun ls hl => ?_)
  refine lv_bipush (v := (10 : Int32)) hx hb d_Road_allRows_2 (by decide) ?_
  refine lv_istore_n (lv' := [(3, .int (10 : Int32)), (1, .long (0 : Int64)), (0, .ref t)]) hx hb d_Road_allRows_4 rfl hl (by decide) rfl (fun ls hl => ?_)
  obtain ⟨q5_6, hC, hF⟩ := dk_b hF
  refine L5 n (0 : Int64) (10 : Int32) q5_6 hC ls (lv_sub hl [2, 1, 0] rfl) (fun ls hl => ?_)
  refine lv_lload_n hx hb d_Road_allRows_45 rfl (lv_at hl 0 rfl) ?_
  obtain rfl := Option.some.inj hF
  exact W.lret (v := q5_6) hx hb hr (fun t ht hW => ⟨rfl, ht⟩) (fun _ h => by cases h) d_Road_allRows_46
def p_Road_goneTo_55 (n : Nat) : Nat → (Nat → Int32) → Int32 → Int32 → Int32 → Option (Int32)
  | 0, _, _, _, _ => none
  | k + 1, v_t_seconds, z1, z3, z4 =>
    if z4 ≤ z1 then
      some z3
    else
      if z4 ≤ 0 then
        some z3
      else
        (p_Road_streetAt n (1 : Int32) z4).bind fun r74_4 =>
        if dk_in r74_4 10 = true then
          p_Road_goneTo_55 n k v_t_seconds z1 (z3 + (v_t_seconds r74_4.toNatClampNeg)) (z4 + ((-1) : Int32))
        else none
theorem q_Road_goneTo_55 (n k : Nat) (v_t_seconds : Nat → Int32) (z1 : Int32) (z3 : Int32) (z4 : Int32) : p_Road_goneTo_55 n (k + 1) v_t_seconds z1 z3 z4 =
    if z4 ≤ z1 then
      some z3
    else
      if z4 ≤ 0 then
        some z3
      else
        (p_Road_streetAt n (1 : Int32) z4).bind fun r74_4 =>
        if dk_in r74_4 10 = true then
          p_Road_goneTo_55 n k v_t_seconds z1 (z3 + (v_t_seconds r74_4.toNatClampNeg)) (z4 + ((-1) : Int32))
        else none := rfl
def p_Road_goneTo_9 (n : Nat) : Nat → Int32 → (Nat → Int32) → Int32 → Int32 → Int32 → Option (Int32)
  | 0, _, _, _, _, _ => none
  | k + 1, v_t_size, v_t_seconds, z1, z3, z4 =>
    if z1 ≤ z4 then
      some z3
    else
      if v_t_size ≤ z4 then
        some z3
      else
        (p_Road_streetAt n (0 : Int32) z4).bind fun r32_8 =>
        if dk_in r32_8 10 = true then
          p_Road_goneTo_9 n k v_t_size v_t_seconds z1 (z3 + (v_t_seconds r32_8.toNatClampNeg)) (z4 + (1 : Int32))
        else none
theorem q_Road_goneTo_9 (n k : Nat) (v_t_size : Int32) (v_t_seconds : Nat → Int32) (z1 : Int32) (z3 : Int32) (z4 : Int32) : p_Road_goneTo_9 n (k + 1) v_t_size v_t_seconds z1 z3 z4 =
    if z1 ≤ z4 then
      some z3
    else
      if v_t_size ≤ z4 then
        some z3
      else
        (p_Road_streetAt n (0 : Int32) z4).bind fun r32_8 =>
        if dk_in r32_8 10 = true then
          p_Road_goneTo_9 n k v_t_size v_t_seconds z1 (z3 + (v_t_seconds r32_8.toNatClampNeg)) (z4 + (1 : Int32))
        else none := rfl
def p_Road_goneTo (n : Nat) (x1 : Int32) (x2 : Int32) (v_t_size : Int32) (v_t_seconds : Nat → Int32) : Option (Int32) :=
  if x2 = 0 then
    (p_Road_goneTo_9 n n v_t_size v_t_seconds x1 (0 : Int32) (0 : Int32)).bind fun q9_9 =>
    some q9_9
  else
    (p_Road_goneTo_55 n n v_t_seconds x1 (0 : Int32) (v_t_size - (1 : Int32))).bind fun q55_5 =>
    some q55_5
abbrev m_Road_goneTo : Room := { frames := 1, cells := 0, slots := 0, locals := 21 }
set_option maxHeartbeats 4000000 in
set_option maxRecDepth 100000 in
theorem c_Road_goneTo (l : Launch) (G : va_G) (K : Nat → ClassId) (n : Nat) (t : Nat) (t_greens : Nat) (t_leasts : Nat) (t_queues : Nat) (t_seconds : Nat) (t_weights : Nat) (x1 : Int32) (x2 : Int32) (v_t_size : Int32) (v_t_firstCycle : Int32) (v_t_lastCycle : Int32) (v_t_cycleBy : Int32) (v_t_stepSeconds : Int32) (v_t_seconds : Nat → Int32) (o : Int32) (hF : p_Road_goneTo n x1 x2 v_t_size v_t_seconds = some o) :
    Met l y_Road_goneTo (wd y_Road_goneTo b_Road_goneTo 5 (some .int)) m_Road_goneTo (dk_Pp [.ref t, .int x1, .int x2] G K [(t, .inr (1, [.ref t_greens, .ref t_leasts, .ref t_queues, .ref t_seconds, .ref t_weights, .int v_t_size, .int v_t_firstCycle, .int v_t_lastCycle, .int v_t_cycleBy, .int v_t_stepSeconds])), (t_seconds, .inl (K 0, 10, .inl v_t_seconds))]) (dk_Qp (some (.int o))) 0 0 (fun _ => False) := by
  refine Met.ofW (cc := b_Road_goneTo) (maxL := 5) (ret := (some .int)) (by decide) rfl ?_
  intro p e s m args below meth c s₁ B hml hv
  obtain ⟨rfl, hP, hK, hN⟩ := hv
  have hx := B.exec
  have hb := B.bytes
  have hr := B.returns
  have hts : ∀ w ∈ lw_good, w.before _ s = true := fun w h => atoms_spec (ws := wd y_Road_goneTo b_Road_goneTo 5 (some .int)) B.pre w (List.mem_cons_of_mem _ h)
  have hown : s.vm.findClass R_Road = some m.cls := findClass_of_methodNamed B.named
  have hlocks := B.notSynchronized
  have hfix : CallFix p m c b_Road_goneTo 5 s _ lw_good R_Road := ⟨hx, hb, hml, hown, hts⟩
  have hl := lv_entry ([.ref t, .int x1, .int x2]) (n := 5) (Nat.le_of_ble_eq_true rfl)
  rw [lg_entry_eq]
  generalize (lg_sl ([.ref t, .int x1, .int x2]) ++ List.replicate (5 - (lg_sl ([.ref t, .int x1, .int x2])).length) Slot.unset).toArray = ls at hl ⊢
  have hl : lv_has ls 5 [(0, .ref t), (1, .int x1), (2, .int x2)] := hl
  change W p l e m_Road_goneTo s m _ below meth c s.heap [] 0 0 _ _
  have L55 : ∀ (k : Nat) (z1 : Int32) (z3 : Int32) (z4 : Int32) (q : Int32), p_Road_goneTo_55 n k v_t_seconds z1 z3 z4 = some q → ∀ ls : Array Slot, lv_has ls 5 [(0, .ref t), (1, .int z1), (3, .int z3), (4, .int z4)] → (∀ (ls1 : Array Slot), lv_has ls1 5 [(3, .int q)] → W p l e m_Road_goneTo s m ([.ref t, .int x1, .int x2] : List Value).toArray below meth c s.heap [] 0 0 (MQ below (dk_Qp (some (.int o))) ([.ref t, .int x1, .int x2] : List Value).toArray s 0 0 (fun _ => False)) (F0 m 86 ls1 [])) → W p l e m_Road_goneTo s m ([.ref t, .int x1, .int x2] : List Value).toArray below meth c s.heap [] 0 0 (MQ below (dk_Qp (some (.int o))) ([.ref t, .int x1, .int x2] : List Value).toArray s 0 0 (fun _ => False)) (F0 m 55 ls []) := by
    intro k
    induction k with
    | zero =>
      intro z1 z3 z4 q hF ls hl hk
      exact absurd hF (by simp [p_Road_goneTo_55])
    | succ k jh =>
      intro z1 z3 z4 q hF ls hl hk
      have hF := (q_Road_goneTo_55 n k v_t_seconds z1 z3 z4).symm.trans hF
      refine lv_iload hx hb d_Road_goneTo_55 (lv_at hl 3 rfl) ?_
      refine lv_iload_n hx hb d_Road_goneTo_57 rfl (lv_at hl 1 rfl) ?_
      refine lv_icmp_le (tgt := 86) hx hb d_Road_goneTo_58 (by decide) (fun c58_2 => ?_) (fun c58_2 => ?_)
      · have hF := dk_t c58_2 hF
        obtain rfl := Option.some.inj hF
        exact hk ls (lv_sub hl [2] rfl)
      · have hF := dk_f c58_2 hF
        refine lv_iload hx hb d_Road_goneTo_61 (lv_at hl 3 rfl) ?_
        refine lv_if_le (tgt := 86) hx hb d_Road_goneTo_63 (by decide) (fun c63_3 => ?_) (fun c63_3 => ?_)
        · have hF := dk_t c63_3 hF
          obtain rfl := Option.some.inj hF
          exact hk ls (lv_sub hl [2] rfl)
        · have hF := dk_f c63_3 hF
          refine lv_iload_n hx hb d_Road_goneTo_66 rfl (lv_at hl 2 rfl) ?_
          refine lv_aload_n hx hb d_Road_goneTo_67 rfl (lv_at hl 0 rfl) ?_
          refine va_get (D := G) (ci := 1) (v := .ref t_seconds) (C := R_Road) (T := F_Road) (N := 10) hx hb hts i_Road hown hK hP 0 rfl rfl 3 (by decide) (hts _ lk_36) (fun _ h9 => h9) rfl d_Road_goneTo_68 ?_
          refine lv_iconst (v := (1 : Int32)) hx hb d_Road_goneTo_71 (by decide) ?_
          refine lv_iload hx hb d_Road_goneTo_72 (lv_at hl 3 rfl) ?_
          obtain ⟨r74_4, hC, hF⟩ := dk_b hF
          refine dk_pure (va_runS (As := [.int (1 : Int32), .int z4]) (rest := [.ref t_seconds, .int z3]) hfix (c_Road_streetAt l G K n (1 : Int32) z4 r74_4 hC) (va_cwS 2 hts (gd_S lk_37 lk_39 lk_29 lk_38) rfl rfl rfl (by decide +kernel) ⟨Nat.le_of_ble_eq_true rfl, Nat.le_of_ble_eq_true rfl⟩) (dk_preS hK hN (hP.sub [] rfl)) rfl rfl hl.1 rfl (lv_room (Nat.le_of_ble_eq_true rfl)) d_Road_goneTo_74 ⟨Nat.le_of_ble_eq_true rfl, Nat.le_of_ble_eq_true rfl⟩) ?_
          obtain ⟨hi, hF⟩ := dk_a hF
          refine va_iald (D := G) hx hb hK hP 1 0 rfl rfl (dk_vp hi) d_Road_goneTo_77 ?_
          refine lv_iadd hx hb d_Road_goneTo_78 ?_
          refine lv_istore_n (lv' := [(3, .int (z3 + (v_t_seconds r74_4.toNatClampNeg))), (0, .ref t), (1, .int z1), (4, .int z4)]) hx hb d_Road_goneTo_79 rfl hl (by decide) rfl (fun ls hl => ?_)
          refine lv_iinc (v := z4 + ((-1) : Int32)) (lv' := [(4, .int (z4 + ((-1) : Int32))), (3, .int (z3 + (v_t_seconds r74_4.toNatClampNeg))), (0, .ref t), (1, .int z1)]) hx hb d_Road_goneTo_80 hl (k := 3) rfl rfl (by decide) rfl (fun ls hl => ?_)
          refine lv_goto (tgt := 55) hx hb d_Road_goneTo_83 (by decide) ?_
          exact jh z1 (z3 + (v_t_seconds r74_4.toNatClampNeg)) (z4 + ((-1) : Int32)) q hF ls (lv_sub hl [2, 3, 1, 0] rfl) hk
  have L9 : ∀ (k : Nat) (z1 : Int32) (z3 : Int32) (z4 : Int32) (q : Int32), p_Road_goneTo_9 n k v_t_size v_t_seconds z1 z3 z4 = some q → ∀ ls : Array Slot, lv_has ls 5 [(0, .ref t), (1, .int z1), (3, .int z3), (4, .int z4)] → (∀ (ls1 : Array Slot), lv_has ls1 5 [(3, .int q)] → W p l e m_Road_goneTo s m ([.ref t, .int x1, .int x2] : List Value).toArray below meth c s.heap [] 0 0 (MQ below (dk_Qp (some (.int o))) ([.ref t, .int x1, .int x2] : List Value).toArray s 0 0 (fun _ => False)) (F0 m 44 ls1 [])) → W p l e m_Road_goneTo s m ([.ref t, .int x1, .int x2] : List Value).toArray below meth c s.heap [] 0 0 (MQ below (dk_Qp (some (.int o))) ([.ref t, .int x1, .int x2] : List Value).toArray s 0 0 (fun _ => False)) (F0 m 9 ls []) := by
    intro k
    induction k with
    | zero =>
      intro z1 z3 z4 q hF ls hl hk
      exact absurd hF (by simp [p_Road_goneTo_9])
    | succ k jh =>
      intro z1 z3 z4 q hF ls hl hk
      have hF := (q_Road_goneTo_9 n k v_t_size v_t_seconds z1 z3 z4).symm.trans hF
      refine lv_iload hx hb d_Road_goneTo_9 (lv_at hl 3 rfl) ?_
      refine lv_iload_n hx hb d_Road_goneTo_11 rfl (lv_at hl 1 rfl) ?_
      refine lv_icmp_ge (tgt := 44) hx hb d_Road_goneTo_12 (by decide) (fun c12_6 => ?_) (fun c12_6 => ?_)
      · have hF := dk_t c12_6 hF
        obtain rfl := Option.some.inj hF
        exact hk ls (lv_sub hl [2] rfl)
      · have hF := dk_f c12_6 hF
        refine lv_iload hx hb d_Road_goneTo_15 (lv_at hl 3 rfl) ?_
        refine lv_aload_n hx hb d_Road_goneTo_17 rfl (lv_at hl 0 rfl) ?_
        refine va_get (D := G) (ci := 1) (v := .int v_t_size) (C := R_Road) (T := F_Road) (N := 10) hx hb hts i_Road hown hK hP 0 rfl rfl 5 (by decide) (hts _ lk_24) (fun _ h9 => h9) rfl d_Road_goneTo_18 ?_
        refine lv_icmp_ge (tgt := 44) hx hb d_Road_goneTo_21 (by decide) (fun c21_7 => ?_) (fun c21_7 => ?_)
        · have hF := dk_t c21_7 hF
          obtain rfl := Option.some.inj hF
          exact hk ls (lv_sub hl [2] rfl)
        · have hF := dk_f c21_7 hF
          refine lv_iload_n hx hb d_Road_goneTo_24 rfl (lv_at hl 2 rfl) ?_
          refine lv_aload_n hx hb d_Road_goneTo_25 rfl (lv_at hl 0 rfl) ?_
          refine va_get (D := G) (ci := 1) (v := .ref t_seconds) (C := R_Road) (T := F_Road) (N := 10) hx hb hts i_Road hown hK hP 0 rfl rfl 3 (by decide) (hts _ lk_36) (fun _ h9 => h9) rfl d_Road_goneTo_26 ?_
          refine lv_iconst (v := (0 : Int32)) hx hb d_Road_goneTo_29 (by decide) ?_
          refine lv_iload hx hb d_Road_goneTo_30 (lv_at hl 3 rfl) ?_
          obtain ⟨r32_8, hC, hF⟩ := dk_b hF
          refine dk_pure (va_runS (As := [.int (0 : Int32), .int z4]) (rest := [.ref t_seconds, .int z3]) hfix (c_Road_streetAt l G K n (0 : Int32) z4 r32_8 hC) (va_cwS 2 hts (gd_S lk_37 lk_39 lk_29 lk_38) rfl rfl rfl (by decide +kernel) ⟨Nat.le_of_ble_eq_true rfl, Nat.le_of_ble_eq_true rfl⟩) (dk_preS hK hN (hP.sub [] rfl)) rfl rfl hl.1 rfl (lv_room (Nat.le_of_ble_eq_true rfl)) d_Road_goneTo_32 ⟨Nat.le_of_ble_eq_true rfl, Nat.le_of_ble_eq_true rfl⟩) ?_
          obtain ⟨hi, hF⟩ := dk_a hF
          refine va_iald (D := G) hx hb hK hP 1 0 rfl rfl (dk_vp hi) d_Road_goneTo_35 ?_
          refine lv_iadd hx hb d_Road_goneTo_36 ?_
          refine lv_istore_n (lv' := [(3, .int (z3 + (v_t_seconds r32_8.toNatClampNeg))), (0, .ref t), (1, .int z1), (4, .int z4)]) hx hb d_Road_goneTo_37 rfl hl (by decide) rfl (fun ls hl => ?_)
          refine lv_iinc (v := z4 + (1 : Int32)) (lv' := [(4, .int (z4 + (1 : Int32))), (3, .int (z3 + (v_t_seconds r32_8.toNatClampNeg))), (0, .ref t), (1, .int z1)]) hx hb d_Road_goneTo_38 hl (k := 3) rfl rfl (by decide) rfl (fun ls hl => ?_)
          refine lv_goto (tgt := 9) hx hb d_Road_goneTo_41 (by decide) ?_
          exact jh z1 (z3 + (v_t_seconds r32_8.toNatClampNeg)) (z4 + (1 : Int32)) q hF ls (lv_sub hl [2, 3, 1, 0] rfl) hk
  unfold p_Road_goneTo at hF
  refine lv_iconst (v := (0 : Int32)) hx hb d_Road_goneTo_0 (by decide) ?_
  refine lv_istore_n (lv' := [(3, .int (0 : Int32)), (0, .ref t), (1, .int x1), (2, .int x2)]) hx hb d_Road_goneTo_1 rfl hl (by decide) rfl (fun ls hl => ?_)
  refine lv_iload_n hx hb d_Road_goneTo_2 rfl (lv_at hl 3 rfl) ?_
  refine lv_if_ne (tgt := 47) hx hb d_Road_goneTo_3 (by decide) (fun c3_1 => ?_) (fun c3_1 => ?_)
  · have hF := dk_f c3_1 hF
    refine lv_aload_n hx hb d_Road_goneTo_47 rfl (lv_at hl 1 rfl) ?_
    refine va_get (D := G) (ci := 1) (v := .int v_t_size) (C := R_Road) (T := F_Road) (N := 10) hx hb hts i_Road hown hK hP 0 rfl rfl 5 (by decide) (hts _ lk_24) (fun _ h9 => h9) rfl d_Road_goneTo_48 ?_
    refine lv_iconst (v := (1 : Int32)) hx hb d_Road_goneTo_51 (by decide) ?_
    refine lv_isub hx hb d_Road_goneTo_52 ?_
    refine lv_istore (lv' := [(4, .int (v_t_size - (1 : Int32))), (3, .int (0 : Int32)), (0, .ref t), (1, .int x1), (2, .int x2)]) hx hb d_Road_goneTo_53 hl (by decide) rfl (fun ls hl => ?_)
    obtain ⟨q55_5, hC, hF⟩ := dk_b hF
    refine L55 n x1 (0 : Int32) (v_t_size - (1 : Int32)) q55_5 hC ls (lv_sub hl [2, 3, 1, 0] rfl) (fun ls hl => ?_)
    refine lv_iload_n hx hb d_Road_goneTo_86 rfl (lv_at hl 0 rfl) ?_
    obtain rfl := Option.some.inj hF
    exact W.iret (v := q55_5) hx hb hr (fun t ht hW => ⟨rfl, ht⟩) (fun _ h => by cases h) d_Road_goneTo_87
  · have hF := dk_t c3_1 hF
    refine lv_iconst (v := (0 : Int32)) hx hb d_Road_goneTo_6 (by decide) ?_
    refine lv_istore (lv' := [(4, .int (0 : Int32)), (3, .int (0 : Int32)), (0, .ref t), (1, .int x1), (2, .int x2)]) hx hb d_Road_goneTo_7 hl (by decide) rfl (fun ls hl => ?_)
    obtain ⟨q9_9, hC, hF⟩ := dk_b hF
    refine L9 n x1 (0 : Int32) (0 : Int32) q9_9 hC ls (lv_sub hl [2, 3, 1, 0] rfl) (fun ls hl => ?_)
    refine lv_goto (tgt := 86) hx hb d_Road_goneTo_44 (by decide) ?_
    refine lv_iload_n hx hb d_Road_goneTo_86 rfl (lv_at hl 0 rfl) ?_
    obtain rfl := Option.some.inj hF
    exact W.iret (v := q9_9) hx hb hr (fun t ht hW => ⟨rfl, ht⟩) (fun _ h => by cases h) d_Road_goneTo_87
def p_Road_openFrom (n : Nat) (x1 : Int32) (x2 : Int32) (x3 : Int32) (x4 : Int32) (v_t_size : Int32) (v_t_queues : Nat → Int32) (v_t_seconds : Nat → Int32) : Option (Int32) :=
  (p_Road_queueOf n x1 v_t_size v_t_queues).bind fun r3_1 =>
  (p_Road_goneTo n x1 x2 v_t_size v_t_seconds).bind fun r10_2 =>
  (p_WO_wrap n ((x3 + r3_1) - r10_2) x4).bind fun r16_3 =>
  some r16_3
abbrev m_Road_openFrom : Room := { frames := 2, cells := 0, slots := 0, locals := 45 }
set_option maxHeartbeats 4000000 in
set_option maxRecDepth 100000 in
theorem c_Road_openFrom (l : Launch) (G : va_G) (K : Nat → ClassId) (n : Nat) (t : Nat) (t_greens : Nat) (t_leasts : Nat) (t_queues : Nat) (t_seconds : Nat) (t_weights : Nat) (x1 : Int32) (x2 : Int32) (x3 : Int32) (x4 : Int32) (v_t_size : Int32) (v_t_firstCycle : Int32) (v_t_lastCycle : Int32) (v_t_cycleBy : Int32) (v_t_stepSeconds : Int32) (v_t_queues : Nat → Int32) (v_t_seconds : Nat → Int32) (o : Int32) (hF : p_Road_openFrom n x1 x2 x3 x4 v_t_size v_t_queues v_t_seconds = some o) :
    Met l y_Road_openFrom (wd y_Road_openFrom b_Road_openFrom 5 (some .int)) m_Road_openFrom (dk_Pp [.ref t, .int x1, .int x2, .int x3, .int x4] G K [(t, .inr (1, [.ref t_greens, .ref t_leasts, .ref t_queues, .ref t_seconds, .ref t_weights, .int v_t_size, .int v_t_firstCycle, .int v_t_lastCycle, .int v_t_cycleBy, .int v_t_stepSeconds])), (t_queues, .inl (K 0, 5, .inl v_t_queues)), (t_seconds, .inl (K 0, 10, .inl v_t_seconds))]) (dk_Qp (some (.int o))) 0 0 (fun _ => False) := by
  refine Met.ofW (cc := b_Road_openFrom) (maxL := 5) (ret := (some .int)) (by decide) rfl ?_
  intro p e s m args below meth c s₁ B hml hv
  obtain ⟨rfl, hP, hK, hN⟩ := hv
  have hx := B.exec
  have hb := B.bytes
  have hr := B.returns
  have hts : ∀ w ∈ lw_good, w.before _ s = true := fun w h => atoms_spec (ws := wd y_Road_openFrom b_Road_openFrom 5 (some .int)) B.pre w (List.mem_cons_of_mem _ h)
  have hown : s.vm.findClass R_Road = some m.cls := findClass_of_methodNamed B.named
  have hlocks := B.notSynchronized
  have hfix : CallFix p m c b_Road_openFrom 5 s _ lw_good R_Road := ⟨hx, hb, hml, hown, hts⟩
  have hl := lv_entry ([.ref t, .int x1, .int x2, .int x3, .int x4]) (n := 5) (Nat.le_of_ble_eq_true rfl)
  rw [lg_entry_eq]
  generalize (lg_sl ([.ref t, .int x1, .int x2, .int x3, .int x4]) ++ List.replicate (5 - (lg_sl ([.ref t, .int x1, .int x2, .int x3, .int x4])).length) Slot.unset).toArray = ls at hl ⊢
  have hl : lv_has ls 5 [(0, .ref t), (1, .int x1), (2, .int x2), (3, .int x3), (4, .int x4)] := hl
  change W p l e m_Road_openFrom s m _ below meth c s.heap [] 0 0 _ _
  unfold p_Road_openFrom at hF
  refine lv_iload_n hx hb d_Road_openFrom_0 rfl (lv_at hl 3 rfl) ?_
  refine lv_aload_n hx hb d_Road_openFrom_1 rfl (lv_at hl 0 rfl) ?_
  refine lv_iload_n hx hb d_Road_openFrom_2 rfl (lv_at hl 1 rfl) ?_
  obtain ⟨r3_1, hC, hF⟩ := dk_b hF
  refine dk_pure (va_runV (As := [.int x1]) (rest := [.int x3]) hfix (c_Road_queueOf l G K n t t_greens t_leasts t_queues t_seconds t_weights x1 v_t_size v_t_firstCycle v_t_lastCycle v_t_cycleBy v_t_stepSeconds v_t_queues r3_1 hC) (cwV 1 hts (gd_V lk_50 lk_52 lk_53 lk_29 lk_51) rfl rfl rfl (by decide +kernel) ⟨Nat.le_of_ble_eq_true rfl, Nat.le_of_ble_eq_true rfl⟩) (dk_preV hK hN (hP.sub [0, 1] rfl) (va_recv hK hP (ci := 1) (q0 := 0) rfl rfl)) rfl rfl hl.1 rfl (lv_room (Nat.le_of_ble_eq_true rfl)) d_Road_openFrom_3 ⟨Nat.le_of_ble_eq_true rfl, Nat.le_of_ble_eq_true rfl⟩) ?_
  refine lv_iadd hx hb d_Road_openFrom_6 ?_
  refine lv_aload_n hx hb d_Road_openFrom_7 rfl (lv_at hl 0 rfl) ?_
  refine lv_iload_n hx hb d_Road_openFrom_8 rfl (lv_at hl 1 rfl) ?_
  refine lv_iload_n hx hb d_Road_openFrom_9 rfl (lv_at hl 2 rfl) ?_
  obtain ⟨r10_2, hC, hF⟩ := dk_b hF
  refine dk_pure (va_runV (As := [.int x1, .int x2]) (rest := [.int (x3 + r3_1)]) hfix (c_Road_goneTo l G K n t t_greens t_leasts t_queues t_seconds t_weights x1 x2 v_t_size v_t_firstCycle v_t_lastCycle v_t_cycleBy v_t_stepSeconds v_t_seconds r10_2 hC) (cwV 2 hts (gd_V lk_74 lk_76 lk_77 lk_29 lk_75) rfl rfl rfl (by decide +kernel) ⟨Nat.le_of_ble_eq_true rfl, Nat.le_of_ble_eq_true rfl⟩) (dk_preV hK hN (hP.sub [0, 2] rfl) (va_recv hK hP (ci := 1) (q0 := 0) rfl rfl)) rfl rfl hl.1 rfl (lv_room (Nat.le_of_ble_eq_true rfl)) d_Road_openFrom_10 ⟨Nat.le_of_ble_eq_true rfl, Nat.le_of_ble_eq_true rfl⟩) ?_
  refine lv_isub hx hb d_Road_openFrom_13 ?_
  refine lv_iload hx hb d_Road_openFrom_14 (lv_at hl 4 rfl) ?_
  obtain ⟨r16_3, hC, hF⟩ := dk_b hF
  refine dk_pure (va_runSN (As := [.int ((x3 + r3_1) - r10_2), .int x4]) (rest := []) hfix (c_WO_wrap l G K n ((x3 + r3_1) - r10_2) x4 r16_3 hC) (⟨va_cnB 2 hts (gd_w lk_60) rfl rfl rfl (hN.1 _ lk_59) (hts _ lk_16) (by decide +kernel) ⟨Nat.le_of_ble_eq_true rfl, Nat.le_of_ble_eq_true rfl⟩, hts _ lk_61, trivial⟩) (dk_preS hK hN (hP.sub [] rfl)) rfl rfl hl.1 rfl (lv_room (Nat.le_of_ble_eq_true rfl)) d_Road_openFrom_16 ⟨Nat.le_of_ble_eq_true rfl, Nat.le_of_ble_eq_true rfl⟩) ?_
  obtain rfl := Option.some.inj hF
  exact W.iret (v := r16_3) hx hb hr (fun t ht hW => ⟨rfl, ht⟩) (fun _ h => by cases h) d_Road_openFrom_19
def p_Road_stopsBefore (n : Nat) (x1 : Int32) (x2 : Int32) (x3 : Int32) (v_t_size : Int32) (v_t_queues : Nat → Int32) (v_t_seconds : Nat → Int32) (v_t_greens : Nat → Int32) (v_t_weights : Nat → Int32) : Option (Int32) :=
  (p_Road_has n (x1 - (1 : Int32)) v_t_size).bind fun r8_1 =>
  if r8_1 = 0 then
    some (0 : Int32)
  else
    (p_Road_has n x1 v_t_size).bind fun r16_3 =>
    if r16_3 = 0 then
      some (0 : Int32)
    else
      (p_Road_streetAt n (0 : Int32) (x1 - (1 : Int32))).bind fun r27_5 =>
      (p_Road_streetAt n (1 : Int32) x1).bind fun r34_6 =>
      if dk_in x1 5 = true then
        if dk_in (x1 - (1 : Int32)) 5 = true then
          if dk_in r27_5 10 = true then
            (p_WO_wrap n (((x2 + (v_t_queues x1.toNatClampNeg)) - (v_t_queues (x1 - (1 : Int32)).toNatClampNeg)) - (v_t_seconds r27_5.toNatClampNeg)) x3).bind fun r68_7 =>
            if dk_in r34_6 10 = true then
              (p_WO_wrap n ((-((x2 + (v_t_queues x1.toNatClampNeg)) - (v_t_queues (x1 - (1 : Int32)).toNatClampNeg))) - (v_t_seconds r34_6.toNatClampNeg)) x3).bind fun r85_8 =>
              (p_Road_openOf n (x1 - (1 : Int32)) v_t_size v_t_greens v_t_queues).bind fun r93_9 =>
              (p_Road_openOf n x1 v_t_size v_t_greens v_t_queues).bind fun r98_10 =>
              (p_WO_shared n r93_9 r98_10 r68_7 x3).bind fun r104_11 =>
              (p_Road_openOf n x1 v_t_size v_t_greens v_t_queues).bind fun r111_12 =>
              (p_Road_openOf n (x1 - (1 : Int32)) v_t_size v_t_greens v_t_queues).bind fun r117_13 =>
              (p_WO_shared n r111_12 r117_13 r85_8 x3).bind fun r123_14 =>
              if dk_in r27_5 10 = true then
                (p_Road_openOf n (x1 - (1 : Int32)) v_t_size v_t_greens v_t_queues).bind fun r138_15 =>
                if dk_in r34_6 10 = true then
                  (p_Road_openOf n x1 v_t_size v_t_greens v_t_queues).bind fun r154_16 =>
                  some (((v_t_weights r27_5.toNatClampNeg) * (r138_15 - r104_11)) + ((v_t_weights r34_6.toNatClampNeg) * (r154_16 - r123_14)))
                else none
              else none
            else none
          else none
        else none
      else none
abbrev m_Road_stopsBefore : Room := { frames := 3, cells := 0, slots := 0, locals := 63 }
set_option maxHeartbeats 4000000 in
set_option maxRecDepth 100000 in
theorem c_Road_stopsBefore (l : Launch) (G : va_G) (K : Nat → ClassId) (n : Nat) (t : Nat) (t_greens : Nat) (t_leasts : Nat) (t_queues : Nat) (t_seconds : Nat) (t_weights : Nat) (x1 : Int32) (x2 : Int32) (x3 : Int32) (v_t_size : Int32) (v_t_firstCycle : Int32) (v_t_lastCycle : Int32) (v_t_cycleBy : Int32) (v_t_stepSeconds : Int32) (v_t_greens : Nat → Int32) (v_t_queues : Nat → Int32) (v_t_seconds : Nat → Int32) (v_t_weights : Nat → Int32) (o : Int32) (hF : p_Road_stopsBefore n x1 x2 x3 v_t_size v_t_queues v_t_seconds v_t_greens v_t_weights = some o) :
    Met l y_Road_stopsBefore (wd y_Road_stopsBefore b_Road_stopsBefore 12 (some .int)) m_Road_stopsBefore (dk_Pp [.ref t, .int x1, .int x2, .int x3] G K [(t, .inr (1, [.ref t_greens, .ref t_leasts, .ref t_queues, .ref t_seconds, .ref t_weights, .int v_t_size, .int v_t_firstCycle, .int v_t_lastCycle, .int v_t_cycleBy, .int v_t_stepSeconds])), (t_greens, .inl (K 0, 5, .inl v_t_greens)), (t_queues, .inl (K 0, 5, .inl v_t_queues)), (t_seconds, .inl (K 0, 10, .inl v_t_seconds)), (t_weights, .inl (K 0, 10, .inl v_t_weights))]) (dk_Qp (some (.int o))) 0 0 (fun _ => False) := by
  refine Met.ofW (cc := b_Road_stopsBefore) (maxL := 12) (ret := (some .int)) (by decide) rfl ?_
  intro p e s m args below meth c s₁ B hml hv
  obtain ⟨rfl, hP, hK, hN⟩ := hv
  have hx := B.exec
  have hb := B.bytes
  have hr := B.returns
  have hts : ∀ w ∈ lw_good, w.before _ s = true := fun w h => atoms_spec (ws := wd y_Road_stopsBefore b_Road_stopsBefore 12 (some .int)) B.pre w (List.mem_cons_of_mem _ h)
  have hown : s.vm.findClass R_Road = some m.cls := findClass_of_methodNamed B.named
  have hlocks := B.notSynchronized
  have hfix : CallFix p m c b_Road_stopsBefore 12 s _ lw_good R_Road := ⟨hx, hb, hml, hown, hts⟩
  have hl := lv_entry ([.ref t, .int x1, .int x2, .int x3]) (n := 12) (Nat.le_of_ble_eq_true rfl)
  rw [lg_entry_eq]
  generalize (lg_sl ([.ref t, .int x1, .int x2, .int x3]) ++ List.replicate (12 - (lg_sl ([.ref t, .int x1, .int x2, .int x3])).length) Slot.unset).toArray = ls at hl ⊢
  have hl : lv_has ls 12 [(0, .ref t), (1, .int x1), (2, .int x2), (3, .int x3)] := hl
  change W p l e m_Road_stopsBefore s m _ below meth c s.heap [] 0 0 _ _
  unfold p_Road_stopsBefore at hF
  refine lv_iload_n hx hb d_Road_stopsBefore_0 rfl (lv_at hl 1 rfl) ?_
  refine lv_iconst (v := (1 : Int32)) hx hb d_Road_stopsBefore_1 (by decide) ?_
  refine lv_isub hx hb d_Road_stopsBefore_2 ?_
  refine lv_istore (lv' := [(4, .int (x1 - (1 : Int32))), (0, .ref t), (1, .int x1), (2, .int x2), (3, .int x3)]) hx hb d_Road_stopsBefore_3 hl (by decide) rfl (fun ls hl => ?_)
  refine lv_aload_n hx hb d_Road_stopsBefore_5 rfl (lv_at hl 1 rfl) ?_
  refine lv_iload hx hb d_Road_stopsBefore_6 (lv_at hl 0 rfl) ?_
  obtain ⟨r8_1, hC, hF⟩ := dk_b hF
  refine dk_pure (va_runV (As := [.int (x1 - (1 : Int32))]) (rest := []) hfix (c_Road_has l G K n t t_greens t_leasts t_queues t_seconds t_weights (x1 - (1 : Int32)) v_t_size v_t_firstCycle v_t_lastCycle v_t_cycleBy v_t_stepSeconds r8_1 hC) (cwV 1 hts (gd_V lk_32 lk_34 lk_35 lk_29 lk_33) rfl rfl rfl (by decide +kernel) ⟨Nat.le_of_ble_eq_true rfl, Nat.le_of_ble_eq_true rfl⟩) (dk_preV hK hN (hP.sub [0] rfl) (va_recv hK hP (ci := 1) (q0 := 0) rfl rfl)) rfl rfl hl.1 rfl (lv_room (Nat.le_of_ble_eq_true rfl)) d_Road_stopsBefore_8 ⟨Nat.le_of_ble_eq_true rfl, Nat.le_of_ble_eq_true rfl⟩) ?_
  refine lv_if_eq (tgt := 22) hx hb d_Road_stopsBefore_11 (by decide) (fun c11_2 => ?_) (fun c11_2 => ?_)
  · have hF := dk_t c11_2 hF
    refine lv_iconst (v := (0 : Int32)) hx hb d_Road_stopsBefore_22 (by decide) ?_
    obtain rfl := Option.some.inj hF
    exact W.iret (v := (0 : Int32)) hx hb hr (fun t ht hW => ⟨rfl, ht⟩) (fun _ h => by cases h) d_Road_stopsBefore_23
  · have hF := dk_f c11_2 hF
    refine lv_aload_n hx hb d_Road_stopsBefore_14 rfl (lv_at hl 1 rfl) ?_
    refine lv_iload_n hx hb d_Road_stopsBefore_15 rfl (lv_at hl 2 rfl) ?_
    obtain ⟨r16_3, hC, hF⟩ := dk_b hF
    refine dk_pure (va_runV (As := [.int x1]) (rest := []) hfix (c_Road_has l G K n t t_greens t_leasts t_queues t_seconds t_weights x1 v_t_size v_t_firstCycle v_t_lastCycle v_t_cycleBy v_t_stepSeconds r16_3 hC) (cwV 1 hts (gd_V lk_32 lk_34 lk_35 lk_29 lk_33) rfl rfl rfl (by decide +kernel) ⟨Nat.le_of_ble_eq_true rfl, Nat.le_of_ble_eq_true rfl⟩) (dk_preV hK hN (hP.sub [0] rfl) (va_recv hK hP (ci := 1) (q0 := 0) rfl rfl)) rfl rfl hl.1 rfl (lv_room (Nat.le_of_ble_eq_true rfl)) d_Road_stopsBefore_16 ⟨Nat.le_of_ble_eq_true rfl, Nat.le_of_ble_eq_true rfl⟩) ?_
    refine lv_if_ne (tgt := 24) hx hb d_Road_stopsBefore_19 (by decide) (fun c19_4 => ?_) (fun c19_4 => ?_)
    · have hF := dk_f c19_4 hF
      refine lv_iconst (v := (0 : Int32)) hx hb d_Road_stopsBefore_24 (by decide) ?_
      refine lv_iload hx hb d_Road_stopsBefore_25 (lv_at hl 0 rfl) ?_
      obtain ⟨r27_5, hC, hF⟩ := dk_b hF
      refine dk_pure (va_runS (As := [.int (0 : Int32), .int (x1 - (1 : Int32))]) (rest := []) hfix (c_Road_streetAt l G K n (0 : Int32) (x1 - (1 : Int32)) r27_5 hC) (va_cwS 2 hts (gd_S lk_37 lk_39 lk_29 lk_38) rfl rfl rfl (by decide +kernel) ⟨Nat.le_of_ble_eq_true rfl, Nat.le_of_ble_eq_true rfl⟩) (dk_preS hK hN (hP.sub [] rfl)) rfl rfl hl.1 rfl (lv_room (Nat.le_of_ble_eq_true rfl)) d_Road_stopsBefore_27 ⟨Nat.le_of_ble_eq_true rfl, Nat.le_of_ble_eq_true rfl⟩) ?_
      refine lv_istore (lv' := [(5, .int r27_5), (4, .int (x1 - (1 : Int32))), (0, .ref t), (1, .int x1), (2, .int x2), (3, .int x3)]) hx hb d_Road_stopsBefore_30 hl (by decide) rfl (fun ls hl => ?_)
      refine lv_iconst (v := (1 : Int32)) hx hb d_Road_stopsBefore_32 (by decide) ?_
      refine lv_iload_n hx hb d_Road_stopsBefore_33 rfl (lv_at hl 3 rfl) ?_
      obtain ⟨r34_6, hC, hF⟩ := dk_b hF
      refine dk_pure (va_runS (As := [.int (1 : Int32), .int x1]) (rest := []) hfix (c_Road_streetAt l G K n (1 : Int32) x1 r34_6 hC) (va_cwS 2 hts (gd_S lk_37 lk_39 lk_29 lk_38) rfl rfl rfl (by decide +kernel) ⟨Nat.le_of_ble_eq_true rfl, Nat.le_of_ble_eq_true rfl⟩) (dk_preS hK hN (hP.sub [] rfl)) rfl rfl hl.1 rfl (lv_room (Nat.le_of_ble_eq_true rfl)) d_Road_stopsBefore_34 ⟨Nat.le_of_ble_eq_true rfl, Nat.le_of_ble_eq_true rfl⟩) ?_
      refine lv_istore (lv' := [(6, .int r34_6), (5, .int r27_5), (4, .int (x1 - (1 : Int32))), (0, .ref t), (1, .int x1), (2, .int x2), (3, .int x3)]) hx hb d_Road_stopsBefore_37 hl (by decide) rfl (fun ls hl => ?_)
      refine lv_iload_n hx hb d_Road_stopsBefore_39 rfl (lv_at hl 5 rfl) ?_
      refine lv_aload_n hx hb d_Road_stopsBefore_40 rfl (lv_at hl 3 rfl) ?_
      refine va_get (D := G) (ci := 1) (v := .ref t_queues) (C := R_Road) (T := F_Road) (N := 10) hx hb hts i_Road hown hK hP 0 rfl rfl 2 (by decide) (hts _ lk_41) (fun _ h9 => h9) rfl d_Road_stopsBefore_41 ?_
      refine lv_iload_n hx hb d_Road_stopsBefore_44 rfl (lv_at hl 4 rfl) ?_
      obtain ⟨hi, hF⟩ := dk_a hF
      refine va_iald (D := G) hx hb hK hP 2 0 rfl rfl (dk_vp hi) d_Road_stopsBefore_45 ?_
      refine lv_iadd hx hb d_Road_stopsBefore_46 ?_
      refine lv_aload_n hx hb d_Road_stopsBefore_47 rfl (lv_at hl 3 rfl) ?_
      refine va_get (D := G) (ci := 1) (v := .ref t_queues) (C := R_Road) (T := F_Road) (N := 10) hx hb hts i_Road hown hK hP 0 rfl rfl 2 (by decide) (hts _ lk_41) (fun _ h9 => h9) rfl d_Road_stopsBefore_48 ?_
      refine lv_iload hx hb d_Road_stopsBefore_51 (lv_at hl 2 rfl) ?_
      obtain ⟨hi, hF⟩ := dk_a hF
      refine va_iald (D := G) hx hb hK hP 2 0 rfl rfl (dk_vp hi) d_Road_stopsBefore_53 ?_
      refine lv_isub hx hb d_Road_stopsBefore_54 ?_
      refine lv_istore (lv' := [(7, .int ((x2 + (v_t_queues x1.toNatClampNeg)) - (v_t_queues (x1 - (1 : Int32)).toNatClampNeg))), (6, .int r34_6), (5, .int r27_5), (4, .int (x1 - (1 : Int32))), (0, .ref t), (1, .int x1), (2, .int x2), (3, .int x3)]) hx hb d_Road_stopsBefore_55 hl (by decide) rfl (fun ls hl => ?_)
      refine lv_iload hx hb d_Road_stopsBefore_57 (lv_at hl 0 rfl) ?_
      refine lv_aload_n hx hb d_Road_stopsBefore_59 rfl (lv_at hl 4 rfl) ?_
      refine va_get (D := G) (ci := 1) (v := .ref t_seconds) (C := R_Road) (T := F_Road) (N := 10) hx hb hts i_Road hown hK hP 0 rfl rfl 3 (by decide) (hts _ lk_36) (fun _ h9 => h9) rfl d_Road_stopsBefore_60 ?_
      refine lv_iload hx hb d_Road_stopsBefore_63 (lv_at hl 2 rfl) ?_
      obtain ⟨hi, hF⟩ := dk_a hF
      refine va_iald (D := G) hx hb hK hP 3 0 rfl rfl (dk_vp hi) d_Road_stopsBefore_65 ?_
      refine lv_isub hx hb d_Road_stopsBefore_66 ?_
      refine lv_iload_n hx hb d_Road_stopsBefore_67 rfl (lv_at hl 7 rfl) ?_
      obtain ⟨r68_7, hC, hF⟩ := dk_b hF
      refine dk_pure (va_runSN (As := [.int (((x2 + (v_t_queues x1.toNatClampNeg)) - (v_t_queues (x1 - (1 : Int32)).toNatClampNeg)) - (v_t_seconds r27_5.toNatClampNeg)), .int x3]) (rest := []) hfix (c_WO_wrap l G K n (((x2 + (v_t_queues x1.toNatClampNeg)) - (v_t_queues (x1 - (1 : Int32)).toNatClampNeg)) - (v_t_seconds r27_5.toNatClampNeg)) x3 r68_7 hC) (⟨va_cnB 2 hts (gd_w lk_60) rfl rfl rfl (hN.1 _ lk_59) (hts _ lk_16) (by decide +kernel) ⟨Nat.le_of_ble_eq_true rfl, Nat.le_of_ble_eq_true rfl⟩, hts _ lk_61, trivial⟩) (dk_preS hK hN (hP.sub [] rfl)) rfl rfl hl.1 rfl (lv_room (Nat.le_of_ble_eq_true rfl)) d_Road_stopsBefore_68 ⟨Nat.le_of_ble_eq_true rfl, Nat.le_of_ble_eq_true rfl⟩) ?_
      refine lv_istore (lv' := [(8, .int r68_7), (7, .int ((x2 + (v_t_queues x1.toNatClampNeg)) - (v_t_queues (x1 - (1 : Int32)).toNatClampNeg))), (6, .int r34_6), (5, .int r27_5), (4, .int (x1 - (1 : Int32))), (0, .ref t), (1, .int x1), (2, .int x2), (3, .int x3)]) hx hb d_Road_stopsBefore_71 hl (by decide) rfl (fun ls hl => ?_)
      refine lv_iload hx hb d_Road_stopsBefore_73 (lv_at hl 1 rfl) ?_
      refine lv_ineg hx hb d_Road_stopsBefore_75 ?_
      refine lv_aload_n hx hb d_Road_stopsBefore_76 rfl (lv_at hl 5 rfl) ?_
      refine va_get (D := G) (ci := 1) (v := .ref t_seconds) (C := R_Road) (T := F_Road) (N := 10) hx hb hts i_Road hown hK hP 0 rfl rfl 3 (by decide) (hts _ lk_36) (fun _ h9 => h9) rfl d_Road_stopsBefore_77 ?_
      refine lv_iload hx hb d_Road_stopsBefore_80 (lv_at hl 2 rfl) ?_
      obtain ⟨hi, hF⟩ := dk_a hF
      refine va_iald (D := G) hx hb hK hP 3 0 rfl rfl (dk_vp hi) d_Road_stopsBefore_82 ?_
      refine lv_isub hx hb d_Road_stopsBefore_83 ?_
      refine lv_iload_n hx hb d_Road_stopsBefore_84 rfl (lv_at hl 8 rfl) ?_
      obtain ⟨r85_8, hC, hF⟩ := dk_b hF
      refine dk_pure (va_runSN (As := [.int ((-((x2 + (v_t_queues x1.toNatClampNeg)) - (v_t_queues (x1 - (1 : Int32)).toNatClampNeg))) - (v_t_seconds r34_6.toNatClampNeg)), .int x3]) (rest := []) hfix (c_WO_wrap l G K n ((-((x2 + (v_t_queues x1.toNatClampNeg)) - (v_t_queues (x1 - (1 : Int32)).toNatClampNeg))) - (v_t_seconds r34_6.toNatClampNeg)) x3 r85_8 hC) (⟨va_cnB 2 hts (gd_w lk_60) rfl rfl rfl (hN.1 _ lk_59) (hts _ lk_16) (by decide +kernel) ⟨Nat.le_of_ble_eq_true rfl, Nat.le_of_ble_eq_true rfl⟩, hts _ lk_61, trivial⟩) (dk_preS hK hN (hP.sub [] rfl)) rfl rfl hl.1 rfl (lv_room (Nat.le_of_ble_eq_true rfl)) d_Road_stopsBefore_85 ⟨Nat.le_of_ble_eq_true rfl, Nat.le_of_ble_eq_true rfl⟩) ?_
      refine lv_istore (lv' := [(9, .int r85_8), (8, .int r68_7), (7, .int ((x2 + (v_t_queues x1.toNatClampNeg)) - (v_t_queues (x1 - (1 : Int32)).toNatClampNeg))), (6, .int r34_6), (5, .int r27_5), (4, .int (x1 - (1 : Int32))), (0, .ref t), (1, .int x1), (2, .int x2), (3, .int x3)]) hx hb d_Road_stopsBefore_88 hl (by decide) rfl (fun ls hl => ?_)
      refine lv_aload_n hx hb d_Road_stopsBefore_90 rfl (lv_at hl 6 rfl) ?_
      refine lv_iload hx hb d_Road_stopsBefore_91 (lv_at hl 5 rfl) ?_
      obtain ⟨r93_9, hC, hF⟩ := dk_b hF
      refine dk_pure (va_runV (As := [.int (x1 - (1 : Int32))]) (rest := []) hfix (c_Road_openOf l G K n t t_greens t_leasts t_queues t_seconds t_weights (x1 - (1 : Int32)) v_t_size v_t_firstCycle v_t_lastCycle v_t_cycleBy v_t_stepSeconds v_t_greens v_t_queues r93_9 hC) (cwV 1 hts (gd_V lk_54 lk_56 lk_57 lk_29 lk_55) rfl rfl rfl (by decide +kernel) ⟨Nat.le_of_ble_eq_true rfl, Nat.le_of_ble_eq_true rfl⟩) (dk_preV hK hN (hP.sub [0, 1, 2] rfl) (va_recv hK hP (ci := 1) (q0 := 0) rfl rfl)) rfl rfl hl.1 rfl (lv_room (Nat.le_of_ble_eq_true rfl)) d_Road_stopsBefore_93 ⟨Nat.le_of_ble_eq_true rfl, Nat.le_of_ble_eq_true rfl⟩) ?_
      refine lv_aload_n hx hb d_Road_stopsBefore_96 rfl (lv_at hl 6 rfl) ?_
      refine lv_iload_n hx hb d_Road_stopsBefore_97 rfl (lv_at hl 7 rfl) ?_
      obtain ⟨r98_10, hC, hF⟩ := dk_b hF
      refine dk_pure (va_runV (As := [.int x1]) (rest := [.int r93_9]) hfix (c_Road_openOf l G K n t t_greens t_leasts t_queues t_seconds t_weights x1 v_t_size v_t_firstCycle v_t_lastCycle v_t_cycleBy v_t_stepSeconds v_t_greens v_t_queues r98_10 hC) (cwV 1 hts (gd_V lk_54 lk_56 lk_57 lk_29 lk_55) rfl rfl rfl (by decide +kernel) ⟨Nat.le_of_ble_eq_true rfl, Nat.le_of_ble_eq_true rfl⟩) (dk_preV hK hN (hP.sub [0, 1, 2] rfl) (va_recv hK hP (ci := 1) (q0 := 0) rfl rfl)) rfl rfl hl.1 rfl (lv_room (Nat.le_of_ble_eq_true rfl)) d_Road_stopsBefore_98 ⟨Nat.le_of_ble_eq_true rfl, Nat.le_of_ble_eq_true rfl⟩) ?_
      refine lv_iload hx hb d_Road_stopsBefore_101 (lv_at hl 1 rfl) ?_
      refine lv_iload_n hx hb d_Road_stopsBefore_103 rfl (lv_at hl 9 rfl) ?_
      obtain ⟨r104_11, hC, hF⟩ := dk_b hF
      refine dk_pure (va_runSN (As := [.int r93_9, .int r98_10, .int r68_7, .int x3]) (rest := []) hfix (c_WO_shared l G K n r93_9 r98_10 r68_7 x3 r104_11 hC) (⟨va_cnB 4 hts (gd_w lk_79) rfl rfl rfl (hN.1 _ lk_78) (hts _ lk_16) (by decide +kernel) ⟨Nat.le_of_ble_eq_true rfl, Nat.le_of_ble_eq_true rfl⟩, hts _ lk_80, trivial⟩) (dk_preS hK hN (hP.sub [] rfl)) rfl rfl hl.1 rfl (lv_room (Nat.le_of_ble_eq_true rfl)) d_Road_stopsBefore_104 ⟨Nat.le_of_ble_eq_true rfl, Nat.le_of_ble_eq_true rfl⟩) ?_
      refine lv_istore (lv' := [(10, .int r104_11), (9, .int r85_8), (8, .int r68_7), (7, .int ((x2 + (v_t_queues x1.toNatClampNeg)) - (v_t_queues (x1 - (1 : Int32)).toNatClampNeg))), (6, .int r34_6), (5, .int r27_5), (4, .int (x1 - (1 : Int32))), (0, .ref t), (1, .int x1), (2, .int x2), (3, .int x3)]) hx hb d_Road_stopsBefore_107 hl (by decide) rfl (fun ls hl => ?_)
      refine lv_aload_n hx hb d_Road_stopsBefore_109 rfl (lv_at hl 7 rfl) ?_
      refine lv_iload_n hx hb d_Road_stopsBefore_110 rfl (lv_at hl 8 rfl) ?_
      obtain ⟨r111_12, hC, hF⟩ := dk_b hF
      refine dk_pure (va_runV (As := [.int x1]) (rest := []) hfix (c_Road_openOf l G K n t t_greens t_leasts t_queues t_seconds t_weights x1 v_t_size v_t_firstCycle v_t_lastCycle v_t_cycleBy v_t_stepSeconds v_t_greens v_t_queues r111_12 hC) (cwV 1 hts (gd_V lk_54 lk_56 lk_57 lk_29 lk_55) rfl rfl rfl (by decide +kernel) ⟨Nat.le_of_ble_eq_true rfl, Nat.le_of_ble_eq_true rfl⟩) (dk_preV hK hN (hP.sub [0, 1, 2] rfl) (va_recv hK hP (ci := 1) (q0 := 0) rfl rfl)) rfl rfl hl.1 rfl (lv_room (Nat.le_of_ble_eq_true rfl)) d_Road_stopsBefore_111 ⟨Nat.le_of_ble_eq_true rfl, Nat.le_of_ble_eq_true rfl⟩) ?_
      refine lv_aload_n hx hb d_Road_stopsBefore_114 rfl (lv_at hl 7 rfl) ?_
      refine lv_iload hx hb d_Road_stopsBefore_115 (lv_at hl 6 rfl) ?_
      obtain ⟨r117_13, hC, hF⟩ := dk_b hF
      refine dk_pure (va_runV (As := [.int (x1 - (1 : Int32))]) (rest := [.int r111_12]) hfix (c_Road_openOf l G K n t t_greens t_leasts t_queues t_seconds t_weights (x1 - (1 : Int32)) v_t_size v_t_firstCycle v_t_lastCycle v_t_cycleBy v_t_stepSeconds v_t_greens v_t_queues r117_13 hC) (cwV 1 hts (gd_V lk_54 lk_56 lk_57 lk_29 lk_55) rfl rfl rfl (by decide +kernel) ⟨Nat.le_of_ble_eq_true rfl, Nat.le_of_ble_eq_true rfl⟩) (dk_preV hK hN (hP.sub [0, 1, 2] rfl) (va_recv hK hP (ci := 1) (q0 := 0) rfl rfl)) rfl rfl hl.1 rfl (lv_room (Nat.le_of_ble_eq_true rfl)) d_Road_stopsBefore_117 ⟨Nat.le_of_ble_eq_true rfl, Nat.le_of_ble_eq_true rfl⟩) ?_
      refine lv_iload hx hb d_Road_stopsBefore_120 (lv_at hl 1 rfl) ?_
      refine lv_iload_n hx hb d_Road_stopsBefore_122 rfl (lv_at hl 10 rfl) ?_
      obtain ⟨r123_14, hC, hF⟩ := dk_b hF
      refine dk_pure (va_runSN (As := [.int r111_12, .int r117_13, .int r85_8, .int x3]) (rest := []) hfix (c_WO_shared l G K n r111_12 r117_13 r85_8 x3 r123_14 hC) (⟨va_cnB 4 hts (gd_w lk_79) rfl rfl rfl (hN.1 _ lk_78) (hts _ lk_16) (by decide +kernel) ⟨Nat.le_of_ble_eq_true rfl, Nat.le_of_ble_eq_true rfl⟩, hts _ lk_80, trivial⟩) (dk_preS hK hN (hP.sub [] rfl)) rfl rfl hl.1 rfl (lv_room (Nat.le_of_ble_eq_true rfl)) d_Road_stopsBefore_123 ⟨Nat.le_of_ble_eq_true rfl, Nat.le_of_ble_eq_true rfl⟩) ?_
      refine lv_istore (lv' := [(11, .int r123_14), (10, .int r104_11), (9, .int r85_8), (8, .int r68_7), (7, .int ((x2 + (v_t_queues x1.toNatClampNeg)) - (v_t_queues (x1 - (1 : Int32)).toNatClampNeg))), (6, .int r34_6), (5, .int r27_5), (4, .int (x1 - (1 : Int32))), (0, .ref t), (1, .int x1), (2, .int x2), (3, .int x3)]) hx hb d_Road_stopsBefore_126 hl (by decide) rfl (fun ls hl => ?_)
      refine lv_aload_n hx hb d_Road_stopsBefore_128 rfl (lv_at hl 8 rfl) ?_
      refine va_get (D := G) (ci := 1) (v := .ref t_weights) (C := R_Road) (T := F_Road) (N := 10) hx hb hts i_Road hown hK hP 0 rfl rfl 4 (by decide) (hts _ lk_40) (fun _ h9 => h9) rfl d_Road_stopsBefore_129 ?_
      refine lv_iload hx hb d_Road_stopsBefore_132 (lv_at hl 6 rfl) ?_
      obtain ⟨hi, hF⟩ := dk_a hF
      refine va_iald (D := G) hx hb hK hP 4 0 rfl rfl (dk_vp hi) d_Road_stopsBefore_134 ?_
      refine lv_aload_n hx hb d_Road_stopsBefore_135 rfl (lv_at hl 8 rfl) ?_
      refine lv_iload hx hb d_Road_stopsBefore_136 (lv_at hl 7 rfl) ?_
      obtain ⟨r138_15, hC, hF⟩ := dk_b hF
      refine dk_pure (va_runV (As := [.int (x1 - (1 : Int32))]) (rest := [.int (v_t_weights r27_5.toNatClampNeg)]) hfix (c_Road_openOf l G K n t t_greens t_leasts t_queues t_seconds t_weights (x1 - (1 : Int32)) v_t_size v_t_firstCycle v_t_lastCycle v_t_cycleBy v_t_stepSeconds v_t_greens v_t_queues r138_15 hC) (cwV 1 hts (gd_V lk_54 lk_56 lk_57 lk_29 lk_55) rfl rfl rfl (by decide +kernel) ⟨Nat.le_of_ble_eq_true rfl, Nat.le_of_ble_eq_true rfl⟩) (dk_preV hK hN (hP.sub [0, 1, 2] rfl) (va_recv hK hP (ci := 1) (q0 := 0) rfl rfl)) rfl rfl hl.1 rfl (lv_room (Nat.le_of_ble_eq_true rfl)) d_Road_stopsBefore_138 ⟨Nat.le_of_ble_eq_true rfl, Nat.le_of_ble_eq_true rfl⟩) ?_
      refine lv_iload hx hb d_Road_stopsBefore_141 (lv_at hl 1 rfl) ?_
      refine lv_isub hx hb d_Road_stopsBefore_143 ?_
      refine lv_imul hx hb d_Road_stopsBefore_144 ?_
      refine lv_aload_n hx hb d_Road_stopsBefore_145 rfl (lv_at hl 8 rfl) ?_
      refine va_get (D := G) (ci := 1) (v := .ref t_weights) (C := R_Road) (T := F_Road) (N := 10) hx hb hts i_Road hown hK hP 0 rfl rfl 4 (by decide) (hts _ lk_40) (fun _ h9 => h9) rfl d_Road_stopsBefore_146 ?_
      refine lv_iload hx hb d_Road_stopsBefore_149 (lv_at hl 5 rfl) ?_
      obtain ⟨hi, hF⟩ := dk_a hF
      refine va_iald (D := G) hx hb hK hP 4 0 rfl rfl (dk_vp hi) d_Road_stopsBefore_151 ?_
      refine lv_aload_n hx hb d_Road_stopsBefore_152 rfl (lv_at hl 8 rfl) ?_
      refine lv_iload_n hx hb d_Road_stopsBefore_153 rfl (lv_at hl 9 rfl) ?_
      obtain ⟨r154_16, hC, hF⟩ := dk_b hF
      refine dk_pure (va_runV (As := [.int x1]) (rest := [.int (v_t_weights r34_6.toNatClampNeg), .int ((v_t_weights r27_5.toNatClampNeg) * (r138_15 - r104_11))]) hfix (c_Road_openOf l G K n t t_greens t_leasts t_queues t_seconds t_weights x1 v_t_size v_t_firstCycle v_t_lastCycle v_t_cycleBy v_t_stepSeconds v_t_greens v_t_queues r154_16 hC) (cwV 1 hts (gd_V lk_54 lk_56 lk_57 lk_29 lk_55) rfl rfl rfl (by decide +kernel) ⟨Nat.le_of_ble_eq_true rfl, Nat.le_of_ble_eq_true rfl⟩) (dk_preV hK hN (hP.sub [0, 1, 2] rfl) (va_recv hK hP (ci := 1) (q0 := 0) rfl rfl)) rfl rfl hl.1 rfl (lv_room (Nat.le_of_ble_eq_true rfl)) d_Road_stopsBefore_154 ⟨Nat.le_of_ble_eq_true rfl, Nat.le_of_ble_eq_true rfl⟩) ?_
      refine lv_iload hx hb d_Road_stopsBefore_157 (lv_at hl 0 rfl) ?_
      refine lv_isub hx hb d_Road_stopsBefore_159 ?_
      refine lv_imul hx hb d_Road_stopsBefore_160 ?_
      refine lv_iadd hx hb d_Road_stopsBefore_161 ?_
      obtain rfl := Option.some.inj hF
      exact W.iret (v := ((v_t_weights r27_5.toNatClampNeg) * (r138_15 - r104_11)) + ((v_t_weights r34_6.toNatClampNeg) * (r154_16 - r123_14))) hx hb hr (fun t ht hW => ⟨rfl, ht⟩) (fun _ h => by cases h) d_Road_stopsBefore_162
    · have hF := dk_t c19_4 hF
      refine lv_iconst (v := (0 : Int32)) hx hb d_Road_stopsBefore_22 (by decide) ?_
      obtain rfl := Option.some.inj hF
      exact W.iret (v := (0 : Int32)) hx hb hr (fun t ht hW => ⟨rfl, ht⟩) (fun _ h => by cases h) d_Road_stopsBefore_23
