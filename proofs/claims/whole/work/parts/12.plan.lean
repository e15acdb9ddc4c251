theorem d_Plan_isMade_0 : decode b_Plan_isMade 0 = .ok (.aload_n 0, 1) := by decide +kernel
theorem d_Plan_isMade_1 : decode b_Plan_isMade 1 = .ok (.getfield 15, 3) := by decide +kernel
theorem d_Plan_isMade_4 : decode b_Plan_isMade 4 = .ok (.ifCond .le 7, 3) := by decide +kernel
theorem d_Plan_isMade_7 : decode b_Plan_isMade 7 = .ok (.iconst 1, 1) := by decide +kernel
theorem d_Plan_isMade_8 : decode b_Plan_isMade 8 = .ok (.goto 4, 3) := by decide +kernel
theorem d_Plan_isMade_11 : decode b_Plan_isMade 11 = .ok (.iconst 0, 1) := by decide +kernel
theorem d_Plan_isMade_12 : decode b_Plan_isMade 12 = .ok (.ireturn, 1) := by decide +kernel
theorem d_Plan_clear_0 : decode b_Plan_clear 0 = .ok (.aload_n 0, 1) := by decide +kernel
theorem d_Plan_clear_1 : decode b_Plan_clear 1 = .ok (.iconst 0, 1) := by decide +kernel
theorem d_Plan_clear_2 : decode b_Plan_clear 2 = .ok (.putfield 15, 3) := by decide +kernel
theorem d_Plan_clear_5 : decode b_Plan_clear 5 = .ok (.return_, 1) := by decide +kernel
theorem d_Plan_offsetOf_0 : decode b_Plan_offsetOf 0 = .ok (.iload_n 1, 1) := by decide +kernel
theorem d_Plan_offsetOf_1 : decode b_Plan_offsetOf 1 = .ok (.ifCond .lt 17, 3) := by decide +kernel
theorem d_Plan_offsetOf_4 : decode b_Plan_offsetOf 4 = .ok (.iload_n 1, 1) := by decide +kernel
theorem d_Plan_offsetOf_5 : decode b_Plan_offsetOf 5 = .ok (.iconst 5, 1) := by decide +kernel
theorem d_Plan_offsetOf_6 : decode b_Plan_offsetOf 6 = .ok (.if_icmp .ge 12, 3) := by decide +kernel
theorem d_Plan_offsetOf_9 : decode b_Plan_offsetOf 9 = .ok (.aload_n 0, 1) := by decide +kernel
theorem d_Plan_offsetOf_10 : decode b_Plan_offsetOf 10 = .ok (.getfield 9, 3) := by decide +kernel
theorem d_Plan_offsetOf_13 : decode b_Plan_offsetOf 13 = .ok (.iload_n 1, 1) := by decide +kernel
theorem d_Plan_offsetOf_14 : decode b_Plan_offsetOf 14 = .ok (.iaload, 1) := by decide +kernel
theorem d_Plan_offsetOf_15 : decode b_Plan_offsetOf 15 = .ok (.goto 4, 3) := by decide +kernel
theorem d_Plan_offsetOf_18 : decode b_Plan_offsetOf 18 = .ok (.iconst 0, 1) := by decide +kernel
theorem d_Plan_offsetOf_19 : decode b_Plan_offsetOf 19 = .ok (.ireturn, 1) := by decide +kernel
theorem d_Plan_set_0 : decode b_Plan_set 0 = .ok (.aload_n 0, 1) := by decide +kernel
theorem d_Plan_set_1 : decode b_Plan_set 1 = .ok (.iload_n 1, 1) := by decide +kernel
theorem d_Plan_set_2 : decode b_Plan_set 2 = .ok (.putfield 15, 3) := by decide +kernel
theorem d_Plan_set_5 : decode b_Plan_set 5 = .ok (.aload_n 0, 1) := by decide +kernel
theorem d_Plan_set_6 : decode b_Plan_set 6 = .ok (.iload_n 2, 1) := by decide +kernel
theorem d_Plan_set_7 : decode b_Plan_set 7 = .ok (.putfield 19, 3) := by decide +kernel
theorem d_Plan_set_10 : decode b_Plan_set 10 = .ok (.iconst 0, 1) := by decide +kernel
theorem d_Plan_set_11 : decode b_Plan_set 11 = .ok (.istore 4, 2) := by decide +kernel
theorem d_Plan_set_13 : decode b_Plan_set 13 = .ok (.iload 4, 2) := by decide +kernel
theorem d_Plan_set_15 : decode b_Plan_set 15 = .ok (.iconst 5, 1) := by decide +kernel
theorem d_Plan_set_16 : decode b_Plan_set 16 = .ok (.if_icmp .ge 27, 3) := by decide +kernel
theorem d_Plan_set_19 : decode b_Plan_set 19 = .ok (.iload 4, 2) := by decide +kernel
theorem d_Plan_set_21 : decode b_Plan_set 21 = .ok (.aload_n 3, 1) := by decide +kernel
theorem d_Plan_set_22 : decode b_Plan_set 22 = .ok (.arraylength, 1) := by decide +kernel
theorem d_Plan_set_23 : decode b_Plan_set 23 = .ok (.if_icmp .ge 20, 3) := by decide +kernel
theorem d_Plan_set_26 : decode b_Plan_set 26 = .ok (.aload_n 0, 1) := by decide +kernel
theorem d_Plan_set_27 : decode b_Plan_set 27 = .ok (.getfield 9, 3) := by decide +kernel
theorem d_Plan_set_30 : decode b_Plan_set 30 = .ok (.iload 4, 2) := by decide +kernel
theorem d_Plan_set_32 : decode b_Plan_set 32 = .ok (.aload_n 3, 1) := by decide +kernel
theorem d_Plan_set_33 : decode b_Plan_set 33 = .ok (.iload 4, 2) := by decide +kernel
theorem d_Plan_set_35 : decode b_Plan_set 35 = .ok (.iaload, 1) := by decide +kernel
theorem d_Plan_set_36 : decode b_Plan_set 36 = .ok (.iastore, 1) := by decide +kernel
theorem d_Plan_set_37 : decode b_Plan_set 37 = .ok (.iinc 4 1, 3) := by decide +kernel
theorem d_Plan_set_40 : decode b_Plan_set 40 = .ok (.goto (-27), 3) := by decide +kernel
theorem d_Plan_set_43 : decode b_Plan_set 43 = .ok (.return_, 1) := by decide +kernel
theorem d_Plan_turnsTo_0 : decode b_Plan_turnsTo 0 = .ok (.iconst 0, 1) := by decide +kernel
theorem d_Plan_turnsTo_1 : decode b_Plan_turnsTo 1 = .ok (.istore_n 2, 1) := by decide +kernel
theorem d_Plan_turnsTo_2 : decode b_Plan_turnsTo 2 = .ok (.iconst 0, 1) := by decide +kernel
theorem d_Plan_turnsTo_3 : decode b_Plan_turnsTo 3 = .ok (.istore_n 3, 1) := by decide +kernel
theorem d_Plan_turnsTo_4 : decode b_Plan_turnsTo 4 = .ok (.iload_n 3, 1) := by decide +kernel
theorem d_Plan_turnsTo_5 : decode b_Plan_turnsTo 5 = .ok (.aload_n 0, 1) := by decide +kernel
theorem d_Plan_turnsTo_6 : decode b_Plan_turnsTo 6 = .ok (.getfield 19, 3) := by decide +kernel
theorem d_Plan_turnsTo_9 : decode b_Plan_turnsTo 9 = .ok (.if_icmp .ge 51, 3) := by decide +kernel
theorem d_Plan_turnsTo_12 : decode b_Plan_turnsTo 12 = .ok (.iload_n 3, 1) := by decide +kernel
theorem d_Plan_turnsTo_13 : decode b_Plan_turnsTo 13 = .ok (.iconst 5, 1) := by decide +kernel
theorem d_Plan_turnsTo_14 : decode b_Plan_turnsTo 14 = .ok (.if_icmp .ge 46, 3) := by decide +kernel
theorem d_Plan_turnsTo_17 : decode b_Plan_turnsTo 17 = .ok (.aload_n 1, 1) := by decide +kernel
theorem d_Plan_turnsTo_18 : decode b_Plan_turnsTo 18 = .ok (.getfield 9, 3) := by decide +kernel
theorem d_Plan_turnsTo_21 : decode b_Plan_turnsTo 21 = .ok (.iload_n 3, 1) := by decide +kernel
theorem d_Plan_turnsTo_22 : decode b_Plan_turnsTo 22 = .ok (.iaload, 1) := by decide +kernel
theorem d_Plan_turnsTo_23 : decode b_Plan_turnsTo 23 = .ok (.aload_n 0, 1) := by decide +kernel
theorem d_Plan_turnsTo_24 : decode b_Plan_turnsTo 24 = .ok (.getfield 9, 3) := by decide +kernel
theorem d_Plan_turnsTo_27 : decode b_Plan_turnsTo 27 = .ok (.iload_n 3, 1) := by decide +kernel
theorem d_Plan_turnsTo_28 : decode b_Plan_turnsTo 28 = .ok (.iaload, 1) := by decide +kernel
theorem d_Plan_turnsTo_29 : decode b_Plan_turnsTo 29 = .ok (.isub, 1) := by decide +kernel
theorem d_Plan_turnsTo_30 : decode b_Plan_turnsTo 30 = .ok (.aload_n 1, 1) := by decide +kernel
theorem d_Plan_turnsTo_31 : decode b_Plan_turnsTo 31 = .ok (.getfield 15, 3) := by decide +kernel
theorem d_Plan_turnsTo_34 : decode b_Plan_turnsTo 34 = .ok (.invokestatic 22, 3) := by decide +kernel
theorem d_Plan_turnsTo_37 : decode b_Plan_turnsTo 37 = .ok (.istore 4, 2) := by decide +kernel
theorem d_Plan_turnsTo_39 : decode b_Plan_turnsTo 39 = .ok (.iload_n 2, 1) := by decide +kernel
theorem d_Plan_turnsTo_40 : decode b_Plan_turnsTo 40 = .ok (.iload 4, 2) := by decide +kernel
theorem d_Plan_turnsTo_42 : decode b_Plan_turnsTo 42 = .ok (.aload_n 1, 1) := by decide +kernel
theorem d_Plan_turnsTo_43 : decode b_Plan_turnsTo 43 = .ok (.getfield 15, 3) := by decide +kernel
theorem d_Plan_turnsTo_46 : decode b_Plan_turnsTo 46 = .ok (.iload 4, 2) := by decide +kernel
theorem d_Plan_turnsTo_48 : decode b_Plan_turnsTo 48 = .ok (.isub, 1) := by decide +kernel
theorem d_Plan_turnsTo_49 : decode b_Plan_turnsTo 49 = .ok (.invokestatic 26, 3) := by decide +kernel
theorem d_Plan_turnsTo_52 : decode b_Plan_turnsTo 52 = .ok (.iadd, 1) := by decide +kernel
theorem d_Plan_turnsTo_53 : decode b_Plan_turnsTo 53 = .ok (.istore_n 2, 1) := by decide +kernel
theorem d_Plan_turnsTo_54 : decode b_Plan_turnsTo 54 = .ok (.iinc 3 1, 3) := by decide +kernel
theorem d_Plan_turnsTo_57 : decode b_Plan_turnsTo 57 = .ok (.goto (-53), 3) := by decide +kernel
theorem d_Plan_turnsTo_60 : decode b_Plan_turnsTo 60 = .ok (.iload_n 2, 1) := by decide +kernel
theorem d_Plan_turnsTo_61 : decode b_Plan_turnsTo 61 = .ok (.ireturn, 1) := by decide +kernel
theorem d_Arr_told_0 : decode b_Arr_told 0 = .ok (.aload_n 0, 1) := by decide +kernel
theorem d_Arr_told_1 : decode b_Arr_told 1 = .ok (.getfield 21, 3) := by decide +kernel
theorem d_Arr_told_4 : decode b_Arr_told 4 = .ok (.ireturn, 1) := by decide +kernel
theorem d_Arr_add_0 : decode b_Arr_add 0 = .ok (.aload_n 0, 1) := by decide +kernel
theorem d_Arr_add_1 : decode b_Arr_add 1 = .ok (.getfield 21, 3) := by decide +kernel
theorem d_Arr_add_4 : decode b_Arr_add 4 = .ok (.bipush 40, 2) := by decide +kernel
theorem d_Arr_add_6 : decode b_Arr_add 6 = .ok (.if_icmp .lt 5, 3) := by decide +kernel
theorem d_Arr_add_9 : decode b_Arr_add 9 = .ok (.iconst 0, 1) := by decide +kernel
theorem d_Arr_add_10 : decode b_Arr_add 10 = .ok (.ireturn, 1) := by decide +kernel
theorem d_Arr_add_11 : decode b_Arr_add 11 = .ok (.aload_n 0, 1) := by decide +kernel
theorem d_Arr_add_12 : decode b_Arr_add 12 = .ok (.getfield 9, 3) := by decide +kernel
theorem d_Arr_add_15 : decode b_Arr_add 15 = .ok (.aload_n 0, 1) := by decide +kernel
theorem d_Arr_add_16 : decode b_Arr_add 16 = .ok (.getfield 21, 3) := by decide +kernel
theorem d_Arr_add_19 : decode b_Arr_add 19 = .ok (.iload_n 1, 1) := by decide +kernel
theorem d_Arr_add_20 : decode b_Arr_add 20 = .ok (.iastore, 1) := by decide +kernel
theorem d_Arr_add_21 : decode b_Arr_add 21 = .ok (.aload_n 0, 1) := by decide +kernel
theorem d_Arr_add_22 : decode b_Arr_add 22 = .ok (.getfield 15, 3) := by decide +kernel
theorem d_Arr_add_25 : decode b_Arr_add 25 = .ok (.aload_n 0, 1) := by decide +kernel
theorem d_Arr_add_26 : decode b_Arr_add 26 = .ok (.getfield 21, 3) := by decide +kernel
theorem d_Arr_add_29 : decode b_Arr_add 29 = .ok (.iload_n 2, 1) := by decide +kernel
theorem d_Arr_add_30 : decode b_Arr_add 30 = .ok (.iastore, 1) := by decide +kernel
theorem d_Arr_add_31 : decode b_Arr_add 31 = .ok (.aload_n 0, 1) := by decide +kernel
theorem d_Arr_add_32 : decode b_Arr_add 32 = .ok (.getfield 18, 3) := by decide +kernel
theorem d_Arr_add_35 : decode b_Arr_add 35 = .ok (.aload_n 0, 1) := by decide +kernel
theorem d_Arr_add_36 : decode b_Arr_add 36 = .ok (.getfield 21, 3) := by decide +kernel
theorem d_Arr_add_39 : decode b_Arr_add 39 = .ok (.iload_n 3, 1) := by decide +kernel
theorem d_Arr_add_40 : decode b_Arr_add 40 = .ok (.iastore, 1) := by decide +kernel
theorem d_Arr_add_41 : decode b_Arr_add 41 = .ok (.aload_n 0, 1) := by decide +kernel
theorem d_Arr_add_42 : decode b_Arr_add 42 = .ok (.dup, 1) := by decide +kernel
theorem d_Arr_add_43 : decode b_Arr_add 43 = .ok (.getfield 21, 3) := by decide +kernel
theorem d_Arr_add_46 : decode b_Arr_add 46 = .ok (.iconst 1, 1) := by decide +kernel
theorem d_Arr_add_47 : decode b_Arr_add 47 = .ok (.iadd, 1) := by decide +kernel
theorem d_Arr_add_48 : decode b_Arr_add 48 = .ok (.putfield 21, 3) := by decide +kernel
theorem d_Arr_add_51 : decode b_Arr_add 51 = .ok (.iconst 1, 1) := by decide +kernel
theorem d_Arr_add_52 : decode b_Arr_add 52 = .ok (.ireturn, 1) := by decide +kernel
theorem d_Arr_waitOf_0 : decode b_Arr_waitOf 0 = .ok (.aload_n 0, 1) := by decide +kernel
theorem d_Arr_waitOf_1 : decode b_Arr_waitOf 1 = .ok (.getfield 9, 3) := by decide +kernel
theorem d_Arr_waitOf_4 : decode b_Arr_waitOf 4 = .ok (.iload_n 1, 1) := by decide +kernel
theorem d_Arr_waitOf_5 : decode b_Arr_waitOf 5 = .ok (.iaload, 1) := by decide +kernel
theorem d_Arr_waitOf_6 : decode b_Arr_waitOf 6 = .ok (.istore 4, 2) := by decide +kernel
theorem d_Arr_waitOf_8 : decode b_Arr_waitOf 8 = .ok (.aload_n 3, 1) := by decide +kernel
theorem d_Arr_waitOf_9 : decode b_Arr_waitOf 9 = .ok (.iload 4, 2) := by decide +kernel
theorem d_Arr_waitOf_11 : decode b_Arr_waitOf 11 = .ok (.invokevirtual 29, 3) := by decide +kernel
theorem d_Arr_waitOf_14 : decode b_Arr_waitOf 14 = .ok (.aload_n 2, 1) := by decide +kernel
theorem d_Arr_waitOf_15 : decode b_Arr_waitOf 15 = .ok (.iload 4, 2) := by decide +kernel
theorem d_Arr_waitOf_17 : decode b_Arr_waitOf 17 = .ok (.invokevirtual 35, 3) := by decide +kernel
theorem d_Arr_waitOf_20 : decode b_Arr_waitOf 20 = .ok (.iadd, 1) := by decide +kernel
theorem d_Arr_waitOf_21 : decode b_Arr_waitOf 21 = .ok (.istore 5, 2) := by decide +kernel
theorem d_Arr_waitOf_23 : decode b_Arr_waitOf 23 = .ok (.aload_n 0, 1) := by decide +kernel
theorem d_Arr_waitOf_24 : decode b_Arr_waitOf 24 = .ok (.getfield 15, 3) := by decide +kernel
theorem d_Arr_waitOf_27 : decode b_Arr_waitOf 27 = .ok (.iload_n 1, 1) := by decide +kernel
theorem d_Arr_waitOf_28 : decode b_Arr_waitOf 28 = .ok (.iaload, 1) := by decide +kernel
theorem d_Arr_waitOf_29 : decode b_Arr_waitOf 29 = .ok (.iload 5, 2) := by decide +kernel
theorem d_Arr_waitOf_31 : decode b_Arr_waitOf 31 = .ok (.isub, 1) := by decide +kernel
theorem d_Arr_waitOf_32 : decode b_Arr_waitOf 32 = .ok (.aload_n 3, 1) := by decide +kernel
theorem d_Arr_waitOf_33 : decode b_Arr_waitOf 33 = .ok (.getfield 40, 3) := by decide +kernel
theorem d_Arr_waitOf_36 : decode b_Arr_waitOf 36 = .ok (.invokestatic 43, 3) := by decide +kernel
theorem d_Arr_waitOf_39 : decode b_Arr_waitOf 39 = .ok (.istore 6, 2) := by decide +kernel
theorem d_Arr_waitOf_41 : decode b_Arr_waitOf 41 = .ok (.iload 6, 2) := by decide +kernel
theorem d_Arr_waitOf_43 : decode b_Arr_waitOf 43 = .ok (.aload_n 2, 1) := by decide +kernel
theorem d_Arr_waitOf_44 : decode b_Arr_waitOf 44 = .ok (.iload 4, 2) := by decide +kernel
theorem d_Arr_waitOf_46 : decode b_Arr_waitOf 46 = .ok (.invokevirtual 47, 3) := by decide +kernel
theorem d_Arr_waitOf_49 : decode b_Arr_waitOf 49 = .ok (.if_icmp .ge 7, 3) := by decide +kernel
theorem d_Arr_waitOf_52 : decode b_Arr_waitOf 52 = .ok (.iconst 0, 1) := by decide +kernel
theorem d_Arr_waitOf_53 : decode b_Arr_waitOf 53 = .ok (.goto 10, 3) := by decide +kernel
theorem d_Arr_waitOf_56 : decode b_Arr_waitOf 56 = .ok (.aload_n 3, 1) := by decide +kernel
theorem d_Arr_waitOf_57 : decode b_Arr_waitOf 57 = .ok (.getfield 40, 3) := by decide +kernel
theorem d_Arr_waitOf_60 : decode b_Arr_waitOf 60 = .ok (.iload 6, 2) := by decide +kernel
theorem d_Arr_waitOf_62 : decode b_Arr_waitOf 62 = .ok (.isub, 1) := by decide +kernel
theorem d_Arr_waitOf_63 : decode b_Arr_waitOf 63 = .ok (.ireturn, 1) := by decide +kernel
theorem d_Arr_secondsWaited_0 : decode b_Arr_secondsWaited 0 = .ok (.lconst 0, 1) := by decide +kernel
theorem d_Arr_secondsWaited_1 : decode b_Arr_secondsWaited 1 = .ok (.lstore_n 3, 1) := by decide +kernel
theorem d_Arr_secondsWaited_2 : decode b_Arr_secondsWaited 2 = .ok (.iconst 0, 1) := by decide +kernel
theorem d_Arr_secondsWaited_3 : decode b_Arr_secondsWaited 3 = .ok (.istore 5, 2) := by decide +kernel
theorem d_Arr_secondsWaited_5 : decode b_Arr_secondsWaited 5 = .ok (.iload 5, 2) := by decide +kernel
theorem d_Arr_secondsWaited_7 : decode b_Arr_secondsWaited 7 = .ok (.aload_n 0, 1) := by decide +kernel
theorem d_Arr_secondsWaited_8 : decode b_Arr_secondsWaited 8 = .ok (.getfield 21, 3) := by decide +kernel
theorem d_Arr_secondsWaited_11 : decode b_Arr_secondsWaited 11 = .ok (.if_icmp .ge 37, 3) := by decide +kernel
theorem d_Arr_secondsWaited_14 : decode b_Arr_secondsWaited 14 = .ok (.iload 5, 2) := by decide +kernel
theorem d_Arr_secondsWaited_16 : decode b_Arr_secondsWaited 16 = .ok (.bipush 40, 2) := by decide +kernel
theorem d_Arr_secondsWaited_18 : decode b_Arr_secondsWaited 18 = .ok (.if_icmp .ge 30, 3) := by decide +kernel
theorem d_Arr_secondsWaited_21 : decode b_Arr_secondsWaited 21 = .ok (.lload_n 3, 1) := by decide +kernel
theorem d_Arr_secondsWaited_22 : decode b_Arr_secondsWaited 22 = .ok (.aload_n 0, 1) := by decide +kernel
theorem d_Arr_secondsWaited_23 : decode b_Arr_secondsWaited 23 = .ok (.getfield 18, 3) := by decide +kernel
theorem d_Arr_secondsWaited_26 : decode b_Arr_secondsWaited 26 = .ok (.iload 5, 2) := by decide +kernel
theorem d_Arr_secondsWaited_28 : decode b_Arr_secondsWaited 28 = .ok (.iaload, 1) := by decide +kernel
theorem d_Arr_secondsWaited_29 : decode b_Arr_secondsWaited 29 = .ok (.i2l, 1) := by decide +kernel
theorem d_Arr_secondsWaited_30 : decode b_Arr_secondsWaited 30 = .ok (.aload_n 0, 1) := by decide +kernel
theorem d_Arr_secondsWaited_31 : decode b_Arr_secondsWaited 31 = .ok (.iload 5, 2) := by decide +kernel
theorem d_Arr_secondsWaited_33 : decode b_Arr_secondsWaited 33 = .ok (.aload_n 1, 1) := by decide +kernel
theorem d_Arr_secondsWaited_34 : decode b_Arr_secondsWaited 34 = .ok (.aload_n 2, 1) := by decide +kernel
theorem d_Arr_secondsWaited_35 : decode b_Arr_secondsWaited 35 = .ok (.invokevirtual 25, 3) := by decide +kernel
theorem d_Arr_secondsWaited_38 : decode b_Arr_secondsWaited 38 = .ok (.i2l, 1) := by decide +kernel
theorem d_Arr_secondsWaited_39 : decode b_Arr_secondsWaited 39 = .ok (.lmul, 1) := by decide +kernel
theorem d_Arr_secondsWaited_40 : decode b_Arr_secondsWaited 40 = .ok (.ladd, 1) := by decide +kernel
theorem d_Arr_secondsWaited_41 : decode b_Arr_secondsWaited 41 = .ok (.lstore_n 3, 1) := by decide +kernel
theorem d_Arr_secondsWaited_42 : decode b_Arr_secondsWaited 42 = .ok (.iinc 5 1, 3) := by decide +kernel
theorem d_Arr_secondsWaited_45 : decode b_Arr_secondsWaited 45 = .ok (.goto (-40), 3) := by decide +kernel
theorem d_Arr_secondsWaited_48 : decode b_Arr_secondsWaited 48 = .ok (.lload_n 3, 1) := by decide +kernel
theorem d_Arr_secondsWaited_49 : decode b_Arr_secondsWaited 49 = .ok (.lreturn, 1) := by decide +kernel
theorem d_Arr_carsThrough_0 : decode b_Arr_carsThrough 0 = .ok (.lconst 0, 1) := by decide +kernel
theorem d_Arr_carsThrough_1 : decode b_Arr_carsThrough 1 = .ok (.lstore_n 3, 1) := by decide +kernel
theorem d_Arr_carsThrough_2 : decode b_Arr_carsThrough 2 = .ok (.iconst 0, 1) := by decide +kernel
theorem d_Arr_carsThrough_3 : decode b_Arr_carsThrough 3 = .ok (.istore 5, 2) := by decide +kernel
theorem d_Arr_carsThrough_5 : decode b_Arr_carsThrough 5 = .ok (.iload 5, 2) := by decide +kernel
theorem d_Arr_carsThrough_7 : decode b_Arr_carsThrough 7 = .ok (.aload_n 0, 1) := by decide +kernel
theorem d_Arr_carsThrough_8 : decode b_Arr_carsThrough 8 = .ok (.getfield 21, 3) := by decide +kernel
theorem d_Arr_carsThrough_11 : decode b_Arr_carsThrough 11 = .ok (.if_icmp .ge 42, 3) := by decide +kernel
theorem d_Arr_carsThrough_14 : decode b_Arr_carsThrough 14 = .ok (.iload 5, 2) := by decide +kernel
theorem d_Arr_carsThrough_16 : decode b_Arr_carsThrough 16 = .ok (.bipush 40, 2) := by decide +kernel
theorem d_Arr_carsThrough_18 : decode b_Arr_carsThrough 18 = .ok (.if_icmp .ge 35, 3) := by decide +kernel
theorem d_Arr_carsThrough_21 : decode b_Arr_carsThrough 21 = .ok (.lload_n 3, 1) := by decide +kernel
theorem d_Arr_carsThrough_22 : decode b_Arr_carsThrough 22 = .ok (.aload_n 0, 1) := by decide +kernel
theorem d_Arr_carsThrough_23 : decode b_Arr_carsThrough 23 = .ok (.iload 5, 2) := by decide +kernel
theorem d_Arr_carsThrough_25 : decode b_Arr_carsThrough 25 = .ok (.aload_n 1, 1) := by decide +kernel
theorem d_Arr_carsThrough_26 : decode b_Arr_carsThrough 26 = .ok (.aload_n 2, 1) := by decide +kernel
theorem d_Arr_carsThrough_27 : decode b_Arr_carsThrough 27 = .ok (.invokevirtual 25, 3) := by decide +kernel
theorem d_Arr_carsThrough_30 : decode b_Arr_carsThrough 30 = .ok (.ifCond .ne 14, 3) := by decide +kernel
theorem d_Arr_carsThrough_33 : decode b_Arr_carsThrough 33 = .ok (.aload_n 0, 1) := by decide +kernel
theorem d_Arr_carsThrough_34 : decode b_Arr_carsThrough 34 = .ok (.getfield 18, 3) := by decide +kernel
theorem d_Arr_carsThrough_37 : decode b_Arr_carsThrough 37 = .ok (.iload 5, 2) := by decide +kernel
theorem d_Arr_carsThrough_39 : decode b_Arr_carsThrough 39 = .ok (.iaload, 1) := by decide +kernel
theorem d_Arr_carsThrough_40 : decode b_Arr_carsThrough 40 = .ok (.i2l, 1) := by decide +kernel
theorem d_Arr_carsThrough_41 : decode b_Arr_carsThrough 41 = .ok (.goto 4, 3) := by decide +kernel
theorem d_Arr_carsThrough_44 : decode b_Arr_carsThrough 44 = .ok (.lconst 0, 1) := by decide +kernel
theorem d_Arr_carsThrough_45 : decode b_Arr_carsThrough 45 = .ok (.ladd, 1) := by decide +kernel
theorem d_Arr_carsThrough_46 : decode b_Arr_carsThrough 46 = .ok (.lstore_n 3, 1) := by decide +kernel
theorem d_Arr_carsThrough_47 : decode b_Arr_carsThrough 47 = .ok (.iinc 5 1, 3) := by decide +kernel
theorem d_Arr_carsThrough_50 : decode b_Arr_carsThrough 50 = .ok (.goto (-45), 3) := by decide +kernel
theorem d_Arr_carsThrough_53 : decode b_Arr_carsThrough 53 = .ok (.lload_n 3, 1) := by decide +kernel
theorem d_Arr_carsThrough_54 : decode b_Arr_carsThrough 54 = .ok (.lreturn, 1) := by decide +kernel
set_option maxRecDepth 50000 in
theorem lk_81 : Cond.fieldLink R_Plan 15 "WaveOffsets$Plan" "cycle" "I" ∈ lw_good := List.mem_filter.mpr ⟨List.mem_append_right _ (List.mem_of_getElem? (i := 152) (by decide +kernel)), rfl⟩
set_option maxRecDepth 50000 in
theorem lk_82 : Cond.fieldLink R_Plan 9 "WaveOffsets$Plan" "offsets" "[I" ∈ lw_good := List.mem_filter.mpr ⟨List.mem_append_right _ (List.mem_of_getElem? (i := 150) (by decide +kernel)), rfl⟩
set_option maxRecDepth 50000 in
theorem lk_83 : Cond.fieldLink R_Plan 19 "WaveOffsets$Plan" "size" "I" ∈ lw_good := List.mem_filter.mpr ⟨List.mem_append_right _ (List.mem_of_getElem? (i := 158) (by decide +kernel)), rfl⟩
set_option maxRecDepth 50000 in
theorem lk_84 : Cond.methodLinkNest R_Plan 22 y_WO_wrap "WaveOffsets" ∈ lw_nest := List.mem_filter.mpr ⟨List.mem_append_right _ (List.mem_of_getElem? (i := 572) (by decide +kernel)), rfl⟩
set_option maxRecDepth 50000 in
theorem lk_85 : Cond.methodLink R_Plan 26 y_Math_min ∈ lw_good := List.mem_filter.mpr ⟨List.mem_append_right _ (List.mem_of_getElem? (i := 573) (by decide +kernel)), rfl⟩
set_option maxRecDepth 50000 in
theorem lk_86 : Cond.fieldLink R_Arr 21 "WaveOffsets$Arrivals" "size" "I" ∈ lw_good := List.mem_filter.mpr ⟨List.mem_append_right _ (List.mem_of_getElem? (i := 195) (by decide +kernel)), rfl⟩
set_option maxRecDepth 50000 in
theorem lk_87 : Cond.fieldLink R_Arr 9 "WaveOffsets$Arrivals" "crossings" "[I" ∈ lw_good := List.mem_filter.mpr ⟨List.mem_append_right _ (List.mem_of_getElem? (i := 192) (by decide +kernel)), rfl⟩
set_option maxRecDepth 50000 in
theorem lk_88 : Cond.fieldLink R_Arr 15 "WaveOffsets$Arrivals" "seconds" "[I" ∈ lw_good := List.mem_filter.mpr ⟨List.mem_append_right _ (List.mem_of_getElem? (i := 193) (by decide +kernel)), rfl⟩
set_option maxRecDepth 50000 in
theorem lk_89 : Cond.fieldLink R_Arr 18 "WaveOffsets$Arrivals" "cars" "[I" ∈ lw_good := List.mem_filter.mpr ⟨List.mem_append_right _ (List.mem_of_getElem? (i := 194) (by decide +kernel)), rfl⟩
set_option maxRecDepth 50000 in
theorem lk_90 : Cond.methodLink R_Arr 29 y_Plan_offsetOf ∈ lw_good := List.mem_filter.mpr ⟨List.mem_append_right _ (List.mem_of_getElem? (i := 534) (by decide +kernel)), rfl⟩
set_option maxRecDepth 50000 in
theorem lk_91 : Cond.code y_Plan_offsetOf b_Plan_offsetOf 2 (some .int) ∈ lw_good := List.mem_filter.mpr ⟨List.mem_append_right _ (List.mem_of_getElem? (i := 484) rfl), rfl⟩
set_option maxRecDepth 50000 in
theorem lk_92 : Cond.instanceMethod y_Plan_offsetOf ∈ lw_good := List.mem_filter.mpr ⟨List.mem_append_right _ (List.mem_of_getElem? (i := 482) (by decide +kernel)), rfl⟩
set_option maxRecDepth 50000 in
theorem lk_93 : Cond.selects R_Plan y_Plan_offsetOf y_Plan_offsetOf ∈ lw_good := List.mem_filter.mpr ⟨List.mem_append_right _ (List.mem_of_getElem? (i := 483) (by decide +kernel)), rfl⟩
set_option maxRecDepth 50000 in
theorem lk_94 : Cond.initialized R_Plan ∈ lw_good := List.mem_filter.mpr ⟨List.mem_append_right _ (List.mem_of_getElem? (i := 7) (by decide +kernel)), rfl⟩
set_option maxRecDepth 50000 in
theorem lk_95 : Cond.methodLink R_Arr 35 y_Road_queueOf ∈ lw_good := List.mem_filter.mpr ⟨List.mem_append_right _ (List.mem_of_getElem? (i := 535) (by decide +kernel)), rfl⟩
set_option maxRecDepth 50000 in
theorem lk_96 : Cond.fieldLinkNest R_Arr 40 "WaveOffsets$Plan" "cycle" "I" "WaveOffsets" ∈ lw_nest := List.mem_filter.mpr ⟨List.mem_append_right _ (List.mem_of_getElem? (i := 155) (by decide +kernel)), rfl⟩
set_option maxRecDepth 50000 in
theorem lk_97 : Cond.methodLinkNest R_Arr 43 y_WO_wrap "WaveOffsets" ∈ lw_nest := List.mem_filter.mpr ⟨List.mem_append_right _ (List.mem_of_getElem? (i := 536) (by decide +kernel)), rfl⟩
set_option maxRecDepth 50000 in
theorem lk_98 : Cond.methodLink R_Arr 47 y_Road_openOf ∈ lw_good := List.mem_filter.mpr ⟨List.mem_append_right _ (List.mem_of_getElem? (i := 537) (by decide +kernel)), rfl⟩
set_option maxRecDepth 50000 in
theorem lk_99 : Cond.methodLink R_Arr 25 y_Arr_waitOf ∈ lw_good := List.mem_filter.mpr ⟨List.mem_append_right _ (List.mem_of_getElem? (i := 530) (by decide +kernel)), rfl⟩
set_option maxRecDepth 50000 in
theorem lk_100 : Cond.code y_Arr_waitOf b_Arr_waitOf 7 (some .int) ∈ lw_good := List.mem_filter.mpr ⟨List.mem_append_right _ (List.mem_of_getElem? (i := 533) rfl), rfl⟩
set_option maxRecDepth 50000 in
theorem lk_101 : Cond.instanceMethod y_Arr_waitOf ∈ lw_good := List.mem_filter.mpr ⟨List.mem_append_right _ (List.mem_of_getElem? (i := 532) (by decide +kernel)), rfl⟩
set_option maxRecDepth 50000 in
theorem lk_102 : Cond.selects R_Arr y_Arr_waitOf y_Arr_waitOf ∈ lw_good := List.mem_filter.mpr ⟨List.mem_append_left _ (List.mem_of_getElem? (i := 8) (by decide +kernel)), rfl⟩
set_option maxRecDepth 50000 in
theorem lk_103 : Cond.initialized R_Arr ∈ lw_good := List.mem_filter.mpr ⟨List.mem_append_right _ (List.mem_of_getElem? (i := 9) (by decide +kernel)), rfl⟩
def p_Plan_isMade (n : Nat) (v_t_cycle : Int32) : Option (Int32) :=
  if v_t_cycle ≤ 0 then
    some (0 : Int32)
  else
    some (1 : Int32)
abbrev m_Plan_isMade : Room := { frames := 0, cells := 0, slots := 0, locals := 0 }
set_option maxHeartbeats 4000000 in
set_option maxRecDepth 100000 in
theorem c_Plan_isMade (l : Launch) (G : va_G) (K : Nat → ClassId) (n : Nat) (t : Nat) (t_offsets : Nat) (v_t_cycle : Int32) (v_t_size : Int32) (v_t_aim : Int32) (v_t_sawAll : Int32) (o : Int32) (hF : p_Plan_isMade n v_t_cycle = some o) :
    Met l y_Plan_isMade (wd y_Plan_isMade b_Plan_isMade 1 (some .boolean)) m_Plan_isMade (dk_Pp [.ref t] G K [(t, .inr (2, [.ref t_offsets, .int v_t_cycle, .int v_t_size, .int v_t_aim, .int v_t_sawAll]))]) (dk_Qp (some (.int o))) 0 0 (fun _ => False) := by
  refine Met.ofW (cc := b_Plan_isMade) (maxL := 1) (ret := (some .boolean)) (by decide) rfl ?_
  intro p e s m args below meth c s₁ B hml hv
  obtain ⟨rfl, hP, hK, hN⟩ := hv
  have hx := B.exec
  have hb := B.bytes
  have hr := B.returns
  have hts : ∀ w ∈ lw_good, w.before _ s = true := fun w h => atoms_spec (ws := wd y_Plan_isMade b_Plan_isMade 1 (some .boolean)) B.pre w (List.mem_cons_of_mem _ h)
  have hown : s.vm.findClass R_Plan = some m.cls := findClass_of_methodNamed B.named
  have hlocks := B.notSynchronized
  have hfix : CallFix p m c b_Plan_isMade 1 s _ lw_good R_Plan := ⟨hx, hb, hml, hown, hts⟩
  have hl := lv_entry ([.ref t]) (n := 1) (Nat.le_of_ble_eq_true rfl)
  rw [lg_entry_eq]
  generalize (lg_sl ([.ref t]) ++ List.replicate (1 - (lg_sl ([.ref t])).length) Slot.unset).toArray = ls at hl ⊢
  have hl : lv_has ls 1 [(0, .ref t)] := hl
  change W p l e m_Plan_isMade s m _ below meth c s.heap [] 0 0 _ _
  unfold p_Plan_isMade at hF
  refine lv_aload_n hx hb d_Plan_isMade_0 rfl (lv_at hl 0 rfl) ?_
  refine va_get (D := G) (ci := 2) (v := .int v_t_cycle) (C := R_Plan) (T := F_Plan) (N := 5) hx hb hts i_Plan hown hK hP 0 rfl rfl 1 (by decide) (hts _ lk_81) (fun _ h9 => h9) rfl d_Plan_isMade_1 ?_
  refine lv_if_le (tgt := 11) hx hb d_Plan_isMade_4 (by decide) (fun c4_1 => ?_) (fun c4_1 => ?_)
  · have hF := dk_t c4_1 hF
    refine lv_iconst (v := (0 : Int32)) hx hb d_Plan_isMade_11 (by decide) ?_
    obtain rfl := Option.some.inj hF
    exact W.zret (v := (0 : Int32)) hx hb hr rfl (fun t ht hW => ⟨rfl, ht⟩) (fun _ h => by cases h) d_Plan_isMade_12
  · have hF := dk_f c4_1 hF
    refine lv_iconst (v := (1 : Int32)) hx hb d_Plan_isMade_7 (by decide) ?_
    refine lv_goto (tgt := 12) hx hb d_Plan_isMade_8 (by decide) ?_
    obtain rfl := Option.some.inj hF
    exact W.zret (v := (1 : Int32)) hx hb hr rfl (fun t ht hW => ⟨rfl, ht⟩) (fun _ h => by cases h) d_Plan_isMade_12
def p_Plan_clear (n : Nat) (v_t_cycle : Int32) : Option (Int32) :=
  some (0 : Int32)
abbrev m_Plan_clear : Room := { frames := 0, cells := 0, slots := 0, locals := 0 }
set_option maxHeartbeats 4000000 in
set_option maxRecDepth 100000 in
theorem c_Plan_clear (l : Launch) (G : va_G) (K : Nat → ClassId) (n : Nat) (sz : Nat) (t : Nat) (t_offsets : Nat) (v_t_cycle : Int32) (v_t_size : Int32) (v_t_aim : Int32) (v_t_sawAll : Int32) (o : Int32) (hF : p_Plan_clear n v_t_cycle = some o) :
    Met l y_Plan_clear (wd y_Plan_clear b_Plan_clear 1 none) m_Plan_clear (dk_Pm [.ref t] G K [(t, .inr (2, [.ref t_offsets, .int v_t_cycle, .int v_t_size, .int v_t_aim, .int v_t_sawAll]))] sz) (dk_Qm none G (fun _ : Unit => [(t, .inr (2, [.ref t_offsets, .int o, .int v_t_size, .int v_t_aim, .int v_t_sawAll]))]) (va_A [(t, .inr (2, [.ref t_offsets, .int v_t_cycle, .int v_t_size, .int v_t_aim, .int v_t_sawAll]))] sz)) 0 0 (va_A [(t, .inr (2, [.ref t_offsets, .int v_t_cycle, .int v_t_size, .int v_t_aim, .int v_t_sawAll]))] sz) := by
  refine Met.ofW (cc := b_Plan_clear) (maxL := 1) (ret := none) (by decide) rfl ?_
  intro p e s m args below meth c s₁ B hml hv
  obtain ⟨rfl, hsz, hP, hK, hN, hD0⟩ := hv
  have hx := B.exec
  have hb := B.bytes
  have hr := B.returns
  have hts : ∀ w ∈ lw_good, w.before _ s = true := fun w h => atoms_spec (ws := wd y_Plan_clear b_Plan_clear 1 none) B.pre w (List.mem_cons_of_mem _ h)
  have hown : s.vm.findClass R_Plan = some m.cls := findClass_of_methodNamed B.named
  have hlocks := B.notSynchronized
  have hfix : CallFix p m c b_Plan_clear 1 s _ lw_good R_Plan := ⟨hx, hb, hml, hown, hts⟩
  subst hsz
  have hD := hD0.self (sz := s.heap.size)
  generalize hAe : va_A [(t, .inr (2, [.ref t_offsets, .int v_t_cycle, .int v_t_size, .int v_t_aim, .int v_t_sawAll]))] s.heap.size = A at hD ⊢
  have hA : ∀ q : Nat, s.heap.size ≤ q → A q := fun q h => by rw [← hAe]; exact Or.inr h
  have hS : va_S A s.heap s.heap [] := va_S.rf
  have hl := lv_entry ([.ref t]) (n := 1) (Nat.le_of_ble_eq_true rfl)
  rw [lg_entry_eq]
  generalize (lg_sl ([.ref t]) ++ List.replicate (1 - (lg_sl ([.ref t])).length) Slot.unset).toArray = ls at hl ⊢
  have hl : lv_has ls 1 [(0, .ref t)] := hl
  change W p l e m_Plan_clear s m _ below meth c s.heap [] 0 0 _ _
  unfold p_Plan_clear at hF
  refine lv_aload_n hx hb d_Plan_clear_0 rfl (lv_at hl 0 rfl) ?_
  refine lv_iconst (v := (0 : Int32)) hx hb d_Plan_clear_1 (by decide) ?_
  refine va_put (D := G) (ci := 2) (v := .int (0 : Int32)) (ty := .int) (C := R_Plan) (T := F_Plan) (N := 5) hx hb hts i_Plan t_Plan t_Plan_ok n_Plan hown hK hP hD hS 0 rfl rfl 1 (by decide) (hts _ lk_81) (fun _ h9 => h9) rfl (by decide +kernel) rfl rfl (Nat.le_of_ble_eq_true rfl) d_Plan_clear_2 (fun H locs hP hD hS => ?_)
  have hP : va_P G classes [(t, .inr (2, [.ref t_offsets, .int (0 : Int32), .int v_t_size, .int v_t_aim, .int v_t_sawAll]))] H := hP
  have hD : va_D A [(t, .inr (2, [.ref t_offsets, .int (0 : Int32), .int v_t_size, .int v_t_aim, .int v_t_sawAll]))] := hD
  obtain rfl := Option.some.inj hF
  exact W.vret hx hb hr (fun t ht hW => ⟨⟨(), rfl, by rw [ht]; exact hP, hD⟩, hS.F ht⟩) hS.2.2 d_Plan_clear_5
def p_Plan_offsetOf (n : Nat) (x1 : Int32) (v_t_offsets : Nat → Int32) : Option (Int32) :=
  if x1 < 0 then
    some (0 : Int32)
  else
    if (5 : Int32) ≤ x1 then
      some (0 : Int32)
    else
      if dk_in x1 5 = true then
        some (v_t_offsets x1.toNatClampNeg)
      else none
abbrev m_Plan_offsetOf : Room := { frames := 0, cells := 0, slots := 0, locals := 0 }
set_option maxHeartbeats 4000000 in
set_option maxRecDepth 100000 in
theorem c_Plan_offsetOf (l : Launch) (G : va_G) (K : Nat → ClassId) (n : Nat) (t : Nat) (t_offsets : Nat) (x1 : Int32) (v_t_cycle : Int32) (v_t_size : Int32) (v_t_aim : Int32) (v_t_sawAll : Int32) (v_t_offsets : Nat → Int32) (o : Int32) (hF : p_Plan_offsetOf n x1 v_t_offsets = some o) :
    Met l y_Plan_offsetOf (wd y_Plan_offsetOf b_Plan_offsetOf 2 (some .int)) m_Plan_offsetOf (dk_Pp [.ref t, .int x1] G K [(t, .inr (2, [.ref t_offsets, .int v_t_cycle, .int v_t_size, .int v_t_aim, .int v_t_sawAll])), (t_offsets, .inl (K 0, 5, .inl v_t_offsets))]) (dk_Qp (some (.int o))) 0 0 (fun _ => False) := by
  refine Met.ofW (cc := b_Plan_offsetOf) (maxL := 2) (ret := (some .int)) (by decide) rfl ?_
  intro p e s m args below meth c s₁ B hml hv
  obtain ⟨rfl, hP, hK, hN⟩ := hv
  have hx := B.exec
  have hb := B.bytes
  have hr := B.returns
  have hts : ∀ w ∈ lw_good, w.before _ s = true := fun w h => atoms_spec (ws := wd y_Plan_offsetOf b_Plan_offsetOf 2 (some .int)) B.pre w (List.mem_cons_of_mem _ h)
  have hown : s.vm.findClass R_Plan = some m.cls := findClass_of_methodNamed B.named
  have hlocks := B.notSynchronized
  have hfix : CallFix p m c b_Plan_offsetOf 2 s _ lw_good R_Plan := ⟨hx, hb, hml, hown, hts⟩
  have hl := lv_entry ([.ref t, .int x1]) (n := 2) (Nat.le_of_ble_eq_true rfl)
  rw [lg_entry_eq]
  generalize (lg_sl ([.ref t, .int x1]) ++ List.replicate (2 - (lg_sl ([.ref t, .int x1])).length) Slot.unset).toArray = ls at hl ⊢
  have hl : lv_has ls 2 [(0, .ref t), (1, .int x1)] := hl
  change W p l e m_Plan_offsetOf s m _ below meth c s.heap [] 0 0 _ _
  unfold p_Plan_offsetOf at hF
  refine lv_iload_n hx hb d_Plan_offsetOf_0 rfl (lv_at hl 1 rfl) ?_
  refine lv_if_lt (tgt := 18) hx hb d_Plan_offsetOf_1 (by decide) (fun c1_1 => ?_) (fun c1_1 => ?_)
  · have hF := dk_t c1_1 hF
    refine lv_iconst (v := (0 : Int32)) hx hb d_Plan_offsetOf_18 (by decide) ?_
    obtain rfl := Option.some.inj hF
    exact W.iret (v := (0 : Int32)) hx hb hr (fun t ht hW => ⟨rfl, ht⟩) (fun _ h => by cases h) d_Plan_offsetOf_19
  · have hF := dk_f c1_1 hF
    refine lv_iload_n hx hb d_Plan_offsetOf_4 rfl (lv_at hl 1 rfl) ?_
    refine lv_iconst (v := (5 : Int32)) hx hb d_Plan_offsetOf_5 (by decide) ?_
    refine lv_icmp_ge (tgt := 18) hx hb d_Plan_offsetOf_6 (by decide) (fun c6_2 => ?_) (fun c6_2 => ?_)
    · have hF := dk_t c6_2 hF
      refine lv_iconst (v := (0 : Int32)) hx hb d_Plan_offsetOf_18 (by decide) ?_
      obtain rfl := Option.some.inj hF
      exact W.iret (v := (0 : Int32)) hx hb hr (fun t ht hW => ⟨rfl, ht⟩) (fun _ h => by cases h) d_Plan_offsetOf_19
    · have hF := dk_f c6_2 hF
      refine lv_aload_n hx hb d_Plan_offsetOf_9 rfl (lv_at hl 0 rfl) ?_
      refine va_get (D := G) (ci := 2) (v := .ref t_offsets) (C := R_Plan) (T := F_Plan) (N := 5) hx hb hts i_Plan hown hK hP 0 rfl rfl 0 (by decide) (hts _ lk_82) (fun _ h9 => h9) rfl d_Plan_offsetOf_10 ?_
      refine lv_iload_n hx hb d_Plan_offsetOf_13 rfl (lv_at hl 1 rfl) ?_
      obtain ⟨hi, hF⟩ := dk_a hF
      refine va_iald (D := G) hx hb hK hP 1 0 rfl rfl (dk_vp hi) d_Plan_offsetOf_14 ?_
      refine lv_goto (tgt := 19) hx hb d_Plan_offsetOf_15 (by decide) ?_
      obtain rfl := Option.some.inj hF
      exact W.iret (v := v_t_offsets x1.toNatClampNeg) hx hb hr (fun t ht hW => ⟨rfl, ht⟩) (fun _ h => by cases h) d_Plan_offsetOf_19
def p_Plan_set_13 (n : Nat) : Nat → (Nat → Int32) → Int32 → (Nat → Int32) → Option ((Nat → Int32))
  | 0, _, _, _ => none
  | k + 1, v_u3, z4, v_t_offsets =>
    if (5 : Int32) ≤ z4 then
      some v_t_offsets
    else
      if (5 : Int32) ≤ z4 then
        some v_t_offsets
      else
        if dk_in z4 5 = true then
          if dk_in z4 5 = true then
            p_Plan_set_13 n k v_u3 (z4 + (1 : Int32)) (upd v_t_offsets z4.toNatClampNeg (v_u3 z4.toNatClampNeg))
          else none
        else none
theorem q_Plan_set_13 (n k : Nat) (v_u3 : Nat → Int32) (z4 : Int32) (v_t_offsets : Nat → Int32) : p_Plan_set_13 n (k + 1) v_u3 z4 v_t_offsets =
    if (5 : Int32) ≤ z4 then
      some v_t_offsets
    else
      if (5 : Int32) ≤ z4 then
        some v_t_offsets
      else
        if dk_in z4 5 = true then
          if dk_in z4 5 = true then
            p_Plan_set_13 n k v_u3 (z4 + (1 : Int32)) (upd v_t_offsets z4.toNatClampNeg (v_u3 z4.toNatClampNeg))
          else none
        else none := rfl
def p_Plan_set (n : Nat) (x1 : Int32) (x2 : Int32) (v_u3 : Nat → Int32) (v_t_cycle : Int32) (v_t_size : Int32) (v_t_offsets : Nat → Int32) : Option (Int32 × Int32 × (Nat → Int32)) :=
  (p_Plan_set_13 n n v_u3 (0 : Int32) v_t_offsets).bind fun q13_3 =>
  some (x1, x2, q13_3)
abbrev m_Plan_set : Room := { frames := 0, cells := 0, slots := 0, locals := 0 }
set_option maxHeartbeats 4000000 in
set_option maxRecDepth 100000 in
theorem c_Plan_set (l : Launch) (G : va_G) (K : Nat → ClassId) (n : Nat) (sz : Nat) (t : Nat) (t_offsets : Nat) (u3 : Nat) (x1 : Int32) (x2 : Int32) (v_t_cycle : Int32) (v_t_size : Int32) (v_t_aim : Int32) (v_t_sawAll : Int32) (v_t_offsets : Nat → Int32) (v_u3 : Nat → Int32) (o : Int32 × Int32 × (Nat → Int32)) (hF : p_Plan_set n x1 x2 v_u3 v_t_cycle v_t_size v_t_offsets = some o) :
    Met l y_Plan_set (wd y_Plan_set b_Plan_set 5 none) m_Plan_set (dk_Pm [.ref t, .int x1, .int x2, .ref u3] G K [(t, .inr (2, [.ref t_offsets, .int v_t_cycle, .int v_t_size, .int v_t_aim, .int v_t_sawAll])), (t_offsets, .inl (K 0, 5, .inl v_t_offsets)), (u3, .inl (K 0, 5, .inl v_u3))] sz) (dk_Qm none G (fun _ : Unit => [(t, .inr (2, [.ref t_offsets, .int o.1, .int o.2.1, .int v_t_aim, .int v_t_sawAll])), (t_offsets, .inl (K 0, 5, .inl o.2.2)), (u3, .inl (K 0, 5, .inl v_u3))]) (va_A [(t, .inr (2, [.ref t_offsets, .int v_t_cycle, .int v_t_size, .int v_t_aim, .int v_t_sawAll])), (t_offsets, .inl (K 0, 5, .inl v_t_offsets)), (u3, .inl (K 0, 5, .inl v_u3))] sz)) 0 0 (va_A [(t, .inr (2, [.ref t_offsets, .int v_t_cycle, .int v_t_size, .int v_t_aim, .int v_t_sawAll])), (t_offsets, .inl (K 0, 5, .inl v_t_offsets)), (u3, .inl (K 0, 5, .inl v_u3))] sz) := by
  refine Met.ofW (cc := b_Plan_set) (maxL := 5) (ret := none) (by decide) rfl ?_
  intro p e s m args below meth c s₁ B hml hv
  obtain ⟨rfl, hsz, hP, hK, hN, hD0⟩ := hv
  have hx := B.exec
  have hb := B.bytes
  have hr := B.returns
  have hts : ∀ w ∈ lw_good, w.before _ s = true := fun w h => atoms_spec (ws := wd y_Plan_set b_Plan_set 5 none) B.pre w (List.mem_cons_of_mem _ h)
  have hown : s.vm.findClass R_Plan = some m.cls := findClass_of_methodNamed B.named
  have hlocks := B.notSynchronized
  have hfix : CallFix p m c b_Plan_set 5 s _ lw_good R_Plan := ⟨hx, hb, hml, hown, hts⟩
  subst hsz
  have hD := hD0.self (sz := s.heap.size)
  generalize hAe : va_A [(t, .inr (2, [.ref t_offsets, .int v_t_cycle, .int v_t_size, .int v_t_aim, .int v_t_sawAll])), (t_offsets, .inl (K 0, 5, .inl v_t_offsets)), (u3, .inl (K 0, 5, .inl v_u3))] s.heap.size = A at hD ⊢
  have hA : ∀ q : Nat, s.heap.size ≤ q → A q := fun q h => by rw [← hAe]; exact Or.inr h
  have hS : va_S A s.heap s.heap [] := va_S.rf
  have hl := lv_entry ([.ref t, .int x1, .int x2, .ref u3]) (n := 5) (Nat.le_of_ble_eq_true rfl)
  rw [lg_entry_eq]
  generalize (lg_sl ([.ref t, .int x1, .int x2, .ref u3]) ++ List.replicate (5 - (lg_sl ([.ref t, .int x1, .int x2, .ref u3])).length) Slot.unset).toArray = ls at hl ⊢
  have hl : lv_has ls 5 [(0, .ref t), (1, .int x1), (2, .int x2), (3, .ref u3)] := hl
  change W p l e m_Plan_set s m _ below meth c s.heap [] 0 0 _ _
  have L13 : ∀ (k : Nat) (z4 : Int32) (v_t_cycle : Int32) (v_t_size : Int32) (v_t_offsets : Nat → Int32) (H : Heap) (locs : List Loc) (q : (Nat → Int32)), p_Plan_set_13 n k v_u3 z4 v_t_offsets = some q → va_P G classes [(t, .inr (2, [.ref t_offsets, .int v_t_cycle, .int v_t_size, .int v_t_aim, .int v_t_sawAll])), (t_offsets, .inl (K 0, 5, .inl v_t_offsets)), (u3, .inl (K 0, 5, .inl v_u3))] H → va_D A [(t, .inr (2, [.ref t_offsets, .int v_t_cycle, .int v_t_size, .int v_t_aim, .int v_t_sawAll])), (t_offsets, .inl (K 0, 5, .inl v_t_offsets)), (u3, .inl (K 0, 5, .inl v_u3))] → va_S A s.heap H locs → ∀ ls : Array Slot, lv_has ls 5 [(0, .ref t), (3, .ref u3), (4, .int z4)] → (∀ (H1 : Heap) (locs1 : List Loc) (ls1 : Array Slot), va_P G classes [(t, .inr (2, [.ref t_offsets, .int v_t_cycle, .int v_t_size, .int v_t_aim, .int v_t_sawAll])), (t_offsets, .inl (K 0, 5, .inl q)), (u3, .inl (K 0, 5, .inl v_u3))] H1 → va_D A [(t, .inr (2, [.ref t_offsets, .int v_t_cycle, .int v_t_size, .int v_t_aim, .int v_t_sawAll])), (t_offsets, .inl (K 0, 5, .inl q)), (u3, .inl (K 0, 5, .inl v_u3))] → va_S A s.heap H1 locs1 → lv_has ls1 5 [] → W p l e m_Plan_set s m ([.ref t, .int x1, .int x2, .ref u3] : List Value).toArray below meth c H1 locs1 0 0 (MQ below (dk_Qm none G (fun _ : Unit => [(t, .inr (2, [.ref t_offsets, .int o.1, .int o.2.1, .int v_t_aim, .int v_t_sawAll])), (t_offsets, .inl (K 0, 5, .inl o.2.2)), (u3, .inl (K 0, 5, .inl v_u3))]) A) ([.ref t, .int x1, .int x2, .ref u3] : List Value).toArray s 0 0 A) (F0 m 43 ls1 [])) → W p l e m_Plan_set s m ([.ref t, .int x1, .int x2, .ref u3] : List Value).toArray below meth c H locs 0 0 (MQ below (dk_Qm none G (fun _ : Unit => [(t, .inr (2, [.ref t_offsets, .int o.1, .int o.2.1, .int v_t_aim, .int v_t_sawAll])), (t_offsets, .inl (K 0, 5, .inl o.2.2)), (u3, .inl (K 0, 5, .inl v_u3))]) A) ([.ref t, .int x1, .int x2, .ref u3] : List Value).toArray s 0 0 A) (F0 m 13 ls []) := by
    intro k
    induction k with
    | zero =>
      intro z4 v_t_cycle v_t_size v_t_offsets H locs q hF hP hD hS ls hl hk
      exact absurd hF (by simp [p_Plan_set_13])
    | succ k jh =>
      intro z4 v_t_cycle v_t_size v_t_offsets H locs q hF hP hD hS ls hl hk
      have hF := (q_Plan_set_13 n k v_u3 z4 v_t_offsets).symm.trans hF
      refine lv_iload hx hb d_Plan_set_13 (lv_at hl 2 rfl) ?_
      refine lv_iconst (v := (5 : Int32)) hx hb d_Plan_set_15 (by decide) ?_
      refine lv_icmp_ge (tgt := 43) hx hb d_Plan_set_16 (by decide) (fun c16_1 => ?_) (fun c16_1 => ?_)
      · have hF := dk_t c16_1 hF
        obtain rfl := Option.some.inj hF
        exact hk H locs ls hP hD hS (lv_sub hl [] rfl)
      · have hF := dk_f c16_1 hF
        refine lv_iload hx hb d_Plan_set_19 (lv_at hl 2 rfl) ?_
        refine lv_aload_n hx hb d_Plan_set_21 rfl (lv_at hl 1 rfl) ?_
        refine va_alen (D := G) hx hb hK hP 2 0 rfl rfl (v := (5 : Int32)) rfl d_Plan_set_22 ?_
        refine lv_icmp_ge (tgt := 43) hx hb d_Plan_set_23 (by decide) (fun c23_2 => ?_) (fun c23_2 => ?_)
        · have hF := dk_t c23_2 hF
          obtain rfl := Option.some.inj hF
          exact hk H locs ls hP hD hS (lv_sub hl [] rfl)
        · have hF := dk_f c23_2 hF
          refine lv_aload_n hx hb d_Plan_set_26 rfl (lv_at hl 0 rfl) ?_
          refine va_get (D := G) (ci := 2) (v := .ref t_offsets) (C := R_Plan) (T := F_Plan) (N := 5) hx hb hts i_Plan hown hK hP 0 rfl rfl 0 (by decide) (hts _ lk_82) (fun _ h9 => h9) rfl d_Plan_set_27 ?_
          refine lv_iload hx hb d_Plan_set_30 (lv_at hl 2 rfl) ?_
          refine lv_aload_n hx hb d_Plan_set_32 rfl (lv_at hl 1 rfl) ?_
          refine lv_iload hx hb d_Plan_set_33 (lv_at hl 2 rfl) ?_
          obtain ⟨hi, hF⟩ := dk_a hF
          refine va_iald (D := G) hx hb hK hP 2 0 rfl rfl (dk_vp hi) d_Plan_set_35 ?_
          obtain ⟨hi, hF⟩ := dk_a hF
          refine va_iast (D := G) hx hb hK hP hD hS 1 0 rfl rfl (dk_vp hi) d_Plan_set_36 (fun H locs hP hD hS => ?_)
          have hP : va_P G classes [(t, .inr (2, [.ref t_offsets, .int v_t_cycle, .int v_t_size, .int v_t_aim, .int v_t_sawAll])), (t_offsets, .inl (K 0, 5, .inl (upd v_t_offsets z4.toNatClampNeg (v_u3 z4.toNatClampNeg)))), (u3, .inl (K 0, 5, .inl v_u3))] H := hP
          have hD : va_D A [(t, .inr (2, [.ref t_offsets, .int v_t_cycle, .int v_t_size, .int v_t_aim, .int v_t_sawAll])), (t_offsets, .inl (K 0, 5, .inl (upd v_t_offsets z4.toNatClampNeg (v_u3 z4.toNatClampNeg)))), (u3, .inl (K 0, 5, .inl v_u3))] := hD
          refine lv_iinc (v := z4 + (1 : Int32)) (lv' := [(4, .int (z4 + (1 : Int32))), (0, .ref t), (3, .ref u3)]) hx hb d_Plan_set_37 hl (k := 2) rfl rfl (by decide) rfl (fun ls hl => ?_)
          refine lv_goto (tgt := 13) hx hb d_Plan_set_40 (by decide) ?_
          exact jh (z4 + (1 : Int32)) v_t_cycle v_t_size (upd v_t_offsets z4.toNatClampNeg (v_u3 z4.toNatClampNeg)) H locs q hF hP hD hS ls (lv_sub hl [1, 2, 0] rfl) hk
  unfold p_Plan_set at hF
  refine lv_aload_n hx hb d_Plan_set_0 rfl (lv_at hl 0 rfl) ?_
  refine lv_iload_n hx hb d_Plan_set_1 rfl (lv_at hl 1 rfl) ?_
  refine va_put (D := G) (ci := 2) (v := .int x1) (ty := .int) (C := R_Plan) (T := F_Plan) (N := 5) hx hb hts i_Plan t_Plan t_Plan_ok n_Plan hown hK hP hD hS 0 rfl rfl 1 (by decide) (hts _ lk_81) (fun _ h9 => h9) rfl (by decide +kernel) rfl rfl (Nat.le_of_ble_eq_true rfl) d_Plan_set_2 (fun H locs hP hD hS => ?_)
  have hP : va_P G classes [(t, .inr (2, [.ref t_offsets, .int x1, .int v_t_size, .int v_t_aim, .int v_t_sawAll])), (t_offsets, .inl (K 0, 5, .inl v_t_offsets)), (u3, .inl (K 0, 5, .inl v_u3))] H := hP
  have hD : va_D A [(t, .inr (2, [.ref t_offsets, .int x1, .int v_t_size, .int v_t_aim, .int v_t_sawAll])), (t_offsets, .inl (K 0, 5, .inl v_t_offsets)), (u3, .inl (K 0, 5, .inl v_u3))] := hD
  refine lv_aload_n hx hb d_Plan_set_5 rfl (lv_at hl 0 rfl) ?_
  refine lv_iload_n hx hb d_Plan_set_6 rfl (lv_at hl 2 rfl) ?_
  refine va_put (D := G) (ci := 2) (v := .int x2) (ty := .int) (C := R_Plan) (T := F_Plan) (N := 5) hx hb hts i_Plan t_Plan t_Plan_ok n_Plan hown hK hP hD hS 0 rfl rfl 2 (by decide) (hts _ lk_83) (fun _ h9 => h9) rfl (by decide +kernel) rfl rfl (Nat.le_of_ble_eq_true rfl) d_Plan_set_7 (fun H locs hP hD hS => ?_)
  have hP : va_P G classes [(t, .inr (2, [.ref t_offsets, .int x1, .int x2, .int v_t_aim, .int v_t_sawAll])), (t_offsets, .inl (K 0, 5, .inl v_t_offsets)), (u3, .inl (K 0, 5, .inl v_u3))] H := hP
  have hD : va_D A [(t, .inr (2, [.ref t_offsets, .int x1, .int x2, .int v_t_aim, .int v_t_sawAll])), (t_offsets, .inl (K 0, 5, .inl v_t_offsets)), (u3, .inl (K 0, 5, .inl v_u3))] := hD
  refine lv_iconst (v := (0 : Int32)) hx hb d_Plan_set_10 (by decide) ?_
  refine lv_istore (lv' := [(4, .int (0 : Int32)), (0, .ref t), (1, .int x1), (2, .int x2), (3, .ref u3)]) hx hb d_Plan_set_11 hl (by decide) rfl (fun ls hl => ?_)
  obtain ⟨q13_3, hC, hF⟩ := dk_b hF
  refine L13 n (0 : Int32) x1 x2 v_t_offsets H locs q13_3 hC hP hD hS ls (lv_sub hl [1, 4, 0] rfl) (fun H locs ls hP hD hS hl => ?_)
  obtain rfl := Option.some.inj hF
  exact W.vret hx hb hr (fun t ht hW => ⟨⟨(), rfl, by rw [ht]; exact hP, hD⟩, hS.F ht⟩) hS.2.2 d_Plan_set_43
def p_Plan_turnsTo_4 (n : Nat) : Nat → Int32 → (Nat → Int32) → (Nat → Int32) → Int32 → Int32 → Int32 → Option (Int32)
  | 0, _, _, _, _, _, _ => none
  | k + 1, v_t_size, v_u1_offsets, v_t_offsets, v_u1_cycle, z2, z3 =>
    if v_t_size ≤ z3 then
      some z2
    else
      if (5 : Int32) ≤ z3 then
        some z2
      else
        if dk_in z3 5 = true then
          if dk_in z3 5 = true then
            (p_WO_wrap n ((v_u1_offsets z3.toNatClampNeg) - (v_t_offsets z3.toNatClampNeg)) v_u1_cycle).bind fun r34_3 =>
            (p_Math_min n r34_3 (v_u1_cycle - r34_3)).bind fun r49_4 =>
            p_Plan_turnsTo_4 n k v_t_size v_u1_offsets v_t_offsets v_u1_cycle (z2 + r49_4) (z3 + (1 : Int32))
          else none
        else none
theorem q_Plan_turnsTo_4 (n k : Nat) (v_t_size : Int32) (v_u1_offsets : Nat → Int32) (v_t_offsets : Nat → Int32) (v_u1_cycle : Int32) (z2 : Int32) (z3 : Int32) : p_Plan_turnsTo_4 n (k + 1) v_t_size v_u1_offsets v_t_offsets v_u1_cycle z2 z3 =
    if v_t_size ≤ z3 then
      some z2
    else
      if (5 : Int32) ≤ z3 then
        some z2
      else
        if dk_in z3 5 = true then
          if dk_in z3 5 = true then
            (p_WO_wrap n ((v_u1_offsets z3.toNatClampNeg) - (v_t_offsets z3.toNatClampNeg)) v_u1_cycle).bind fun r34_3 =>
            (p_Math_min n r34_3 (v_u1_cycle - r34_3)).bind fun r49_4 =>
            p_Plan_turnsTo_4 n k v_t_size v_u1_offsets v_t_offsets v_u1_cycle (z2 + r49_4) (z3 + (1 : Int32))
          else none
        else none := rfl
def p_Plan_turnsTo (n : Nat) (v_t_size : Int32) (v_u1_offsets : Nat → Int32) (v_t_offsets : Nat → Int32) (v_u1_cycle : Int32) : Option (Int32) :=
  (p_Plan_turnsTo_4 n n v_t_size v_u1_offsets v_t_offsets v_u1_cycle (0 : Int32) (0 : Int32)).bind fun q4_5 =>
  some q4_5
abbrev m_Plan_turnsTo : Room := { frames := 2, cells := 0, slots := 0, locals := 43 }
set_option maxHeartbeats 4000000 in
set_option maxRecDepth 100000 in
theorem c_Plan_turnsTo (l : Launch) (G : va_G) (K : Nat → ClassId) (n : Nat) (t : Nat) (t_offsets : Nat) (u1 : Nat) (u1_offsets : Nat) (v_t_cycle : Int32) (v_t_size : Int32) (v_t_aim : Int32) (v_t_sawAll : Int32) (v_t_offsets : Nat → Int32) (v_u1_cycle : Int32) (v_u1_size : Int32) (v_u1_aim : Int32) (v_u1_sawAll : Int32) (v_u1_offsets : Nat → Int32) (o : Int32) (hF : p_Plan_turnsTo n v_t_size v_u1_offsets v_t_offsets v_u1_cycle = some o) :
    Met l y_Plan_turnsTo (wd y_Plan_turnsTo b_Plan_turnsTo 5 (some .int)) m_Plan_turnsTo (dk_Pp [.ref t, .ref u1] G K [(t, .inr (2, [.ref t_offsets, .int v_t_cycle, .int v_t_size, .int v_t_aim, .int v_t_sawAll])), (t_offsets, .inl (K 0, 5, .inl v_t_offsets)), (u1, .inr (2, [.ref u1_offsets, .int v_u1_cycle, .int v_u1_size, .int v_u1_aim, .int v_u1_sawAll])), (u1_offsets, .inl (K 0, 5, .inl v_u1_offsets))]) (dk_Qp (some (.int o))) 0 0 (fun _ => False) := by
  refine Met.ofW (cc := b_Plan_turnsTo) (maxL := 5) (ret := (some .int)) (by decide) rfl ?_
  intro p e s m args below meth c s₁ B hml hv
  obtain ⟨rfl, hP, hK, hN⟩ := hv
  have hx := B.exec
  have hb := B.bytes
  have hr := B.returns
  have hts : ∀ w ∈ lw_good, w.before _ s = true := fun w h => atoms_spec (ws := wd y_Plan_turnsTo b_Plan_turnsTo 5 (some .int)) B.pre w (List.mem_cons_of_mem _ h)
  have hown : s.vm.findClass R_Plan = some m.cls := findClass_of_methodNamed B.named
  have hlocks := B.notSynchronized
  have hfix : CallFix p m c b_Plan_turnsTo 5 s _ lw_good R_Plan := ⟨hx, hb, hml, hown, hts⟩
  have hl := lv_entry ([.ref t, .ref u1]) (n := 5) (Nat.le_of_ble_eq_true rfl)
  rw [lg_entry_eq]
  generalize (lg_sl ([.ref t, .ref u1]) ++ List.replicate (5 - (lg_sl ([.ref t, .ref u1])).length) Slot.unset).toArray = ls at hl ⊢
  have hl : lv_has ls 5 [(0, .ref t), (1, .ref u1)] := hl
  change W p l e m_Plan_turnsTo s m _ below meth c s.heap [] 0 0 _ _
  have L4 : ∀ (k : Nat) (z2 : Int32) (z3 : Int32) (q : Int32), p_Plan_turnsTo_4 n k v_t_size v_u1_offsets v_t_offsets v_u1_cycle z2 z3 = some q → ∀ ls : Array Slot, lv_has ls 5 [(0, .ref t), (1, .ref u1), (2, .int z2), (3, .int z3)] → (∀ (ls1 : Array Slot), lv_has ls1 5 [(2, .int q)] → W p l e m_Plan_turnsTo s m ([.ref t, .ref u1] : List Value).toArray below meth c s.heap [] 0 0 (MQ below (dk_Qp (some (.int o))) ([.ref t, .ref u1] : List Value).toArray s 0 0 (fun _ => False)) (F0 m 60 ls1 [])) → W p l e m_Plan_turnsTo s m ([.ref t, .ref u1] : List Value).toArray below meth c s.heap [] 0 0 (MQ below (dk_Qp (some (.int o))) ([.ref t, .ref u1] : List Value).toArray s 0 0 (fun _ => False)) (F0 m 4 ls []) := by
    intro k
    induction k with
    | zero =>
      intro z2 z3 q hF ls hl hk
      exact absurd hF (by simp [p_Plan_turnsTo_4])
    | succ k jh =>
      intro z2 z3 q hF ls hl hk
      have hF := (q_Plan_turnsTo_4 n k v_t_size v_u1_offsets v_t_offsets v_u1_cycle z2 z3).symm.trans hF
      refine lv_iload_n hx hb d_Plan_turnsTo_4 rfl (lv_at hl 3 rfl) ?_
      refine lv_aload_n hx hb d_Plan_turnsTo_5 rfl (lv_at hl 0 rfl) ?_
      refine va_get (D := G) (ci := 2) (v := .int v_t_size) (C := R_Plan) (T := F_Plan) (N := 5) hx hb hts i_Plan hown hK hP 0 rfl rfl 2 (by decide) (hts _ lk_83) (fun _ h9 => h9) rfl d_Plan_turnsTo_6 ?_
      refine lv_icmp_ge (tgt := 60) hx hb d_Plan_turnsTo_9 (by decide) (fun c9_1 => ?_) (fun c9_1 => ?_)
      · have hF := dk_t c9_1 hF
        obtain rfl := Option.some.inj hF
        exact hk ls (lv_sub hl [2] rfl)
      · have hF := dk_f c9_1 hF
        refine lv_iload_n hx hb d_Plan_turnsTo_12 rfl (lv_at hl 3 rfl) ?_
        refine lv_iconst (v := (5 : Int32)) hx hb d_Plan_turnsTo_13 (by decide) ?_
        refine lv_icmp_ge (tgt := 60) hx hb d_Plan_turnsTo_14 (by decide) (fun c14_2 => ?_) (fun c14_2 => ?_)
        · have hF := dk_t c14_2 hF
          obtain rfl := Option.some.inj hF
          exact hk ls (lv_sub hl [2] rfl)
        · have hF := dk_f c14_2 hF
          refine lv_aload_n hx hb d_Plan_turnsTo_17 rfl (lv_at hl 1 rfl) ?_
          refine va_get (D := G) (ci := 2) (v := .ref u1_offsets) (C := R_Plan) (T := F_Plan) (N := 5) hx hb hts i_Plan hown hK hP 2 rfl rfl 0 (by decide) (hts _ lk_82) (fun _ h9 => h9) rfl d_Plan_turnsTo_18 ?_
          refine lv_iload_n hx hb d_Plan_turnsTo_21 rfl (lv_at hl 3 rfl) ?_
          obtain ⟨hi, hF⟩ := dk_a hF
          refine va_iald (D := G) hx hb hK hP 3 0 rfl rfl (dk_vp hi) d_Plan_turnsTo_22 ?_
          refine lv_aload_n hx hb d_Plan_turnsTo_23 rfl (lv_at hl 0 rfl) ?_
          refine va_get (D := G) (ci := 2) (v := .ref t_offsets) (C := R_Plan) (T := F_Plan) (N := 5) hx hb hts i_Plan hown hK hP 0 rfl rfl 0 (by decide) (hts _ lk_82) (fun _ h9 => h9) rfl d_Plan_turnsTo_24 ?_
          refine lv_iload_n hx hb d_Plan_turnsTo_27 rfl (lv_at hl 3 rfl) ?_
          obtain ⟨hi, hF⟩ := dk_a hF
          refine va_iald (D := G) hx hb hK hP 1 0 rfl rfl (dk_vp hi) d_Plan_turnsTo_28 ?_
          refine lv_isub hx hb d_Plan_turnsTo_29 ?_
          refine lv_aload_n hx hb d_Plan_turnsTo_30 rfl (lv_at hl 1 rfl) ?_
          refine va_get (D := G) (ci := 2) (v := .int v_u1_cycle) (C := R_Plan) (T := F_Plan) (N := 5) hx hb hts i_Plan hown hK hP 2 rfl rfl 1 (by decide) (hts _ lk_81) (fun _ h9 => h9) rfl d_Plan_turnsTo_31 ?_
          obtain ⟨r34_3, hC, hF⟩ := dk_b hF
          refine dk_pure (va_runSN (As := [.int ((v_u1_offsets z3.toNatClampNeg) - (v_t_offsets z3.toNatClampNeg)), .int v_u1_cycle]) (rest := []) hfix (c_WO_wrap l G K n ((v_u1_offsets z3.toNatClampNeg) - (v_t_offsets z3.toNatClampNeg)) v_u1_cycle r34_3 hC) (⟨va_cnB 2 hts (gd_w lk_60) rfl rfl rfl (hN.1 _ lk_84) (hts _ lk_16) (by decide +kernel) ⟨Nat.le_of_ble_eq_true rfl, Nat.le_of_ble_eq_true rfl⟩, hts _ lk_61, trivial⟩) (dk_preS hK hN (hP.sub [] rfl)) rfl rfl hl.1 rfl (lv_room (Nat.le_of_ble_eq_true rfl)) d_Plan_turnsTo_34 ⟨Nat.le_of_ble_eq_true rfl, Nat.le_of_ble_eq_true rfl⟩) ?_
          refine lv_istore (lv' := [(4, .int r34_3), (0, .ref t), (1, .ref u1), (2, .int z2), (3, .int z3)]) hx hb d_Plan_turnsTo_37 hl (by decide) rfl (fun ls hl => ?_)
          refine lv_iload_n hx hb d_Plan_turnsTo_39 rfl (lv_at hl 3 rfl) ?_
          refine lv_iload hx hb d_Plan_turnsTo_40 (lv_at hl 0 rfl) ?_
          refine lv_aload_n hx hb d_Plan_turnsTo_42 rfl (lv_at hl 2 rfl) ?_
          refine va_get (D := G) (ci := 2) (v := .int v_u1_cycle) (C := R_Plan) (T := F_Plan) (N := 5) hx hb hts i_Plan hown hK hP 2 rfl rfl 1 (by decide) (hts _ lk_81) (fun _ h9 => h9) rfl d_Plan_turnsTo_43 ?_
          refine lv_iload hx hb d_Plan_turnsTo_46 (lv_at hl 0 rfl) ?_
          refine lv_isub hx hb d_Plan_turnsTo_48 ?_
          obtain ⟨r49_4, hC, hF⟩ := dk_b hF
          refine dk_pure (va_runS (As := [.int r34_3, .int (v_u1_cycle - r34_3)]) (rest := [.int z2]) hfix (c_Math_min l G K n r34_3 (v_u1_cycle - r34_3) r49_4 hC) (va_cwS 2 hts (gd_S lk_85 lk_9 lk_6 lk_8) rfl rfl rfl (by decide +kernel) ⟨Nat.le_of_ble_eq_true rfl, Nat.le_of_ble_eq_true rfl⟩) (dk_preS hK hN (hP.sub [] rfl)) rfl rfl hl.1 rfl (lv_room (Nat.le_of_ble_eq_true rfl)) d_Plan_turnsTo_49 ⟨Nat.le_of_ble_eq_true rfl, Nat.le_of_ble_eq_true rfl⟩) ?_
          refine lv_iadd hx hb d_Plan_turnsTo_52 ?_
          refine lv_istore_n (lv' := [(2, .int (z2 + r49_4)), (4, .int r34_3), (0, .ref t), (1, .ref u1), (3, .int z3)]) hx hb d_Plan_turnsTo_53 rfl hl (by decide) rfl (fun ls hl => ?_)
          refine lv_iinc (v := z3 + (1 : Int32)) (lv' := [(3, .int (z3 + (1 : Int32))), (2, .int (z2 + r49_4)), (4, .int r34_3), (0, .ref t), (1, .ref u1)]) hx hb d_Plan_turnsTo_54 hl (k := 4) rfl rfl (by decide) rfl (fun ls hl => ?_)
          refine lv_goto (tgt := 4) hx hb d_Plan_turnsTo_57 (by decide) ?_
          exact jh (z2 + r49_4) (z3 + (1 : Int32)) q hF ls (lv_sub hl [3, 4, 1, 0] rfl) hk
  unfold p_Plan_turnsTo at hF
  refine lv_iconst (v := (0 : Int32)) hx hb d_Plan_turnsTo_0 (by decide) ?_
  refine lv_istore_n (lv' := [(2, .int (0 : Int32)), (0, .ref t), (1, .ref u1)]) hx hb d_Plan_turnsTo_1 rfl hl (by decide) rfl (fun ls hl => ?_)
  refine lv_iconst (v := (0 : Int32)) hx hb d_Plan_turnsTo_2 (by decide) ?_
  refine lv_istore_n (lv' := [(3, .int (0 : Int32)), (2, .int (0 : Int32)), (0, .ref t), (1, .ref u1)]) hx hb d_Plan_turnsTo_3 rfl hl (by decide) rfl (fun ls hl => ?_)
  obtain ⟨q4_5, hC, hF⟩ := dk_b hF
  refine L4 n (0 : Int32) (0 : Int32) q4_5 hC ls (lv_sub hl [2, 3, 1, 0] rfl) (fun ls hl => ?_)
  refine lv_iload_n hx hb d_Plan_turnsTo_60 rfl (lv_at hl 0 rfl) ?_
  obtain rfl := Option.some.inj hF
  exact W.iret (v := q4_5) hx hb hr (fun t ht hW => ⟨rfl, ht⟩) (fun _ h => by cases h) d_Plan_turnsTo_61
def p_Arr_told (n : Nat) (v_t_size : Int32) : Option (Int32) :=
  some v_t_size
abbrev m_Arr_told : Room := { frames := 0, cells := 0, slots := 0, locals := 0 }
set_option maxHeartbeats 4000000 in
set_option maxRecDepth 100000 in
theorem c_Arr_told (l : Launch) (G : va_G) (K : Nat → ClassId) (n : Nat) (t : Nat) (t_crossings : Nat) (t_seconds : Nat) (t_cars : Nat) (v_t_size : Int32) (o : Int32) (hF : p_Arr_told n v_t_size = some o) :
    Met l y_Arr_told (wd y_Arr_told b_Arr_told 1 (some .int)) m_Arr_told (dk_Pp [.ref t] G K [(t, .inr (7, [.ref t_crossings, .ref t_seconds, .ref t_cars, .int v_t_size]))]) (dk_Qp (some (.int o))) 0 0 (fun _ => False) := by
  refine Met.ofW (cc := b_Arr_told) (maxL := 1) (ret := (some .int)) (by decide) rfl ?_
  intro p e s m args below meth c s₁ B hml hv
  obtain ⟨rfl, hP, hK, hN⟩ := hv
  have hx := B.exec
  have hb := B.bytes
  have hr := B.returns
  have hts : ∀ w ∈ lw_good, w.before _ s = true := fun w h => atoms_spec (ws := wd y_Arr_told b_Arr_told 1 (some .int)) B.pre w (List.mem_cons_of_mem _ h)
  have hown : s.vm.findClass R_Arr = some m.cls := findClass_of_methodNamed B.named
  have hlocks := B.notSynchronized
  have hfix : CallFix p m c b_Arr_told 1 s _ lw_good R_Arr := ⟨hx, hb, hml, hown, hts⟩
  have hl := lv_entry ([.ref t]) (n := 1) (Nat.le_of_ble_eq_true rfl)
  rw [lg_entry_eq]
  generalize (lg_sl ([.ref t]) ++ List.replicate (1 - (lg_sl ([.ref t])).length) Slot.unset).toArray = ls at hl ⊢
  have hl : lv_has ls 1 [(0, .ref t)] := hl
  change W p l e m_Arr_told s m _ below meth c s.heap [] 0 0 _ _
  unfold p_Arr_told at hF
  refine lv_aload_n hx hb d_Arr_told_0 rfl (lv_at hl 0 rfl) ?_
  refine va_get (D := G) (ci := 7) (v := .int v_t_size) (C := R_Arr) (T := F_Arr) (N := 4) hx hb hts i_Arr hown hK hP 0 rfl rfl 3 (by decide) (hts _ lk_86) (fun _ h9 => h9) rfl d_Arr_told_1 ?_
  obtain rfl := Option.some.inj hF
  exact W.iret (v := v_t_size) hx hb hr (fun t ht hW => ⟨rfl, ht⟩) (fun _ h => by cases h) d_Arr_told_4
def p_Arr_add (n : Nat) (x1 : Int32) (x2 : Int32) (x3 : Int32) (v_t_size : Int32) (v_t_crossings : Nat → Int32) (v_t_seconds : Nat → Int32) (v_t_cars : Nat → Int32) : Option (Int32 × Int32 × (Nat → Int32) × (Nat → Int32) × (Nat → Int32)) :=
  if v_t_size < (40 : Int32) then
    if dk_in v_t_size 40 = true then
      if dk_in v_t_size 40 = true then
        if dk_in v_t_size 40 = true then
          some ((1 : Int32), v_t_size + (1 : Int32), upd v_t_crossings v_t_size.toNatClampNeg x1, upd v_t_seconds v_t_size.toNatClampNeg x2, upd v_t_cars v_t_size.toNatClampNeg x3)
        else none
      else none
    else none
  else
    some ((0 : Int32), v_t_size, v_t_crossings, v_t_seconds, v_t_cars)
abbrev m_Arr_add : Room := { frames := 0, cells := 0, slots := 0, locals := 0 }
set_option maxHeartbeats 4000000 in
set_option maxRecDepth 100000 in
theorem c_Arr_add (l : Launch) (G : va_G) (K : Nat → ClassId) (n : Nat) (sz : Nat) (t : Nat) (t_crossings : Nat) (t_seconds : Nat) (t_cars : Nat) (x1 : Int32) (x2 : Int32) (x3 : Int32) (v_t_size : Int32) (v_t_crossings : Nat → Int32) (v_t_seconds : Nat → Int32) (v_t_cars : Nat → Int32) (o : Int32 × Int32 × (Nat → Int32) × (Nat → Int32) × (Nat → Int32)) (hF : p_Arr_add n x1 x2 x3 v_t_size v_t_crossings v_t_seconds v_t_cars = some o) :
    Met l y_Arr_add (wd y_Arr_add b_Arr_add 4 (some .boolean)) m_Arr_add (dk_Pm [.ref t, .int x1, .int x2, .int x3] G K [(t, .inr (7, [.ref t_crossings, .ref t_seconds, .ref t_cars, .int v_t_size])), (t_crossings, .inl (K 0, 40, .inl v_t_crossings)), (t_seconds, .inl (K 0, 40, .inl v_t_seconds)), (t_cars, .inl (K 0, 40, .inl v_t_cars))] sz) (dk_Qm (some (.int o.1)) G (fun _ : Unit => [(t, .inr (7, [.ref t_crossings, .ref t_seconds, .ref t_cars, .int o.2.1])), (t_crossings, .inl (K 0, 40, .inl o.2.2.1)), (t_seconds, .inl (K 0, 40, .inl o.2.2.2.1)), (t_cars, .inl (K 0, 40, .inl o.2.2.2.2))]) (va_A [(t, .inr (7, [.ref t_crossings, .ref t_seconds, .ref t_cars, .int v_t_size])), (t_crossings, .inl (K 0, 40, .inl v_t_crossings)), (t_seconds, .inl (K 0, 40, .inl v_t_seconds)), (t_cars, .inl (K 0, 40, .inl v_t_cars))] sz)) 0 0 (va_A [(t, .inr (7, [.ref t_crossings, .ref t_seconds, .ref t_cars, .int v_t_size])), (t_crossings, .inl (K 0, 40, .inl v_t_crossings)), (t_seconds, .inl (K 0, 40, .inl v_t_seconds)), (t_cars, .inl (K 0, 40, .inl v_t_cars))] sz) := by
  refine Met.ofW (cc := b_Arr_add) (maxL := 4) (ret := (some .boolean)) (by decide) rfl ?_
  intro p e s m args below meth c s₁ B hml hv
  obtain ⟨rfl, hsz, hP, hK, hN, hD0⟩ := hv
  have hx := B.exec
  have hb := B.bytes
  have hr := B.returns
  have hts : ∀ w ∈ lw_good, w.before _ s = true := fun w h => atoms_spec (ws := wd y_Arr_add b_Arr_add 4 (some .boolean)) B.pre w (List.mem_cons_of_mem _ h)
  have hown : s.vm.findClass R_Arr = some m.cls := findClass_of_methodNamed B.named
  have hlocks := B.notSynchronized
  have hfix : CallFix p m c b_Arr_add 4 s _ lw_good R_Arr := ⟨hx, hb, hml, hown, hts⟩
  subst hsz
  have hD := hD0.self (sz := s.heap.size)
  generalize hAe : va_A [(t, .inr (7, [.ref t_crossings, .ref t_seconds, .ref t_cars, .int v_t_size])), (t_crossings, .inl (K 0, 40, .inl v_t_crossings)), (t_seconds, .inl (K 0, 40, .inl v_t_seconds)), (t_cars, .inl (K 0, 40, .inl v_t_cars))] s.heap.size = A at hD ⊢
  have hA : ∀ q : Nat, s.heap.size ≤ q → A q := fun q h => by rw [← hAe]; exact Or.inr h
  have hS : va_S A s.heap s.heap [] := va_S.rf
  have hl := lv_entry ([.ref t, .int x1, .int x2, .int x3]) (n := 4) (Nat.le_of_ble_eq_true rfl)
  rw [lg_entry_eq]
  generalize (lg_sl ([.ref t, .int x1, .int x2, .int x3]) ++ List.replicate (4 - (lg_sl ([.ref t, .int x1, .int x2, .int x3])).length) Slot.unset).toArray = ls at hl ⊢
  have hl : lv_has ls 4 [(0, .ref t), (1, .int x1), (2, .int x2), (3, .int x3)] := hl
  change W p l e m_Arr_add s m _ below meth c s.heap [] 0 0 _ _
  unfold p_Arr_add at hF
  refine lv_aload_n hx hb d_Arr_add_0 rfl (lv_at hl 0 rfl) ?_
  refine va_get (D := G) (ci := 7) (v := .int v_t_size) (C := R_Arr) (T := F_Arr) (N := 4) hx hb hts i_Arr hown hK hP 0 rfl rfl 3 (by decide) (hts _ lk_86) (fun _ h9 => h9) rfl d_Arr_add_1 ?_
  refine lv_bipush (v := (40 : Int32)) hx hb d_Arr_add_4 (by decide) ?_
  refine lv_icmp_lt (tgt := 11) hx hb d_Arr_add_6 (by decide) (fun c6_1 => ?_) (fun c6_1 => ?_)
  · have hF := dk_t c6_1 hF
    refine lv_aload_n hx hb d_Arr_add_11 rfl (lv_at hl 0 rfl) ?_
    refine va_get (D := G) (ci := 7) (v := .ref t_crossings) (C := R_Arr) (T := F_Arr) (N := 4) hx hb hts i_Arr hown hK hP 0 rfl rfl 0 (by decide) (hts _ lk_87) (fun _ h9 => h9) rfl d_Arr_add_12 ?_
    refine lv_aload_n hx hb d_Arr_add_15 rfl (lv_at hl 0 rfl) ?_
    refine va_get (D := G) (ci := 7) (v := .int v_t_size) (C := R_Arr) (T := F_Arr) (N := 4) hx hb hts i_Arr hown hK hP 0 rfl rfl 3 (by decide) (hts _ lk_86) (fun _ h9 => h9) rfl d_Arr_add_16 ?_
    refine lv_iload_n hx hb d_Arr_add_19 rfl (lv_at hl 1 rfl) ?_
    obtain ⟨hi, hF⟩ := dk_a hF
    refine va_iast (D := G) hx hb hK hP hD hS 1 0 rfl rfl (dk_vp hi) d_Arr_add_20 (fun H locs hP hD hS => ?_)
    have hP : va_P G classes [(t, .inr (7, [.ref t_crossings, .ref t_seconds, .ref t_cars, .int v_t_size])), (t_crossings, .inl (K 0, 40, .inl (upd v_t_crossings v_t_size.toNatClampNeg x1))), (t_seconds, .inl (K 0, 40, .inl v_t_seconds)), (t_cars, .inl (K 0, 40, .inl v_t_cars))] H := hP
    have hD : va_D A [(t, .inr (7, [.ref t_crossings, .ref t_seconds, .ref t_cars, .int v_t_size])), (t_crossings, .inl (K 0, 40, .inl (upd v_t_crossings v_t_size.toNatClampNeg x1))), (t_seconds, .inl (K 0, 40, .inl v_t_seconds)), (t_cars, .inl (K 0, 40, .inl v_t_cars))] := hD
    refine lv_aload_n hx hb d_Arr_add_21 rfl (lv_at hl 0 rfl) ?_
    refine va_get (D := G) (ci := 7) (v := .ref t_seconds) (C := R_Arr) (T := F_Arr) (N := 4) hx hb hts i_Arr hown hK hP 0 rfl rfl 1 (by decide) (hts _ lk_88) (fun _ h9 => h9) rfl d_Arr_add_22 ?_
    refine lv_aload_n hx hb d_Arr_add_25 rfl (lv_at hl 0 rfl) ?_
    refine va_get (D := G) (ci := 7) (v := .int v_t_size) (C := R_Arr) (T := F_Arr) (N := 4) hx hb hts i_Arr hown hK hP 0 rfl rfl 3 (by decide) (hts _ lk_86) (fun _ h9 => h9) rfl d_Arr_add_26 ?_
    refine lv_iload_n hx hb d_Arr_add_29 rfl (lv_at hl 2 rfl) ?_
    obtain ⟨hi, hF⟩ := dk_a hF
    refine va_iast (D := G) hx hb hK hP hD hS 2 0 rfl rfl (dk_vp hi) d_Arr_add_30 (fun H locs hP hD hS => ?_)
    have hP : va_P G classes [(t, .inr (7, [.ref t_crossings, .ref t_seconds, .ref t_cars, .int v_t_size])), (t_crossings, .inl (K 0, 40, .inl (upd v_t_crossings v_t_size.toNatClampNeg x1))), (t_seconds, .inl (K 0, 40, .inl (upd v_t_seconds v_t_size.toNatClampNeg x2))), (t_cars, .inl (K 0, 40, .inl v_t_cars))] H := hP
    have hD : va_D A [(t, .inr (7, [.ref t_crossings, .ref t_seconds, .ref t_cars, .int v_t_size])), (t_crossings, .inl (K 0, 40, .inl (upd v_t_crossings v_t_size.toNatClampNeg x1))), (t_seconds, .inl (K 0, 40, .inl (upd v_t_seconds v_t_size.toNatClampNeg x2))), (t_cars, .inl (K 0, 40, .inl v_t_cars))] := hD
    refine lv_aload_n hx hb d_Arr_add_31 rfl (lv_at hl 0 rfl) ?_
    refine va_get (D := G) (ci := 7) (v := .ref t_cars) (C := R_Arr) (T := F_Arr) (N := 4) hx hb hts i_Arr hown hK hP 0 rfl rfl 2 (by decide) (hts _ lk_89) (fun _ h9 => h9) rfl d_Arr_add_32 ?_
    refine lv_aload_n hx hb d_Arr_add_35 rfl (lv_at hl 0 rfl) ?_
    refine va_get (D := G) (ci := 7) (v := .int v_t_size) (C := R_Arr) (T := F_Arr) (N := 4) hx hb hts i_Arr hown hK hP 0 rfl rfl 3 (by decide) (hts _ lk_86) (fun _ h9 => h9) rfl d_Arr_add_36 ?_
    refine lv_iload_n hx hb d_Arr_add_39 rfl (lv_at hl 3 rfl) ?_
    obtain ⟨hi, hF⟩ := dk_a hF
    refine va_iast (D := G) hx hb hK hP hD hS 3 0 rfl rfl (dk_vp hi) d_Arr_add_40 (fun H locs hP hD hS => ?_)
    have hP : va_P G classes [(t, .inr (7, [.ref t_crossings, .ref t_seconds, .ref t_cars, .int v_t_size])), (t_crossings, .inl (K 0, 40, .inl (upd v_t_crossings v_t_size.toNatClampNeg x1))), (t_seconds, .inl (K 0, 40, .inl (upd v_t_seconds v_t_size.toNatClampNeg x2))), (t_cars, .inl (K 0, 40, .inl (upd v_t_cars v_t_size.toNatClampNeg x3)))] H := hP
    have hD : va_D A [(t, .inr (7, [.ref t_crossings, .ref t_seconds, .ref t_cars, .int v_t_size])), (t_crossings, .inl (K 0, 40, .inl (upd v_t_crossings v_t_size.toNatClampNeg x1))), (t_seconds, .inl (K 0, 40, .inl (upd v_t_seconds v_t_size.toNatClampNeg x2))), (t_cars, .inl (K 0, 40, .inl (upd v_t_cars v_t_size.toNatClampNeg x3)))] := hD
    refine lv_aload_n hx hb d_Arr_add_41 rfl (lv_at hl 0 rfl) ?_
    refine lv_dup hx hb d_Arr_add_42 rfl ?_
    refine va_get (D := G) (ci := 7) (v := .int v_t_size) (C := R_Arr) (T := F_Arr) (N := 4) hx hb hts i_Arr hown hK hP 0 rfl rfl 3 (by decide) (hts _ lk_86) (fun _ h9 => h9) rfl d_Arr_add_43 ?_
    refine lv_iconst (v := (1 : Int32)) hx hb d_Arr_add_46 (by decide) ?_
    refine lv_iadd hx hb d_Arr_add_47 ?_
    refine va_put (D := G) (ci := 7) (v := .int (v_t_size + (1 : Int32))) (ty := .int) (C := R_Arr) (T := F_Arr) (N := 4) hx hb hts i_Arr t_Arr t_Arr_ok n_Arr hown hK hP hD hS 0 rfl rfl 3 (by decide) (hts _ lk_86) (fun _ h9 => h9) rfl (by decide +kernel) rfl rfl (Nat.le_of_ble_eq_true rfl) d_Arr_add_48 (fun H locs hP hD hS => ?_)
    have hP : va_P G classes [(t, .inr (7, [.ref t_crossings, .ref t_seconds, .ref t_cars, .int (v_t_size + (1 : Int32))])), (t_crossings, .inl (K 0, 40, .inl (upd v_t_crossings v_t_size.toNatClampNeg x1))), (t_seconds, .inl (K 0, 40, .inl (upd v_t_seconds v_t_size.toNatClampNeg x2))), (t_cars, .inl (K 0, 40, .inl (upd v_t_cars v_t_size.toNatClampNeg x3)))] H := hP
    have hD : va_D A [(t, .inr (7, [.ref t_crossings, .ref t_seconds, .ref t_cars, .int (v_t_size + (1 : Int32))])), (t_crossings, .inl (K 0, 40, .inl (upd v_t_crossings v_t_size.toNatClampNeg x1))), (t_seconds, .inl (K 0, 40, .inl (upd v_t_seconds v_t_size.toNatClampNeg x2))), (t_cars, .inl (K 0, 40, .inl (upd v_t_cars v_t_size.toNatClampNeg x3)))] := hD
    refine lv_iconst (v := (1 : Int32)) hx hb d_Arr_add_51 (by decide) ?_
    obtain rfl := Option.some.inj hF
    exact W.zret (v := (1 : Int32)) hx hb hr rfl (fun t ht hW => ⟨⟨(), rfl, by rw [ht]; exact hP, hD⟩, hS.F ht⟩) hS.2.2 d_Arr_add_52
  · have hF := dk_f c6_1 hF
    refine lv_iconst (v := (0 : Int32)) hx hb d_Arr_add_9 (by decide) ?_
    obtain rfl := Option.some.inj hF
    exact W.zret (v := (0 : Int32)) hx hb hr rfl (fun t ht hW => ⟨⟨(), rfl, by rw [ht]; exact hP, hD⟩, hS.F ht⟩) hS.2.2 d_Arr_add_10
def p_Arr_waitOf (n : Nat) (x1 : Int32) (v_t_crossings : Nat → Int32) (v_u3_offsets : Nat → Int32) (v_u2_size : Int32) (v_u2_queues : Nat → Int32) (v_t_seconds : Nat → Int32) (v_u3_cycle : Int32) (v_u2_greens : Nat → Int32) : Option (Int32) :=
  if dk_in x1 40 = true then
    (p_Plan_offsetOf n (v_t_crossings x1.toNatClampNeg) v_u3_offsets).bind fun r11_1 =>
    (p_Road_queueOf n (v_t_crossings x1.toNatClampNeg) v_u2_size v_u2_queues).bind fun r17_2 =>
    if dk_in x1 40 = true then
      (p_WO_wrap n ((v_t_seconds x1.toNatClampNeg) - (r11_1 + r17_2)) v_u3_cycle).bind fun r36_3 =>
      (p_Road_openOf n (v_t_crossings x1.toNatClampNeg) v_u2_size v_u2_greens v_u2_queues).bind fun r46_4 =>
      if r46_4 ≤ r36_3 then
        some (v_u3_cycle - r36_3)
      else
        some (0 : Int32)
    else none
  else none
abbrev m_Arr_waitOf : Room := { frames := 3, cells := 0, slots := 0, locals := 63 }
set_option maxHeartbeats 4000000 in
set_option maxRecDepth 100000 in
theorem c_Arr_waitOf (l : Launch) (G : va_G) (K : Nat → ClassId) (n : Nat) (t : Nat) (t_crossings : Nat) (t_seconds : Nat) (t_cars : Nat) (u2 : Nat) (u2_greens : Nat) (u2_leasts : Nat) (u2_queues : Nat) (u2_seconds : Nat) (u2_weights : Nat) (u3 : Nat) (u3_offsets : Nat) (x1 : Int32) (v_t_size : Int32) (v_t_crossings : Nat → Int32) (v_t_seconds : Nat → Int32) (v_u2_size : Int32) (v_u2_firstCycle : Int32) (v_u2_lastCycle : Int32) (v_u2_cycleBy : Int32) (v_u2_stepSeconds : Int32) (v_u2_greens : Nat → Int32) (v_u2_queues : Nat → Int32) (v_u3_cycle : Int32) (v_u3_size : Int32) (v_u3_aim : Int32) (v_u3_sawAll : Int32) (v_u3_offsets : Nat → Int32) (o : Int32) (hF : p_Arr_waitOf n x1 v_t_crossings v_u3_offsets v_u2_size v_u2_queues v_t_seconds v_u3_cycle v_u2_greens = some o) :
    Met l y_Arr_waitOf (wd y_Arr_waitOf b_Arr_waitOf 7 (some .int)) m_Arr_waitOf (dk_Pp [.ref t, .int x1, .ref u2, .ref u3] G K [(t, .inr (7, [.ref t_crossings, .ref t_seconds, .ref t_cars, .int v_t_size])), (t_crossings, .inl (K 0, 40, .inl v_t_crossings)), (t_seconds, .inl (K 0, 40, .inl v_t_seconds)), (u2, .inr (1, [.ref u2_greens, .ref u2_leasts, .ref u2_queues, .ref u2_seconds, .ref u2_weights, .int v_u2_size, .int v_u2_firstCycle, .int v_u2_lastCycle, .int v_u2_cycleBy, .int v_u2_stepSeconds])), (u2_greens, .inl (K 0, 5, .inl v_u2_greens)), (u2_queues, .inl (K 0, 5, .inl v_u2_queues)), (u3, .inr (2, [.ref u3_offsets, .int v_u3_cycle, .int v_u3_size, .int v_u3_aim, .int v_u3_sawAll])), (u3_offsets, .inl (K 0, 5, .inl v_u3_offsets))]) (dk_Qp (some (.int o))) 0 0 (fun _ => False) := by
  refine Met.ofW (cc := b_Arr_waitOf) (maxL := 7) (ret := (some .int)) (by decide) rfl ?_
  intro p e s m args below meth c s₁ B hml hv
  obtain ⟨rfl, hP, hK, hN⟩ := hv
  have hx := B.exec
  have hb := B.bytes
  have hr := B.returns
  have hts : ∀ w ∈ lw_good, w.before _ s = true := fun w h => atoms_spec (ws := wd y_Arr_waitOf b_Arr_waitOf 7 (some .int)) B.pre w (List.mem_cons_of_mem _ h)
  have hown : s.vm.findClass R_Arr = some m.cls := findClass_of_methodNamed B.named
  have hlocks := B.notSynchronized
  have hfix : CallFix p m c b_Arr_waitOf 7 s _ lw_good R_Arr := ⟨hx, hb, hml, hown, hts⟩
  have hl := lv_entry ([.ref t, .int x1, .ref u2, .ref u3]) (n := 7) (Nat.le_of_ble_eq_true rfl)
  rw [lg_entry_eq]
  generalize (lg_sl ([.ref t, .int x1, .ref u2, .ref u3]) ++ List.replicate (7 - (lg_sl ([.ref t, .int x1, .ref u2, .ref u3])).length) Slot.unset).toArray = ls at hl ⊢
  have hl : lv_has ls 7 [(0, .ref t), (1, .int x1), (2, .ref u2), (3, .ref u3)] := hl
  change W p l e m_Arr_waitOf s m _ below meth c s.heap [] 0 0 _ _
  unfold p_Arr_waitOf at hF
  refine lv_aload_n hx hb d_Arr_waitOf_0 rfl (lv_at hl 0 rfl) ?_
  refine va_get (D := G) (ci := 7) (v := .ref t_crossings) (C := R_Arr) (T := F_Arr) (N := 4) hx hb hts i_Arr hown hK hP 0 rfl rfl 0 (by decide) (hts _ lk_87) (fun _ h9 => h9) rfl d_Arr_waitOf_1 ?_
  refine lv_iload_n hx hb d_Arr_waitOf_4 rfl (lv_at hl 1 rfl) ?_
  obtain ⟨hi, hF⟩ := dk_a hF
  refine va_iald (D := G) hx hb hK hP 1 0 rfl rfl (dk_vp hi) d_Arr_waitOf_5 ?_
  refine lv_istore (lv' := [(4, .int (v_t_crossings x1.toNatClampNeg)), (0, .ref t), (1, .int x1), (2, .ref u2), (3, .ref u3)]) hx hb d_Arr_waitOf_6 hl (by decide) rfl (fun ls hl => ?_)
  refine lv_aload_n hx hb d_Arr_waitOf_8 rfl (lv_at hl 4 rfl) ?_
  refine lv_iload hx hb d_Arr_waitOf_9 (lv_at hl 0 rfl) ?_
  obtain ⟨r11_1, hC, hF⟩ := dk_b hF
  refine dk_pure (va_runV (As := [.int (v_t_crossings x1.toNatClampNeg)]) (rest := []) hfix (c_Plan_offsetOf l G K n u3 u3_offsets (v_t_crossings x1.toNatClampNeg) v_u3_cycle v_u3_size v_u3_aim v_u3_sawAll v_u3_offsets r11_1 hC) (cwV 1 hts (gd_V lk_90 lk_92 lk_93 lk_94 lk_91) rfl rfl rfl (by decide +kernel) ⟨Nat.le_of_ble_eq_true rfl, Nat.le_of_ble_eq_true rfl⟩) (dk_preV hK hN (hP.sub [6, 7] rfl) (va_recv hK hP (ci := 2) (q0 := 6) rfl rfl)) rfl rfl hl.1 rfl (lv_room (Nat.le_of_ble_eq_true rfl)) d_Arr_waitOf_11 ⟨Nat.le_of_ble_eq_true rfl, Nat.le_of_ble_eq_true rfl⟩) ?_
  refine lv_aload_n hx hb d_Arr_waitOf_14 rfl (lv_at hl 3 rfl) ?_
  refine lv_iload hx hb d_Arr_waitOf_15 (lv_at hl 0 rfl) ?_
  obtain ⟨r17_2, hC, hF⟩ := dk_b hF
  refine dk_pure (va_runV (As := [.int (v_t_crossings x1.toNatClampNeg)]) (rest := [.int r11_1]) hfix (c_Road_queueOf l G K n u2 u2_greens u2_leasts u2_queues u2_seconds u2_weights (v_t_crossings x1.toNatClampNeg) v_u2_size v_u2_firstCycle v_u2_lastCycle v_u2_cycleBy v_u2_stepSeconds v_u2_queues r17_2 hC) (cwV 1 hts (gd_V lk_95 lk_52 lk_53 lk_29 lk_51) rfl rfl rfl (by decide +kernel) ⟨Nat.le_of_ble_eq_true rfl, Nat.le_of_ble_eq_true rfl⟩) (dk_preV hK hN (hP.sub [3, 5] rfl) (va_recv hK hP (ci := 1) (q0 := 3) rfl rfl)) rfl rfl hl.1 rfl (lv_room (Nat.le_of_ble_eq_true rfl)) d_Arr_waitOf_17 ⟨Nat.le_of_ble_eq_true rfl, Nat.le_of_ble_eq_true rfl⟩) ?_
  refine lv_iadd hx hb d_Arr_waitOf_20 ?_
  refine lv_istore (lv' := [(5, .int (r11_1 + r17_2)), (4, .int (v_t_crossings x1.toNatClampNeg)), (0, .ref t), (1, .int x1), (2, .ref u2), (3, .ref u3)]) hx hb d_Arr_waitOf_21 hl (by decide) rfl (fun ls hl => ?_)
  refine lv_aload_n hx hb d_Arr_waitOf_23 rfl (lv_at hl 2 rfl) ?_
  refine va_get (D := G) (ci := 7) (v := .ref t_seconds) (C := R_Arr) (T := F_Arr) (N := 4) hx hb hts i_Arr hown hK hP 0 rfl rfl 1 (by decide) (hts _ lk_88) (fun _ h9 => h9) rfl d_Arr_waitOf_24 ?_
  refine lv_iload_n hx hb d_Arr_waitOf_27 rfl (lv_at hl 3 rfl) ?_
  obtain ⟨hi, hF⟩ := dk_a hF
  refine va_iald (D := G) hx hb hK hP 2 0 rfl rfl (dk_vp hi) d_Arr_waitOf_28 ?_
  refine lv_iload hx hb d_Arr_waitOf_29 (lv_at hl 0 rfl) ?_
  refine lv_isub hx hb d_Arr_waitOf_31 ?_
  refine lv_aload_n hx hb d_Arr_waitOf_32 rfl (lv_at hl 5 rfl) ?_
  refine va_getN (D := G) (ci := 2) (v := .int v_u3_cycle) (C := R_Plan) (T := F_Plan) (N := 5) hx hb hts i_Plan hown hK hP 6 rfl rfl 1 (by decide) (va_Nw.use rfl (hN.1 _ lk_96)) (fun _ h9 => h9) rfl d_Arr_waitOf_33 ?_
  obtain ⟨r36_3, hC, hF⟩ := dk_b hF
  refine dk_pure (va_runSN (As := [.int ((v_t_seconds x1.toNatClampNeg) - (r11_1 + r17_2)), .int v_u3_cycle]) (rest := []) hfix (c_WO_wrap l G K n ((v_t_seconds x1.toNatClampNeg) - (r11_1 + r17_2)) v_u3_cycle r36_3 hC) (⟨va_cnB 2 hts (gd_w lk_60) rfl rfl rfl (hN.1 _ lk_97) (hts _ lk_16) (by decide +kernel) ⟨Nat.le_of_ble_eq_true rfl, Nat.le_of_ble_eq_true rfl⟩, hts _ lk_61, trivial⟩) (dk_preS hK hN (hP.sub [] rfl)) rfl rfl hl.1 rfl (lv_room (Nat.le_of_ble_eq_true rfl)) d_Arr_waitOf_36 ⟨Nat.le_of_ble_eq_true rfl, Nat.le_of_ble_eq_true rfl⟩) ?_
  refine lv_istore (lv' := [(6, .int r36_3), (5, .int (r11_1 + r17_2)), (4, .int (v_t_crossings x1.toNatClampNeg)), (0, .ref t), (1, .int x1), (2, .ref u2), (3, .ref u3)]) hx hb d_Arr_waitOf_39 hl (by decide) rfl (fun ls hl => ?_)
  refine lv_iload hx hb d_Arr_waitOf_41 (lv_at hl 0 rfl) ?_
  refine lv_aload_n hx hb d_Arr_waitOf_43 rfl (lv_at hl 5 rfl) ?_
  refine lv_iload hx hb d_Arr_waitOf_44 (lv_at hl 2 rfl) ?_
  obtain ⟨r46_4, hC, hF⟩ := dk_b hF
  refine dk_pure (va_runV (As := [.int (v_t_crossings x1.toNatClampNeg)]) (rest := [.int r36_3]) hfix (c_Road_openOf l G K n u2 u2_greens u2_leasts u2_queues u2_seconds u2_weights (v_t_crossings x1.toNatClampNeg) v_u2_size v_u2_firstCycle v_u2_lastCycle v_u2_cycleBy v_u2_stepSeconds v_u2_greens v_u2_queues r46_4 hC) (cwV 1 hts (gd_V lk_98 lk_56 lk_57 lk_29 lk_55) rfl rfl rfl (by decide +kernel) ⟨Nat.le_of_ble_eq_true rfl, Nat.le_of_ble_eq_true rfl⟩) (dk_preV hK hN (hP.sub [3, 4, 5] rfl) (va_recv hK hP (ci := 1) (q0 := 3) rfl rfl)) rfl rfl hl.1 rfl (lv_room (Nat.le_of_ble_eq_true rfl)) d_Arr_waitOf_46 ⟨Nat.le_of_ble_eq_true rfl, Nat.le_of_ble_eq_true rfl⟩) ?_
  refine lv_icmp_ge (tgt := 56) hx hb d_Arr_waitOf_49 (by decide) (fun c49_5 => ?_) (fun c49_5 => ?_)
  · have hF := dk_t c49_5 hF
    refine lv_aload_n hx hb d_Arr_waitOf_56 rfl (lv_at hl 6 rfl) ?_
    refine va_getN (D := G) (ci := 2) (v := .int v_u3_cycle) (C := R_Plan) (T := F_Plan) (N := 5) hx hb hts i_Plan hown hK hP 6 rfl rfl 1 (by decide) (va_Nw.use rfl (hN.1 _ lk_96)) (fun _ h9 => h9) rfl d_Arr_waitOf_57 ?_
    refine lv_iload hx hb d_Arr_waitOf_60 (lv_at hl 0 rfl) ?_
    refine lv_isub hx hb d_Arr_waitOf_62 ?_
    obtain rfl := Option.some.inj hF
    exact W.iret (v := v_u3_cycle - r36_3) hx hb hr (fun t ht hW => ⟨rfl, ht⟩) (fun _ h => by cases h) d_Arr_waitOf_63
  · have hF := dk_f c49_5 hF
    refine lv_iconst (v := (0 : Int32)) hx hb d_Arr_waitOf_52 (by decide) ?_
    refine lv_goto (tgt := 63) hx hb d_Arr_waitOf_53 (by decide) ?_
    obtain rfl := Option.some.inj hF
    exact W.iret (v := (0 : Int32)) hx hb hr (fun t ht hW => ⟨rfl, ht⟩) (fun _ h => by cases h) d_Arr_waitOf_63
def p_Arr_secondsWaited_5 (n : Nat) : Nat → Int32 → (Nat → Int32) → (Nat → Int32) → (Nat → Int32) → Int32 → (Nat → Int32) → (Nat → Int32) → Int32 → (Nat → Int32) → Int64 → Int32 → Option (Int64)
  | 0, _, _, _, _, _, _, _, _, _, _, _ => none
  | k + 1, v_t_size, v_t_cars, v_t_crossings, v_u2_offsets, v_u1_size, v_u1_queues, v_t_seconds, v_u2_cycle, v_u1_greens, z3, z5 =>
    if v_t_size ≤ z5 then
      some z3
    else
      if (40 : Int32) ≤ z5 then
        some z3
      else
        if dk_in z5 40 = true then
          (p_Arr_waitOf n z5 v_t_crossings v_u2_offsets v_u1_size v_u1_queues v_t_seconds v_u2_cycle v_u1_greens).bind fun r35_3 =>
          p_Arr_secondsWaited_5 n k v_t_size v_t_cars v_t_crossings v_u2_offsets v_u1_size v_u1_queues v_t_seconds v_u2_cycle v_u1_greens (z3 + (((v_t_cars z5.toNatClampNeg).toInt64) * r35_3.toInt64)) (z5 + (1 : Int32))
        else none
theorem q_Arr_secondsWaited_5 (n k : Nat) (v_t_size : Int32) (v_t_cars : Nat → Int32) (v_t_crossings : Nat → Int32) (v_u2_offsets : Nat → Int32) (v_u1_size : Int32) (v_u1_queues : Nat → Int32) (v_t_seconds : Nat → Int32) (v_u2_cycle : Int32) (v_u1_greens : Nat → Int32) (z3 : Int64) (z5 : Int32) : p_Arr_secondsWaited_5 n (k + 1) v_t_size v_t_cars v_t_crossings v_u2_offsets v_u1_size v_u1_queues v_t_seconds v_u2_cycle v_u1_greens z3 z5 =
    if v_t_size ≤ z5 then
      some z3
    else
      if (40 : Int32) ≤ z5 then
        some z3
      else
        if dk_in z5 40 = true then
          (p_Arr_waitOf n z5 v_t_crossings v_u2_offsets v_u1_size v_u1_queues v_t_seconds v_u2_cycle v_u1_greens).bind fun r35_3 =>
          p_Arr_secondsWaited_5 n k v_t_size v_t_cars v_t_crossings v_u2_offsets v_u1_size v_u1_queues v_t_seconds v_u2_cycle v_u1_greens (z3 + (((v_t_cars z5.toNatClampNeg).toInt64) * r35_3.toInt64)) (z5 + (1 : Int32))
        else none := rfl
def p_Arr_secondsWaited (n : Nat) (v_t_size : Int32) (v_t_cars : Nat → Int32) (v_t_crossings : Nat → Int32) (v_u2_offsets : Nat → Int32) (v_u1_size : Int32) (v_u1_queues : Nat → Int32) (v_t_seconds : Nat → Int32) (v_u2_cycle : Int32) (v_u1_greens : Nat → Int32) : Option (Int64) :=
  (p_Arr_secondsWaited_5 n n v_t_size v_t_cars v_t_crossings v_u2_offsets v_u1_size v_u1_queues v_t_seconds v_u2_cycle v_u1_greens (0 : Int64) (0 : Int32)).bind fun q5_4 =>
  some q5_4
abbrev m_Arr_secondsWaited : Room := { frames := 4, cells := 0, slots := 0, locals := 89 }
set_option maxHeartbeats 4000000 in
set_option maxRecDepth 100000 in
theorem c_Arr_secondsWaited (l : Launch) (G : va_G) (K : Nat → ClassId) (n : Nat) (t : Nat) (t_crossings : Nat) (t_seconds : Nat) (t_cars : Nat) (u1 : Nat) (u1_greens : Nat) (u1_leasts : Nat) (u1_queues : Nat) (u1_seconds : Nat) (u1_weights : Nat) (u2 : Nat) (u2_offsets : Nat) (v_t_size : Int32) (v_t_crossings : Nat → Int32) (v_t_seconds : Nat → Int32) (v_t_cars : Nat → Int32) (v_u1_size : Int32) (v_u1_firstCycle : Int32) (v_u1_lastCycle : Int32) (v_u1_cycleBy : Int32) (v_u1_stepSeconds : Int32) (v_u1_greens : Nat → Int32) (v_u1_queues : Nat → Int32) (v_u2_cycle : Int32) (v_u2_size : Int32) (v_u2_aim : Int32) (v_u2_sawAll : Int32) (v_u2_offsets : Nat → Int32) (o : Int64) (hF : p_Arr_secondsWaited n v_t_size v_t_cars v_t_crossings v_u2_offsets v_u1_size v_u1_queues v_t_seconds v_u2_cycle v_u1_greens = some o) :
    Met l y_Arr_secondsWaited (wd y_Arr_secondsWaited b_Arr_secondsWaited 6 (some .long)) m_Arr_secondsWaited (dk_Pp [.ref t, .ref u1, .ref u2] G K [(t, .inr (7, [.ref t_crossings, .ref t_seconds, .ref t_cars, .int v_t_size])), (t_crossings, .inl (K 0, 40, .inl v_t_crossings)), (t_seconds, .inl (K 0, 40, .inl v_t_seconds)), (t_cars, .inl (K 0, 40, .inl v_t_cars)), (u1, .inr (1, [.ref u1_greens, .ref u1_leasts, .ref u1_queues, .ref u1_seconds, .ref u1_weights, .int v_u1_size, .int v_u1_firstCycle, .int v_u1_lastCycle, .int v_u1_cycleBy, .int v_u1_stepSeconds])), (u1_greens, .inl (K 0, 5, .inl v_u1_greens)), (u1_queues, .inl (K 0, 5, .inl v_u1_queues)), (u2, .inr (2, [.ref u2_offsets, .int v_u2_cycle, .int v_u2_size, .int v_u2_aim, .int v_u2_sawAll])), (u2_offsets, .inl (K 0, 5, .inl v_u2_offsets))]) (dk_Qp (some (.long o))) 0 0 (fun _ => False) := by
  refine Met.ofW (cc := b_Arr_secondsWaited) (maxL := 6) (ret := (some .long)) (by decide) rfl ?_
  intro p e s m args below meth c s₁ B hml hv
  obtain ⟨rfl, hP, hK, hN⟩ := hv
  have hx := B.exec
  have hb := B.bytes
  have hr := B.returns
  have hts : ∀ w ∈ lw_good, w.before _ s = true := fun w h => atoms_spec (ws := wd y_Arr_secondsWaited b_Arr_secondsWaited 6 (some .long)) B.pre w (List.mem_cons_of_mem _ h)
  have hown : s.vm.findClass R_Arr = some m.cls := findClass_of_methodNamed B.named
  have hlocks := B.notSynchronized
  have hfix : CallFix p m c b_Arr_secondsWaited 6 s _ lw_good R_Arr := ⟨hx, hb, hml, hown, hts⟩
  have hl := lv_entry ([.ref t, .ref u1, .ref u2]) (n := 6) (Nat.le_of_ble_eq_true rfl)
  rw [lg_entry_eq]
  generalize (lg_sl ([.ref t, .ref u1, .ref u2]) ++ List.replicate (6 - (lg_sl ([.ref t, .ref u1, .ref u2])).length) Slot.unset).toArray = ls at hl ⊢
  have hl : lv_has ls 6 [(0, .ref t), (1, .ref u1), (2, .ref u2)] := hl
  change W p l e m_Arr_secondsWaited s m _ below meth c s.heap [] 0 0 _ _
  have L5 : ∀ (k : Nat) (z3 : Int64) (z5 : Int32) (q : Int64), p_Arr_secondsWaited_5 n k v_t_size v_t_cars v_t_crossings v_u2_offsets v_u1_size v_u1_queues v_t_seconds v_u2_cycle v_u1_greens z3 z5 = some q → ∀ ls : Array Slot, lv_has ls 6 [(0, .ref t), (1, .ref u1), (2, .ref u2), (3, .long z3), (5, .int z5)] → (∀ (ls1 : Array Slot), lv_has ls1 6 [(3, .long q)] → W p l e m_Arr_secondsWaited s m ([.ref t, .ref u1, .ref u2] : List Value).toArray below meth c s.heap [] 0 0 (MQ below (dk_Qp (some (.long o))) ([.ref t, .ref u1, .ref u2] : List Value).toArray s 0 0 (fun _ => False)) (F0 m 48 ls1 [])) → W p l e m_Arr_secondsWaited s m ([.ref t, .ref u1, .ref u2] : List Value).toArray below meth c s.heap [] 0 0 (MQ below (dk_Qp (some (.long o))) ([.ref t, .ref u1, .ref u2] : List Value).toArray s 0 0 (fun _ => False)) (F0 m 5 ls []) := by
    intro k
    induction k with
    | zero =>
      intro z3 z5 q hF ls hl hk
      exact absurd hF (by simp [p_Arr_secondsWaited_5])
    | succ k jh =>
      intro z3 z5 q hF ls hl hk
      have hF := (q_Arr_secondsWaited_5 n k v_t_size v_t_cars v_t_crossings v_u2_offsets v_u1_size v_u1_queues v_t_seconds v_u2_cycle v_u1_greens z3 z5).symm.trans hF
      refine lv_iload hx hb d_Arr_secondsWaited_5 (lv_at hl 4 rfl) ?_
      refine lv_aload_n hx hb d_Arr_secondsWaited_7 rfl (lv_at hl 0 rfl) ?_
      refine va_get (D := G) (ci := 7) (v := .int v_t_size) (C := R_Arr) (T := F_Arr) (N := 4) hx hb hts i_Arr hown hK hP 0 rfl rfl 3 (by decide) (hts _ lk_86) (fun _ h9 => h9) rfl d_Arr_secondsWaited_8 ?_
      refine lv_icmp_ge (tgt := 48) hx hb d_Arr_secondsWaited_11 (by decide) (fun c11_1 => ?_) (fun c11_1 => ?_)
      · have hF := dk_t c11_1 hF
        obtain rfl := Option.some.inj hF
        exact hk ls (lv_sub hl [3] rfl)
      · have hF := dk_f c11_1 hF
        refine lv_iload hx hb d_Arr_secondsWaited_14 (lv_at hl 4 rfl) ?_
        refine lv_bipush (v := (40 : Int32)) hx hb d_Arr_secondsWaited_16 (by decide) ?_
        refine lv_icmp_ge (tgt := 48) hx hb d_Arr_secondsWaited_18 (by decide) (fun c18_2 => ?_) (fun c18_2 => ?_)
        · have hF := dk_t c18_2 hF
          obtain rfl := Option.some.inj hF
          exact hk ls (lv_sub hl [3] rfl)
        · have hF := dk_f c18_2 hF
          refine lv_lload_n hx hb d_Arr_secondsWaited_21 rfl (lv_at hl 3 rfl) ?_
          refine lv_aload_n hx hb d_Arr_secondsWaited_22 rfl (lv_at hl 0 rfl) ?_
          refine va_get (D := G) (ci := 7) (v := .ref t_cars) (C := R_Arr) (T := F_Arr) (N := 4) hx hb hts i_Arr hown hK hP 0 rfl rfl 2 (by decide) (hts _ lk_89) (fun _ h9 => h9) rfl d_Arr_secondsWaited_23 ?_
          refine lv_iload hx hb d_Arr_secondsWaited_26 (lv_at hl 4 rfl) ?_
          obtain ⟨hi, hF⟩ := dk_a hF
          refine va_iald (D := G) hx hb hK hP 3 0 rfl rfl (dk_vp hi) d_Arr_secondsWaited_28 ?_
          refine lv_i2l hx hb d_Arr_secondsWaited_29 rfl ?_
          refine lv_aload_n hx hb d_Arr_secondsWaited_30 rfl (lv_at hl 0 rfl) ?_
          refine lv_iload hx hb d_Arr_secondsWaited_31 (lv_at hl 4 rfl) ?_
          refine lv_aload_n hx hb d_Arr_secondsWaited_33 rfl (lv_at hl 1 rfl) ?_
          refine lv_aload_n hx hb d_Arr_secondsWaited_34 rfl (lv_at hl 2 rfl) ?_
          obtain ⟨r35_3, hC, hF⟩ := dk_b hF
          refine dk_pure (va_runV (As := [.int z5, .ref u1, .ref u2]) (rest := [.long ((v_t_cars z5.toNatClampNeg).toInt64), .long z3]) hfix (c_Arr_waitOf l G K n t t_crossings t_seconds t_cars u1 u1_greens u1_leasts u1_queues u1_seconds u1_weights u2 u2_offsets z5 v_t_size v_t_crossings v_t_seconds v_u1_size v_u1_firstCycle v_u1_lastCycle v_u1_cycleBy v_u1_stepSeconds v_u1_greens v_u1_queues v_u2_cycle v_u2_size v_u2_aim v_u2_sawAll v_u2_offsets r35_3 hC) (cwV 3 hts (gd_V lk_99 lk_101 lk_102 lk_103 lk_100) rfl rfl rfl (by decide +kernel) ⟨Nat.le_of_ble_eq_true rfl, Nat.le_of_ble_eq_true rfl⟩) (dk_preV hK hN (hP.sub [0, 1, 2, 4, 5, 6, 7, 8] rfl) (va_recv hK hP (ci := 7) (q0 := 0) rfl rfl)) rfl rfl hl.1 rfl (lv_room (Nat.le_of_ble_eq_true rfl)) d_Arr_secondsWaited_35 ⟨Nat.le_of_ble_eq_true rfl, Nat.le_of_ble_eq_true rfl⟩) ?_
          refine lv_i2l hx hb d_Arr_secondsWaited_38 rfl ?_
          refine lv_lmul hx hb d_Arr_secondsWaited_39 ?_
          refine lv_ladd hx hb d_Arr_secondsWaited_40 ?_
          refine lv_lstore_n (lv' := [(3, .long (z3 + (((v_t_cars z5.toNatClampNeg).toInt64) * r35_3.toInt64))), (0, .ref t), (1, .ref u1), (2, .ref u2), (5, .int z5)]) hx hb d_Arr_secondsWaited_41 rfl hl (by decide) rfl (fun ls hl => ?_)
          refine lv_iinc (v := z5 + (1 : Int32)) (lv' := [(5, .int (z5 + (1 : Int32))), (3, .long (z3 + (((v_t_cars z5.toNatClampNeg).toInt64) * r35_3.toInt64))), (0, .ref t), (1, .ref u1), (2, .ref u2)]) hx hb d_Arr_secondsWaited_42 hl (k := 4) rfl rfl (by decide) rfl (fun ls hl => ?_)
          refine lv_goto (tgt := 5) hx hb d_Arr_secondsWaited_45 (by decide) ?_
          exact jh (z3 + (((v_t_cars z5.toNatClampNeg).toInt64) * r35_3.toInt64)) (z5 + (1 : Int32)) q hF ls (lv_sub hl [2, 3, 4, 1, 0] rfl) hk
  unfold p_Arr_secondsWaited at hF
  refine lv_lconst (v := (0 : Int64)) hx hb d_Arr_secondsWaited_0 (by decide) ?_
  refine lv_lstore_n (lv' := [(3, .long (0 : Int64)), (0, .ref t), (1, .ref u1), (2, .ref u2)]) hx hb d_Arr_secondsWaited_1 rfl hl (by decide) rfl (fun ls hl => ?_)
  refine lv_iconst (v := (0 : Int32)) hx hb d_Arr_secondsWaited_2 (by decide) ?_
  refine lv_istore (lv' := [(5, .int (0 : Int32)), (3, .long (0 : Int64)), (0, .ref t), (1, .ref u1), (2, .ref u2)]) hx hb d_Arr_secondsWaited_3 hl (by decide) rfl (fun ls hl => ?_)
  obtain ⟨q5_4, hC, hF⟩ := dk_b hF
  refine L5 n (0 : Int64) (0 : Int32) q5_4 hC ls (lv_sub hl [2, 3, 4, 1, 0] rfl) (fun ls hl => ?_)
  refine lv_lload_n hx hb d_Arr_secondsWaited_48 rfl (lv_at hl 0 rfl) ?_
  obtain rfl := Option.some.inj hF
  exact W.lret (v := q5_4) hx hb hr (fun t ht hW => ⟨rfl, ht⟩) (fun _ h => by cases h) d_Arr_secondsWaited_49
def p_Arr_carsThrough_5 (n : Nat) : Nat → Int32 → (Nat → Int32) → (Nat → Int32) → Int32 → (Nat → Int32) → (Nat → Int32) → Int32 → (Nat → Int32) → (Nat → Int32) → Int64 → Int32 → Option (Int64)
  | 0, _, _, _, _, _, _, _, _, _, _, _ => none
  | k + 1, v_t_size, v_t_crossings, v_u2_offsets, v_u1_size, v_u1_queues, v_t_seconds, v_u2_cycle, v_u1_greens, v_t_cars, z3, z5 =>
    if v_t_size ≤ z5 then
      some z3
    else
      if (40 : Int32) ≤ z5 then
        some z3
      else
        (p_Arr_waitOf n z5 v_t_crossings v_u2_offsets v_u1_size v_u1_queues v_t_seconds v_u2_cycle v_u1_greens).bind fun r27_3 =>
        if r27_3 = 0 then
          if dk_in z5 40 = true then
            p_Arr_carsThrough_5 n k v_t_size v_t_crossings v_u2_offsets v_u1_size v_u1_queues v_t_seconds v_u2_cycle v_u1_greens v_t_cars (z3 + ((v_t_cars z5.toNatClampNeg).toInt64)) (z5 + (1 : Int32))
          else none
        else
          p_Arr_carsThrough_5 n k v_t_size v_t_crossings v_u2_offsets v_u1_size v_u1_queues v_t_seconds v_u2_cycle v_u1_greens v_t_cars (z3 + (0 : Int64)) (z5 + (1 : Int32))
theorem q_Arr_carsThrough_5 (n k : Nat) (v_t_size : Int32) (v_t_crossings : Nat → Int32) (v_u2_offsets : Nat → Int32) (v_u1_size : Int32) (v_u1_queues : Nat → Int32) (v_t_seconds : Nat → Int32) (v_u2_cycle : Int32) (v_u1_greens : Nat → Int32) (v_t_cars : Nat → Int32) (z3 : Int64) (z5 : Int32) : p_Arr_carsThrough_5 n (k + 1) v_t_size v_t_crossings v_u2_offsets v_u1_size v_u1_queues v_t_seconds v_u2_cycle v_u1_greens v_t_cars z3 z5 =
    if v_t_size ≤ z5 then
      some z3
    else
      if (40 : Int32) ≤ z5 then
        some z3
      else
        (p_Arr_waitOf n z5 v_t_crossings v_u2_offsets v_u1_size v_u1_queues v_t_seconds v_u2_cycle v_u1_greens).bind fun r27_3 =>
        if r27_3 = 0 then
          if dk_in z5 40 = true then
            p_Arr_carsThrough_5 n k v_t_size v_t_crossings v_u2_offsets v_u1_size v_u1_queues v_t_seconds v_u2_cycle v_u1_greens v_t_cars (z3 + ((v_t_cars z5.toNatClampNeg).toInt64)) (z5 + (1 : Int32))
          else none
        else
          p_Arr_carsThrough_5 n k v_t_size v_t_crossings v_u2_offsets v_u1_size v_u1_queues v_t_seconds v_u2_cycle v_u1_greens v_t_cars (z3 + (0 : Int64)) (z5 + (1 : Int32)) := rfl
def p_Arr_carsThrough (n : Nat) (v_t_size : Int32) (v_t_crossings : Nat → Int32) (v_u2_offsets : Nat → Int32) (v_u1_size : Int32) (v_u1_queues : Nat → Int32) (v_t_seconds : Nat → Int32) (v_u2_cycle : Int32) (v_u1_greens : Nat → Int32) (v_t_cars : Nat → Int32) : Option (Int64) :=
  (p_Arr_carsThrough_5 n n v_t_size v_t_crossings v_u2_offsets v_u1_size v_u1_queues v_t_seconds v_u2_cycle v_u1_greens v_t_cars (0 : Int64) (0 : Int32)).bind fun q5_5 =>
  some q5_5
abbrev m_Arr_carsThrough : Room := { frames := 4, cells := 0, slots := 0, locals := 89 }
set_option maxHeartbeats 4000000 in
set_option maxRecDepth 100000 in
theorem c_Arr_carsThrough (l : Launch) (G : va_G) (K : Nat → ClassId) (n : Nat) (t : Nat) (t_crossings : Nat) (t_seconds : Nat) (t_cars : Nat) (u1 : Nat) (u1_greens : Nat) (u1_leasts : Nat) (u1_queues : Nat) (u1_seconds : Nat) (u1_weights : Nat) (u2 : Nat) (u2_offsets : Nat) (v_t_size : Int32) (v_t_crossings : Nat → Int32) (v_t_seconds : Nat → Int32) (v_t_cars : Nat → Int32) (v_u1_size : Int32) (v_u1_firstCycle : Int32) (v_u1_lastCycle : Int32) (v_u1_cycleBy : Int32) (v_u1_stepSeconds : Int32) (v_u1_greens : Nat → Int32) (v_u1_queues : Nat → Int32) (v_u2_cycle : Int32) (v_u2_size : Int32) (v_u2_aim : Int32) (v_u2_sawAll : Int32) (v_u2_offsets : Nat → Int32) (o : Int64) (hF : p_Arr_carsThrough n v_t_size v_t_crossings v_u2_offsets v_u1_size v_u1_queues v_t_seconds v_u2_cycle v_u1_greens v_t_cars = some o) :
    Met l y_Arr_carsThrough (wd y_Arr_carsThrough b_Arr_carsThrough 6 (some .long)) m_Arr_carsThrough (dk_Pp [.ref t, .ref u1, .ref u2] G K [(t, .inr (7, [.ref t_crossings, .ref t_seconds, .ref t_cars, .int v_t_size])), (t_crossings, .inl (K 0, 40, .inl v_t_crossings)), (t_seconds, .inl (K 0, 40, .inl v_t_seconds)), (t_cars, .inl (K 0, 40, .inl v_t_cars)), (u1, .inr (1, [.ref u1_greens, .ref u1_leasts, .ref u1_queues, .ref u1_seconds, .ref u1_weights, .int v_u1_size, .int v_u1_firstCycle, .int v_u1_lastCycle, .int v_u1_cycleBy, .int v_u1_stepSeconds])), (u1_greens, .inl (K 0, 5, .inl v_u1_greens)), (u1_queues, .inl (K 0, 5, .inl v_u1_queues)), (u2, .inr (2, [.ref u2_offsets, .int v_u2_cycle, .int v_u2_size, .int v_u2_aim, .int v_u2_sawAll])), (u2_offsets, .inl (K 0, 5, .inl v_u2_offsets))]) (dk_Qp (some (.long o))) 0 0 (fun _ => False) := by
  refine Met.ofW (cc := b_Arr_carsThrough) (maxL := 6) (ret := (some .long)) (by decide) rfl ?_
  intro p e s m args below meth c s₁ B hml hv
  obtain ⟨rfl, hP, hK, hN⟩ := hv
  have hx := B.exec
  have hb := B.bytes
  have hr := B.returns
  have hts : ∀ w ∈ lw_good, w.before _ s = true := fun w h => atoms_spec (ws := wd y_Arr_carsThrough b_Arr_carsThrough 6 (some .long)) B.pre w (List.mem_cons_of_mem _ h)
  have hown : s.vm.findClass R_Arr = some m.cls := findClass_of_methodNamed B.named
  have hlocks := B.notSynchronized
  have hfix : CallFix p m c b_Arr_carsThrough 6 s _ lw_good R_Arr := ⟨hx, hb, hml, hown, hts⟩
  have hl := lv_entry ([.ref t, .ref u1, .ref u2]) (n := 6) (Nat.le_of_ble_eq_true rfl)
  rw [lg_entry_eq]
  generalize (lg_sl ([.ref t, .ref u1, .ref u2]) ++ List.replicate (6 - (lg_sl ([.ref t, .ref u1, .ref u2])).length) Slot.unset).toArray = ls at hl ⊢
  have hl : lv_has ls 6 [(0, .ref t), (1, .ref u1), (2, .ref u2)] := hl
  change W p l e m_Arr_carsThrough s m _ below meth c s.heap [] 0 0 _ _
  have L5 : ∀ (k : Nat) (z3 : Int64) (z5 : Int32) (q : Int64), p_Arr_carsThrough_5 n k v_t_size v_t_crossings v_u2_offsets v_u1_size v_u1_queues v_t_seconds v_u2_cycle v_u1_greens v_t_cars z3 z5 = some q → ∀ ls : Array Slot, lv_has ls 6 [(0, .ref t), (1, .ref u1), (2, .ref u2), (3, .long z3), (5, .int z5)] → (∀ (ls1 : Array Slot), lv_has ls1 6 [(3, .long q)] → W p l e m_Arr_carsThrough s m ([.ref t, .ref u1, .ref u2] : List Value).toArray below meth c s.heap [] 0 0 (MQ below (dk_Qp (some (.long o))) ([.ref t, .ref u1, .ref u2] : List Value).toArray s 0 0 (fun _ => False)) (F0 m 53 ls1 [])) → W p l e m_Arr_carsThrough s m ([.ref t, .ref u1, .ref u2] : List Value).toArray below meth c s.heap [] 0 0 (MQ below (dk_Qp (some (.long o))) ([.ref t, .ref u1, .ref u2] : List Value).toArray s 0 0 (fun _ => False)) (F0 m 5 ls []) := by
    intro k
    induction k with
    | zero =>
      intro z3 z5 q hF ls hl hk
      exact absurd hF (by simp [p_Arr_carsThrough_5])
    | succ k jh =>
      intro z3 z5 q hF ls hl hk
      have hF := (q_Arr_carsThrough_5 n k v_t_size v_t_crossings v_u2_offsets v_u1_size v_u1_queues v_t_seconds v_u2_cycle v_u1_greens v_t_cars z3 z5).symm.trans hF
      refine lv_iload hx hb d_Arr_carsThrough_5 (lv_at hl 4 rfl) ?_
      refine lv_aload_n hx hb d_Arr_carsThrough_7 rfl (lv_at hl 0 rfl) ?_
      refine va_get (D := G) (ci := 7) (v := .int v_t_size) (C := R_Arr) (T := F_Arr) (N := 4) hx hb hts i_Arr hown hK hP 0 rfl rfl 3 (by decide) (hts _ lk_86) (fun _ h9 => h9) rfl d_Arr_carsThrough_8 ?_
      refine lv_icmp_ge (tgt := 53) hx hb d_Arr_carsThrough_11 (by decide) (fun c11_1 => ?_) (fun c11_1 => ?_)
      · have hF := dk_t c11_1 hF
        obtain rfl := Option.some.inj hF
        exact hk ls (lv_sub hl [3] rfl)
      · have hF := dk_f c11_1 hF
        refine lv_iload hx hb d_Arr_carsThrough_14 (lv_at hl 4 rfl) ?_
        refine lv_bipush (v := (40 : Int32)) hx hb d_Arr_carsThrough_16 (by decide) ?_
        refine lv_icmp_ge (tgt := 53) hx hb d_Arr_carsThrough_18 (by decide) (fun c18_2 => ?_) (fun c18_2 => ?_)
        · have hF := dk_t c18_2 hF
          obtain rfl := Option.some.inj hF
          exact hk ls (lv_sub hl [3] rfl)
        · have hF := dk_f c18_2 hF
          refine lv_lload_n hx hb d_Arr_carsThrough_21 rfl (lv_at hl 3 rfl) ?_
          refine lv_aload_n hx hb d_Arr_carsThrough_22 rfl (lv_at hl 0 rfl) ?_
          refine lv_iload hx hb d_Arr_carsThrough_23 (lv_at hl 4 rfl) ?_
          refine lv_aload_n hx hb d_Arr_carsThrough_25 rfl (lv_at hl 1 rfl) ?_
          refine lv_aload_n hx hb d_Arr_carsThrough_26 rfl (lv_at hl 2 rfl) ?_
          obtain ⟨r27_3, hC, hF⟩ := dk_b hF
          refine dk_pure (va_runV (As := [.int z5, .ref u1, .ref u2]) (rest := [.long z3]) hfix (c_Arr_waitOf l G K n t t_crossings t_seconds t_cars u1 u1_greens u1_leasts u1_queues u1_seconds u1_weights u2 u2_offsets z5 v_t_size v_t_crossings v_t_seconds v_u1_size v_u1_firstCycle v_u1_lastCycle v_u1_cycleBy v_u1_stepSeconds v_u1_greens v_u1_queues v_u2_cycle v_u2_size v_u2_aim v_u2_sawAll v_u2_offsets r27_3 hC) (cwV 3 hts (gd_V lk_99 lk_101 lk_102 lk_103 lk_100) rfl rfl rfl (by decide +kernel) ⟨Nat.le_of_ble_eq_true rfl, Nat.le_of_ble_eq_true rfl⟩) (dk_preV hK hN (hP.sub [0, 1, 2, 4, 5, 6, 7, 8] rfl) (va_recv hK hP (ci := 7) (q0 := 0) rfl rfl)) rfl rfl hl.1 rfl (lv_room (Nat.le_of_ble_eq_true rfl)) d_Arr_carsThrough_27 ⟨Nat.le_of_ble_eq_true rfl, Nat.le_of_ble_eq_true rfl⟩) ?_
          refine lv_if_ne (tgt := 44) hx hb d_Arr_carsThrough_30 (by decide) (fun c30_4 => ?_) (fun c30_4 => ?_)
          · have hF := dk_f c30_4 hF
            refine lv_lconst (v := (0 : Int64)) hx hb d_Arr_carsThrough_44 (by decide) ?_
            refine lv_ladd hx hb d_Arr_carsThrough_45 ?_
            refine lv_lstore_n (lv' := [(3, .long (z3 + (0 : Int64))), (0, .ref t), (1, .ref u1), (2, .ref u2), (5, .int z5)]) hx hb d_Arr_carsThrough_46 rfl hl (by decide) rfl (fun ls hl => ?_)
            refine lv_iinc (v := z5 + (1 : Int32)) (lv' := [(5, .int (z5 + (1 : Int32))), (3, .long (z3 + (0 : Int64))), (0, .ref t), (1, .ref u1), (2, .ref u2)]) hx hb d_Arr_carsThrough_47 hl (k := 4) rfl rfl (by decide) rfl (fun ls hl => ?_)
            refine lv_goto (tgt := 5) hx hb d_Arr_carsThrough_50 (by decide) ?_
            exact jh (z3 + (0 : Int64)) (z5 + (1 : Int32)) q hF ls (lv_sub hl [2, 3, 4, 1, 0] rfl) hk
          · have hF := dk_t c30_4 hF
            refine lv_aload_n hx hb d_Arr_carsThrough_33 rfl (lv_at hl 0 rfl) ?_
            refine va_get (D := G) (ci := 7) (v := .ref t_cars) (C := R_Arr) (T := F_Arr) (N := 4) hx hb hts i_Arr hown hK hP 0 rfl rfl 2 (by decide) (hts _ lk_89) (fun _ h9 => h9) rfl d_Arr_carsThrough_34 ?_
            refine lv_iload hx hb d_Arr_carsThrough_37 (lv_at hl 4 rfl) ?_
            obtain ⟨hi, hF⟩ := dk_a hF
            refine va_iald (D := G) hx hb hK hP 3 0 rfl rfl (dk_vp hi) d_Arr_carsThrough_39 ?_
            refine lv_i2l hx hb d_Arr_carsThrough_40 rfl ?_
            refine lv_goto (tgt := 45) hx hb d_Arr_carsThrough_41 (by decide) ?_
            refine lv_ladd hx hb d_Arr_carsThrough_45 ?_
            refine lv_lstore_n (lv' := [(3, .long (z3 + ((v_t_cars z5.toNatClampNeg).toInt64))), (0, .ref t), (1, .ref u1), (2, .ref u2), (5, .int z5)]) hx hb d_Arr_carsThrough_46 rfl hl (by decide) rfl (fun ls hl => ?_)
            refine lv_iinc (v := z5 + (1 : Int32)) (lv' := [(5, .int (z5 + (1 : Int32))), (3, .long (z3 + ((v_t_cars z5.toNatClampNeg).toInt64))), (0, .ref t), (1, .ref u1), (2, .ref u2)]) hx hb d_Arr_carsThrough_47 hl (k := 4) rfl rfl (by decide) rfl (fun ls hl => ?_)
            refine lv_goto (tgt := 5) hx hb d_Arr_carsThrough_50 (by decide) ?_
            exact jh (z3 + ((v_t_cars z5.toNatClampNeg).toInt64)) (z5 + (1 : Int32)) q hF ls (lv_sub hl [2, 3, 4, 1, 0] rfl) hk
  unfold p_Arr_carsThrough at hF
  refine lv_lconst (v := (0 : Int64)) hx hb d_Arr_carsThrough_0 (by decide) ?_
  refine lv_lstore_n (lv' := [(3, .long (0 : Int64)), (0, .ref t), (1, .ref u1), (2, .ref u2)]) hx hb d_Arr_carsThrough_1 rfl hl (by decide) rfl (fun ls hl => ?_)
  refine lv_iconst (v := (0 : Int32)) hx hb d_Arr_carsThrough_2 (by decide) ?_
  refine lv_istore (lv' := [(5, .int (0 : Int32)), (3, .long (0 : Int64)), (0, .ref t), (1, .ref u1), (2, .ref u2)]) hx hb d_Arr_carsThrough_3 hl (by decide) rfl (fun ls hl => ?_)
  obtain ⟨q5_5, hC, hF⟩ := dk_b hF
  refine L5 n (0 : Int64) (0 : Int32) q5_5 hC ls (lv_sub hl [2, 3, 4, 1, 0] rfl) (fun ls hl => ?_)
  refine lv_lload_n hx hb d_Arr_carsThrough_53 rfl (lv_at hl 0 rfl) ?_
  obtain rfl := Option.some.inj hF
  exact W.lret (v := q5_5) hx hb hr (fun t ht hW => ⟨rfl, ht⟩) (fun _ h => by cases h) d_Arr_carsThrough_54
