def w_Pi_returnToBases : List Cond := Cond.code y_Pi_returnToBases prog_5_method_6_code 3 none :: TB
def rm_Pi_returnToBases : Room := { frames := 1, cells := 0, slots := 0, locals := 21 }
theorem d_Pi_returnToBases_0 : decode prog_5_method_6_code 0 = .ok (.iconst 0, 1) := by decide +kernel
theorem d_Pi_returnToBases_1 : decode prog_5_method_6_code 1 = .ok (.istore_n 2, 1) := by decide +kernel
theorem d_Pi_returnToBases_2 : decode prog_5_method_6_code 2 = .ok (.iload_n 2, 1) := by decide +kernel
theorem d_Pi_returnToBases_3 : decode prog_5_method_6_code 3 = .ok (.iconst 2, 1) := by decide +kernel
theorem d_Pi_returnToBases_4 : decode prog_5_method_6_code 4 = .ok (.if_icmp .ge 22, 3) := by decide +kernel
theorem d_Pi_returnToBases_7 : decode prog_5_method_6_code 7 = .ok (.aload_n 0, 1) := by decide +kernel
theorem d_Pi_returnToBases_8 : decode prog_5_method_6_code 8 = .ok (.getfield 11, 3) := by decide +kernel
theorem d_Pi_returnToBases_11 : decode prog_5_method_6_code 11 = .ok (.iload_n 2, 1) := by decide +kernel
theorem d_Pi_returnToBases_12 : decode prog_5_method_6_code 12 = .ok (.aload_n 1, 1) := by decide +kernel
theorem d_Pi_returnToBases_13 : decode prog_5_method_6_code 13 = .ok (.iconst 3, 1) := by decide +kernel
theorem d_Pi_returnToBases_14 : decode prog_5_method_6_code 14 = .ok (.iload_n 2, 1) := by decide +kernel
theorem d_Pi_returnToBases_15 : decode prog_5_method_6_code 15 = .ok (.iadd, 1) := by decide +kernel
theorem d_Pi_returnToBases_16 : decode prog_5_method_6_code 16 = .ok (.invokevirtual 33, 3) := by decide +kernel
theorem d_Pi_returnToBases_19 : decode prog_5_method_6_code 19 = .ok (.iastore, 1) := by decide +kernel
theorem d_Pi_returnToBases_20 : decode prog_5_method_6_code 20 = .ok (.iinc 2 1, 3) := by decide +kernel
theorem d_Pi_returnToBases_23 : decode prog_5_method_6_code 23 = .ok (.goto (-21), 3) := by decide +kernel
theorem d_Pi_returnToBases_26 : decode prog_5_method_6_code 26 = .ok (.return_, 1) := by decide +kernel
theorem yd_Pi_returnToBases : y_Pi_returnToBases.cls ≠ "java/lang/invoke/MethodHandle" ∧ y_Pi_returnToBases.cls ≠ "java/lang/invoke/VarHandle" ∧ (parseMethodDescriptor y_Pi_returnToBases.desc).map (fun d => d.parameters.length) = some 1 := by decide +kernel
def w_Pi_clearLatches : List Cond := Cond.code y_Pi_clearLatches prog_5_method_9_code 1 none :: TB
def rm_Pi_clearLatches : Room := { frames := 0, cells := 0, slots := 0, locals := 0 }
theorem d_Pi_clearLatches_0 : decode prog_5_method_9_code 0 = .ok (.aload_n 0, 1) := by decide +kernel
theorem d_Pi_clearLatches_1 : decode prog_5_method_9_code 1 = .ok (.getfield 15, 3) := by decide +kernel
theorem d_Pi_clearLatches_4 : decode prog_5_method_9_code 4 = .ok (.iconst 0, 1) := by decide +kernel
theorem d_Pi_clearLatches_5 : decode prog_5_method_9_code 5 = .ok (.iconst 0, 1) := by decide +kernel
theorem d_Pi_clearLatches_6 : decode prog_5_method_9_code 6 = .ok (.iastore, 1) := by decide +kernel
theorem d_Pi_clearLatches_7 : decode prog_5_method_9_code 7 = .ok (.aload_n 0, 1) := by decide +kernel
theorem d_Pi_clearLatches_8 : decode prog_5_method_9_code 8 = .ok (.getfield 15, 3) := by decide +kernel
theorem d_Pi_clearLatches_11 : decode prog_5_method_9_code 11 = .ok (.iconst 1, 1) := by decide +kernel
theorem d_Pi_clearLatches_12 : decode prog_5_method_9_code 12 = .ok (.iconst 0, 1) := by decide +kernel
theorem d_Pi_clearLatches_13 : decode prog_5_method_9_code 13 = .ok (.iastore, 1) := by decide +kernel
theorem d_Pi_clearLatches_14 : decode prog_5_method_9_code 14 = .ok (.return_, 1) := by decide +kernel
theorem yd_Pi_clearLatches : y_Pi_clearLatches.cls ≠ "java/lang/invoke/MethodHandle" ∧ y_Pi_clearLatches.cls ≠ "java/lang/invoke/VarHandle" ∧ (parseMethodDescriptor y_Pi_clearLatches.desc).map (fun d => d.parameters.length) = some 0 := by decide +kernel
def w_Pi_isLine : List Cond := Cond.code y_Pi_isLine prog_5_method_2_code 1 (some .boolean) :: TB
def rm_Pi_isLine : Room := { frames := 0, cells := 0, slots := 0, locals := 0 }
theorem d_Pi_isLine_0 : decode prog_5_method_2_code 0 = .ok (.iload_n 0, 1) := by decide +kernel
theorem d_Pi_isLine_1 : decode prog_5_method_2_code 1 = .ok (.iconst 4, 1) := by decide +kernel
theorem d_Pi_isLine_2 : decode prog_5_method_2_code 2 = .ok (.if_icmp .lt 13, 3) := by decide +kernel
theorem d_Pi_isLine_5 : decode prog_5_method_2_code 5 = .ok (.iload_n 0, 1) := by decide +kernel
theorem d_Pi_isLine_6 : decode prog_5_method_2_code 6 = .ok (.bipush 16, 2) := by decide +kernel
theorem d_Pi_isLine_8 : decode prog_5_method_2_code 8 = .ok (.if_icmp .ge 7, 3) := by decide +kernel
theorem d_Pi_isLine_11 : decode prog_5_method_2_code 11 = .ok (.iconst 1, 1) := by decide +kernel
theorem d_Pi_isLine_12 : decode prog_5_method_2_code 12 = .ok (.goto 4, 3) := by decide +kernel
theorem d_Pi_isLine_15 : decode prog_5_method_2_code 15 = .ok (.iconst 0, 1) := by decide +kernel
theorem d_Pi_isLine_16 : decode prog_5_method_2_code 16 = .ok (.ireturn, 1) := by decide +kernel
theorem yd_Pi_isLine : y_Pi_isLine.cls ≠ "java/lang/invoke/MethodHandle" ∧ y_Pi_isLine.cls ≠ "java/lang/invoke/VarHandle" ∧ (parseMethodDescriptor y_Pi_isLine.desc).map (fun d => d.parameters.length) = some 1 := by decide +kernel
def w_Pi_shiftOut : List Cond := Cond.code y_Pi_shiftOut prog_5_method_10_code 2 (some .int) :: TB
def rm_Pi_shiftOut : Room := { frames := 0, cells := 0, slots := 0, locals := 0 }
theorem d_Pi_shiftOut_0 : decode prog_5_method_10_code 0 = .ok (.aload_n 0, 1) := by decide +kernel
theorem d_Pi_shiftOut_1 : decode prog_5_method_10_code 1 = .ok (.getfield 18, 3) := by decide +kernel
theorem d_Pi_shiftOut_4 : decode prog_5_method_10_code 4 = .ok (.iconst 0, 1) := by decide +kernel
theorem d_Pi_shiftOut_5 : decode prog_5_method_10_code 5 = .ok (.iaload, 1) := by decide +kernel
theorem d_Pi_shiftOut_6 : decode prog_5_method_10_code 6 = .ok (.bipush 15, 2) := by decide +kernel
theorem d_Pi_shiftOut_8 : decode prog_5_method_10_code 8 = .ok (.ishr, 1) := by decide +kernel
theorem d_Pi_shiftOut_9 : decode prog_5_method_10_code 9 = .ok (.iconst 2, 1) := by decide +kernel
theorem d_Pi_shiftOut_10 : decode prog_5_method_10_code 10 = .ok (.aload_n 0, 1) := by decide +kernel
theorem d_Pi_shiftOut_11 : decode prog_5_method_10_code 11 = .ok (.getfield 18, 3) := by decide +kernel
theorem d_Pi_shiftOut_14 : decode prog_5_method_10_code 14 = .ok (.iconst 1, 1) := by decide +kernel
theorem d_Pi_shiftOut_15 : decode prog_5_method_10_code 15 = .ok (.iaload, 1) := by decide +kernel
theorem d_Pi_shiftOut_16 : decode prog_5_method_10_code 16 = .ok (.bipush 15, 2) := by decide +kernel
theorem d_Pi_shiftOut_18 : decode prog_5_method_10_code 18 = .ok (.ishr, 1) := by decide +kernel
theorem d_Pi_shiftOut_19 : decode prog_5_method_10_code 19 = .ok (.imul, 1) := by decide +kernel
theorem d_Pi_shiftOut_20 : decode prog_5_method_10_code 20 = .ok (.iadd, 1) := by decide +kernel
theorem d_Pi_shiftOut_21 : decode prog_5_method_10_code 21 = .ok (.istore_n 1, 1) := by decide +kernel
theorem d_Pi_shiftOut_22 : decode prog_5_method_10_code 22 = .ok (.aload_n 0, 1) := by decide +kernel
theorem d_Pi_shiftOut_23 : decode prog_5_method_10_code 23 = .ok (.getfield 18, 3) := by decide +kernel
theorem d_Pi_shiftOut_26 : decode prog_5_method_10_code 26 = .ok (.iconst 0, 1) := by decide +kernel
theorem d_Pi_shiftOut_27 : decode prog_5_method_10_code 27 = .ok (.aload_n 0, 1) := by decide +kernel
theorem d_Pi_shiftOut_28 : decode prog_5_method_10_code 28 = .ok (.getfield 18, 3) := by decide +kernel
theorem d_Pi_shiftOut_31 : decode prog_5_method_10_code 31 = .ok (.iconst 0, 1) := by decide +kernel
theorem d_Pi_shiftOut_32 : decode prog_5_method_10_code 32 = .ok (.iaload, 1) := by decide +kernel
theorem d_Pi_shiftOut_33 : decode prog_5_method_10_code 33 = .ok (.iconst 1, 1) := by decide +kernel
theorem d_Pi_shiftOut_34 : decode prog_5_method_10_code 34 = .ok (.ishl, 1) := by decide +kernel
theorem d_Pi_shiftOut_35 : decode prog_5_method_10_code 35 = .ok (.ldc 53, 2) := by decide +kernel
theorem d_Pi_shiftOut_37 : decode prog_5_method_10_code 37 = .ok (.iand, 1) := by decide +kernel
theorem d_Pi_shiftOut_38 : decode prog_5_method_10_code 38 = .ok (.iastore, 1) := by decide +kernel
theorem d_Pi_shiftOut_39 : decode prog_5_method_10_code 39 = .ok (.aload_n 0, 1) := by decide +kernel
theorem d_Pi_shiftOut_40 : decode prog_5_method_10_code 40 = .ok (.getfield 18, 3) := by decide +kernel
theorem d_Pi_shiftOut_43 : decode prog_5_method_10_code 43 = .ok (.iconst 1, 1) := by decide +kernel
theorem d_Pi_shiftOut_44 : decode prog_5_method_10_code 44 = .ok (.aload_n 0, 1) := by decide +kernel
theorem d_Pi_shiftOut_45 : decode prog_5_method_10_code 45 = .ok (.getfield 18, 3) := by decide +kernel
theorem d_Pi_shiftOut_48 : decode prog_5_method_10_code 48 = .ok (.iconst 1, 1) := by decide +kernel
theorem d_Pi_shiftOut_49 : decode prog_5_method_10_code 49 = .ok (.iaload, 1) := by decide +kernel
theorem d_Pi_shiftOut_50 : decode prog_5_method_10_code 50 = .ok (.iconst 1, 1) := by decide +kernel
theorem d_Pi_shiftOut_51 : decode prog_5_method_10_code 51 = .ok (.ishl, 1) := by decide +kernel
theorem d_Pi_shiftOut_52 : decode prog_5_method_10_code 52 = .ok (.ldc 53, 2) := by decide +kernel
theorem d_Pi_shiftOut_54 : decode prog_5_method_10_code 54 = .ok (.iand, 1) := by decide +kernel
theorem d_Pi_shiftOut_55 : decode prog_5_method_10_code 55 = .ok (.iastore, 1) := by decide +kernel
theorem d_Pi_shiftOut_56 : decode prog_5_method_10_code 56 = .ok (.iload_n 1, 1) := by decide +kernel
theorem d_Pi_shiftOut_57 : decode prog_5_method_10_code 57 = .ok (.ireturn, 1) := by decide +kernel
theorem yd_Pi_shiftOut : y_Pi_shiftOut.cls ≠ "java/lang/invoke/MethodHandle" ∧ y_Pi_shiftOut.cls ≠ "java/lang/invoke/VarHandle" ∧ (parseMethodDescriptor y_Pi_shiftOut.desc).map (fun d => d.parameters.length) = some 0 := by decide +kernel
def w_Pi_showClock : List Cond := Cond.code y_Pi_showClock prog_5_method_7_code 5 none :: TB
def rm_Pi_showClock : Room := { frames := 1, cells := 0, slots := 0, locals := 21 }
theorem d_Pi_showClock_0 : decode prog_5_method_7_code 0 = .ok (.iload_n 2, 1) := by decide +kernel
theorem d_Pi_showClock_1 : decode prog_5_method_7_code 1 = .ok (.ifCond .ne 7, 3) := by decide +kernel
theorem d_Pi_showClock_4 : decode prog_5_method_7_code 4 = .ok (.aload_n 0, 1) := by decide +kernel
theorem d_Pi_showClock_5 : decode prog_5_method_7_code 5 = .ok (.invokevirtual 37, 3) := by decide +kernel
theorem d_Pi_showClock_8 : decode prog_5_method_7_code 8 = .ok (.iload_n 2, 1) := by decide +kernel
theorem d_Pi_showClock_9 : decode prog_5_method_7_code 9 = .ok (.bipush 16, 2) := by decide +kernel
theorem d_Pi_showClock_11 : decode prog_5_method_7_code 11 = .ok (.if_icmp .eq 9, 3) := by decide +kernel
theorem d_Pi_showClock_14 : decode prog_5_method_7_code 14 = .ok (.iload_n 2, 1) := by decide +kernel
theorem d_Pi_showClock_15 : decode prog_5_method_7_code 15 = .ok (.bipush 24, 2) := by decide +kernel
theorem d_Pi_showClock_17 : decode prog_5_method_7_code 17 = .ok (.if_icmp .ne 21, 3) := by decide +kernel
theorem d_Pi_showClock_20 : decode prog_5_method_7_code 20 = .ok (.aload_n 0, 1) := by decide +kernel
theorem d_Pi_showClock_21 : decode prog_5_method_7_code 21 = .ok (.getfield 15, 3) := by decide +kernel
theorem d_Pi_showClock_24 : decode prog_5_method_7_code 24 = .ok (.iconst 0, 1) := by decide +kernel
theorem d_Pi_showClock_25 : decode prog_5_method_7_code 25 = .ok (.aload_n 0, 1) := by decide +kernel
theorem d_Pi_showClock_26 : decode prog_5_method_7_code 26 = .ok (.getfield 18, 3) := by decide +kernel
theorem d_Pi_showClock_29 : decode prog_5_method_7_code 29 = .ok (.iconst 0, 1) := by decide +kernel
theorem d_Pi_showClock_30 : decode prog_5_method_7_code 30 = .ok (.iconst 2, 1) := by decide +kernel
theorem d_Pi_showClock_31 : decode prog_5_method_7_code 31 = .ok (.invokestatic 40, 3) := by decide +kernel
theorem d_Pi_showClock_34 : decode prog_5_method_7_code 34 = .ok (.aload_n 0, 1) := by decide +kernel
theorem d_Pi_showClock_35 : decode prog_5_method_7_code 35 = .ok (.invokevirtual 37, 3) := by decide +kernel
theorem d_Pi_showClock_38 : decode prog_5_method_7_code 38 = .ok (.iload_n 1, 1) := by decide +kernel
theorem d_Pi_showClock_39 : decode prog_5_method_7_code 39 = .ok (.invokestatic 24, 3) := by decide +kernel
theorem d_Pi_showClock_42 : decode prog_5_method_7_code 42 = .ok (.ifCond .eq 62, 3) := by decide +kernel
theorem d_Pi_showClock_45 : decode prog_5_method_7_code 45 = .ok (.iload_n 2, 1) := by decide +kernel
theorem d_Pi_showClock_46 : decode prog_5_method_7_code 46 = .ok (.bipush 16, 2) := by decide +kernel
theorem d_Pi_showClock_48 : decode prog_5_method_7_code 48 = .ok (.if_icmp .lt 56, 3) := by decide +kernel
theorem d_Pi_showClock_51 : decode prog_5_method_7_code 51 = .ok (.iload_n 1, 1) := by decide +kernel
theorem d_Pi_showClock_52 : decode prog_5_method_7_code 52 = .ok (.iconst 4, 1) := by decide +kernel
theorem d_Pi_showClock_53 : decode prog_5_method_7_code 53 = .ok (.isub, 1) := by decide +kernel
theorem d_Pi_showClock_54 : decode prog_5_method_7_code 54 = .ok (.bipush 32, 2) := by decide +kernel
theorem d_Pi_showClock_56 : decode prog_5_method_7_code 56 = .ok (.imul, 1) := by decide +kernel
theorem d_Pi_showClock_57 : decode prog_5_method_7_code 57 = .ok (.iconst 2, 1) := by decide +kernel
theorem d_Pi_showClock_58 : decode prog_5_method_7_code 58 = .ok (.iload_n 2, 1) := by decide +kernel
theorem d_Pi_showClock_59 : decode prog_5_method_7_code 59 = .ok (.bipush 16, 2) := by decide +kernel
theorem d_Pi_showClock_61 : decode prog_5_method_7_code 61 = .ok (.isub, 1) := by decide +kernel
theorem d_Pi_showClock_62 : decode prog_5_method_7_code 62 = .ok (.imul, 1) := by decide +kernel
theorem d_Pi_showClock_63 : decode prog_5_method_7_code 63 = .ok (.iadd, 1) := by decide +kernel
theorem d_Pi_showClock_64 : decode prog_5_method_7_code 64 = .ok (.istore 4, 2) := by decide +kernel
theorem d_Pi_showClock_66 : decode prog_5_method_7_code 66 = .ok (.aload_n 0, 1) := by decide +kernel
theorem d_Pi_showClock_67 : decode prog_5_method_7_code 67 = .ok (.getfield 21, 3) := by decide +kernel
theorem d_Pi_showClock_70 : decode prog_5_method_7_code 70 = .ok (.iload 4, 2) := by decide +kernel
theorem d_Pi_showClock_72 : decode prog_5_method_7_code 72 = .ok (.aload_n 3, 1) := by decide +kernel
theorem d_Pi_showClock_73 : decode prog_5_method_7_code 73 = .ok (.bipush 6, 2) := by decide +kernel
theorem d_Pi_showClock_75 : decode prog_5_method_7_code 75 = .ok (.aload_n 0, 1) := by decide +kernel
theorem d_Pi_showClock_76 : decode prog_5_method_7_code 76 = .ok (.invokevirtual 46, 3) := by decide +kernel
theorem d_Pi_showClock_79 : decode prog_5_method_7_code 79 = .ok (.iadd, 1) := by decide +kernel
theorem d_Pi_showClock_80 : decode prog_5_method_7_code 80 = .ok (.invokevirtual 33, 3) := by decide +kernel
theorem d_Pi_showClock_83 : decode prog_5_method_7_code 83 = .ok (.iastore, 1) := by decide +kernel
theorem d_Pi_showClock_84 : decode prog_5_method_7_code 84 = .ok (.aload_n 0, 1) := by decide +kernel
theorem d_Pi_showClock_85 : decode prog_5_method_7_code 85 = .ok (.getfield 21, 3) := by decide +kernel
theorem d_Pi_showClock_88 : decode prog_5_method_7_code 88 = .ok (.iload 4, 2) := by decide +kernel
theorem d_Pi_showClock_90 : decode prog_5_method_7_code 90 = .ok (.iconst 1, 1) := by decide +kernel
theorem d_Pi_showClock_91 : decode prog_5_method_7_code 91 = .ok (.iadd, 1) := by decide +kernel
theorem d_Pi_showClock_92 : decode prog_5_method_7_code 92 = .ok (.aload_n 3, 1) := by decide +kernel
theorem d_Pi_showClock_93 : decode prog_5_method_7_code 93 = .ok (.bipush 6, 2) := by decide +kernel
theorem d_Pi_showClock_95 : decode prog_5_method_7_code 95 = .ok (.aload_n 0, 1) := by decide +kernel
theorem d_Pi_showClock_96 : decode prog_5_method_7_code 96 = .ok (.invokevirtual 46, 3) := by decide +kernel
theorem d_Pi_showClock_99 : decode prog_5_method_7_code 99 = .ok (.iadd, 1) := by decide +kernel
theorem d_Pi_showClock_100 : decode prog_5_method_7_code 100 = .ok (.invokevirtual 33, 3) := by decide +kernel
theorem d_Pi_showClock_103 : decode prog_5_method_7_code 103 = .ok (.iastore, 1) := by decide +kernel
theorem d_Pi_showClock_104 : decode prog_5_method_7_code 104 = .ok (.return_, 1) := by decide +kernel
theorem yd_Pi_showClock : y_Pi_showClock.cls ≠ "java/lang/invoke/MethodHandle" ∧ y_Pi_showClock.cls ≠ "java/lang/invoke/VarHandle" ∧ (parseMethodDescriptor y_Pi_showClock.desc).map (fun d => d.parameters.length) = some 3 := by decide +kernel
def w_Pi_isFetchClockOf1 : List Cond := Cond.code y_Pi_isFetchClockOf1 prog_5_method_4_code 1 (some .boolean) :: TB
def rm_Pi_isFetchClockOf1 : Room := { frames := 0, cells := 0, slots := 0, locals := 0 }
theorem d_Pi_isFetchClockOf1_0 : decode prog_5_method_4_code 0 = .ok (.iload_n 0, 1) := by decide +kernel
theorem d_Pi_isFetchClockOf1_1 : decode prog_5_method_4_code 1 = .ok (.bipush 11, 2) := by decide +kernel
theorem d_Pi_isFetchClockOf1_3 : decode prog_5_method_4_code 3 = .ok (.if_icmp .eq 9, 3) := by decide +kernel
theorem d_Pi_isFetchClockOf1_6 : decode prog_5_method_4_code 6 = .ok (.iload_n 0, 1) := by decide +kernel
theorem d_Pi_isFetchClockOf1_7 : decode prog_5_method_4_code 7 = .ok (.bipush 19, 2) := by decide +kernel
theorem d_Pi_isFetchClockOf1_9 : decode prog_5_method_4_code 9 = .ok (.if_icmp .ne 7, 3) := by decide +kernel
theorem d_Pi_isFetchClockOf1_12 : decode prog_5_method_4_code 12 = .ok (.iconst 1, 1) := by decide +kernel
theorem d_Pi_isFetchClockOf1_13 : decode prog_5_method_4_code 13 = .ok (.goto 4, 3) := by decide +kernel
theorem d_Pi_isFetchClockOf1_16 : decode prog_5_method_4_code 16 = .ok (.iconst 0, 1) := by decide +kernel
theorem d_Pi_isFetchClockOf1_17 : decode prog_5_method_4_code 17 = .ok (.ireturn, 1) := by decide +kernel
theorem yd_Pi_isFetchClockOf1 : y_Pi_isFetchClockOf1.cls ≠ "java/lang/invoke/MethodHandle" ∧ y_Pi_isFetchClockOf1.cls ≠ "java/lang/invoke/VarHandle" ∧ (parseMethodDescriptor y_Pi_isFetchClockOf1.desc).map (fun d => d.parameters.length) = some 1 := by decide +kernel
def w_Pi_isFetchClock : List Cond := Cond.code y_Pi_isFetchClock prog_5_method_3_code 2 (some .boolean) :: TB
def rm_Pi_isFetchClock : Room := { frames := 1, cells := 0, slots := 0, locals := 20 }
theorem d_Pi_isFetchClock_0 : decode prog_5_method_3_code 0 = .ok (.iload_n 0, 1) := by decide +kernel
theorem d_Pi_isFetchClock_1 : decode prog_5_method_3_code 1 = .ok (.invokestatic 24, 3) := by decide +kernel
theorem d_Pi_isFetchClock_4 : decode prog_5_method_3_code 4 = .ok (.ifCond .eq 26, 3) := by decide +kernel
theorem d_Pi_isFetchClock_7 : decode prog_5_method_3_code 7 = .ok (.iload_n 1, 1) := by decide +kernel
theorem d_Pi_isFetchClock_8 : decode prog_5_method_3_code 8 = .ok (.invokestatic 28, 3) := by decide +kernel
theorem d_Pi_isFetchClock_11 : decode prog_5_method_3_code 11 = .ok (.ifCond .ne 15, 3) := by decide +kernel
theorem d_Pi_isFetchClock_14 : decode prog_5_method_3_code 14 = .ok (.iload_n 1, 1) := by decide +kernel
theorem d_Pi_isFetchClock_15 : decode prog_5_method_3_code 15 = .ok (.bipush 15, 2) := by decide +kernel
theorem d_Pi_isFetchClock_17 : decode prog_5_method_3_code 17 = .ok (.if_icmp .eq 9, 3) := by decide +kernel
theorem d_Pi_isFetchClock_20 : decode prog_5_method_3_code 20 = .ok (.iload_n 1, 1) := by decide +kernel
theorem d_Pi_isFetchClock_21 : decode prog_5_method_3_code 21 = .ok (.bipush 23, 2) := by decide +kernel
theorem d_Pi_isFetchClock_23 : decode prog_5_method_3_code 23 = .ok (.if_icmp .ne 7, 3) := by decide +kernel
theorem d_Pi_isFetchClock_26 : decode prog_5_method_3_code 26 = .ok (.iconst 1, 1) := by decide +kernel
theorem d_Pi_isFetchClock_27 : decode prog_5_method_3_code 27 = .ok (.goto 4, 3) := by decide +kernel
theorem d_Pi_isFetchClock_30 : decode prog_5_method_3_code 30 = .ok (.iconst 0, 1) := by decide +kernel
theorem d_Pi_isFetchClock_31 : decode prog_5_method_3_code 31 = .ok (.ireturn, 1) := by decide +kernel
theorem yd_Pi_isFetchClock : y_Pi_isFetchClock.cls ≠ "java/lang/invoke/MethodHandle" ∧ y_Pi_isFetchClock.cls ≠ "java/lang/invoke/VarHandle" ∧ (parseMethodDescriptor y_Pi_isFetchClock.desc).map (fun d => d.parameters.length) = some 2 := by decide +kernel
def w_Pi_fetchAt : List Cond := Cond.code y_Pi_fetchAt prog_5_method_8_code 5 none :: TB
def rm_Pi_fetchAt : Room := { frames := 1, cells := 0, slots := 0, locals := 21 }
theorem d_Pi_fetchAt_0 : decode prog_5_method_8_code 0 = .ok (.iload_n 1, 1) := by decide +kernel
theorem d_Pi_fetchAt_1 : decode prog_5_method_8_code 1 = .ok (.invokestatic 28, 3) := by decide +kernel
theorem d_Pi_fetchAt_4 : decode prog_5_method_8_code 4 = .ok (.ifCond .eq 7, 3) := by decide +kernel
theorem d_Pi_fetchAt_7 : decode prog_5_method_8_code 7 = .ok (.iconst 1, 1) := by decide +kernel
theorem d_Pi_fetchAt_8 : decode prog_5_method_8_code 8 = .ok (.goto 4, 3) := by decide +kernel
theorem d_Pi_fetchAt_11 : decode prog_5_method_8_code 11 = .ok (.iconst 0, 1) := by decide +kernel
theorem d_Pi_fetchAt_12 : decode prog_5_method_8_code 12 = .ok (.istore 4, 2) := by decide +kernel
theorem d_Pi_fetchAt_14 : decode prog_5_method_8_code 14 = .ok (.aload_n 0, 1) := by decide +kernel
theorem d_Pi_fetchAt_15 : decode prog_5_method_8_code 15 = .ok (.getfield 15, 3) := by decide +kernel
theorem d_Pi_fetchAt_18 : decode prog_5_method_8_code 18 = .ok (.iload 4, 2) := by decide +kernel
theorem d_Pi_fetchAt_20 : decode prog_5_method_8_code 20 = .ok (.aload_n 2, 1) := by decide +kernel
theorem d_Pi_fetchAt_21 : decode prog_5_method_8_code 21 = .ok (.aload_n 0, 1) := by decide +kernel
theorem d_Pi_fetchAt_22 : decode prog_5_method_8_code 22 = .ok (.getfield 11, 3) := by decide +kernel
theorem d_Pi_fetchAt_25 : decode prog_5_method_8_code 25 = .ok (.iload 4, 2) := by decide +kernel
theorem d_Pi_fetchAt_27 : decode prog_5_method_8_code 27 = .ok (.iaload, 1) := by decide +kernel
theorem d_Pi_fetchAt_28 : decode prog_5_method_8_code 28 = .ok (.invokevirtual 50, 3) := by decide +kernel
theorem d_Pi_fetchAt_31 : decode prog_5_method_8_code 31 = .ok (.iastore, 1) := by decide +kernel
theorem d_Pi_fetchAt_32 : decode prog_5_method_8_code 32 = .ok (.aload_n 0, 1) := by decide +kernel
theorem d_Pi_fetchAt_33 : decode prog_5_method_8_code 33 = .ok (.getfield 11, 3) := by decide +kernel
theorem d_Pi_fetchAt_36 : decode prog_5_method_8_code 36 = .ok (.iload 4, 2) := by decide +kernel
theorem d_Pi_fetchAt_38 : decode prog_5_method_8_code 38 = .ok (.aload_n 0, 1) := by decide +kernel
theorem d_Pi_fetchAt_39 : decode prog_5_method_8_code 39 = .ok (.getfield 11, 3) := by decide +kernel
theorem d_Pi_fetchAt_42 : decode prog_5_method_8_code 42 = .ok (.iload 4, 2) := by decide +kernel
theorem d_Pi_fetchAt_44 : decode prog_5_method_8_code 44 = .ok (.iaload, 1) := by decide +kernel
theorem d_Pi_fetchAt_45 : decode prog_5_method_8_code 45 = .ok (.iconst 1, 1) := by decide +kernel
theorem d_Pi_fetchAt_46 : decode prog_5_method_8_code 46 = .ok (.iadd, 1) := by decide +kernel
theorem d_Pi_fetchAt_47 : decode prog_5_method_8_code 47 = .ok (.sipush 255, 3) := by decide +kernel
theorem d_Pi_fetchAt_50 : decode prog_5_method_8_code 50 = .ok (.iand, 1) := by decide +kernel
theorem d_Pi_fetchAt_51 : decode prog_5_method_8_code 51 = .ok (.iastore, 1) := by decide +kernel
theorem d_Pi_fetchAt_52 : decode prog_5_method_8_code 52 = .ok (.iload_n 1, 1) := by decide +kernel
theorem d_Pi_fetchAt_53 : decode prog_5_method_8_code 53 = .ok (.bipush 23, 2) := by decide +kernel
theorem d_Pi_fetchAt_55 : decode prog_5_method_8_code 55 = .ok (.if_icmp .ne 39, 3) := by decide +kernel
theorem d_Pi_fetchAt_58 : decode prog_5_method_8_code 58 = .ok (.aload_n 0, 1) := by decide +kernel
theorem d_Pi_fetchAt_59 : decode prog_5_method_8_code 59 = .ok (.getfield 11, 3) := by decide +kernel
theorem d_Pi_fetchAt_62 : decode prog_5_method_8_code 62 = .ok (.iconst 0, 1) := by decide +kernel
theorem d_Pi_fetchAt_63 : decode prog_5_method_8_code 63 = .ok (.aload_n 0, 1) := by decide +kernel
theorem d_Pi_fetchAt_64 : decode prog_5_method_8_code 64 = .ok (.getfield 11, 3) := by decide +kernel
theorem d_Pi_fetchAt_67 : decode prog_5_method_8_code 67 = .ok (.iconst 0, 1) := by decide +kernel
theorem d_Pi_fetchAt_68 : decode prog_5_method_8_code 68 = .ok (.iaload, 1) := by decide +kernel
theorem d_Pi_fetchAt_69 : decode prog_5_method_8_code 69 = .ok (.iload_n 3, 1) := by decide +kernel
theorem d_Pi_fetchAt_70 : decode prog_5_method_8_code 70 = .ok (.iadd, 1) := by decide +kernel
theorem d_Pi_fetchAt_71 : decode prog_5_method_8_code 71 = .ok (.sipush 255, 3) := by decide +kernel
theorem d_Pi_fetchAt_74 : decode prog_5_method_8_code 74 = .ok (.iand, 1) := by decide +kernel
theorem d_Pi_fetchAt_75 : decode prog_5_method_8_code 75 = .ok (.iastore, 1) := by decide +kernel
theorem d_Pi_fetchAt_76 : decode prog_5_method_8_code 76 = .ok (.aload_n 0, 1) := by decide +kernel
theorem d_Pi_fetchAt_77 : decode prog_5_method_8_code 77 = .ok (.getfield 11, 3) := by decide +kernel
theorem d_Pi_fetchAt_80 : decode prog_5_method_8_code 80 = .ok (.iconst 1, 1) := by decide +kernel
theorem d_Pi_fetchAt_81 : decode prog_5_method_8_code 81 = .ok (.aload_n 0, 1) := by decide +kernel
theorem d_Pi_fetchAt_82 : decode prog_5_method_8_code 82 = .ok (.getfield 11, 3) := by decide +kernel
theorem d_Pi_fetchAt_85 : decode prog_5_method_8_code 85 = .ok (.iconst 1, 1) := by decide +kernel
theorem d_Pi_fetchAt_86 : decode prog_5_method_8_code 86 = .ok (.iaload, 1) := by decide +kernel
theorem d_Pi_fetchAt_87 : decode prog_5_method_8_code 87 = .ok (.iload_n 3, 1) := by decide +kernel
theorem d_Pi_fetchAt_88 : decode prog_5_method_8_code 88 = .ok (.iadd, 1) := by decide +kernel
theorem d_Pi_fetchAt_89 : decode prog_5_method_8_code 89 = .ok (.sipush 255, 3) := by decide +kernel
theorem d_Pi_fetchAt_92 : decode prog_5_method_8_code 92 = .ok (.iand, 1) := by decide +kernel
theorem d_Pi_fetchAt_93 : decode prog_5_method_8_code 93 = .ok (.iastore, 1) := by decide +kernel
theorem d_Pi_fetchAt_94 : decode prog_5_method_8_code 94 = .ok (.return_, 1) := by decide +kernel
theorem yd_Pi_fetchAt : y_Pi_fetchAt.cls ≠ "java/lang/invoke/MethodHandle" ∧ y_Pi_fetchAt.cls ≠ "java/lang/invoke/VarHandle" ∧ (parseMethodDescriptor y_Pi_fetchAt.desc).map (fun d => d.parameters.length) = some 3 := by decide +kernel
def w_Pi_shownAt : List Cond := Cond.code y_Pi_shownAt prog_5_method_5_code 3 (some .int) :: TB
def rm_Pi_shownAt : Room := { frames := 0, cells := 0, slots := 0, locals := 0 }
theorem d_Pi_shownAt_0 : decode prog_5_method_5_code 0 = .ok (.iload_n 1, 1) := by decide +kernel
theorem d_Pi_shownAt_1 : decode prog_5_method_5_code 1 = .ok (.ifCond .lt 19, 3) := by decide +kernel
theorem d_Pi_shownAt_4 : decode prog_5_method_5_code 4 = .ok (.iload_n 1, 1) := by decide +kernel
theorem d_Pi_shownAt_5 : decode prog_5_method_5_code 5 = .ok (.bipush 32, 2) := by decide +kernel
theorem d_Pi_shownAt_7 : decode prog_5_method_5_code 7 = .ok (.if_icmp .ge 13, 3) := by decide +kernel
theorem d_Pi_shownAt_10 : decode prog_5_method_5_code 10 = .ok (.iload_n 2, 1) := by decide +kernel
theorem d_Pi_shownAt_11 : decode prog_5_method_5_code 11 = .ok (.ifCond .lt 9, 3) := by decide +kernel
theorem d_Pi_shownAt_14 : decode prog_5_method_5_code 14 = .ok (.iload_n 2, 1) := by decide +kernel
theorem d_Pi_shownAt_15 : decode prog_5_method_5_code 15 = .ok (.bipush 12, 2) := by decide +kernel
theorem d_Pi_shownAt_17 : decode prog_5_method_5_code 17 = .ok (.if_icmp .lt 5, 3) := by decide +kernel
theorem d_Pi_shownAt_20 : decode prog_5_method_5_code 20 = .ok (.iconst (-1), 1) := by decide +kernel
theorem d_Pi_shownAt_21 : decode prog_5_method_5_code 21 = .ok (.ireturn, 1) := by decide +kernel
theorem d_Pi_shownAt_22 : decode prog_5_method_5_code 22 = .ok (.aload_n 0, 1) := by decide +kernel
theorem d_Pi_shownAt_23 : decode prog_5_method_5_code 23 = .ok (.getfield 21, 3) := by decide +kernel
theorem d_Pi_shownAt_26 : decode prog_5_method_5_code 26 = .ok (.iload_n 2, 1) := by decide +kernel
theorem d_Pi_shownAt_27 : decode prog_5_method_5_code 27 = .ok (.bipush 32, 2) := by decide +kernel
theorem d_Pi_shownAt_29 : decode prog_5_method_5_code 29 = .ok (.imul, 1) := by decide +kernel
theorem d_Pi_shownAt_30 : decode prog_5_method_5_code 30 = .ok (.iload_n 1, 1) := by decide +kernel
theorem d_Pi_shownAt_31 : decode prog_5_method_5_code 31 = .ok (.iadd, 1) := by decide +kernel
theorem d_Pi_shownAt_32 : decode prog_5_method_5_code 32 = .ok (.iaload, 1) := by decide +kernel
theorem d_Pi_shownAt_33 : decode prog_5_method_5_code 33 = .ok (.ireturn, 1) := by decide +kernel
theorem yd_Pi_shownAt : y_Pi_shownAt.cls ≠ "java/lang/invoke/MethodHandle" ∧ y_Pi_shownAt.cls ≠ "java/lang/invoke/VarHandle" ∧ (parseMethodDescriptor y_Pi_shownAt.desc).map (fun d => d.parameters.length) = some 2 := by decide +kernel
theorem tb_cd_Pi_returnToBases : Cond.code y_Pi_returnToBases prog_5_method_6_code 3 none ∈ TB := tb_in 230 (by decide +kernel) (by decide +kernel)
theorem tb_in_Pi : Cond.initialized "SlotBoard$Picture" ∈ TB := tb_in 4 (by decide +kernel) (by decide +kernel)
theorem tb_im_Pi_returnToBases : Cond.instanceMethod y_Pi_returnToBases ∈ TB := tb_in 228 (by decide +kernel) (by decide +kernel)
theorem tb_se_Pi_returnToBases : Cond.selects "SlotBoard$Picture" y_Pi_returnToBases y_Pi_returnToBases ∈ TB := tb_in 229 (by decide +kernel) (by decide +kernel)
theorem tb_fl_Pi_11 : Cond.fieldLink "SlotBoard$Picture" 11 "SlotBoard$Picture" "places" "[I" ∈ TB := tb_in 49 (by decide +kernel) (by decide +kernel)
theorem tb_ml_Pi_33 : Cond.methodLink "SlotBoard$Picture" 33 y_Re_at ∈ TB := tb_in 231 (by decide +kernel) (by decide +kernel)
theorem tb_cd_Pi_clearLatches : Cond.code y_Pi_clearLatches prog_5_method_9_code 1 none ∈ TB := tb_in 251 (by decide +kernel) (by decide +kernel)
theorem tb_im_Pi_clearLatches : Cond.instanceMethod y_Pi_clearLatches ∈ TB := tb_in 250 (by decide +kernel) (by decide +kernel)
theorem tb_se_Pi_clearLatches : Cond.selects "SlotBoard$Picture" y_Pi_clearLatches y_Pi_clearLatches ∈ TB := tb_inS 2 (by decide +kernel) (by decide +kernel)
theorem tb_fl_Pi_15 : Cond.fieldLink "SlotBoard$Picture" 15 "SlotBoard$Picture" "latches" "[I" ∈ TB := tb_in 50 (by decide +kernel) (by decide +kernel)
theorem tb_cd_Pi_isLine : Cond.code y_Pi_isLine prog_5_method_2_code 1 (some .boolean) ∈ TB := tb_in 257 (by decide +kernel) (by decide +kernel)
theorem tb_st_Pi_isLine : Cond.static y_Pi_isLine ∈ TB := tb_in 256 (by decide +kernel) (by decide +kernel)
theorem tb_cd_Pi_shiftOut : Cond.code y_Pi_shiftOut prog_5_method_10_code 2 (some .int) ∈ TB := tb_in 261 (by decide +kernel) (by decide +kernel)
theorem tb_im_Pi_shiftOut : Cond.instanceMethod y_Pi_shiftOut ∈ TB := tb_in 260 (by decide +kernel) (by decide +kernel)
theorem tb_se_Pi_shiftOut : Cond.selects "SlotBoard$Picture" y_Pi_shiftOut y_Pi_shiftOut ∈ TB := tb_inS 3 (by decide +kernel) (by decide +kernel)
theorem tb_fl_Pi_18 : Cond.fieldLink "SlotBoard$Picture" 18 "SlotBoard$Picture" "shifters" "[I" ∈ TB := tb_in 51 (by decide +kernel) (by decide +kernel)
theorem tb_ct_Pi_53 : Cond.constant "SlotBoard$Picture" 53 (65535) ∈ TB := tb_in 262 (by decide +kernel) (by decide +kernel)
theorem tb_cd_Pi_showClock : Cond.code y_Pi_showClock prog_5_method_7_code 5 none ∈ TB := tb_in 247 (by decide +kernel) (by decide +kernel)
theorem tb_im_Pi_showClock : Cond.instanceMethod y_Pi_showClock ∈ TB := tb_in 245 (by decide +kernel) (by decide +kernel)
theorem tb_se_Pi_showClock : Cond.selects "SlotBoard$Picture" y_Pi_showClock y_Pi_showClock ∈ TB := tb_in 246 (by decide +kernel) (by decide +kernel)
theorem tb_ml_Pi_37 : Cond.methodLink "SlotBoard$Picture" 37 y_Pi_clearLatches ∈ TB := tb_in 248 (by decide +kernel) (by decide +kernel)
theorem tb_ml_Pi_24 : Cond.methodLink "SlotBoard$Picture" 24 y_Pi_isLine ∈ TB := tb_in 255 (by decide +kernel) (by decide +kernel)
theorem tb_fl_Pi_21 : Cond.fieldLink "SlotBoard$Picture" 21 "SlotBoard$Picture" "points" "[I" ∈ TB := tb_in 52 (by decide +kernel) (by decide +kernel)
theorem tb_ml_Pi_46 : Cond.methodLink "SlotBoard$Picture" 46 y_Pi_shiftOut ∈ TB := tb_in 258 (by decide +kernel) (by decide +kernel)
theorem tb_ml_Pi_40 : Cond.methodLink "SlotBoard$Picture" 40 arraycopyName ∈ TB := tb_in 252 (by decide +kernel) (by decide +kernel)
theorem tb_nat : Cond.native arraycopyName ∈ TB := tb_in 254 (by decide +kernel) (by decide +kernel)
theorem tb_nats : Cond.static arraycopyName ∈ TB := tb_in 253 (by decide +kernel) (by decide +kernel)
theorem tb_in_Sys : Cond.initialized "java/lang/System" ∈ TB := tb_in 9 (by decide +kernel) (by decide +kernel)
theorem tb_cd_Pi_isFetchClockOf1 : Cond.code y_Pi_isFetchClockOf1 prog_5_method_4_code 1 (some .boolean) ∈ TB := tb_in 276 (by decide +kernel) (by decide +kernel)
theorem tb_st_Pi_isFetchClockOf1 : Cond.static y_Pi_isFetchClockOf1 ∈ TB := tb_in 275 (by decide +kernel) (by decide +kernel)
theorem tb_cd_Pi_isFetchClock : Cond.code y_Pi_isFetchClock prog_5_method_3_code 2 (some .boolean) ∈ TB := tb_in 273 (by decide +kernel) (by decide +kernel)
theorem tb_st_Pi_isFetchClock : Cond.static y_Pi_isFetchClock ∈ TB := tb_in 272 (by decide +kernel) (by decide +kernel)
theorem tb_ml_Pi_28 : Cond.methodLink "SlotBoard$Picture" 28 y_Pi_isFetchClockOf1 ∈ TB := tb_in 274 (by decide +kernel) (by decide +kernel)
theorem tb_cd_Pi_fetchAt : Cond.code y_Pi_fetchAt prog_5_method_8_code 5 none ∈ TB := tb_in 296 (by decide +kernel) (by decide +kernel)
theorem tb_im_Pi_fetchAt : Cond.instanceMethod y_Pi_fetchAt ∈ TB := tb_in 294 (by decide +kernel) (by decide +kernel)
theorem tb_se_Pi_fetchAt : Cond.selects "SlotBoard$Picture" y_Pi_fetchAt y_Pi_fetchAt ∈ TB := tb_in 295 (by decide +kernel) (by decide +kernel)
theorem tb_ml_Pi_50 : Cond.methodLink "SlotBoard$Picture" 50 y_Me_at ∈ TB := tb_in 297 (by decide +kernel) (by decide +kernel)
theorem tb_cd_Pi_shownAt : Cond.code y_Pi_shownAt prog_5_method_5_code 3 (some .int) ∈ TB := tb_in 421 (by decide +kernel) (by decide +kernel)
theorem tb_im_Pi_shownAt : Cond.instanceMethod y_Pi_shownAt ∈ TB := tb_in 419 (by decide +kernel) (by decide +kernel)
theorem tb_se_Pi_shownAt : Cond.selects "SlotBoard$Picture" y_Pi_shownAt y_Pi_shownAt ∈ TB := tb_in 420 (by decide +kernel) (by decide +kernel)
def f_Pi_returnToBases_2_2_2 (S : SS) (M : MM) : Option RR := some (0, S, M)
def f_Pi_returnToBases_2_2_1 (S : SS) (M : MM) : Option RR := (f_Re_at S M (4 : Int32)).bind (fun q1 => f_Pi_returnToBases_2_2_2 q1.2.1 (upM q1.2.2 3 (upd (q1.2.2 3) 1 q1.1)))
def f_Pi_returnToBases_2_2_0 (S : SS) (M : MM) : Option RR := (f_Re_at S M (3 : Int32)).bind (fun q2 => f_Pi_returnToBases_2_2_1 q2.2.1 (upM q2.2.2 3 (upd (q2.2.2 3) 0 q2.1)))
def f_Pi_returnToBases (S : SS) (M : MM) : Option RR := f_Pi_returnToBases_2_2_0 S M
set_option maxHeartbeats 4000000 in
set_option maxRecDepth 100000 in
theorem c_Pi_returnToBases (l : Launch) (D : va_G) (cA : ClassId) (a : Nat → Nat) (S : SS) (M : MM) (q : RR) (h0 : f_Pi_returnToBases S M = some q) : Cv l y_Pi_returnToBases w_Pi_returnToBases rm_Pi_returnToBases D vCl [(cA, .int)] (AB a) (ZB a) (wB cA a) [.ref (a 3), .ref (a 2)] S M q := by
  refine Cv.of (cc := prog_5_method_6_code) (maxL := 3) (by decide) rfl (Nat.le_of_ble_eq_true rfl) ?_
  intro p e s m args below meth c Q hx hb hml hown hts hK hZ ret
  have hown : s.vm.findClass R_Pi = some m.cls := hown
  have hts : ∀ w ∈ TB, w.before args s = true := fun w h => hts w (List.mem_cons_of_mem _ h)
  have hZK := ZB_k a
  have k11 := hts _ tb_fl_Pi_11
  have b2_2_2 : ∀ (S : SS) (M : MM), f_Pi_returnToBases_2_2_2 S M = some q → BK p l e rm_Pi_returnToBases s m args below meth c Q D vCl (AB a) (wB cA a) 3 2 [(0, .ref (a 3)), (1, .ref (a 2)), (2, .int (2 : Int32))] [] S M := by
    intro S M h H locs ls hl hP hD hS
    unfold f_Pi_returnToBases_2_2_2 at h
    refine lv_iload_n hx hb d_Pi_returnToBases_2 rfl (lv_at hl 2 rfl) ?_
    refine lv_iconst (v := (2 : Int32)) hx hb d_Pi_returnToBases_3 (by decide) ?_
    refine lv_icmp_ge (tgt := 26) hx hb d_Pi_returnToBases_4 (by decide) (fun _ => ?_) (fun h9 => absurd h9 (by decide))
    exact ret _ _ _ _ _ _ _ h hP hD hS d_Pi_returnToBases_26
  have b2_2_1 : ∀ (S : SS) (M : MM), f_Pi_returnToBases_2_2_1 S M = some q → BK p l e rm_Pi_returnToBases s m args below meth c Q D vCl (AB a) (wB cA a) 3 2 [(0, .ref (a 3)), (1, .ref (a 2)), (2, .int (1 : Int32))] [] S M := by
    intro S M h H locs ls hl hP hD hS
    unfold f_Pi_returnToBases_2_2_1 at h
    refine lv_iload_n hx hb d_Pi_returnToBases_2 rfl (lv_at hl 2 rfl) ?_
    refine lv_iconst (v := (2 : Int32)) hx hb d_Pi_returnToBases_3 (by decide) ?_
    refine lv_icmp_ge (tgt := 26) hx hb d_Pi_returnToBases_4 (by decide) (fun h9 => absurd h9 (by decide)) (fun _ => ?_)
    refine lv_aload_n hx hb d_Pi_returnToBases_7 rfl (lv_at hl 0 rfl) ?_
    refine va_get (D := D) (ci := 3) (v := .ref (a 10)) (C := R_Pi) (T := T_Pi) (N := 4) hx hb hts iPi hown hK hP 3 (wB_at3 _ _ _ _) rfl 0 (by decide) k11 (fun _ h9 => h9) rfl d_Pi_returnToBases_8 ?_
    refine lv_iload_n hx hb d_Pi_returnToBases_11 rfl (lv_at hl 2 rfl) ?_
    refine lv_aload_n hx hb d_Pi_returnToBases_12 rfl (lv_at hl 1 rfl) ?_
    refine lv_iconst (v := (3 : Int32)) hx hb d_Pi_returnToBases_13 (by decide) ?_
    refine lv_iload_n hx hb d_Pi_returnToBases_14 rfl (lv_at hl 2 rfl) ?_
    refine lv_iadd hx hb d_Pi_returnToBases_15 ?_
    refine cst_i (y := (4 : Int32)) (by decide) ?_
    obtain ⟨⟨r1, S1, M1⟩, hc1, h⟩ := sg_b h
    dsimp only at h
    refine cvi (As := [.int (4 : Int32)]) (rest := [.int (1 : Int32), .ref (a 10)]) ⟨hx, hb, hml, hown, hts⟩ (c_Re_at l D cA a S M (4 : Int32) _ hc1) ⟨callB_of 1 hts (tb_gi tb_cd_Re_at) rfl rfl rfl (hts _ tb_in_Re) (hts _ tb_ml_Pi_33) yd_Re_at ⟨Nat.le_of_ble_eq_true rfl, Nat.le_of_ble_eq_true rfl⟩, hts _ tb_im_Re_at, hts _ tb_se_Re_at⟩ hZK hK hZ hP hD hS 2 (wB_at2 _ _ _ _) rfl rfl hl.1 rfl (Nat.le_of_ble_eq_true rfl) d_Pi_returnToBases_16 (fun H locs hP hD hS => ?_)
    refine iastK (x := r1) hx hb hK hP hD hS 10 0 (wB_at10 _ _ _ _) rfl 1 (by decide) (by unfold vp_in; decide) d_Pi_returnToBases_19 (fun H locs hP hD hS => ?_)
    have hP := wB_set10 hP
    have hD := wB_dset10 hD
    refine lv_iinc (k := 2) (v := (2 : Int32)) (lv' := [(2, .int (2 : Int32)), (0, .ref (a 3)), (1, .ref (a 2))]) hx hb d_Pi_returnToBases_20 hl rfl (by decide) (by decide) rfl (fun ls hl => ?_)
    refine lv_goto (tgt := 2) hx hb d_Pi_returnToBases_23 (by decide) ?_
    exact b2_2_2 _ _ h _ _ _ (lv_sub hl [1, 2, 0] rfl) hP hD hS
  have b2_2_0 : ∀ (S : SS) (M : MM), f_Pi_returnToBases_2_2_0 S M = some q → BK p l e rm_Pi_returnToBases s m args below meth c Q D vCl (AB a) (wB cA a) 3 2 [(0, .ref (a 3)), (1, .ref (a 2)), (2, .int (0 : Int32))] [] S M := by
    intro S M h H locs ls hl hP hD hS
    unfold f_Pi_returnToBases_2_2_0 at h
    refine lv_iload_n hx hb d_Pi_returnToBases_2 rfl (lv_at hl 2 rfl) ?_
    refine lv_iconst (v := (2 : Int32)) hx hb d_Pi_returnToBases_3 (by decide) ?_
    refine lv_icmp_ge (tgt := 26) hx hb d_Pi_returnToBases_4 (by decide) (fun h9 => absurd h9 (by decide)) (fun _ => ?_)
    refine lv_aload_n hx hb d_Pi_returnToBases_7 rfl (lv_at hl 0 rfl) ?_
    refine va_get (D := D) (ci := 3) (v := .ref (a 10)) (C := R_Pi) (T := T_Pi) (N := 4) hx hb hts iPi hown hK hP 3 (wB_at3 _ _ _ _) rfl 0 (by decide) k11 (fun _ h9 => h9) rfl d_Pi_returnToBases_8 ?_
    refine lv_iload_n hx hb d_Pi_returnToBases_11 rfl (lv_at hl 2 rfl) ?_
    refine lv_aload_n hx hb d_Pi_returnToBases_12 rfl (lv_at hl 1 rfl) ?_
    refine lv_iconst (v := (3 : Int32)) hx hb d_Pi_returnToBases_13 (by decide) ?_
    refine lv_iload_n hx hb d_Pi_returnToBases_14 rfl (lv_at hl 2 rfl) ?_
    refine lv_iadd hx hb d_Pi_returnToBases_15 ?_
    refine cst_i (y := (3 : Int32)) (by decide) ?_
    obtain ⟨⟨r2, S2, M2⟩, hc2, h⟩ := sg_b h
    dsimp only at h
    refine cvi (As := [.int (3 : Int32)]) (rest := [.int (0 : Int32), .ref (a 10)]) ⟨hx, hb, hml, hown, hts⟩ (c_Re_at l D cA a S M (3 : Int32) _ hc2) ⟨callB_of 1 hts (tb_gi tb_cd_Re_at) rfl rfl rfl (hts _ tb_in_Re) (hts _ tb_ml_Pi_33) yd_Re_at ⟨Nat.le_of_ble_eq_true rfl, Nat.le_of_ble_eq_true rfl⟩, hts _ tb_im_Re_at, hts _ tb_se_Re_at⟩ hZK hK hZ hP hD hS 2 (wB_at2 _ _ _ _) rfl rfl hl.1 rfl (Nat.le_of_ble_eq_true rfl) d_Pi_returnToBases_16 (fun H locs hP hD hS => ?_)
    refine iastK (x := r2) hx hb hK hP hD hS 10 0 (wB_at10 _ _ _ _) rfl 0 (by decide) (by unfold vp_in; decide) d_Pi_returnToBases_19 (fun H locs hP hD hS => ?_)
    have hP := wB_set10 hP
    have hD := wB_dset10 hD
    refine lv_iinc (k := 2) (v := (1 : Int32)) (lv' := [(2, .int (1 : Int32)), (0, .ref (a 3)), (1, .ref (a 2))]) hx hb d_Pi_returnToBases_20 hl rfl (by decide) (by decide) rfl (fun ls hl => ?_)
    refine lv_goto (tgt := 2) hx hb d_Pi_returnToBases_23 (by decide) ?_
    exact b2_2_1 _ _ h _ _ _ (lv_sub hl [1, 2, 0] rfl) hP hD hS
  intro H locs ls hl hP hD hS
  have hl : lv_has ls 3 [(0, .ref (a 3)), (1, .ref (a 2))] := hl
  have h := h0
  unfold f_Pi_returnToBases at h
  refine lv_iconst (v := (0 : Int32)) hx hb d_Pi_returnToBases_0 (by decide) ?_
  refine lv_istore_n (lv' := [(2, .int (0 : Int32)), (0, .ref (a 3)), (1, .ref (a 2))]) hx hb d_Pi_returnToBases_1 rfl hl (by decide) rfl (fun ls hl => ?_)
  exact b2_2_0 _ _ h _ _ _ (lv_sub hl [1, 2, 0] rfl) hP hD hS
def f_Pi_clearLatches (S : SS) (M : MM) : Option RR := some (0, S, (upM (upM M 4 (upd (M 4) 0 (0 : Int32))) 4 (upd ((upM M 4 (upd (M 4) 0 (0 : Int32))) 4) 1 (0 : Int32))))
set_option maxHeartbeats 4000000 in
set_option maxRecDepth 100000 in
theorem c_Pi_clearLatches (l : Launch) (D : va_G) (cA : ClassId) (a : Nat → Nat) (S : SS) (M : MM) (q : RR) (h0 : f_Pi_clearLatches S M = some q) : Cv l y_Pi_clearLatches w_Pi_clearLatches rm_Pi_clearLatches D vCl [(cA, .int)] (AB a) (ZB a) (wB cA a) [.ref (a 3)] S M q := by
  refine Cv.of (cc := prog_5_method_9_code) (maxL := 1) (by decide) rfl (Nat.le_of_ble_eq_true rfl) ?_
  intro p e s m args below meth c Q hx hb hml hown hts hK hZ ret
  have hown : s.vm.findClass R_Pi = some m.cls := hown
  have hts : ∀ w ∈ TB, w.before args s = true := fun w h => hts w (List.mem_cons_of_mem _ h)
  have hZK := ZB_k a
  have k15 := hts _ tb_fl_Pi_15
  intro H locs ls hl hP hD hS
  have hl : lv_has ls 1 [(0, .ref (a 3))] := hl
  have h := h0
  unfold f_Pi_clearLatches at h
  refine lv_aload_n hx hb d_Pi_clearLatches_0 rfl (lv_at hl 0 rfl) ?_
  refine va_get (D := D) (ci := 3) (v := .ref (a 11)) (C := R_Pi) (T := T_Pi) (N := 4) hx hb hts iPi hown hK hP 3 (wB_at3 _ _ _ _) rfl 1 (by decide) k15 (fun _ h9 => h9) rfl d_Pi_clearLatches_1 ?_
  refine lv_iconst (v := (0 : Int32)) hx hb d_Pi_clearLatches_4 (by decide) ?_
  refine lv_iconst (v := (0 : Int32)) hx hb d_Pi_clearLatches_5 (by decide) ?_
  refine iastK (x := (0 : Int32)) hx hb hK hP hD hS 11 0 (wB_at11 _ _ _ _) rfl 0 (by decide) (by unfold vp_in; decide) d_Pi_clearLatches_6 (fun H locs hP hD hS => ?_)
  have hP := wB_set11 hP
  have hD := wB_dset11 hD
  refine lv_aload_n hx hb d_Pi_clearLatches_7 rfl (lv_at hl 0 rfl) ?_
  refine va_get (D := D) (ci := 3) (v := .ref (a 11)) (C := R_Pi) (T := T_Pi) (N := 4) hx hb hts iPi hown hK hP 3 (wB_at3 _ _ _ _) rfl 1 (by decide) k15 (fun _ h9 => h9) rfl d_Pi_clearLatches_8 ?_
  refine lv_iconst (v := (1 : Int32)) hx hb d_Pi_clearLatches_11 (by decide) ?_
  refine lv_iconst (v := (0 : Int32)) hx hb d_Pi_clearLatches_12 (by decide) ?_
  refine iastK (x := (0 : Int32)) hx hb hK hP hD hS 11 0 (wB_at11 _ _ _ _) rfl 1 (by decide) (by unfold vp_in; decide) d_Pi_clearLatches_13 (fun H locs hP hD hS => ?_)
  have hP := wB_set11 hP
  have hD := wB_dset11 hD
  exact ret _ _ _ _ _ _ _ h hP hD hS d_Pi_clearLatches_14
def f_Pi_isLine_16 (S : SS) (M : MM) (x0 : Int32) (y0 : Int32) : Option RR := if ¬ (y0 = 0 ∨ y0 = 1) then none else some (y0, S, M)
def f_Pi_isLine_15 (S : SS) (M : MM) (x0 : Int32) : Option RR := f_Pi_isLine_16 S M x0 (0 : Int32)
def f_Pi_isLine (S : SS) (M : MM) (x0 : Int32) : Option RR := if x0 < (4 : Int32) then f_Pi_isLine_15 S M x0 else if (16 : Int32) ≤ x0 then f_Pi_isLine_15 S M x0 else f_Pi_isLine_16 S M x0 (1 : Int32)
set_option maxHeartbeats 4000000 in
set_option maxRecDepth 100000 in
theorem c_Pi_isLine (l : Launch) (D : va_G) (cA : ClassId) (a : Nat → Nat) (S : SS) (M : MM) (x0 : Int32) (q : RR) (h0 : f_Pi_isLine S M x0 = some q) : Ci l y_Pi_isLine w_Pi_isLine rm_Pi_isLine D vCl [(cA, .int)] (AB a) (ZB a) (wB cA a) [.int x0] S M q := by
  refine Ci.of (cc := prog_5_method_2_code) (maxL := 1) (ty := .boolean) (by decide) rfl (Nat.le_of_ble_eq_true rfl) ?_
  intro p e s m args below meth c Q hx hb hml hown hts hK hZ ret
  have hown : s.vm.findClass R_Pi = some m.cls := hown
  have hts : ∀ w ∈ TB, w.before args s = true := fun w h => hts w (List.mem_cons_of_mem _ h)
  have hZK := ZB_k a
  have b16 : ∀ (S : SS) (M : MM) (x0 : Int32) (y0 : Int32), f_Pi_isLine_16 S M x0 y0 = some q → BK p l e rm_Pi_isLine s m args below meth c Q D vCl (AB a) (wB cA a) 1 16 [(0, .int x0)] [.int y0] S M := by
    intro S M x0 y0 h H locs ls hl hP hD hS
    unfold f_Pi_isLine_16 at h
    obtain ⟨hg1, h⟩ := sg_g h
    exact ret _ _ _ _ _ _ _ h (sg_nb hg1).1 hP hD hS d_Pi_isLine_16
  have b15 : ∀ (S : SS) (M : MM) (x0 : Int32), f_Pi_isLine_15 S M x0 = some q → BK p l e rm_Pi_isLine s m args below meth c Q D vCl (AB a) (wB cA a) 1 15 [(0, .int x0)] [] S M := by
    intro S M x0 h H locs ls hl hP hD hS
    unfold f_Pi_isLine_15 at h
    refine lv_iconst (v := (0 : Int32)) hx hb d_Pi_isLine_15 (by decide) ?_
    exact b16 _ _ _ _ h _ _ _ (lv_sub hl [0] rfl) hP hD hS
  intro H locs ls hl hP hD hS
  have hl : lv_has ls 1 [(0, .int x0)] := hl
  have h := h0
  unfold f_Pi_isLine at h
  refine lv_iload_n hx hb d_Pi_isLine_0 rfl (lv_at hl 0 rfl) ?_
  refine lv_iconst (v := (4 : Int32)) hx hb d_Pi_isLine_1 (by decide) ?_
  refine lv_icmp_lt (tgt := 15) hx hb d_Pi_isLine_2 (by decide) (fun hc => ?_) (fun hc => ?_)
  · have h := sg_p hc h
    exact b15 _ _ _ h _ _ _ (lv_sub hl [0] rfl) hP hD hS
  · have h := sg_n hc h
    refine lv_iload_n hx hb d_Pi_isLine_5 rfl (lv_at hl 0 rfl) ?_
    refine lv_bipush (v := (16 : Int32)) hx hb d_Pi_isLine_6 (by decide) ?_
    refine lv_icmp_ge (tgt := 15) hx hb d_Pi_isLine_8 (by decide) (fun hc => ?_) (fun hc => ?_)
    · have h := sg_p hc h
      exact b15 _ _ _ h _ _ _ (lv_sub hl [0] rfl) hP hD hS
    · have h := sg_n hc h
      refine lv_iconst (v := (1 : Int32)) hx hb d_Pi_isLine_11 (by decide) ?_
      refine lv_goto (tgt := 16) hx hb d_Pi_isLine_12 (by decide) ?_
      exact b16 _ _ _ _ h _ _ _ (lv_sub hl [0] rfl) hP hD hS
def f_Pi_shiftOut (S : SS) (M : MM) : Option RR := some (((M 5 0) >>> ((15 : Int32) &&& 31)) + ((2 : Int32) * ((M 5 1) >>> ((15 : Int32) &&& 31))), S, (upM (upM M 5 (upd (M 5) 0 (((M 5 0) <<< ((1 : Int32) &&& 31)) &&& (65535 : Int32)))) 5 (upd ((upM M 5 (upd (M 5) 0 (((M 5 0) <<< ((1 : Int32) &&& 31)) &&& (65535 : Int32)))) 5) 1 ((((upM M 5 (upd (M 5) 0 (((M 5 0) <<< ((1 : Int32) &&& 31)) &&& (65535 : Int32)))) 5 1) <<< ((1 : Int32) &&& 31)) &&& (65535 : Int32)))))
set_option maxHeartbeats 4000000 in
set_option maxRecDepth 100000 in
theorem c_Pi_shiftOut (l : Launch) (D : va_G) (cA : ClassId) (a : Nat → Nat) (S : SS) (M : MM) (q : RR) (h0 : f_Pi_shiftOut S M = some q) : Ci l y_Pi_shiftOut w_Pi_shiftOut rm_Pi_shiftOut D vCl [(cA, .int)] (AB a) (ZB a) (wB cA a) [.ref (a 3)] S M q := by
  refine Ci.of (cc := prog_5_method_10_code) (maxL := 2) (ty := .int) (by decide) rfl (Nat.le_of_ble_eq_true rfl) ?_
  intro p e s m args below meth c Q hx hb hml hown hts hK hZ ret
  have hown : s.vm.findClass R_Pi = some m.cls := hown
  have hts : ∀ w ∈ TB, w.before args s = true := fun w h => hts w (List.mem_cons_of_mem _ h)
  have hZK := ZB_k a
  have k18 := hts _ tb_fl_Pi_18
  have k53 := hts _ tb_ct_Pi_53
  intro H locs ls hl hP hD hS
  have hl : lv_has ls 2 [(0, .ref (a 3))] := hl
  have h := h0
  unfold f_Pi_shiftOut at h
  refine lv_aload_n hx hb d_Pi_shiftOut_0 rfl (lv_at hl 0 rfl) ?_
  refine va_get (D := D) (ci := 3) (v := .ref (a 12)) (C := R_Pi) (T := T_Pi) (N := 4) hx hb hts iPi hown hK hP 3 (wB_at3 _ _ _ _) rfl 2 (by decide) k18 (fun _ h9 => h9) rfl d_Pi_shiftOut_1 ?_
  refine lv_iconst (v := (0 : Int32)) hx hb d_Pi_shiftOut_4 (by decide) ?_
  refine ialdK hx hb hK hP 12 0 (wB_at12 _ _ _ _) rfl 0 (by decide) (by unfold vp_in; decide) d_Pi_shiftOut_5 ?_
  refine lv_bipush (v := (15 : Int32)) hx hb d_Pi_shiftOut_6 (by decide) ?_
  refine lv_ishr hx hb d_Pi_shiftOut_8 ?_
  refine lv_iconst (v := (2 : Int32)) hx hb d_Pi_shiftOut_9 (by decide) ?_
  refine lv_aload_n hx hb d_Pi_shiftOut_10 rfl (lv_at hl 0 rfl) ?_
  refine va_get (D := D) (ci := 3) (v := .ref (a 12)) (C := R_Pi) (T := T_Pi) (N := 4) hx hb hts iPi hown hK hP 3 (wB_at3 _ _ _ _) rfl 2 (by decide) k18 (fun _ h9 => h9) rfl d_Pi_shiftOut_11 ?_
  refine lv_iconst (v := (1 : Int32)) hx hb d_Pi_shiftOut_14 (by decide) ?_
  refine ialdK hx hb hK hP 12 0 (wB_at12 _ _ _ _) rfl 1 (by decide) (by unfold vp_in; decide) d_Pi_shiftOut_15 ?_
  refine lv_bipush (v := (15 : Int32)) hx hb d_Pi_shiftOut_16 (by decide) ?_
  refine lv_ishr hx hb d_Pi_shiftOut_18 ?_
  refine lv_imul hx hb d_Pi_shiftOut_19 ?_
  refine lv_iadd hx hb d_Pi_shiftOut_20 ?_
  refine lv_istore_n (lv' := [(1, .int (((M 5 0) >>> ((15 : Int32) &&& 31)) + ((2 : Int32) * ((M 5 1) >>> ((15 : Int32) &&& 31))))), (0, .ref (a 3))]) hx hb d_Pi_shiftOut_21 rfl hl (by decide) rfl (fun ls hl => ?_)
  refine lv_aload_n hx hb d_Pi_shiftOut_22 rfl (lv_at hl 1 rfl) ?_
  refine va_get (D := D) (ci := 3) (v := .ref (a 12)) (C := R_Pi) (T := T_Pi) (N := 4) hx hb hts iPi hown hK hP 3 (wB_at3 _ _ _ _) rfl 2 (by decide) k18 (fun _ h9 => h9) rfl d_Pi_shiftOut_23 ?_
  refine lv_iconst (v := (0 : Int32)) hx hb d_Pi_shiftOut_26 (by decide) ?_
  refine lv_aload_n hx hb d_Pi_shiftOut_27 rfl (lv_at hl 1 rfl) ?_
  refine va_get (D := D) (ci := 3) (v := .ref (a 12)) (C := R_Pi) (T := T_Pi) (N := 4) hx hb hts iPi hown hK hP 3 (wB_at3 _ _ _ _) rfl 2 (by decide) k18 (fun _ h9 => h9) rfl d_Pi_shiftOut_28 ?_
  refine lv_iconst (v := (0 : Int32)) hx hb d_Pi_shiftOut_31 (by decide) ?_
  refine ialdK hx hb hK hP 12 0 (wB_at12 _ _ _ _) rfl 0 (by decide) (by unfold vp_in; decide) d_Pi_shiftOut_32 ?_
  refine lv_iconst (v := (1 : Int32)) hx hb d_Pi_shiftOut_33 (by decide) ?_
  refine lv_ishl hx hb d_Pi_shiftOut_34 ?_
  refine lv_ldc (v := (65535 : Int32)) hx hb hown k53 d_Pi_shiftOut_35 ?_
  refine lv_iand hx hb d_Pi_shiftOut_37 ?_
  refine iastK (x := ((M 5 0) <<< ((1 : Int32) &&& 31)) &&& (65535 : Int32)) hx hb hK hP hD hS 12 0 (wB_at12 _ _ _ _) rfl 0 (by decide) (by unfold vp_in; decide) d_Pi_shiftOut_38 (fun H locs hP hD hS => ?_)
  have hP := wB_set12 hP
  have hD := wB_dset12 hD
  refine lv_aload_n hx hb d_Pi_shiftOut_39 rfl (lv_at hl 1 rfl) ?_
  refine va_get (D := D) (ci := 3) (v := .ref (a 12)) (C := R_Pi) (T := T_Pi) (N := 4) hx hb hts iPi hown hK hP 3 (wB_at3 _ _ _ _) rfl 2 (by decide) k18 (fun _ h9 => h9) rfl d_Pi_shiftOut_40 ?_
  refine lv_iconst (v := (1 : Int32)) hx hb d_Pi_shiftOut_43 (by decide) ?_
  refine lv_aload_n hx hb d_Pi_shiftOut_44 rfl (lv_at hl 1 rfl) ?_
  refine va_get (D := D) (ci := 3) (v := .ref (a 12)) (C := R_Pi) (T := T_Pi) (N := 4) hx hb hts iPi hown hK hP 3 (wB_at3 _ _ _ _) rfl 2 (by decide) k18 (fun _ h9 => h9) rfl d_Pi_shiftOut_45 ?_
  refine lv_iconst (v := (1 : Int32)) hx hb d_Pi_shiftOut_48 (by decide) ?_
  refine ialdK hx hb hK hP 12 0 (wB_at12 _ _ _ _) rfl 1 (by decide) (by unfold vp_in; decide) d_Pi_shiftOut_49 ?_
  refine lv_iconst (v := (1 : Int32)) hx hb d_Pi_shiftOut_50 (by decide) ?_
  refine lv_ishl hx hb d_Pi_shiftOut_51 ?_
  refine lv_ldc (v := (65535 : Int32)) hx hb hown k53 d_Pi_shiftOut_52 ?_
  refine lv_iand hx hb d_Pi_shiftOut_54 ?_
  refine iastK (x := (((upM M 5 (upd (M 5) 0 (((M 5 0) <<< ((1 : Int32) &&& 31)) &&& (65535 : Int32)))) 5 1) <<< ((1 : Int32) &&& 31)) &&& (65535 : Int32)) hx hb hK hP hD hS 12 0 (wB_at12 _ _ _ _) rfl 1 (by decide) (by unfold vp_in; decide) d_Pi_shiftOut_55 (fun H locs hP hD hS => ?_)
  have hP := wB_set12 hP
  have hD := wB_dset12 hD
  refine lv_iload_n hx hb d_Pi_shiftOut_56 rfl (lv_at hl 0 rfl) ?_
  exact ret _ _ _ _ _ _ _ h rfl hP hD hS d_Pi_shiftOut_57
def f_Pi_showClock_104 (S : SS) (M : MM) (x1 : Int32) (x2 : Int32) : Option RR := some (0, S, M)
def f_Pi_showClock_38 (S : SS) (M : MM) (x1 : Int32) (x2 : Int32) : Option RR := (f_Pi_isLine S M x1).bind (fun q1 => if q1.1 = 0 then f_Pi_showClock_104 q1.2.1 q1.2.2 x1 x2 else if x2 < (16 : Int32) then f_Pi_showClock_104 q1.2.1 q1.2.2 x1 x2 else (f_Pi_shiftOut q1.2.1 q1.2.2).bind (fun q2 => (f_Re_at q2.2.1 q2.2.2 ((6 : Int32) + q2.1)).bind (fun q3 => if ((x1 - (4 : Int32)) * (32 : Int32)) + ((2 : Int32) * (x2 - (16 : Int32))) < 0 ∨ 384 ≤ (((x1 - (4 : Int32)) * (32 : Int32)) + ((2 : Int32) * (x2 - (16 : Int32)))).toNatClampNeg then none else (f_Pi_shiftOut q3.2.1 (upM q3.2.2 6 (upd (q3.2.2 6) (((x1 - (4 : Int32)) * (32 : Int32)) + ((2 : Int32) * (x2 - (16 : Int32)))).toNatClampNeg q3.1))).bind (fun q5 => (f_Re_at q5.2.1 q5.2.2 ((6 : Int32) + q5.1)).bind (fun q6 => if (((x1 - (4 : Int32)) * (32 : Int32)) + ((2 : Int32) * (x2 - (16 : Int32)))) + (1 : Int32) < 0 ∨ 384 ≤ ((((x1 - (4 : Int32)) * (32 : Int32)) + ((2 : Int32) * (x2 - (16 : Int32)))) + (1 : Int32)).toNatClampNeg then none else f_Pi_showClock_104 q6.2.1 (upM q6.2.2 6 (upd (q6.2.2 6) ((((x1 - (4 : Int32)) * (32 : Int32)) + ((2 : Int32) * (x2 - (16 : Int32)))) + (1 : Int32)).toNatClampNeg q6.1)) x1 x2)))))
def f_Pi_showClock_20 (S : SS) (M : MM) (x1 : Int32) (x2 : Int32) : Option RR := (f_Pi_clearLatches S (upM M 5 (va_cpy (M 4) (M 5) 0 0 2))).bind (fun q8 => f_Pi_showClock_38 q8.2.1 q8.2.2 x1 x2)
def f_Pi_showClock_8 (S : SS) (M : MM) (x1 : Int32) (x2 : Int32) : Option RR := if x2 = (16 : Int32) then f_Pi_showClock_20 S M x1 x2 else if x2 = (24 : Int32) then f_Pi_showClock_20 S M x1 x2 else f_Pi_showClock_38 S M x1 x2
def f_Pi_showClock (S : SS) (M : MM) (x1 : Int32) (x2 : Int32) : Option RR := if x2 = 0 then (f_Pi_clearLatches S M).bind (fun q9 => f_Pi_showClock_8 q9.2.1 q9.2.2 x1 x2) else f_Pi_showClock_8 S M x1 x2
set_option maxHeartbeats 4000000 in
set_option maxRecDepth 100000 in
theorem c_Pi_showClock (l : Launch) (D : va_G) (cA : ClassId) (a : Nat → Nat) (S : SS) (M : MM) (x1 : Int32) (x2 : Int32) (q : RR) (h0 : f_Pi_showClock S M x1 x2 = some q) : Cv l y_Pi_showClock w_Pi_showClock rm_Pi_showClock D vCl [(cA, .int)] (AB a) (ZB a) (wB cA a) [.ref (a 3), .int x1, .int x2, .ref (a 2)] S M q := by
  refine Cv.of (cc := prog_5_method_7_code) (maxL := 5) (by decide) rfl (Nat.le_of_ble_eq_true rfl) ?_
  intro p e s m args below meth c Q hx hb hml hown hts hK hZ ret
  have hown : s.vm.findClass R_Pi = some m.cls := hown
  have hts : ∀ w ∈ TB, w.before args s = true := fun w h => hts w (List.mem_cons_of_mem _ h)
  have hZK := ZB_k a
  have k21 := hts _ tb_fl_Pi_21
  have k15 := hts _ tb_fl_Pi_15
  have k18 := hts _ tb_fl_Pi_18
  have k40_0 := hts _ tb_ml_Pi_40
  have k40_1 := hts _ tb_nat
  have k40_2 := hts _ tb_nats
  have k40_3 := hts _ tb_in_Sys
  have b104 : ∀ (S : SS) (M : MM) (x1 : Int32) (x2 : Int32), f_Pi_showClock_104 S M x1 x2 = some q → BK p l e rm_Pi_showClock s m args below meth c Q D vCl (AB a) (wB cA a) 5 104 [(0, .ref (a 3)), (1, .int x1), (2, .int x2), (3, .ref (a 2))] [] S M := by
    intro S M x1 x2 h H locs ls hl hP hD hS
    unfold f_Pi_showClock_104 at h
    exact ret _ _ _ _ _ _ _ h hP hD hS d_Pi_showClock_104
  have b38 : ∀ (S : SS) (M : MM) (x1 : Int32) (x2 : Int32), f_Pi_showClock_38 S M x1 x2 = some q → BK p l e rm_Pi_showClock s m args below meth c Q D vCl (AB a) (wB cA a) 5 38 [(0, .ref (a 3)), (1, .int x1), (2, .int x2), (3, .ref (a 2))] [] S M := by
    intro S M x1 x2 h H locs ls hl hP hD hS
    unfold f_Pi_showClock_38 at h
    refine lv_iload_n hx hb d_Pi_showClock_38 rfl (lv_at hl 1 rfl) ?_
    obtain ⟨⟨r1, S1, M1⟩, hc1, h⟩ := sg_b h
    dsimp only at h
    refine csi (As := [.int x1]) (rest := []) ⟨hx, hb, hml, hown, hts⟩ (c_Pi_isLine l D cA a S M x1 _ hc1) ⟨callB_of 1 hts (tb_gi tb_cd_Pi_isLine) rfl rfl rfl (hts _ tb_in_Pi) (hts _ tb_ml_Pi_24) yd_Pi_isLine ⟨Nat.le_of_ble_eq_true rfl, Nat.le_of_ble_eq_true rfl⟩, hts _ tb_st_Pi_isLine⟩ hZK hK hZ hP hD hS rfl hl.1 rfl (Nat.le_of_ble_eq_true rfl) d_Pi_showClock_39 (fun H locs hP hD hS => ?_)
    refine lv_if_eq (tgt := 104) hx hb d_Pi_showClock_42 (by decide) (fun hc => ?_) (fun hc => ?_)
    · have h := sg_p hc h
      exact b104 _ _ _ _ h _ _ _ (lv_sub hl [0, 1, 2, 3] rfl) hP hD hS
    · have h := sg_n hc h
      refine lv_iload_n hx hb d_Pi_showClock_45 rfl (lv_at hl 2 rfl) ?_
      refine lv_bipush (v := (16 : Int32)) hx hb d_Pi_showClock_46 (by decide) ?_
      refine lv_icmp_lt (tgt := 104) hx hb d_Pi_showClock_48 (by decide) (fun hc => ?_) (fun hc => ?_)
      · have h := sg_p hc h
        exact b104 _ _ _ _ h _ _ _ (lv_sub hl [0, 1, 2, 3] rfl) hP hD hS
      · have h := sg_n hc h
        refine lv_iload_n hx hb d_Pi_showClock_51 rfl (lv_at hl 1 rfl) ?_
        refine lv_iconst (v := (4 : Int32)) hx hb d_Pi_showClock_52 (by decide) ?_
        refine lv_isub hx hb d_Pi_showClock_53 ?_
        refine lv_bipush (v := (32 : Int32)) hx hb d_Pi_showClock_54 (by decide) ?_
        refine lv_imul hx hb d_Pi_showClock_56 ?_
        refine lv_iconst (v := (2 : Int32)) hx hb d_Pi_showClock_57 (by decide) ?_
        refine lv_iload_n hx hb d_Pi_showClock_58 rfl (lv_at hl 2 rfl) ?_
        refine lv_bipush (v := (16 : Int32)) hx hb d_Pi_showClock_59 (by decide) ?_
        refine lv_isub hx hb d_Pi_showClock_61 ?_
        refine lv_imul hx hb d_Pi_showClock_62 ?_
        refine lv_iadd hx hb d_Pi_showClock_63 ?_
        refine lv_istore (lv' := [(4, .int (((x1 - (4 : Int32)) * (32 : Int32)) + ((2 : Int32) * (x2 - (16 : Int32))))), (0, .ref (a 3)), (1, .int x1), (2, .int x2), (3, .ref (a 2))]) hx hb d_Pi_showClock_64 hl (by decide) rfl (fun ls hl => ?_)
        refine lv_aload_n hx hb d_Pi_showClock_66 rfl (lv_at hl 1 rfl) ?_
        refine va_get (D := D) (ci := 3) (v := .ref (a 13)) (C := R_Pi) (T := T_Pi) (N := 4) hx hb hts iPi hown hK hP 3 (wB_at3 _ _ _ _) rfl 3 (by decide) k21 (fun _ h9 => h9) rfl d_Pi_showClock_67 ?_
        refine lv_iload hx hb d_Pi_showClock_70 (lv_at hl 0 rfl) ?_
        refine lv_aload_n hx hb d_Pi_showClock_72 rfl (lv_at hl 4 rfl) ?_
        refine lv_bipush (v := (6 : Int32)) hx hb d_Pi_showClock_73 (by decide) ?_
        refine lv_aload_n hx hb d_Pi_showClock_75 rfl (lv_at hl 1 rfl) ?_
        obtain ⟨⟨r2, S2, M2⟩, hc2, h⟩ := sg_b h
        dsimp only at h
        refine cvi (As := []) (rest := [.int (6 : Int32), .ref (a 2), .int (((x1 - (4 : Int32)) * (32 : Int32)) + ((2 : Int32) * (x2 - (16 : Int32)))), .ref (a 13)]) ⟨hx, hb, hml, hown, hts⟩ (c_Pi_shiftOut l D cA a S1 M1 _ hc2) ⟨callB_of 0 hts (tb_gi tb_cd_Pi_shiftOut) rfl rfl rfl (hts _ tb_in_Pi) (hts _ tb_ml_Pi_46) yd_Pi_shiftOut ⟨Nat.le_of_ble_eq_true rfl, Nat.le_of_ble_eq_true rfl⟩, hts _ tb_im_Pi_shiftOut, hts _ tb_se_Pi_shiftOut⟩ hZK hK hZ hP hD hS 3 (wB_at3 _ _ _ _) rfl rfl hl.1 rfl (Nat.le_of_ble_eq_true rfl) d_Pi_showClock_76 (fun H locs hP hD hS => ?_)
        refine lv_iadd hx hb d_Pi_showClock_79 ?_
        obtain ⟨⟨r3, S3, M3⟩, hc3, h⟩ := sg_b h
        dsimp only at h
        refine cvi (As := [.int ((6 : Int32) + r2)]) (rest := [.int (((x1 - (4 : Int32)) * (32 : Int32)) + ((2 : Int32) * (x2 - (16 : Int32)))), .ref (a 13)]) ⟨hx, hb, hml, hown, hts⟩ (c_Re_at l D cA a S2 M2 ((6 : Int32) + r2) _ hc3) ⟨callB_of 1 hts (tb_gi tb_cd_Re_at) rfl rfl rfl (hts _ tb_in_Re) (hts _ tb_ml_Pi_33) yd_Re_at ⟨Nat.le_of_ble_eq_true rfl, Nat.le_of_ble_eq_true rfl⟩, hts _ tb_im_Re_at, hts _ tb_se_Re_at⟩ hZK hK hZ hP hD hS 2 (wB_at2 _ _ _ _) rfl rfl hl.1 rfl (Nat.le_of_ble_eq_true rfl) d_Pi_showClock_80 (fun H locs hP hD hS => ?_)
        obtain ⟨hg4, h⟩ := sg_g h
        refine va_iast (x := r3) hx hb hK hP hD hS 13 0 (wB_at13 _ _ _ _) rfl hg4 d_Pi_showClock_83 (fun H locs hP hD hS => ?_)
        have hP := wB_set13 hP
        have hD := wB_dset13 hD
        refine lv_aload_n hx hb d_Pi_showClock_84 rfl (lv_at hl 1 rfl) ?_
        refine va_get (D := D) (ci := 3) (v := .ref (a 13)) (C := R_Pi) (T := T_Pi) (N := 4) hx hb hts iPi hown hK hP 3 (wB_at3 _ _ _ _) rfl 3 (by decide) k21 (fun _ h9 => h9) rfl d_Pi_showClock_85 ?_
        refine lv_iload hx hb d_Pi_showClock_88 (lv_at hl 0 rfl) ?_
        refine lv_iconst (v := (1 : Int32)) hx hb d_Pi_showClock_90 (by decide) ?_
        refine lv_iadd hx hb d_Pi_showClock_91 ?_
        refine lv_aload_n hx hb d_Pi_showClock_92 rfl (lv_at hl 4 rfl) ?_
        refine lv_bipush (v := (6 : Int32)) hx hb d_Pi_showClock_93 (by decide) ?_
        refine lv_aload_n hx hb d_Pi_showClock_95 rfl (lv_at hl 1 rfl) ?_
        obtain ⟨⟨r5, S5, M5⟩, hc5, h⟩ := sg_b h
        dsimp only at h
        refine cvi (As := []) (rest := [.int (6 : Int32), .ref (a 2), .int ((((x1 - (4 : Int32)) * (32 : Int32)) + ((2 : Int32) * (x2 - (16 : Int32)))) + (1 : Int32)), .ref (a 13)]) ⟨hx, hb, hml, hown, hts⟩ (c_Pi_shiftOut l D cA a S3 (upM M3 6 (upd (M3 6) (((x1 - (4 : Int32)) * (32 : Int32)) + ((2 : Int32) * (x2 - (16 : Int32)))).toNatClampNeg r3)) _ hc5) ⟨callB_of 0 hts (tb_gi tb_cd_Pi_shiftOut) rfl rfl rfl (hts _ tb_in_Pi) (hts _ tb_ml_Pi_46) yd_Pi_shiftOut ⟨Nat.le_of_ble_eq_true rfl, Nat.le_of_ble_eq_true rfl⟩, hts _ tb_im_Pi_shiftOut, hts _ tb_se_Pi_shiftOut⟩ hZK hK hZ hP hD hS 3 (wB_at3 _ _ _ _) rfl rfl hl.1 rfl (Nat.le_of_ble_eq_true rfl) d_Pi_showClock_96 (fun H locs hP hD hS => ?_)
        refine lv_iadd hx hb d_Pi_showClock_99 ?_
        obtain ⟨⟨r6, S6, M6⟩, hc6, h⟩ := sg_b h
        dsimp only at h
        refine cvi (As := [.int ((6 : Int32) + r5)]) (rest := [.int ((((x1 - (4 : Int32)) * (32 : Int32)) + ((2 : Int32) * (x2 - (16 : Int32)))) + (1 : Int32)), .ref (a 13)]) ⟨hx, hb, hml, hown, hts⟩ (c_Re_at l D cA a S5 M5 ((6 : Int32) + r5) _ hc6) ⟨callB_of 1 hts (tb_gi tb_cd_Re_at) rfl rfl rfl (hts _ tb_in_Re) (hts _ tb_ml_Pi_33) yd_Re_at ⟨Nat.le_of_ble_eq_true rfl, Nat.le_of_ble_eq_true rfl⟩, hts _ tb_im_Re_at, hts _ tb_se_Re_at⟩ hZK hK hZ hP hD hS 2 (wB_at2 _ _ _ _) rfl rfl hl.1 rfl (Nat.le_of_ble_eq_true rfl) d_Pi_showClock_100 (fun H locs hP hD hS => ?_)
        obtain ⟨hg7, h⟩ := sg_g h
        refine va_iast (x := r6) hx hb hK hP hD hS 13 0 (wB_at13 _ _ _ _) rfl hg7 d_Pi_showClock_103 (fun H locs hP hD hS => ?_)
        have hP := wB_set13 hP
        have hD := wB_dset13 hD
        exact b104 _ _ _ _ h _ _ _ (lv_sub hl [1, 2, 3, 4] rfl) hP hD hS
  have b20 : ∀ (S : SS) (M : MM) (x1 : Int32) (x2 : Int32), f_Pi_showClock_20 S M x1 x2 = some q → BK p l e rm_Pi_showClock s m args below meth c Q D vCl (AB a) (wB cA a) 5 20 [(0, .ref (a 3)), (1, .int x1), (2, .int x2), (3, .ref (a 2))] [] S M := by
    intro S M x1 x2 h H locs ls hl hP hD hS
    unfold f_Pi_showClock_20 at h
    refine lv_aload_n hx hb d_Pi_showClock_20 rfl (lv_at hl 0 rfl) ?_
    refine va_get (D := D) (ci := 3) (v := .ref (a 11)) (C := R_Pi) (T := T_Pi) (N := 4) hx hb hts iPi hown hK hP 3 (wB_at3 _ _ _ _) rfl 1 (by decide) k15 (fun _ h9 => h9) rfl d_Pi_showClock_21 ?_
    refine lv_iconst (v := (0 : Int32)) hx hb d_Pi_showClock_24 (by decide) ?_
    refine lv_aload_n hx hb d_Pi_showClock_25 rfl (lv_at hl 0 rfl) ?_
    refine va_get (D := D) (ci := 3) (v := .ref (a 12)) (C := R_Pi) (T := T_Pi) (N := 4) hx hb hts iPi hown hK hP 3 (wB_at3 _ _ _ _) rfl 2 (by decide) k18 (fun _ h9 => h9) rfl d_Pi_showClock_26 ?_
    refine lv_iconst (v := (0 : Int32)) hx hb d_Pi_showClock_29 (by decide) ?_
    refine lv_iconst (v := (2 : Int32)) hx hb d_Pi_showClock_30 (by decide) ?_
    refine va_copyi hx hb (by rw [hml]; exact hl.1.symm) hown k40_0 k40_1 k40_2 k40_3 hK hP hD hS 11 12 0 0 (wB_at11 _ _ _ _) (wB_at12 _ _ _ _) rfl rfl rfl (by decide) (by decide) (by decide) (by decide) (by decide) (fun _ _ => rfl) (Nat.le_of_ble_eq_true rfl) (Nat.le_of_ble_eq_true rfl) d_Pi_showClock_31 (fun H locs hP hD hS => ?_)
    have hP := wB_set12 hP
    have hD := wB_dset12 hD
    refine lv_aload_n hx hb d_Pi_showClock_34 rfl (lv_at hl 0 rfl) ?_
    obtain ⟨⟨r8, S8, M8⟩, hc8, h⟩ := sg_b h
    dsimp only at h
    refine cvv (As := []) (rest := []) ⟨hx, hb, hml, hown, hts⟩ (c_Pi_clearLatches l D cA a S (upM M 5 (va_cpy (M 4) (M 5) 0 0 2)) _ hc8) ⟨callB_of 0 hts (tb_gi tb_cd_Pi_clearLatches) rfl rfl rfl (hts _ tb_in_Pi) (hts _ tb_ml_Pi_37) yd_Pi_clearLatches ⟨Nat.le_of_ble_eq_true rfl, Nat.le_of_ble_eq_true rfl⟩, hts _ tb_im_Pi_clearLatches, hts _ tb_se_Pi_clearLatches⟩ hZK hK hZ hP hD hS 3 (wB_at3 _ _ _ _) rfl rfl hl.1 rfl (Nat.le_of_ble_eq_true rfl) d_Pi_showClock_35 (fun H locs hP hD hS => ?_)
    exact b38 _ _ _ _ h _ _ _ (lv_sub hl [0, 1, 2, 3] rfl) hP hD hS
  have b8 : ∀ (S : SS) (M : MM) (x1 : Int32) (x2 : Int32), f_Pi_showClock_8 S M x1 x2 = some q → BK p l e rm_Pi_showClock s m args below meth c Q D vCl (AB a) (wB cA a) 5 8 [(0, .ref (a 3)), (1, .int x1), (2, .int x2), (3, .ref (a 2))] [] S M := by
    intro S M x1 x2 h H locs ls hl hP hD hS
    unfold f_Pi_showClock_8 at h
    refine lv_iload_n hx hb d_Pi_showClock_8 rfl (lv_at hl 2 rfl) ?_
    refine lv_bipush (v := (16 : Int32)) hx hb d_Pi_showClock_9 (by decide) ?_
    refine lv_icmp_eq (tgt := 20) hx hb d_Pi_showClock_11 (by decide) (fun hc => ?_) (fun hc => ?_)
    · have h := sg_p hc h
      exact b20 _ _ _ _ h _ _ _ (lv_sub hl [0, 1, 2, 3] rfl) hP hD hS
    · have h := sg_n hc h
      refine lv_iload_n hx hb d_Pi_showClock_14 rfl (lv_at hl 2 rfl) ?_
      refine lv_bipush (v := (24 : Int32)) hx hb d_Pi_showClock_15 (by decide) ?_
      refine lv_icmp_ne (tgt := 38) hx hb d_Pi_showClock_17 (by decide) (fun hc => ?_) (fun hc => ?_)
      · have h := sg_n hc h
        exact b38 _ _ _ _ h _ _ _ (lv_sub hl [0, 1, 2, 3] rfl) hP hD hS
      · have h := sg_p hc h
        exact b20 _ _ _ _ h _ _ _ (lv_sub hl [0, 1, 2, 3] rfl) hP hD hS
  intro H locs ls hl hP hD hS
  have hl : lv_has ls 5 [(0, .ref (a 3)), (1, .int x1), (2, .int x2), (3, .ref (a 2))] := hl
  have h := h0
  unfold f_Pi_showClock at h
  refine lv_iload_n hx hb d_Pi_showClock_0 rfl (lv_at hl 2 rfl) ?_
  refine lv_if_ne (tgt := 8) hx hb d_Pi_showClock_1 (by decide) (fun hc => ?_) (fun hc => ?_)
  · have h := sg_n hc h
    exact b8 _ _ _ _ h _ _ _ (lv_sub hl [0, 1, 2, 3] rfl) hP hD hS
  · have h := sg_p hc h
    refine lv_aload_n hx hb d_Pi_showClock_4 rfl (lv_at hl 0 rfl) ?_
    obtain ⟨⟨r9, S9, M9⟩, hc9, h⟩ := sg_b h
    dsimp only at h
    refine cvv (As := []) (rest := []) ⟨hx, hb, hml, hown, hts⟩ (c_Pi_clearLatches l D cA a S M _ hc9) ⟨callB_of 0 hts (tb_gi tb_cd_Pi_clearLatches) rfl rfl rfl (hts _ tb_in_Pi) (hts _ tb_ml_Pi_37) yd_Pi_clearLatches ⟨Nat.le_of_ble_eq_true rfl, Nat.le_of_ble_eq_true rfl⟩, hts _ tb_im_Pi_clearLatches, hts _ tb_se_Pi_clearLatches⟩ hZK hK hZ hP hD hS 3 (wB_at3 _ _ _ _) rfl rfl hl.1 rfl (Nat.le_of_ble_eq_true rfl) d_Pi_showClock_5 (fun H locs hP hD hS => ?_)
    exact b8 _ _ _ _ h _ _ _ (lv_sub hl [0, 1, 2, 3] rfl) hP hD hS
def f_Pi_isFetchClockOf1_17 (S : SS) (M : MM) (x0 : Int32) (y0 : Int32) : Option RR := if ¬ (y0 = 0 ∨ y0 = 1) then none else some (y0, S, M)
def f_Pi_isFetchClockOf1_12 (S : SS) (M : MM) (x0 : Int32) : Option RR := f_Pi_isFetchClockOf1_17 S M x0 (1 : Int32)
def f_Pi_isFetchClockOf1 (S : SS) (M : MM) (x0 : Int32) : Option RR := if x0 = (11 : Int32) then f_Pi_isFetchClockOf1_12 S M x0 else if x0 = (19 : Int32) then f_Pi_isFetchClockOf1_12 S M x0 else f_Pi_isFetchClockOf1_17 S M x0 (0 : Int32)
set_option maxHeartbeats 4000000 in
set_option maxRecDepth 100000 in
theorem c_Pi_isFetchClockOf1 (l : Launch) (D : va_G) (cA : ClassId) (a : Nat → Nat) (S : SS) (M : MM) (x0 : Int32) (q : RR) (h0 : f_Pi_isFetchClockOf1 S M x0 = some q) : Ci l y_Pi_isFetchClockOf1 w_Pi_isFetchClockOf1 rm_Pi_isFetchClockOf1 D vCl [(cA, .int)] (AB a) (ZB a) (wB cA a) [.int x0] S M q := by
  refine Ci.of (cc := prog_5_method_4_code) (maxL := 1) (ty := .boolean) (by decide) rfl (Nat.le_of_ble_eq_true rfl) ?_
  intro p e s m args below meth c Q hx hb hml hown hts hK hZ ret
  have hown : s.vm.findClass R_Pi = some m.cls := hown
  have hts : ∀ w ∈ TB, w.before args s = true := fun w h => hts w (List.mem_cons_of_mem _ h)
  have hZK := ZB_k a
  have b17 : ∀ (S : SS) (M : MM) (x0 : Int32) (y0 : Int32), f_Pi_isFetchClockOf1_17 S M x0 y0 = some q → BK p l e rm_Pi_isFetchClockOf1 s m args below meth c Q D vCl (AB a) (wB cA a) 1 17 [(0, .int x0)] [.int y0] S M := by
    intro S M x0 y0 h H locs ls hl hP hD hS
    unfold f_Pi_isFetchClockOf1_17 at h
    obtain ⟨hg1, h⟩ := sg_g h
    exact ret _ _ _ _ _ _ _ h (sg_nb hg1).1 hP hD hS d_Pi_isFetchClockOf1_17
  have b12 : ∀ (S : SS) (M : MM) (x0 : Int32), f_Pi_isFetchClockOf1_12 S M x0 = some q → BK p l e rm_Pi_isFetchClockOf1 s m args below meth c Q D vCl (AB a) (wB cA a) 1 12 [(0, .int x0)] [] S M := by
    intro S M x0 h H locs ls hl hP hD hS
    unfold f_Pi_isFetchClockOf1_12 at h
    refine lv_iconst (v := (1 : Int32)) hx hb d_Pi_isFetchClockOf1_12 (by decide) ?_
    refine lv_goto (tgt := 17) hx hb d_Pi_isFetchClockOf1_13 (by decide) ?_
    exact b17 _ _ _ _ h _ _ _ (lv_sub hl [0] rfl) hP hD hS
  intro H locs ls hl hP hD hS
  have hl : lv_has ls 1 [(0, .int x0)] := hl
  have h := h0
  unfold f_Pi_isFetchClockOf1 at h
  refine lv_iload_n hx hb d_Pi_isFetchClockOf1_0 rfl (lv_at hl 0 rfl) ?_
  refine lv_bipush (v := (11 : Int32)) hx hb d_Pi_isFetchClockOf1_1 (by decide) ?_
  refine lv_icmp_eq (tgt := 12) hx hb d_Pi_isFetchClockOf1_3 (by decide) (fun hc => ?_) (fun hc => ?_)
  · have h := sg_p hc h
    exact b12 _ _ _ h _ _ _ (lv_sub hl [0] rfl) hP hD hS
  · have h := sg_n hc h
    refine lv_iload_n hx hb d_Pi_isFetchClockOf1_6 rfl (lv_at hl 0 rfl) ?_
    refine lv_bipush (v := (19 : Int32)) hx hb d_Pi_isFetchClockOf1_7 (by decide) ?_
    refine lv_icmp_ne (tgt := 16) hx hb d_Pi_isFetchClockOf1_9 (by decide) (fun hc => ?_) (fun hc => ?_)
    · have h := sg_n hc h
      refine lv_iconst (v := (0 : Int32)) hx hb d_Pi_isFetchClockOf1_16 (by decide) ?_
      exact b17 _ _ _ _ h _ _ _ (lv_sub hl [0] rfl) hP hD hS
    · have h := sg_p hc h
      exact b12 _ _ _ h _ _ _ (lv_sub hl [0] rfl) hP hD hS
def f_Pi_isFetchClock_31 (S : SS) (M : MM) (x0 : Int32) (x1 : Int32) (y0 : Int32) : Option RR := if ¬ (y0 = 0 ∨ y0 = 1) then none else some (y0, S, M)
def f_Pi_isFetchClock_26 (S : SS) (M : MM) (x0 : Int32) (x1 : Int32) : Option RR := f_Pi_isFetchClock_31 S M x0 x1 (1 : Int32)
def f_Pi_isFetchClock_30 (S : SS) (M : MM) (x0 : Int32) (x1 : Int32) : Option RR := f_Pi_isFetchClock_31 S M x0 x1 (0 : Int32)
def f_Pi_isFetchClock (S : SS) (M : MM) (x0 : Int32) (x1 : Int32) : Option RR := (f_Pi_isLine S M x0).bind (fun q2 => if q2.1 = 0 then f_Pi_isFetchClock_30 q2.2.1 q2.2.2 x0 x1 else (f_Pi_isFetchClockOf1 q2.2.1 q2.2.2 x1).bind (fun q3 => if q3.1 = 0 then if x1 = (15 : Int32) then f_Pi_isFetchClock_26 q3.2.1 q3.2.2 x0 x1 else if x1 = (23 : Int32) then f_Pi_isFetchClock_26 q3.2.1 q3.2.2 x0 x1 else f_Pi_isFetchClock_30 q3.2.1 q3.2.2 x0 x1 else f_Pi_isFetchClock_26 q3.2.1 q3.2.2 x0 x1))
set_option maxHeartbeats 4000000 in
set_option maxRecDepth 100000 in
theorem c_Pi_isFetchClock (l : Launch) (D : va_G) (cA : ClassId) (a : Nat → Nat) (S : SS) (M : MM) (x0 : Int32) (x1 : Int32) (q : RR) (h0 : f_Pi_isFetchClock S M x0 x1 = some q) : Ci l y_Pi_isFetchClock w_Pi_isFetchClock rm_Pi_isFetchClock D vCl [(cA, .int)] (AB a) (ZB a) (wB cA a) [.int x0, .int x1] S M q := by
  refine Ci.of (cc := prog_5_method_3_code) (maxL := 2) (ty := .boolean) (by decide) rfl (Nat.le_of_ble_eq_true rfl) ?_
  intro p e s m args below meth c Q hx hb hml hown hts hK hZ ret
  have hown : s.vm.findClass R_Pi = some m.cls := hown
  have hts : ∀ w ∈ TB, w.before args s = true := fun w h => hts w (List.mem_cons_of_mem _ h)
  have hZK := ZB_k a
  have b31 : ∀ (S : SS) (M : MM) (x0 : Int32) (x1 : Int32) (y0 : Int32), f_Pi_isFetchClock_31 S M x0 x1 y0 = some q → BK p l e rm_Pi_isFetchClock s m args below meth c Q D vCl (AB a) (wB cA a) 2 31 [(0, .int x0), (1, .int x1)] [.int y0] S M := by
    intro S M x0 x1 y0 h H locs ls hl hP hD hS
    unfold f_Pi_isFetchClock_31 at h
    obtain ⟨hg1, h⟩ := sg_g h
    exact ret _ _ _ _ _ _ _ h (sg_nb hg1).1 hP hD hS d_Pi_isFetchClock_31
  have b26 : ∀ (S : SS) (M : MM) (x0 : Int32) (x1 : Int32), f_Pi_isFetchClock_26 S M x0 x1 = some q → BK p l e rm_Pi_isFetchClock s m args below meth c Q D vCl (AB a) (wB cA a) 2 26 [(0, .int x0), (1, .int x1)] [] S M := by
    intro S M x0 x1 h H locs ls hl hP hD hS
    unfold f_Pi_isFetchClock_26 at h
    refine lv_iconst (v := (1 : Int32)) hx hb d_Pi_isFetchClock_26 (by decide) ?_
    refine lv_goto (tgt := 31) hx hb d_Pi_isFetchClock_27 (by decide) ?_
    exact b31 _ _ _ _ _ h _ _ _ (lv_sub hl [0, 1] rfl) hP hD hS
  have b30 : ∀ (S : SS) (M : MM) (x0 : Int32) (x1 : Int32), f_Pi_isFetchClock_30 S M x0 x1 = some q → BK p l e rm_Pi_isFetchClock s m args below meth c Q D vCl (AB a) (wB cA a) 2 30 [(0, .int x0), (1, .int x1)] [] S M := by
    intro S M x0 x1 h H locs ls hl hP hD hS
    unfold f_Pi_isFetchClock_30 at h
    refine lv_iconst (v := (0 : Int32)) hx hb d_Pi_isFetchClock_30 (by decide) ?_
    exact b31 _ _ _ _ _ h _ _ _ (lv_sub hl [0, 1] rfl) hP hD hS
  intro H locs ls hl hP hD hS
  have hl : lv_has ls 2 [(0, .int x0), (1, .int x1)] := hl
  have h := h0
  unfold f_Pi_isFetchClock at h
  refine lv_iload_n hx hb d_Pi_isFetchClock_0 rfl (lv_at hl 0 rfl) ?_
  obtain ⟨⟨r2, S2, M2⟩, hc2, h⟩ := sg_b h
  dsimp only at h
  refine csi (As := [.int x0]) (rest := []) ⟨hx, hb, hml, hown, hts⟩ (c_Pi_isLine l D cA a S M x0 _ hc2) ⟨callB_of 1 hts (tb_gi tb_cd_Pi_isLine) rfl rfl rfl (hts _ tb_in_Pi) (hts _ tb_ml_Pi_24) yd_Pi_isLine ⟨Nat.le_of_ble_eq_true rfl, Nat.le_of_ble_eq_true rfl⟩, hts _ tb_st_Pi_isLine⟩ hZK hK hZ hP hD hS rfl hl.1 rfl (Nat.le_of_ble_eq_true rfl) d_Pi_isFetchClock_1 (fun H locs hP hD hS => ?_)
  refine lv_if_eq (tgt := 30) hx hb d_Pi_isFetchClock_4 (by decide) (fun hc => ?_) (fun hc => ?_)
  · have h := sg_p hc h
    exact b30 _ _ _ _ h _ _ _ (lv_sub hl [0, 1] rfl) hP hD hS
  · have h := sg_n hc h
    refine lv_iload_n hx hb d_Pi_isFetchClock_7 rfl (lv_at hl 1 rfl) ?_
    obtain ⟨⟨r3, S3, M3⟩, hc3, h⟩ := sg_b h
    dsimp only at h
    refine csi (As := [.int x1]) (rest := []) ⟨hx, hb, hml, hown, hts⟩ (c_Pi_isFetchClockOf1 l D cA a S2 M2 x1 _ hc3) ⟨callB_of 1 hts (tb_gi tb_cd_Pi_isFetchClockOf1) rfl rfl rfl (hts _ tb_in_Pi) (hts _ tb_ml_Pi_28) yd_Pi_isFetchClockOf1 ⟨Nat.le_of_ble_eq_true rfl, Nat.le_of_ble_eq_true rfl⟩, hts _ tb_st_Pi_isFetchClockOf1⟩ hZK hK hZ hP hD hS rfl hl.1 rfl (Nat.le_of_ble_eq_true rfl) d_Pi_isFetchClock_8 (fun H locs hP hD hS => ?_)
    refine lv_if_ne (tgt := 26) hx hb d_Pi_isFetchClock_11 (by decide) (fun hc => ?_) (fun hc => ?_)
    · have h := sg_n hc h
      exact b26 _ _ _ _ h _ _ _ (lv_sub hl [0, 1] rfl) hP hD hS
    · have h := sg_p hc h
      refine lv_iload_n hx hb d_Pi_isFetchClock_14 rfl (lv_at hl 1 rfl) ?_
      refine lv_bipush (v := (15 : Int32)) hx hb d_Pi_isFetchClock_15 (by decide) ?_
      refine lv_icmp_eq (tgt := 26) hx hb d_Pi_isFetchClock_17 (by decide) (fun hc => ?_) (fun hc => ?_)
      · have h := sg_p hc h
        exact b26 _ _ _ _ h _ _ _ (lv_sub hl [0, 1] rfl) hP hD hS
      · have h := sg_n hc h
        refine lv_iload_n hx hb d_Pi_isFetchClock_20 rfl (lv_at hl 1 rfl) ?_
        refine lv_bipush (v := (23 : Int32)) hx hb d_Pi_isFetchClock_21 (by decide) ?_
        refine lv_icmp_ne (tgt := 30) hx hb d_Pi_isFetchClock_23 (by decide) (fun hc => ?_) (fun hc => ?_)
        · have h := sg_n hc h
          exact b30 _ _ _ _ h _ _ _ (lv_sub hl [0, 1] rfl) hP hD hS
        · have h := sg_p hc h
          exact b26 _ _ _ _ h _ _ _ (lv_sub hl [0, 1] rfl) hP hD hS
def f_Pi_fetchAt_94 (S : SS) (M : MM) (x1 : Int32) (x3 : Int32) (x4 : Int32) : Option RR := some (0, S, M)
def f_Pi_fetchAt_12 (S : SS) (M : MM) (x1 : Int32) (x3 : Int32) (y0 : Int32) : Option RR := if y0 < 0 ∨ 2 ≤ y0.toNatClampNeg then none else (f_Me_at S M (M 3 y0.toNatClampNeg)).bind (fun q2 => if y0 < 0 ∨ 2 ≤ y0.toNatClampNeg then none else if y0 < 0 ∨ 2 ≤ y0.toNatClampNeg then none else if y0 < 0 ∨ 2 ≤ y0.toNatClampNeg then none else if x1 = (23 : Int32) then f_Pi_fetchAt_94 q2.2.1 (upM (upM (upM (upM q2.2.2 4 (upd (q2.2.2 4) y0.toNatClampNeg q2.1)) 3 (upd ((upM q2.2.2 4 (upd (q2.2.2 4) y0.toNatClampNeg q2.1)) 3) y0.toNatClampNeg ((((upM q2.2.2 4 (upd (q2.2.2 4) y0.toNatClampNeg q2.1)) 3 y0.toNatClampNeg) + (1 : Int32)) &&& (255 : Int32)))) 3 (upd ((upM (upM q2.2.2 4 (upd (q2.2.2 4) y0.toNatClampNeg q2.1)) 3 (upd ((upM q2.2.2 4 (upd (q2.2.2 4) y0.toNatClampNeg q2.1)) 3) y0.toNatClampNeg ((((upM q2.2.2 4 (upd (q2.2.2 4) y0.toNatClampNeg q2.1)) 3 y0.toNatClampNeg) + (1 : Int32)) &&& (255 : Int32)))) 3) 0 ((((upM (upM q2.2.2 4 (upd (q2.2.2 4) y0.toNatClampNeg q2.1)) 3 (upd ((upM q2.2.2 4 (upd (q2.2.2 4) y0.toNatClampNeg q2.1)) 3) y0.toNatClampNeg ((((upM q2.2.2 4 (upd (q2.2.2 4) y0.toNatClampNeg q2.1)) 3 y0.toNatClampNeg) + (1 : Int32)) &&& (255 : Int32)))) 3 0) + x3) &&& (255 : Int32)))) 3 (upd ((upM (upM (upM q2.2.2 4 (upd (q2.2.2 4) y0.toNatClampNeg q2.1)) 3 (upd ((upM q2.2.2 4 (upd (q2.2.2 4) y0.toNatClampNeg q2.1)) 3) y0.toNatClampNeg ((((upM q2.2.2 4 (upd (q2.2.2 4) y0.toNatClampNeg q2.1)) 3 y0.toNatClampNeg) + (1 : Int32)) &&& (255 : Int32)))) 3 (upd ((upM (upM q2.2.2 4 (upd (q2.2.2 4) y0.toNatClampNeg q2.1)) 3 (upd ((upM q2.2.2 4 (upd (q2.2.2 4) y0.toNatClampNeg q2.1)) 3) y0.toNatClampNeg ((((upM q2.2.2 4 (upd (q2.2.2 4) y0.toNatClampNeg q2.1)) 3 y0.toNatClampNeg) + (1 : Int32)) &&& (255 : Int32)))) 3) 0 ((((upM (upM q2.2.2 4 (upd (q2.2.2 4) y0.toNatClampNeg q2.1)) 3 (upd ((upM q2.2.2 4 (upd (q2.2.2 4) y0.toNatClampNeg q2.1)) 3) y0.toNatClampNeg ((((upM q2.2.2 4 (upd (q2.2.2 4) y0.toNatClampNeg q2.1)) 3 y0.toNatClampNeg) + (1 : Int32)) &&& (255 : Int32)))) 3 0) + x3) &&& (255 : Int32)))) 3) 1 ((((upM (upM (upM q2.2.2 4 (upd (q2.2.2 4) y0.toNatClampNeg q2.1)) 3 (upd ((upM q2.2.2 4 (upd (q2.2.2 4) y0.toNatClampNeg q2.1)) 3) y0.toNatClampNeg ((((upM q2.2.2 4 (upd (q2.2.2 4) y0.toNatClampNeg q2.1)) 3 y0.toNatClampNeg) + (1 : Int32)) &&& (255 : Int32)))) 3 (upd ((upM (upM q2.2.2 4 (upd (q2.2.2 4) y0.toNatClampNeg q2.1)) 3 (upd ((upM q2.2.2 4 (upd (q2.2.2 4) y0.toNatClampNeg q2.1)) 3) y0.toNatClampNeg ((((upM q2.2.2 4 (upd (q2.2.2 4) y0.toNatClampNeg q2.1)) 3 y0.toNatClampNeg) + (1 : Int32)) &&& (255 : Int32)))) 3) 0 ((((upM (upM q2.2.2 4 (upd (q2.2.2 4) y0.toNatClampNeg q2.1)) 3 (upd ((upM q2.2.2 4 (upd (q2.2.2 4) y0.toNatClampNeg q2.1)) 3) y0.toNatClampNeg ((((upM q2.2.2 4 (upd (q2.2.2 4) y0.toNatClampNeg q2.1)) 3 y0.toNatClampNeg) + (1 : Int32)) &&& (255 : Int32)))) 3 0) + x3) &&& (255 : Int32)))) 3 1) + x3) &&& (255 : Int32)))) x1 x3 y0 else f_Pi_fetchAt_94 q2.2.1 (upM (upM q2.2.2 4 (upd (q2.2.2 4) y0.toNatClampNeg q2.1)) 3 (upd ((upM q2.2.2 4 (upd (q2.2.2 4) y0.toNatClampNeg q2.1)) 3) y0.toNatClampNeg ((((upM q2.2.2 4 (upd (q2.2.2 4) y0.toNatClampNeg q2.1)) 3 y0.toNatClampNeg) + (1 : Int32)) &&& (255 : Int32)))) x1 x3 y0)
def f_Pi_fetchAt (S : SS) (M : MM) (x1 : Int32) (x3 : Int32) : Option RR := (f_Pi_isFetchClockOf1 S M x1).bind (fun q6 => if q6.1 = 0 then f_Pi_fetchAt_12 q6.2.1 q6.2.2 x1 x3 (0 : Int32) else f_Pi_fetchAt_12 q6.2.1 q6.2.2 x1 x3 (1 : Int32))
set_option maxHeartbeats 4000000 in
set_option maxRecDepth 100000 in
theorem c_Pi_fetchAt (l : Launch) (D : va_G) (cA : ClassId) (a : Nat → Nat) (S : SS) (M : MM) (x1 : Int32) (x3 : Int32) (q : RR) (h0 : f_Pi_fetchAt S M x1 x3 = some q) : Cv l y_Pi_fetchAt w_Pi_fetchAt rm_Pi_fetchAt D vCl [(cA, .int)] (AB a) (ZB a) (wB cA a) [.ref (a 3), .int x1, .ref (a 1), .int x3] S M q := by
  refine Cv.of (cc := prog_5_method_8_code) (maxL := 5) (by decide) rfl (Nat.le_of_ble_eq_true rfl) ?_
  intro p e s m args below meth c Q hx hb hml hown hts hK hZ ret
  have hown : s.vm.findClass R_Pi = some m.cls := hown
  have hts : ∀ w ∈ TB, w.before args s = true := fun w h => hts w (List.mem_cons_of_mem _ h)
  have hZK := ZB_k a
  have k15 := hts _ tb_fl_Pi_15
  have k11 := hts _ tb_fl_Pi_11
  have b94 : ∀ (S : SS) (M : MM) (x1 : Int32) (x3 : Int32) (x4 : Int32), f_Pi_fetchAt_94 S M x1 x3 x4 = some q → BK p l e rm_Pi_fetchAt s m args below meth c Q D vCl (AB a) (wB cA a) 5 94 [(0, .ref (a 3)), (1, .int x1), (2, .ref (a 1)), (3, .int x3), (4, .int x4)] [] S M := by
    intro S M x1 x3 x4 h H locs ls hl hP hD hS
    unfold f_Pi_fetchAt_94 at h
    exact ret _ _ _ _ _ _ _ h hP hD hS d_Pi_fetchAt_94
  have b12 : ∀ (S : SS) (M : MM) (x1 : Int32) (x3 : Int32) (y0 : Int32), f_Pi_fetchAt_12 S M x1 x3 y0 = some q → BK p l e rm_Pi_fetchAt s m args below meth c Q D vCl (AB a) (wB cA a) 5 12 [(0, .ref (a 3)), (1, .int x1), (2, .ref (a 1)), (3, .int x3)] [.int y0] S M := by
    intro S M x1 x3 y0 h H locs ls hl hP hD hS
    unfold f_Pi_fetchAt_12 at h
    refine lv_istore (lv' := [(4, .int y0), (0, .ref (a 3)), (1, .int x1), (2, .ref (a 1)), (3, .int x3)]) hx hb d_Pi_fetchAt_12 hl (by decide) rfl (fun ls hl => ?_)
    refine lv_aload_n hx hb d_Pi_fetchAt_14 rfl (lv_at hl 1 rfl) ?_
    refine va_get (D := D) (ci := 3) (v := .ref (a 11)) (C := R_Pi) (T := T_Pi) (N := 4) hx hb hts iPi hown hK hP 3 (wB_at3 _ _ _ _) rfl 1 (by decide) k15 (fun _ h9 => h9) rfl d_Pi_fetchAt_15 ?_
    refine lv_iload hx hb d_Pi_fetchAt_18 (lv_at hl 0 rfl) ?_
    refine lv_aload_n hx hb d_Pi_fetchAt_20 rfl (lv_at hl 3 rfl) ?_
    refine lv_aload_n hx hb d_Pi_fetchAt_21 rfl (lv_at hl 1 rfl) ?_
    refine va_get (D := D) (ci := 3) (v := .ref (a 10)) (C := R_Pi) (T := T_Pi) (N := 4) hx hb hts iPi hown hK hP 3 (wB_at3 _ _ _ _) rfl 0 (by decide) k11 (fun _ h9 => h9) rfl d_Pi_fetchAt_22 ?_
    refine lv_iload hx hb d_Pi_fetchAt_25 (lv_at hl 0 rfl) ?_
    obtain ⟨hg1, h⟩ := sg_g h
    refine va_iald hx hb hK hP 10 0 (wB_at10 _ _ _ _) rfl hg1 d_Pi_fetchAt_27 ?_
    obtain ⟨⟨r2, S2, M2⟩, hc2, h⟩ := sg_b h
    dsimp only at h
    refine cvi (As := [.int (M 3 y0.toNatClampNeg)]) (rest := [.int y0, .ref (a 11)]) ⟨hx, hb, hml, hown, hts⟩ (c_Me_at l D cA a S M (M 3 y0.toNatClampNeg) _ hc2) ⟨callB_of 1 hts (tb_gi tb_cd_Me_at) rfl rfl rfl (hts _ tb_in_Me) (hts _ tb_ml_Pi_50) yd_Me_at ⟨Nat.le_of_ble_eq_true rfl, Nat.le_of_ble_eq_true rfl⟩, hts _ tb_im_Me_at, hts _ tb_se_Me_at⟩ hZK hK hZ hP hD hS 1 (wB_at1 _ _ _ _) rfl rfl hl.1 rfl (Nat.le_of_ble_eq_true rfl) d_Pi_fetchAt_28 (fun H locs hP hD hS => ?_)
    obtain ⟨hg3, h⟩ := sg_g h
    refine va_iast (x := r2) hx hb hK hP hD hS 11 0 (wB_at11 _ _ _ _) rfl hg3 d_Pi_fetchAt_31 (fun H locs hP hD hS => ?_)
    have hP := wB_set11 hP
    have hD := wB_dset11 hD
    refine lv_aload_n hx hb d_Pi_fetchAt_32 rfl (lv_at hl 1 rfl) ?_
    refine va_get (D := D) (ci := 3) (v := .ref (a 10)) (C := R_Pi) (T := T_Pi) (N := 4) hx hb hts iPi hown hK hP 3 (wB_at3 _ _ _ _) rfl 0 (by decide) k11 (fun _ h9 => h9) rfl d_Pi_fetchAt_33 ?_
    refine lv_iload hx hb d_Pi_fetchAt_36 (lv_at hl 0 rfl) ?_
    refine lv_aload_n hx hb d_Pi_fetchAt_38 rfl (lv_at hl 1 rfl) ?_
    refine va_get (D := D) (ci := 3) (v := .ref (a 10)) (C := R_Pi) (T := T_Pi) (N := 4) hx hb hts iPi hown hK hP 3 (wB_at3 _ _ _ _) rfl 0 (by decide) k11 (fun _ h9 => h9) rfl d_Pi_fetchAt_39 ?_
    refine lv_iload hx hb d_Pi_fetchAt_42 (lv_at hl 0 rfl) ?_
    obtain ⟨hg4, h⟩ := sg_g h
    refine va_iald hx hb hK hP 10 0 (wB_at10 _ _ _ _) rfl hg4 d_Pi_fetchAt_44 ?_
    refine lv_iconst (v := (1 : Int32)) hx hb d_Pi_fetchAt_45 (by decide) ?_
    refine lv_iadd hx hb d_Pi_fetchAt_46 ?_
    refine lv_sipush (v := (255 : Int32)) hx hb d_Pi_fetchAt_47 (by decide) ?_
    refine lv_iand hx hb d_Pi_fetchAt_50 ?_
    obtain ⟨hg5, h⟩ := sg_g h
    refine va_iast (x := (((upM M2 4 (upd (M2 4) y0.toNatClampNeg r2)) 3 y0.toNatClampNeg) + (1 : Int32)) &&& (255 : Int32)) hx hb hK hP hD hS 10 0 (wB_at10 _ _ _ _) rfl hg5 d_Pi_fetchAt_51 (fun H locs hP hD hS => ?_)
    have hP := wB_set10 hP
    have hD := wB_dset10 hD
    refine lv_iload_n hx hb d_Pi_fetchAt_52 rfl (lv_at hl 2 rfl) ?_
    refine lv_bipush (v := (23 : Int32)) hx hb d_Pi_fetchAt_53 (by decide) ?_
    refine lv_icmp_ne (tgt := 94) hx hb d_Pi_fetchAt_55 (by decide) (fun hc => ?_) (fun hc => ?_)
    · have h := sg_n hc h
      exact b94 _ _ _ _ _ h _ _ _ (lv_sub hl [1, 2, 3, 4, 0] rfl) hP hD hS
    · have h := sg_p hc h
      refine lv_aload_n hx hb d_Pi_fetchAt_58 rfl (lv_at hl 1 rfl) ?_
      refine va_get (D := D) (ci := 3) (v := .ref (a 10)) (C := R_Pi) (T := T_Pi) (N := 4) hx hb hts iPi hown hK hP 3 (wB_at3 _ _ _ _) rfl 0 (by decide) k11 (fun _ h9 => h9) rfl d_Pi_fetchAt_59 ?_
      refine lv_iconst (v := (0 : Int32)) hx hb d_Pi_fetchAt_62 (by decide) ?_
      refine lv_aload_n hx hb d_Pi_fetchAt_63 rfl (lv_at hl 1 rfl) ?_
      refine va_get (D := D) (ci := 3) (v := .ref (a 10)) (C := R_Pi) (T := T_Pi) (N := 4) hx hb hts iPi hown hK hP 3 (wB_at3 _ _ _ _) rfl 0 (by decide) k11 (fun _ h9 => h9) rfl d_Pi_fetchAt_64 ?_
      refine lv_iconst (v := (0 : Int32)) hx hb d_Pi_fetchAt_67 (by decide) ?_
      refine ialdK hx hb hK hP 10 0 (wB_at10 _ _ _ _) rfl 0 (by decide) (by unfold vp_in; decide) d_Pi_fetchAt_68 ?_
      refine lv_iload_n hx hb d_Pi_fetchAt_69 rfl (lv_at hl 4 rfl) ?_
      refine lv_iadd hx hb d_Pi_fetchAt_70 ?_
      refine lv_sipush (v := (255 : Int32)) hx hb d_Pi_fetchAt_71 (by decide) ?_
      refine lv_iand hx hb d_Pi_fetchAt_74 ?_
      refine iastK (x := (((upM (upM M2 4 (upd (M2 4) y0.toNatClampNeg r2)) 3 (upd ((upM M2 4 (upd (M2 4) y0.toNatClampNeg r2)) 3) y0.toNatClampNeg ((((upM M2 4 (upd (M2 4) y0.toNatClampNeg r2)) 3 y0.toNatClampNeg) + (1 : Int32)) &&& (255 : Int32)))) 3 0) + x3) &&& (255 : Int32)) hx hb hK hP hD hS 10 0 (wB_at10 _ _ _ _) rfl 0 (by decide) (by unfold vp_in; decide) d_Pi_fetchAt_75 (fun H locs hP hD hS => ?_)
      have hP := wB_set10 hP
      have hD := wB_dset10 hD
      refine lv_aload_n hx hb d_Pi_fetchAt_76 rfl (lv_at hl 1 rfl) ?_
      refine va_get (D := D) (ci := 3) (v := .ref (a 10)) (C := R_Pi) (T := T_Pi) (N := 4) hx hb hts iPi hown hK hP 3 (wB_at3 _ _ _ _) rfl 0 (by decide) k11 (fun _ h9 => h9) rfl d_Pi_fetchAt_77 ?_
      refine lv_iconst (v := (1 : Int32)) hx hb d_Pi_fetchAt_80 (by decide) ?_
      refine lv_aload_n hx hb d_Pi_fetchAt_81 rfl (lv_at hl 1 rfl) ?_
      refine va_get (D := D) (ci := 3) (v := .ref (a 10)) (C := R_Pi) (T := T_Pi) (N := 4) hx hb hts iPi hown hK hP 3 (wB_at3 _ _ _ _) rfl 0 (by decide) k11 (fun _ h9 => h9) rfl d_Pi_fetchAt_82 ?_
      refine lv_iconst (v := (1 : Int32)) hx hb d_Pi_fetchAt_85 (by decide) ?_
      refine ialdK hx hb hK hP 10 0 (wB_at10 _ _ _ _) rfl 1 (by decide) (by unfold vp_in; decide) d_Pi_fetchAt_86 ?_
      refine lv_iload_n hx hb d_Pi_fetchAt_87 rfl (lv_at hl 4 rfl) ?_
      refine lv_iadd hx hb d_Pi_fetchAt_88 ?_
      refine lv_sipush (v := (255 : Int32)) hx hb d_Pi_fetchAt_89 (by decide) ?_
      refine lv_iand hx hb d_Pi_fetchAt_92 ?_
      refine iastK (x := (((upM (upM (upM M2 4 (upd (M2 4) y0.toNatClampNeg r2)) 3 (upd ((upM M2 4 (upd (M2 4) y0.toNatClampNeg r2)) 3) y0.toNatClampNeg ((((upM M2 4 (upd (M2 4) y0.toNatClampNeg r2)) 3 y0.toNatClampNeg) + (1 : Int32)) &&& (255 : Int32)))) 3 (upd ((upM (upM M2 4 (upd (M2 4) y0.toNatClampNeg r2)) 3 (upd ((upM M2 4 (upd (M2 4) y0.toNatClampNeg r2)) 3) y0.toNatClampNeg ((((upM M2 4 (upd (M2 4) y0.toNatClampNeg r2)) 3 y0.toNatClampNeg) + (1 : Int32)) &&& (255 : Int32)))) 3) 0 ((((upM (upM M2 4 (upd (M2 4) y0.toNatClampNeg r2)) 3 (upd ((upM M2 4 (upd (M2 4) y0.toNatClampNeg r2)) 3) y0.toNatClampNeg ((((upM M2 4 (upd (M2 4) y0.toNatClampNeg r2)) 3 y0.toNatClampNeg) + (1 : Int32)) &&& (255 : Int32)))) 3 0) + x3) &&& (255 : Int32)))) 3 1) + x3) &&& (255 : Int32)) hx hb hK hP hD hS 10 0 (wB_at10 _ _ _ _) rfl 1 (by decide) (by unfold vp_in; decide) d_Pi_fetchAt_93 (fun H locs hP hD hS => ?_)
      have hP := wB_set10 hP
      have hD := wB_dset10 hD
      exact b94 _ _ _ _ _ h _ _ _ (lv_sub hl [1, 2, 3, 4, 0] rfl) hP hD hS
  intro H locs ls hl hP hD hS
  have hl : lv_has ls 5 [(0, .ref (a 3)), (1, .int x1), (2, .ref (a 1)), (3, .int x3)] := hl
  have h := h0
  unfold f_Pi_fetchAt at h
  refine lv_iload_n hx hb d_Pi_fetchAt_0 rfl (lv_at hl 1 rfl) ?_
  obtain ⟨⟨r6, S6, M6⟩, hc6, h⟩ := sg_b h
  dsimp only at h
  refine csi (As := [.int x1]) (rest := []) ⟨hx, hb, hml, hown, hts⟩ (c_Pi_isFetchClockOf1 l D cA a S M x1 _ hc6) ⟨callB_of 1 hts (tb_gi tb_cd_Pi_isFetchClockOf1) rfl rfl rfl (hts _ tb_in_Pi) (hts _ tb_ml_Pi_28) yd_Pi_isFetchClockOf1 ⟨Nat.le_of_ble_eq_true rfl, Nat.le_of_ble_eq_true rfl⟩, hts _ tb_st_Pi_isFetchClockOf1⟩ hZK hK hZ hP hD hS rfl hl.1 rfl (Nat.le_of_ble_eq_true rfl) d_Pi_fetchAt_1 (fun H locs hP hD hS => ?_)
  refine lv_if_eq (tgt := 11) hx hb d_Pi_fetchAt_4 (by decide) (fun hc => ?_) (fun hc => ?_)
  · have h := sg_p hc h
    refine lv_iconst (v := (0 : Int32)) hx hb d_Pi_fetchAt_11 (by decide) ?_
    exact b12 _ _ _ _ _ h _ _ _ (lv_sub hl [0, 1, 2, 3] rfl) hP hD hS
  · have h := sg_n hc h
    refine lv_iconst (v := (1 : Int32)) hx hb d_Pi_fetchAt_7 (by decide) ?_
    refine lv_goto (tgt := 12) hx hb d_Pi_fetchAt_8 (by decide) ?_
    exact b12 _ _ _ _ _ h _ _ _ (lv_sub hl [0, 1, 2, 3] rfl) hP hD hS
def f_Pi_shownAt_20 (S : SS) (M : MM) (x1 : Int32) (x2 : Int32) : Option RR := some ((-1 : Int32), S, M)
def f_Pi_shownAt (S : SS) (M : MM) (x1 : Int32) (x2 : Int32) : Option RR := if x1 < 0 then f_Pi_shownAt_20 S M x1 x2 else if (32 : Int32) ≤ x1 then f_Pi_shownAt_20 S M x1 x2 else if x2 < 0 then f_Pi_shownAt_20 S M x1 x2 else if x2 < (12 : Int32) then if (x2 * (32 : Int32)) + x1 < 0 ∨ 384 ≤ ((x2 * (32 : Int32)) + x1).toNatClampNeg then none else some (M 6 ((x2 * (32 : Int32)) + x1).toNatClampNeg, S, M) else f_Pi_shownAt_20 S M x1 x2
set_option maxHeartbeats 4000000 in
set_option maxRecDepth 100000 in
theorem c_Pi_shownAt (l : Launch) (D : va_G) (cA : ClassId) (a : Nat → Nat) (S : SS) (M : MM) (x1 : Int32) (x2 : Int32) (q : RR) (h0 : f_Pi_shownAt S M x1 x2 = some q) : Ci l y_Pi_shownAt w_Pi_shownAt rm_Pi_shownAt D vCl [(cA, .int)] (AB a) (ZB a) (wB cA a) [.ref (a 3), .int x1, .int x2] S M q := by
  refine Ci.of (cc := prog_5_method_5_code) (maxL := 3) (ty := .int) (by decide) rfl (Nat.le_of_ble_eq_true rfl) ?_
  intro p e s m args below meth c Q hx hb hml hown hts hK hZ ret
  have hown : s.vm.findClass R_Pi = some m.cls := hown
  have hts : ∀ w ∈ TB, w.before args s = true := fun w h => hts w (List.mem_cons_of_mem _ h)
  have hZK := ZB_k a
  have k21 := hts _ tb_fl_Pi_21
  have b20 : ∀ (S : SS) (M : MM) (x1 : Int32) (x2 : Int32), f_Pi_shownAt_20 S M x1 x2 = some q → BK p l e rm_Pi_shownAt s m args below meth c Q D vCl (AB a) (wB cA a) 3 20 [(0, .ref (a 3)), (1, .int x1), (2, .int x2)] [] S M := by
    intro S M x1 x2 h H locs ls hl hP hD hS
    unfold f_Pi_shownAt_20 at h
    refine lv_iconst (v := (-1 : Int32)) hx hb d_Pi_shownAt_20 (by decide) ?_
    exact ret _ _ _ _ _ _ _ h rfl hP hD hS d_Pi_shownAt_21
  intro H locs ls hl hP hD hS
  have hl : lv_has ls 3 [(0, .ref (a 3)), (1, .int x1), (2, .int x2)] := hl
  have h := h0
  unfold f_Pi_shownAt at h
  refine lv_iload_n hx hb d_Pi_shownAt_0 rfl (lv_at hl 1 rfl) ?_
  refine lv_if_lt (tgt := 20) hx hb d_Pi_shownAt_1 (by decide) (fun hc => ?_) (fun hc => ?_)
  · have h := sg_p hc h
    exact b20 _ _ _ _ h _ _ _ (lv_sub hl [0, 1, 2] rfl) hP hD hS
  · have h := sg_n hc h
    refine lv_iload_n hx hb d_Pi_shownAt_4 rfl (lv_at hl 1 rfl) ?_
    refine lv_bipush (v := (32 : Int32)) hx hb d_Pi_shownAt_5 (by decide) ?_
    refine lv_icmp_ge (tgt := 20) hx hb d_Pi_shownAt_7 (by decide) (fun hc => ?_) (fun hc => ?_)
    · have h := sg_p hc h
      exact b20 _ _ _ _ h _ _ _ (lv_sub hl [0, 1, 2] rfl) hP hD hS
    · have h := sg_n hc h
      refine lv_iload_n hx hb d_Pi_shownAt_10 rfl (lv_at hl 2 rfl) ?_
      refine lv_if_lt (tgt := 20) hx hb d_Pi_shownAt_11 (by decide) (fun hc => ?_) (fun hc => ?_)
      · have h := sg_p hc h
        exact b20 _ _ _ _ h _ _ _ (lv_sub hl [0, 1, 2] rfl) hP hD hS
      · have h := sg_n hc h
        refine lv_iload_n hx hb d_Pi_shownAt_14 rfl (lv_at hl 2 rfl) ?_
        refine lv_bipush (v := (12 : Int32)) hx hb d_Pi_shownAt_15 (by decide) ?_
        refine lv_icmp_lt (tgt := 22) hx hb d_Pi_shownAt_17 (by decide) (fun hc => ?_) (fun hc => ?_)
        · have h := sg_p hc h
          refine lv_aload_n hx hb d_Pi_shownAt_22 rfl (lv_at hl 0 rfl) ?_
          refine va_get (D := D) (ci := 3) (v := .ref (a 13)) (C := R_Pi) (T := T_Pi) (N := 4) hx hb hts iPi hown hK hP 3 (wB_at3 _ _ _ _) rfl 3 (by decide) k21 (fun _ h9 => h9) rfl d_Pi_shownAt_23 ?_
          refine lv_iload_n hx hb d_Pi_shownAt_26 rfl (lv_at hl 2 rfl) ?_
          refine lv_bipush (v := (32 : Int32)) hx hb d_Pi_shownAt_27 (by decide) ?_
          refine lv_imul hx hb d_Pi_shownAt_29 ?_
          refine lv_iload_n hx hb d_Pi_shownAt_30 rfl (lv_at hl 1 rfl) ?_
          refine lv_iadd hx hb d_Pi_shownAt_31 ?_
          obtain ⟨hg1, h⟩ := sg_g h
          refine va_iald hx hb hK hP 13 0 (wB_at13 _ _ _ _) rfl hg1 d_Pi_shownAt_32 ?_
          exact ret _ _ _ _ _ _ _ h rfl hP hD hS d_Pi_shownAt_33
        · have h := sg_n hc h
          exact b20 _ _ _ _ h _ _ _ (lv_sub hl [0, 1, 2] rfl) hP hD hS
