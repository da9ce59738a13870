def w_Mo_begin : List Cond := Cond.code y_Mo_begin prog_4_method_2_code 2 none :: TB
def rm_Mo_begin : Room := { frames := 0, cells := 0, slots := 0, locals := 0 }
theorem d_Mo_begin_0 : decode prog_4_method_2_code 0 = .ok (.aload_n 0, 1) := by decide +kernel
theorem d_Mo_begin_1 : decode prog_4_method_2_code 1 = .ok (.iload_n 1, 1) := by decide +kernel
theorem d_Mo_begin_2 : decode prog_4_method_2_code 2 = .ok (.bipush 7, 2) := by decide +kernel
theorem d_Mo_begin_4 : decode prog_4_method_2_code 4 = .ok (.iand, 1) := by decide +kernel
theorem d_Mo_begin_5 : decode prog_4_method_2_code 5 = .ok (.ifCond .ne 8, 3) := by decide +kernel
theorem d_Mo_begin_8 : decode prog_4_method_2_code 8 = .ok (.bipush 8, 2) := by decide +kernel
theorem d_Mo_begin_10 : decode prog_4_method_2_code 10 = .ok (.goto 7, 3) := by decide +kernel
theorem d_Mo_begin_13 : decode prog_4_method_2_code 13 = .ok (.iload_n 1, 1) := by decide +kernel
theorem d_Mo_begin_14 : decode prog_4_method_2_code 14 = .ok (.bipush 7, 2) := by decide +kernel
theorem d_Mo_begin_16 : decode prog_4_method_2_code 16 = .ok (.iand, 1) := by decide +kernel
theorem d_Mo_begin_17 : decode prog_4_method_2_code 17 = .ok (.putfield 15, 3) := by decide +kernel
theorem d_Mo_begin_20 : decode prog_4_method_2_code 20 = .ok (.aload_n 0, 1) := by decide +kernel
theorem d_Mo_begin_21 : decode prog_4_method_2_code 21 = .ok (.iload_n 1, 1) := by decide +kernel
theorem d_Mo_begin_22 : decode prog_4_method_2_code 22 = .ok (.iconst 4, 1) := by decide +kernel
theorem d_Mo_begin_23 : decode prog_4_method_2_code 23 = .ok (.ishr, 1) := by decide +kernel
theorem d_Mo_begin_24 : decode prog_4_method_2_code 24 = .ok (.bipush 15, 2) := by decide +kernel
theorem d_Mo_begin_26 : decode prog_4_method_2_code 26 = .ok (.iand, 1) := by decide +kernel
theorem d_Mo_begin_27 : decode prog_4_method_2_code 27 = .ok (.ifCond .ne 8, 3) := by decide +kernel
theorem d_Mo_begin_30 : decode prog_4_method_2_code 30 = .ok (.bipush 16, 2) := by decide +kernel
theorem d_Mo_begin_32 : decode prog_4_method_2_code 32 = .ok (.goto 9, 3) := by decide +kernel
theorem d_Mo_begin_35 : decode prog_4_method_2_code 35 = .ok (.iload_n 1, 1) := by decide +kernel
theorem d_Mo_begin_36 : decode prog_4_method_2_code 36 = .ok (.iconst 4, 1) := by decide +kernel
theorem d_Mo_begin_37 : decode prog_4_method_2_code 37 = .ok (.ishr, 1) := by decide +kernel
theorem d_Mo_begin_38 : decode prog_4_method_2_code 38 = .ok (.bipush 15, 2) := by decide +kernel
theorem d_Mo_begin_40 : decode prog_4_method_2_code 40 = .ok (.iand, 1) := by decide +kernel
theorem d_Mo_begin_41 : decode prog_4_method_2_code 41 = .ok (.putfield 19, 3) := by decide +kernel
theorem d_Mo_begin_44 : decode prog_4_method_2_code 44 = .ok (.aload_n 0, 1) := by decide +kernel
theorem d_Mo_begin_45 : decode prog_4_method_2_code 45 = .ok (.iconst 0, 1) := by decide +kernel
theorem d_Mo_begin_46 : decode prog_4_method_2_code 46 = .ok (.putfield 22, 3) := by decide +kernel
theorem d_Mo_begin_49 : decode prog_4_method_2_code 49 = .ok (.aload_n 0, 1) := by decide +kernel
theorem d_Mo_begin_50 : decode prog_4_method_2_code 50 = .ok (.iconst 0, 1) := by decide +kernel
theorem d_Mo_begin_51 : decode prog_4_method_2_code 51 = .ok (.putfield 25, 3) := by decide +kernel
theorem d_Mo_begin_54 : decode prog_4_method_2_code 54 = .ok (.aload_n 0, 1) := by decide +kernel
theorem d_Mo_begin_55 : decode prog_4_method_2_code 55 = .ok (.iconst 0, 1) := by decide +kernel
theorem d_Mo_begin_56 : decode prog_4_method_2_code 56 = .ok (.putfield 28, 3) := by decide +kernel
theorem d_Mo_begin_59 : decode prog_4_method_2_code 59 = .ok (.aload_n 0, 1) := by decide +kernel
theorem d_Mo_begin_60 : decode prog_4_method_2_code 60 = .ok (.iconst 0, 1) := by decide +kernel
theorem d_Mo_begin_61 : decode prog_4_method_2_code 61 = .ok (.putfield 31, 3) := by decide +kernel
theorem d_Mo_begin_64 : decode prog_4_method_2_code 64 = .ok (.aload_n 0, 1) := by decide +kernel
theorem d_Mo_begin_65 : decode prog_4_method_2_code 65 = .ok (.iconst 0, 1) := by decide +kernel
theorem d_Mo_begin_66 : decode prog_4_method_2_code 66 = .ok (.putfield 34, 3) := by decide +kernel
theorem d_Mo_begin_69 : decode prog_4_method_2_code 69 = .ok (.aload_n 0, 1) := by decide +kernel
theorem d_Mo_begin_70 : decode prog_4_method_2_code 70 = .ok (.iconst 1, 1) := by decide +kernel
theorem d_Mo_begin_71 : decode prog_4_method_2_code 71 = .ok (.putfield 37, 3) := by decide +kernel
theorem d_Mo_begin_74 : decode prog_4_method_2_code 74 = .ok (.aload_n 0, 1) := by decide +kernel
theorem d_Mo_begin_75 : decode prog_4_method_2_code 75 = .ok (.iconst 1, 1) := by decide +kernel
theorem d_Mo_begin_76 : decode prog_4_method_2_code 76 = .ok (.putfield 41, 3) := by decide +kernel
theorem d_Mo_begin_79 : decode prog_4_method_2_code 79 = .ok (.return_, 1) := by decide +kernel
theorem yd_Mo_begin : y_Mo_begin.cls ≠ "java/lang/invoke/MethodHandle" ∧ y_Mo_begin.cls ≠ "java/lang/invoke/VarHandle" ∧ (parseMethodDescriptor y_Mo_begin.desc).map (fun d => d.parameters.length) = some 1 := by decide +kernel
def w_Mo_isUsed : List Cond := Cond.code y_Mo_isUsed prog_4_method_5_code 2 (some .boolean) :: TB
def rm_Mo_isUsed : Room := { frames := 0, cells := 0, slots := 0, locals := 0 }
theorem d_Mo_isUsed_0 : decode prog_4_method_5_code 0 = .ok (.iload_n 0, 1) := by decide +kernel
theorem d_Mo_isUsed_1 : decode prog_4_method_5_code 1 = .ok (.bipush 8, 2) := by decide +kernel
theorem d_Mo_isUsed_3 : decode prog_4_method_5_code 3 = .ok (.iload_n 1, 1) := by decide +kernel
theorem d_Mo_isUsed_4 : decode prog_4_method_5_code 4 = .ok (.iadd, 1) := by decide +kernel
theorem d_Mo_isUsed_5 : decode prog_4_method_5_code 5 = .ok (.ishr, 1) := by decide +kernel
theorem d_Mo_isUsed_6 : decode prog_4_method_5_code 6 = .ok (.iconst 1, 1) := by decide +kernel
theorem d_Mo_isUsed_7 : decode prog_4_method_5_code 7 = .ok (.iand, 1) := by decide +kernel
theorem d_Mo_isUsed_8 : decode prog_4_method_5_code 8 = .ok (.ifCond .eq 7, 3) := by decide +kernel
theorem d_Mo_isUsed_11 : decode prog_4_method_5_code 11 = .ok (.iconst 1, 1) := by decide +kernel
theorem d_Mo_isUsed_12 : decode prog_4_method_5_code 12 = .ok (.goto 4, 3) := by decide +kernel
theorem d_Mo_isUsed_15 : decode prog_4_method_5_code 15 = .ok (.iconst 0, 1) := by decide +kernel
theorem d_Mo_isUsed_16 : decode prog_4_method_5_code 16 = .ok (.ireturn, 1) := by decide +kernel
theorem yd_Mo_isUsed : y_Mo_isUsed.cls ≠ "java/lang/invoke/MethodHandle" ∧ y_Mo_isUsed.cls ≠ "java/lang/invoke/VarHandle" ∧ (parseMethodDescriptor y_Mo_isUsed.desc).map (fun d => d.parameters.length) = some 2 := by decide +kernel
def w_Mo_usedFrom : List Cond := Cond.code y_Mo_usedFrom prog_4_method_4_code 3 (some .int) :: TB
def rm_Mo_usedFrom : Room := { frames := 1, cells := 0, slots := 0, locals := 21 }
theorem d_Mo_usedFrom_0 : decode prog_4_method_4_code 0 = .ok (.iload_n 1, 1) := by decide +kernel
theorem d_Mo_usedFrom_1 : decode prog_4_method_4_code 1 = .ok (.istore_n 2, 1) := by decide +kernel
theorem d_Mo_usedFrom_2 : decode prog_4_method_4_code 2 = .ok (.iload_n 2, 1) := by decide +kernel
theorem d_Mo_usedFrom_3 : decode prog_4_method_4_code 3 = .ok (.iconst 4, 1) := by decide +kernel
theorem d_Mo_usedFrom_4 : decode prog_4_method_4_code 4 = .ok (.if_icmp .ge 19, 3) := by decide +kernel
theorem d_Mo_usedFrom_7 : decode prog_4_method_4_code 7 = .ok (.iload_n 0, 1) := by decide +kernel
theorem d_Mo_usedFrom_8 : decode prog_4_method_4_code 8 = .ok (.iload_n 2, 1) := by decide +kernel
theorem d_Mo_usedFrom_9 : decode prog_4_method_4_code 9 = .ok (.invokestatic 72, 3) := by decide +kernel
theorem d_Mo_usedFrom_12 : decode prog_4_method_4_code 12 = .ok (.ifCond .eq 5, 3) := by decide +kernel
theorem d_Mo_usedFrom_15 : decode prog_4_method_4_code 15 = .ok (.iload_n 2, 1) := by decide +kernel
theorem d_Mo_usedFrom_16 : decode prog_4_method_4_code 16 = .ok (.ireturn, 1) := by decide +kernel
theorem d_Mo_usedFrom_17 : decode prog_4_method_4_code 17 = .ok (.iinc 2 1, 3) := by decide +kernel
theorem d_Mo_usedFrom_20 : decode prog_4_method_4_code 20 = .ok (.goto (-18), 3) := by decide +kernel
theorem d_Mo_usedFrom_23 : decode prog_4_method_4_code 23 = .ok (.iconst 4, 1) := by decide +kernel
theorem d_Mo_usedFrom_24 : decode prog_4_method_4_code 24 = .ok (.ireturn, 1) := by decide +kernel
theorem yd_Mo_usedFrom : y_Mo_usedFrom.cls ≠ "java/lang/invoke/MethodHandle" ∧ y_Mo_usedFrom.cls ≠ "java/lang/invoke/VarHandle" ∧ (parseMethodDescriptor y_Mo_usedFrom.desc).map (fun d => d.parameters.length) = some 2 := by decide +kernel
def w_Mo_wordOf : List Cond := Cond.code y_Mo_wordOf prog_4_method_7_code 4 (some .int) :: TB
def rm_Mo_wordOf : Room := { frames := 1, cells := 0, slots := 0, locals := 21 }
theorem d_Mo_wordOf_0 : decode prog_4_method_7_code 0 = .ok (.iload_n 2, 1) := by decide +kernel
theorem d_Mo_wordOf_1 : decode prog_4_method_7_code 1 = .ok (.iload_n 1, 1) := by decide +kernel
theorem d_Mo_wordOf_2 : decode prog_4_method_7_code 2 = .ok (.invokestatic 72, 3) := by decide +kernel
theorem d_Mo_wordOf_5 : decode prog_4_method_7_code 5 = .ok (.ifCond .eq 12, 3) := by decide +kernel
theorem d_Mo_wordOf_8 : decode prog_4_method_7_code 8 = .ok (.aload_n 0, 1) := by decide +kernel
theorem d_Mo_wordOf_9 : decode prog_4_method_7_code 9 = .ok (.getfield 11, 3) := by decide +kernel
theorem d_Mo_wordOf_12 : decode prog_4_method_7_code 12 = .ok (.iload_n 1, 1) := by decide +kernel
theorem d_Mo_wordOf_13 : decode prog_4_method_7_code 13 = .ok (.iaload, 1) := by decide +kernel
theorem d_Mo_wordOf_14 : decode prog_4_method_7_code 14 = .ok (.goto 11, 3) := by decide +kernel
theorem d_Mo_wordOf_17 : decode prog_4_method_7_code 17 = .ok (.aload_n 3, 1) := by decide +kernel
theorem d_Mo_wordOf_18 : decode prog_4_method_7_code 18 = .ok (.bipush 22, 2) := by decide +kernel
theorem d_Mo_wordOf_20 : decode prog_4_method_7_code 20 = .ok (.iload_n 1, 1) := by decide +kernel
theorem d_Mo_wordOf_21 : decode prog_4_method_7_code 21 = .ok (.iadd, 1) := by decide +kernel
theorem d_Mo_wordOf_22 : decode prog_4_method_7_code 22 = .ok (.invokevirtual 46, 3) := by decide +kernel
theorem d_Mo_wordOf_25 : decode prog_4_method_7_code 25 = .ok (.ireturn, 1) := by decide +kernel
theorem yd_Mo_wordOf : y_Mo_wordOf.cls ≠ "java/lang/invoke/MethodHandle" ∧ y_Mo_wordOf.cls ≠ "java/lang/invoke/VarHandle" ∧ (parseMethodDescriptor y_Mo_wordOf.desc).map (fun d => d.parameters.length) = some 3 := by decide +kernel
def w_Mo_masked : List Cond := Cond.code y_Mo_masked prog_4_method_8_code 4 (some .int) :: TB
def rm_Mo_masked : Room := { frames := 1, cells := 0, slots := 0, locals := 21 }
theorem d_Mo_masked_0 : decode prog_4_method_8_code 0 = .ok (.iload_n 1, 1) := by decide +kernel
theorem d_Mo_masked_1 : decode prog_4_method_8_code 1 = .ok (.istore_n 3, 1) := by decide +kernel
theorem d_Mo_masked_2 : decode prog_4_method_8_code 2 = .ok (.aload_n 0, 1) := by decide +kernel
theorem d_Mo_masked_3 : decode prog_4_method_8_code 3 = .ok (.getfield 22, 3) := by decide +kernel
theorem d_Mo_masked_6 : decode prog_4_method_8_code 6 = .ok (.ifCond .ne 12, 3) := by decide +kernel
theorem d_Mo_masked_9 : decode prog_4_method_8_code 9 = .ok (.iload_n 3, 1) := by decide +kernel
theorem d_Mo_masked_10 : decode prog_4_method_8_code 10 = .ok (.aload_n 2, 1) := by decide +kernel
theorem d_Mo_masked_11 : decode prog_4_method_8_code 11 = .ok (.bipush 20, 2) := by decide +kernel
theorem d_Mo_masked_13 : decode prog_4_method_8_code 13 = .ok (.invokevirtual 46, 3) := by decide +kernel
theorem d_Mo_masked_16 : decode prog_4_method_8_code 16 = .ok (.iand, 1) := by decide +kernel
theorem d_Mo_masked_17 : decode prog_4_method_8_code 17 = .ok (.istore_n 3, 1) := by decide +kernel
theorem d_Mo_masked_18 : decode prog_4_method_8_code 18 = .ok (.aload_n 0, 1) := by decide +kernel
theorem d_Mo_masked_19 : decode prog_4_method_8_code 19 = .ok (.getfield 22, 3) := by decide +kernel
theorem d_Mo_masked_22 : decode prog_4_method_8_code 22 = .ok (.aload_n 0, 1) := by decide +kernel
theorem d_Mo_masked_23 : decode prog_4_method_8_code 23 = .ok (.getfield 15, 3) := by decide +kernel
theorem d_Mo_masked_26 : decode prog_4_method_8_code 26 = .ok (.iconst 1, 1) := by decide +kernel
theorem d_Mo_masked_27 : decode prog_4_method_8_code 27 = .ok (.isub, 1) := by decide +kernel
theorem d_Mo_masked_28 : decode prog_4_method_8_code 28 = .ok (.if_icmp .ne 12, 3) := by decide +kernel
theorem d_Mo_masked_31 : decode prog_4_method_8_code 31 = .ok (.iload_n 3, 1) := by decide +kernel
theorem d_Mo_masked_32 : decode prog_4_method_8_code 32 = .ok (.aload_n 2, 1) := by decide +kernel
theorem d_Mo_masked_33 : decode prog_4_method_8_code 33 = .ok (.bipush 21, 2) := by decide +kernel
theorem d_Mo_masked_35 : decode prog_4_method_8_code 35 = .ok (.invokevirtual 46, 3) := by decide +kernel
theorem d_Mo_masked_38 : decode prog_4_method_8_code 38 = .ok (.iand, 1) := by decide +kernel
theorem d_Mo_masked_39 : decode prog_4_method_8_code 39 = .ok (.istore_n 3, 1) := by decide +kernel
theorem d_Mo_masked_40 : decode prog_4_method_8_code 40 = .ok (.iload_n 3, 1) := by decide +kernel
theorem d_Mo_masked_41 : decode prog_4_method_8_code 41 = .ok (.ireturn, 1) := by decide +kernel
theorem yd_Mo_masked : y_Mo_masked.cls ≠ "java/lang/invoke/MethodHandle" ∧ y_Mo_masked.cls ≠ "java/lang/invoke/VarHandle" ∧ (parseMethodDescriptor y_Mo_masked.desc).map (fun d => d.parameters.length) = some 2 := by decide +kernel
def w_Mo_shifted : List Cond := Cond.code y_Mo_shifted prog_4_method_9_code 3 (some .int) :: TB
def rm_Mo_shifted : Room := { frames := 0, cells := 0, slots := 0, locals := 0 }
theorem d_Mo_shifted_0 : decode prog_4_method_9_code 0 = .ok (.iload_n 0, 1) := by decide +kernel
theorem d_Mo_shifted_1 : decode prog_4_method_9_code 1 = .ok (.bipush 16, 2) := by decide +kernel
theorem d_Mo_shifted_3 : decode prog_4_method_9_code 3 = .ok (.ishl, 1) := by decide +kernel
theorem d_Mo_shifted_4 : decode prog_4_method_9_code 4 = .ok (.iload_n 1, 1) := by decide +kernel
theorem d_Mo_shifted_5 : decode prog_4_method_9_code 5 = .ok (.ior, 1) := by decide +kernel
theorem d_Mo_shifted_6 : decode prog_4_method_9_code 6 = .ok (.iload_n 2, 1) := by decide +kernel
theorem d_Mo_shifted_7 : decode prog_4_method_9_code 7 = .ok (.iushr, 1) := by decide +kernel
theorem d_Mo_shifted_8 : decode prog_4_method_9_code 8 = .ok (.ldc 91, 2) := by decide +kernel
theorem d_Mo_shifted_10 : decode prog_4_method_9_code 10 = .ok (.iand, 1) := by decide +kernel
theorem d_Mo_shifted_11 : decode prog_4_method_9_code 11 = .ok (.ireturn, 1) := by decide +kernel
theorem yd_Mo_shifted : y_Mo_shifted.cls ≠ "java/lang/invoke/MethodHandle" ∧ y_Mo_shifted.cls ≠ "java/lang/invoke/VarHandle" ∧ (parseMethodDescriptor y_Mo_shifted.desc).map (fun d => d.parameters.length) = some 3 := by decide +kernel
def w_Mo_combined : List Cond := Cond.code y_Mo_combined prog_4_method_10_code 7 (some .int) :: TB
def rm_Mo_combined : Room := { frames := 0, cells := 0, slots := 0, locals := 0 }
theorem d_Mo_combined_0 : decode prog_4_method_10_code 0 = .ok (.iconst 0, 1) := by decide +kernel
theorem d_Mo_combined_1 : decode prog_4_method_10_code 1 = .ok (.istore 4, 2) := by decide +kernel
theorem d_Mo_combined_3 : decode prog_4_method_10_code 3 = .ok (.iconst 0, 1) := by decide +kernel
theorem d_Mo_combined_4 : decode prog_4_method_10_code 4 = .ok (.istore 5, 2) := by decide +kernel
theorem d_Mo_combined_6 : decode prog_4_method_10_code 6 = .ok (.iload 5, 2) := by decide +kernel
theorem d_Mo_combined_8 : decode prog_4_method_10_code 8 = .ok (.bipush 16, 2) := by decide +kernel
theorem d_Mo_combined_10 : decode prog_4_method_10_code 10 = .ok (.if_icmp .ge 49, 3) := by decide +kernel
theorem d_Mo_combined_13 : decode prog_4_method_10_code 13 = .ok (.iconst 4, 1) := by decide +kernel
theorem d_Mo_combined_14 : decode prog_4_method_10_code 14 = .ok (.iload_n 1, 1) := by decide +kernel
theorem d_Mo_combined_15 : decode prog_4_method_10_code 15 = .ok (.iload 5, 2) := by decide +kernel
theorem d_Mo_combined_17 : decode prog_4_method_10_code 17 = .ok (.ishr, 1) := by decide +kernel
theorem d_Mo_combined_18 : decode prog_4_method_10_code 18 = .ok (.iconst 1, 1) := by decide +kernel
theorem d_Mo_combined_19 : decode prog_4_method_10_code 19 = .ok (.iand, 1) := by decide +kernel
theorem d_Mo_combined_20 : decode prog_4_method_10_code 20 = .ok (.imul, 1) := by decide +kernel
theorem d_Mo_combined_21 : decode prog_4_method_10_code 21 = .ok (.iconst 2, 1) := by decide +kernel
theorem d_Mo_combined_22 : decode prog_4_method_10_code 22 = .ok (.iload_n 2, 1) := by decide +kernel
theorem d_Mo_combined_23 : decode prog_4_method_10_code 23 = .ok (.iload 5, 2) := by decide +kernel
theorem d_Mo_combined_25 : decode prog_4_method_10_code 25 = .ok (.ishr, 1) := by decide +kernel
theorem d_Mo_combined_26 : decode prog_4_method_10_code 26 = .ok (.iconst 1, 1) := by decide +kernel
theorem d_Mo_combined_27 : decode prog_4_method_10_code 27 = .ok (.iand, 1) := by decide +kernel
theorem d_Mo_combined_28 : decode prog_4_method_10_code 28 = .ok (.imul, 1) := by decide +kernel
theorem d_Mo_combined_29 : decode prog_4_method_10_code 29 = .ok (.iadd, 1) := by decide +kernel
theorem d_Mo_combined_30 : decode prog_4_method_10_code 30 = .ok (.iload_n 3, 1) := by decide +kernel
theorem d_Mo_combined_31 : decode prog_4_method_10_code 31 = .ok (.iload 5, 2) := by decide +kernel
theorem d_Mo_combined_33 : decode prog_4_method_10_code 33 = .ok (.ishr, 1) := by decide +kernel
theorem d_Mo_combined_34 : decode prog_4_method_10_code 34 = .ok (.iconst 1, 1) := by decide +kernel
theorem d_Mo_combined_35 : decode prog_4_method_10_code 35 = .ok (.iand, 1) := by decide +kernel
theorem d_Mo_combined_36 : decode prog_4_method_10_code 36 = .ok (.iadd, 1) := by decide +kernel
theorem d_Mo_combined_37 : decode prog_4_method_10_code 37 = .ok (.istore 6, 2) := by decide +kernel
theorem d_Mo_combined_39 : decode prog_4_method_10_code 39 = .ok (.iload 4, 2) := by decide +kernel
theorem d_Mo_combined_41 : decode prog_4_method_10_code 41 = .ok (.iload_n 0, 1) := by decide +kernel
theorem d_Mo_combined_42 : decode prog_4_method_10_code 42 = .ok (.iload 6, 2) := by decide +kernel
theorem d_Mo_combined_44 : decode prog_4_method_10_code 44 = .ok (.ishr, 1) := by decide +kernel
theorem d_Mo_combined_45 : decode prog_4_method_10_code 45 = .ok (.iconst 1, 1) := by decide +kernel
theorem d_Mo_combined_46 : decode prog_4_method_10_code 46 = .ok (.iand, 1) := by decide +kernel
theorem d_Mo_combined_47 : decode prog_4_method_10_code 47 = .ok (.iload 5, 2) := by decide +kernel
theorem d_Mo_combined_49 : decode prog_4_method_10_code 49 = .ok (.ishl, 1) := by decide +kernel
theorem d_Mo_combined_50 : decode prog_4_method_10_code 50 = .ok (.ior, 1) := by decide +kernel
theorem d_Mo_combined_51 : decode prog_4_method_10_code 51 = .ok (.istore 4, 2) := by decide +kernel
theorem d_Mo_combined_53 : decode prog_4_method_10_code 53 = .ok (.iinc 5 1, 3) := by decide +kernel
theorem d_Mo_combined_56 : decode prog_4_method_10_code 56 = .ok (.goto (-50), 3) := by decide +kernel
theorem d_Mo_combined_59 : decode prog_4_method_10_code 59 = .ok (.iload 4, 2) := by decide +kernel
theorem d_Mo_combined_61 : decode prog_4_method_10_code 61 = .ok (.ireturn, 1) := by decide +kernel
theorem yd_Mo_combined : y_Mo_combined.cls ≠ "java/lang/invoke/MethodHandle" ∧ y_Mo_combined.cls ≠ "java/lang/invoke/VarHandle" ∧ (parseMethodDescriptor y_Mo_combined.desc).map (fun d => d.parameters.length) = some 4 := by decide +kernel
def w_Mo_addModulos : List Cond := Cond.code y_Mo_addModulos prog_4_method_12_code 3 none :: TB
def rm_Mo_addModulos : Room := { frames := 1, cells := 0, slots := 0, locals := 22 }
theorem d_Mo_addModulos_0 : decode prog_4_method_12_code 0 = .ok (.iconst 0, 1) := by decide +kernel
theorem d_Mo_addModulos_1 : decode prog_4_method_12_code 1 = .ok (.istore_n 2, 1) := by decide +kernel
theorem d_Mo_addModulos_2 : decode prog_4_method_12_code 2 = .ok (.iload_n 2, 1) := by decide +kernel
theorem d_Mo_addModulos_3 : decode prog_4_method_12_code 3 = .ok (.iconst 4, 1) := by decide +kernel
theorem d_Mo_addModulos_4 : decode prog_4_method_12_code 4 = .ok (.if_icmp .ge 33, 3) := by decide +kernel
theorem d_Mo_addModulos_7 : decode prog_4_method_12_code 7 = .ok (.iload_n 0, 1) := by decide +kernel
theorem d_Mo_addModulos_8 : decode prog_4_method_12_code 8 = .ok (.iload_n 2, 1) := by decide +kernel
theorem d_Mo_addModulos_9 : decode prog_4_method_12_code 9 = .ok (.invokestatic 72, 3) := by decide +kernel
theorem d_Mo_addModulos_12 : decode prog_4_method_12_code 12 = .ok (.ifCond .eq 19, 3) := by decide +kernel
theorem d_Mo_addModulos_15 : decode prog_4_method_12_code 15 = .ok (.aload_n 1, 1) := by decide +kernel
theorem d_Mo_addModulos_16 : decode prog_4_method_12_code 16 = .ok (.bipush 12, 2) := by decide +kernel
theorem d_Mo_addModulos_18 : decode prog_4_method_12_code 18 = .ok (.iload_n 2, 1) := by decide +kernel
theorem d_Mo_addModulos_19 : decode prog_4_method_12_code 19 = .ok (.iadd, 1) := by decide +kernel
theorem d_Mo_addModulos_20 : decode prog_4_method_12_code 20 = .ok (.aload_n 1, 1) := by decide +kernel
theorem d_Mo_addModulos_21 : decode prog_4_method_12_code 21 = .ok (.bipush 16, 2) := by decide +kernel
theorem d_Mo_addModulos_23 : decode prog_4_method_12_code 23 = .ok (.iload_n 2, 1) := by decide +kernel
theorem d_Mo_addModulos_24 : decode prog_4_method_12_code 24 = .ok (.iadd, 1) := by decide +kernel
theorem d_Mo_addModulos_25 : decode prog_4_method_12_code 25 = .ok (.invokevirtual 46, 3) := by decide +kernel
theorem d_Mo_addModulos_28 : decode prog_4_method_12_code 28 = .ok (.invokevirtual 57, 3) := by decide +kernel
theorem d_Mo_addModulos_31 : decode prog_4_method_12_code 31 = .ok (.iinc 2 1, 3) := by decide +kernel
theorem d_Mo_addModulos_34 : decode prog_4_method_12_code 34 = .ok (.goto (-32), 3) := by decide +kernel
theorem d_Mo_addModulos_37 : decode prog_4_method_12_code 37 = .ok (.return_, 1) := by decide +kernel
theorem yd_Mo_addModulos : y_Mo_addModulos.cls ≠ "java/lang/invoke/MethodHandle" ∧ y_Mo_addModulos.cls ≠ "java/lang/invoke/VarHandle" ∧ (parseMethodDescriptor y_Mo_addModulos.desc).map (fun d => d.parameters.length) = some 2 := by decide +kernel
def w_Mo_goOn : List Cond := Cond.code y_Mo_goOn prog_4_method_11_code 3 none :: TB
def rm_Mo_goOn : Room := { frames := 2, cells := 0, slots := 0, locals := 44 }
theorem d_Mo_goOn_0 : decode prog_4_method_11_code 0 = .ok (.aload_n 0, 1) := by decide +kernel
theorem d_Mo_goOn_1 : decode prog_4_method_11_code 1 = .ok (.iconst 0, 1) := by decide +kernel
theorem d_Mo_goOn_2 : decode prog_4_method_11_code 2 = .ok (.putfield 28, 3) := by decide +kernel
theorem d_Mo_goOn_5 : decode prog_4_method_11_code 5 = .ok (.aload_n 0, 1) := by decide +kernel
theorem d_Mo_goOn_6 : decode prog_4_method_11_code 6 = .ok (.dup, 1) := by decide +kernel
theorem d_Mo_goOn_7 : decode prog_4_method_11_code 7 = .ok (.getfield 22, 3) := by decide +kernel
theorem d_Mo_goOn_10 : decode prog_4_method_11_code 10 = .ok (.iconst 1, 1) := by decide +kernel
theorem d_Mo_goOn_11 : decode prog_4_method_11_code 11 = .ok (.iadd, 1) := by decide +kernel
theorem d_Mo_goOn_12 : decode prog_4_method_11_code 12 = .ok (.putfield 22, 3) := by decide +kernel
theorem d_Mo_goOn_15 : decode prog_4_method_11_code 15 = .ok (.aload_n 0, 1) := by decide +kernel
theorem d_Mo_goOn_16 : decode prog_4_method_11_code 16 = .ok (.getfield 22, 3) := by decide +kernel
theorem d_Mo_goOn_19 : decode prog_4_method_11_code 19 = .ok (.aload_n 0, 1) := by decide +kernel
theorem d_Mo_goOn_20 : decode prog_4_method_11_code 20 = .ok (.getfield 15, 3) := by decide +kernel
theorem d_Mo_goOn_23 : decode prog_4_method_11_code 23 = .ok (.if_icmp .ge 4, 3) := by decide +kernel
theorem d_Mo_goOn_26 : decode prog_4_method_11_code 26 = .ok (.return_, 1) := by decide +kernel
theorem d_Mo_goOn_27 : decode prog_4_method_11_code 27 = .ok (.aload_n 0, 1) := by decide +kernel
theorem d_Mo_goOn_28 : decode prog_4_method_11_code 28 = .ok (.iconst 0, 1) := by decide +kernel
theorem d_Mo_goOn_29 : decode prog_4_method_11_code 29 = .ok (.putfield 22, 3) := by decide +kernel
theorem d_Mo_goOn_32 : decode prog_4_method_11_code 32 = .ok (.iload_n 1, 1) := by decide +kernel
theorem d_Mo_goOn_33 : decode prog_4_method_11_code 33 = .ok (.aload_n 2, 1) := by decide +kernel
theorem d_Mo_goOn_34 : decode prog_4_method_11_code 34 = .ok (.invokestatic 92, 3) := by decide +kernel
theorem d_Mo_goOn_37 : decode prog_4_method_11_code 37 = .ok (.aload_n 0, 1) := by decide +kernel
theorem d_Mo_goOn_38 : decode prog_4_method_11_code 38 = .ok (.dup, 1) := by decide +kernel
theorem d_Mo_goOn_39 : decode prog_4_method_11_code 39 = .ok (.getfield 25, 3) := by decide +kernel
theorem d_Mo_goOn_42 : decode prog_4_method_11_code 42 = .ok (.iconst 1, 1) := by decide +kernel
theorem d_Mo_goOn_43 : decode prog_4_method_11_code 43 = .ok (.iadd, 1) := by decide +kernel
theorem d_Mo_goOn_44 : decode prog_4_method_11_code 44 = .ok (.putfield 25, 3) := by decide +kernel
theorem d_Mo_goOn_47 : decode prog_4_method_11_code 47 = .ok (.aload_n 0, 1) := by decide +kernel
theorem d_Mo_goOn_48 : decode prog_4_method_11_code 48 = .ok (.getfield 25, 3) := by decide +kernel
theorem d_Mo_goOn_51 : decode prog_4_method_11_code 51 = .ok (.aload_n 0, 1) := by decide +kernel
theorem d_Mo_goOn_52 : decode prog_4_method_11_code 52 = .ok (.getfield 19, 3) := by decide +kernel
theorem d_Mo_goOn_55 : decode prog_4_method_11_code 55 = .ok (.if_icmp .ne 13, 3) := by decide +kernel
theorem d_Mo_goOn_58 : decode prog_4_method_11_code 58 = .ok (.aload_n 0, 1) := by decide +kernel
theorem d_Mo_goOn_59 : decode prog_4_method_11_code 59 = .ok (.iconst 0, 1) := by decide +kernel
theorem d_Mo_goOn_60 : decode prog_4_method_11_code 60 = .ok (.putfield 41, 3) := by decide +kernel
theorem d_Mo_goOn_63 : decode prog_4_method_11_code 63 = .ok (.aload_n 2, 1) := by decide +kernel
theorem d_Mo_goOn_64 : decode prog_4_method_11_code 64 = .ok (.iconst 1, 1) := by decide +kernel
theorem d_Mo_goOn_65 : decode prog_4_method_11_code 65 = .ok (.invokevirtual 95, 3) := by decide +kernel
theorem d_Mo_goOn_68 : decode prog_4_method_11_code 68 = .ok (.return_, 1) := by decide +kernel
theorem yd_Mo_goOn : y_Mo_goOn.cls ≠ "java/lang/invoke/MethodHandle" ∧ y_Mo_goOn.cls ≠ "java/lang/invoke/VarHandle" ∧ (parseMethodDescriptor y_Mo_goOn.desc).map (fun d => d.parameters.length) = some 2 := by decide +kernel
theorem tb_cd_Mo_begin : Cond.code y_Mo_begin prog_4_method_2_code 2 none ∈ TB := tb_in 326 (by decide +kernel) (by decide +kernel)
theorem tb_in_Mo : Cond.initialized "SlotBoard$Mover" ∈ TB := tb_in 6 (by decide +kernel) (by decide +kernel)
theorem tb_im_Mo_begin : Cond.instanceMethod y_Mo_begin ∈ TB := tb_in 324 (by decide +kernel) (by decide +kernel)
theorem tb_se_Mo_begin : Cond.selects "SlotBoard$Mover" y_Mo_begin y_Mo_begin ∈ TB := tb_in 325 (by decide +kernel) (by decide +kernel)
theorem tb_fl_Mo_15 : Cond.fieldLink "SlotBoard$Mover" 15 "SlotBoard$Mover" "width" "I" ∈ TB := tb_in 100 (by decide +kernel) (by decide +kernel)
theorem tb_fl_Mo_19 : Cond.fieldLink "SlotBoard$Mover" 19 "SlotBoard$Mover" "height" "I" ∈ TB := tb_in 101 (by decide +kernel) (by decide +kernel)
theorem tb_fl_Mo_22 : Cond.fieldLink "SlotBoard$Mover" 22 "SlotBoard$Mover" "column" "I" ∈ TB := tb_in 102 (by decide +kernel) (by decide +kernel)
theorem tb_fl_Mo_25 : Cond.fieldLink "SlotBoard$Mover" 25 "SlotBoard$Mover" "row" "I" ∈ TB := tb_in 103 (by decide +kernel) (by decide +kernel)
theorem tb_fl_Mo_28 : Cond.fieldLink "SlotBoard$Mover" 28 "SlotBoard$Mover" "nextChannel" "I" ∈ TB := tb_in 104 (by decide +kernel) (by decide +kernel)
theorem tb_fl_Mo_31 : Cond.fieldLink "SlotBoard$Mover" 31 "SlotBoard$Mover" "beforeA" "I" ∈ TB := tb_in 105 (by decide +kernel) (by decide +kernel)
theorem tb_fl_Mo_34 : Cond.fieldLink "SlotBoard$Mover" 34 "SlotBoard$Mover" "beforeB" "I" ∈ TB := tb_in 106 (by decide +kernel) (by decide +kernel)
theorem tb_fl_Mo_37 : Cond.fieldLink "SlotBoard$Mover" 37 "SlotBoard$Mover" "zero" "Z" ∈ TB := tb_in 98 (by decide +kernel) (by decide +kernel)
theorem tb_fl_Mo_41 : Cond.fieldLink "SlotBoard$Mover" 41 "SlotBoard$Mover" "busy" "Z" ∈ TB := tb_in 96 (by decide +kernel) (by decide +kernel)
theorem tb_cd_Mo_isUsed : Cond.code y_Mo_isUsed prog_4_method_5_code 2 (some .boolean) ∈ TB := tb_in 352 (by decide +kernel) (by decide +kernel)
theorem tb_st_Mo_isUsed : Cond.static y_Mo_isUsed ∈ TB := tb_in 351 (by decide +kernel) (by decide +kernel)
theorem tb_cd_Mo_usedFrom : Cond.code y_Mo_usedFrom prog_4_method_4_code 3 (some .int) ∈ TB := tb_in 349 (by decide +kernel) (by decide +kernel)
theorem tb_st_Mo_usedFrom : Cond.static y_Mo_usedFrom ∈ TB := tb_in 348 (by decide +kernel) (by decide +kernel)
theorem tb_ml_Mo_72 : Cond.methodLink "SlotBoard$Mover" 72 y_Mo_isUsed ∈ TB := tb_in 350 (by decide +kernel) (by decide +kernel)
theorem tb_cd_Mo_wordOf : Cond.code y_Mo_wordOf prog_4_method_7_code 4 (some .int) ∈ TB := tb_in 365 (by decide +kernel) (by decide +kernel)
theorem tb_im_Mo_wordOf : Cond.instanceMethod y_Mo_wordOf ∈ TB := tb_in 364 (by decide +kernel) (by decide +kernel)
theorem tb_se_Mo_wordOf : Cond.selects "SlotBoard$Mover" y_Mo_wordOf y_Mo_wordOf ∈ TB := tb_inS 11 (by decide +kernel) (by decide +kernel)
theorem tb_ml_Mo_46 : Cond.methodLink "SlotBoard$Mover" 46 y_Re_at ∈ TB := tb_in 346 (by decide +kernel) (by decide +kernel)
theorem tb_fl_Mo_11 : Cond.fieldLink "SlotBoard$Mover" 11 "SlotBoard$Mover" "fetched" "[I" ∈ TB := tb_in 95 (by decide +kernel) (by decide +kernel)
theorem tb_cd_Mo_masked : Cond.code y_Mo_masked prog_4_method_8_code 4 (some .int) ∈ TB := tb_in 369 (by decide +kernel) (by decide +kernel)
theorem tb_im_Mo_masked : Cond.instanceMethod y_Mo_masked ∈ TB := tb_in 368 (by decide +kernel) (by decide +kernel)
theorem tb_se_Mo_masked : Cond.selects "SlotBoard$Mover" y_Mo_masked y_Mo_masked ∈ TB := tb_inS 12 (by decide +kernel) (by decide +kernel)
theorem tb_cd_Mo_shifted : Cond.code y_Mo_shifted prog_4_method_9_code 3 (some .int) ∈ TB := tb_in 372 (by decide +kernel) (by decide +kernel)
theorem tb_st_Mo_shifted : Cond.static y_Mo_shifted ∈ TB := tb_in 371 (by decide +kernel) (by decide +kernel)
theorem tb_ct_Mo_91 : Cond.constant "SlotBoard$Mover" 91 (65535) ∈ TB := tb_in 373 (by decide +kernel) (by decide +kernel)
theorem tb_cd_Mo_combined : Cond.code y_Mo_combined prog_4_method_10_code 7 (some .int) ∈ TB := tb_in 376 (by decide +kernel) (by decide +kernel)
theorem tb_st_Mo_combined : Cond.static y_Mo_combined ∈ TB := tb_in 375 (by decide +kernel) (by decide +kernel)
theorem tb_cd_Mo_addModulos : Cond.code y_Mo_addModulos prog_4_method_12_code 3 none ∈ TB := tb_in 384 (by decide +kernel) (by decide +kernel)
theorem tb_st_Mo_addModulos : Cond.static y_Mo_addModulos ∈ TB := tb_in 383 (by decide +kernel) (by decide +kernel)
theorem tb_ml_Mo_57 : Cond.methodLink "SlotBoard$Mover" 57 y_Re_grow ∈ TB := tb_in 354 (by decide +kernel) (by decide +kernel)
theorem tb_cd_Mo_goOn : Cond.code y_Mo_goOn prog_4_method_11_code 3 none ∈ TB := tb_in 381 (by decide +kernel) (by decide +kernel)
theorem tb_im_Mo_goOn : Cond.instanceMethod y_Mo_goOn ∈ TB := tb_in 380 (by decide +kernel) (by decide +kernel)
theorem tb_se_Mo_goOn : Cond.selects "SlotBoard$Mover" y_Mo_goOn y_Mo_goOn ∈ TB := tb_inS 13 (by decide +kernel) (by decide +kernel)
theorem tb_ml_Mo_92 : Cond.methodLink "SlotBoard$Mover" 92 y_Mo_addModulos ∈ TB := tb_in 382 (by decide +kernel) (by decide +kernel)
theorem tb_ml_Mo_95 : Cond.methodLink "SlotBoard$Mover" 95 y_Re_request ∈ TB := tb_in 385 (by decide +kernel) (by decide +kernel)
def f_Mo_begin_41 (S : SS) (M : MM) (x1 : Int32) (y1 : Int32) : Option RR := some (0, (upd (upd (upd (upd (upd (upd (upd (upd S 12 y1) 13 (0 : Int32)) 14 (0 : Int32)) 15 (0 : Int32)) 16 (0 : Int32)) 17 (0 : Int32)) 10 (1 : Int32)) 9 (1 : Int32)), M)
def f_Mo_begin_17 (S : SS) (M : MM) (x1 : Int32) (y1 : Int32) : Option RR := if (x1 >>> ((4 : Int32) &&& 31)) &&& (15 : Int32) = 0 then f_Mo_begin_41 (upd S 11 y1) M x1 (16 : Int32) else f_Mo_begin_41 (upd S 11 y1) M x1 ((x1 >>> ((4 : Int32) &&& 31)) &&& (15 : Int32))
def f_Mo_begin (S : SS) (M : MM) (x1 : Int32) : Option RR := if x1 &&& (7 : Int32) = 0 then f_Mo_begin_17 S M x1 (8 : Int32) else f_Mo_begin_17 S M x1 (x1 &&& (7 : Int32))
set_option maxHeartbeats 4000000 in
set_option maxRecDepth 100000 in
theorem c_Mo_begin (l : Launch) (D : va_G) (cA : ClassId) (a : Nat → Nat) (S : SS) (M : MM) (x1 : Int32) (q : RR) (h0 : f_Mo_begin S M x1 = some q) : Cv l y_Mo_begin w_Mo_begin rm_Mo_begin D vCl [(cA, .int)] (AB a) (ZB a) (wB cA a) [.ref (a 5), .int x1] S M q := by
  refine Cv.of (cc := prog_4_method_2_code) (maxL := 2) (by decide) rfl (Nat.le_of_ble_eq_true rfl) ?_
  intro p e s m args below meth c Q hx hb hml hown hts hK hZ ret
  have hown : s.vm.findClass R_Mo = some m.cls := hown
  have hts : ∀ w ∈ TB, w.before args s = true := fun w h => hts w (List.mem_cons_of_mem _ h)
  have hZK := ZB_k a
  have k15 := hts _ tb_fl_Mo_15
  have k19 := hts _ tb_fl_Mo_19
  have k22 := hts _ tb_fl_Mo_22
  have k25 := hts _ tb_fl_Mo_25
  have k28 := hts _ tb_fl_Mo_28
  have k31 := hts _ tb_fl_Mo_31
  have k34 := hts _ tb_fl_Mo_34
  have k37 := hts _ tb_fl_Mo_37
  have k41 := hts _ tb_fl_Mo_41
  have b41 : ∀ (S : SS) (M : MM) (x1 : Int32) (y1 : Int32), f_Mo_begin_41 S M x1 y1 = some q → BK p l e rm_Mo_begin s m args below meth c Q D vCl (AB a) (wB cA a) 2 41 [(0, .ref (a 5)), (1, .int x1)] [.int y1, .ref (a 5)] S M := by
    intro S M x1 y1 h H locs ls hl hP hD hS
    unfold f_Mo_begin_41 at h
    refine puwB_12 (D := D) (x := y1) hx hb hts iMo hown hK hP hD hS k19 rfl rfl d_Mo_begin_41 (fun H locs hP hD hS => ?_)
    refine lv_aload_n hx hb d_Mo_begin_44 rfl (lv_at hl 0 rfl) ?_
    refine lv_iconst (v := (0 : Int32)) hx hb d_Mo_begin_45 (by decide) ?_
    refine puwB_13 (D := D) (x := (0 : Int32)) hx hb hts iMo hown hK hP hD hS k22 rfl rfl d_Mo_begin_46 (fun H locs hP hD hS => ?_)
    refine lv_aload_n hx hb d_Mo_begin_49 rfl (lv_at hl 0 rfl) ?_
    refine lv_iconst (v := (0 : Int32)) hx hb d_Mo_begin_50 (by decide) ?_
    refine puwB_14 (D := D) (x := (0 : Int32)) hx hb hts iMo hown hK hP hD hS k25 rfl rfl d_Mo_begin_51 (fun H locs hP hD hS => ?_)
    refine lv_aload_n hx hb d_Mo_begin_54 rfl (lv_at hl 0 rfl) ?_
    refine lv_iconst (v := (0 : Int32)) hx hb d_Mo_begin_55 (by decide) ?_
    refine puwB_15 (D := D) (x := (0 : Int32)) hx hb hts iMo hown hK hP hD hS k28 rfl rfl d_Mo_begin_56 (fun H locs hP hD hS => ?_)
    refine lv_aload_n hx hb d_Mo_begin_59 rfl (lv_at hl 0 rfl) ?_
    refine lv_iconst (v := (0 : Int32)) hx hb d_Mo_begin_60 (by decide) ?_
    refine puwB_16 (D := D) (x := (0 : Int32)) hx hb hts iMo hown hK hP hD hS k31 rfl rfl d_Mo_begin_61 (fun H locs hP hD hS => ?_)
    refine lv_aload_n hx hb d_Mo_begin_64 rfl (lv_at hl 0 rfl) ?_
    refine lv_iconst (v := (0 : Int32)) hx hb d_Mo_begin_65 (by decide) ?_
    refine puwB_17 (D := D) (x := (0 : Int32)) hx hb hts iMo hown hK hP hD hS k34 rfl rfl d_Mo_begin_66 (fun H locs hP hD hS => ?_)
    refine lv_aload_n hx hb d_Mo_begin_69 rfl (lv_at hl 0 rfl) ?_
    refine lv_iconst (v := (1 : Int32)) hx hb d_Mo_begin_70 (by decide) ?_
    refine puwB_10 (D := D) (x := (1 : Int32)) hx hb hts iMo hown hK hP hD hS k37 (by decide +kernel) (by decide +kernel) d_Mo_begin_71 (fun H locs hP hD hS => ?_)
    refine lv_aload_n hx hb d_Mo_begin_74 rfl (lv_at hl 0 rfl) ?_
    refine lv_iconst (v := (1 : Int32)) hx hb d_Mo_begin_75 (by decide) ?_
    refine puwB_9 (D := D) (x := (1 : Int32)) hx hb hts iMo hown hK hP hD hS k41 (by decide +kernel) (by decide +kernel) d_Mo_begin_76 (fun H locs hP hD hS => ?_)
    exact ret _ _ _ _ _ _ _ h hP hD hS d_Mo_begin_79
  have b17 : ∀ (S : SS) (M : MM) (x1 : Int32) (y1 : Int32), f_Mo_begin_17 S M x1 y1 = some q → BK p l e rm_Mo_begin s m args below meth c Q D vCl (AB a) (wB cA a) 2 17 [(0, .ref (a 5)), (1, .int x1)] [.int y1, .ref (a 5)] S M := by
    intro S M x1 y1 h H locs ls hl hP hD hS
    unfold f_Mo_begin_17 at h
    refine puwB_11 (D := D) (x := y1) hx hb hts iMo hown hK hP hD hS k15 rfl rfl d_Mo_begin_17 (fun H locs hP hD hS => ?_)
    refine lv_aload_n hx hb d_Mo_begin_20 rfl (lv_at hl 0 rfl) ?_
    refine lv_iload_n hx hb d_Mo_begin_21 rfl (lv_at hl 1 rfl) ?_
    refine lv_iconst (v := (4 : Int32)) hx hb d_Mo_begin_22 (by decide) ?_
    refine lv_ishr hx hb d_Mo_begin_23 ?_
    refine lv_bipush (v := (15 : Int32)) hx hb d_Mo_begin_24 (by decide) ?_
    refine lv_iand hx hb d_Mo_begin_26 ?_
    refine lv_if_ne (tgt := 35) hx hb d_Mo_begin_27 (by decide) (fun hc => ?_) (fun hc => ?_)
    · have h := sg_n hc h
      refine lv_iload_n hx hb d_Mo_begin_35 rfl (lv_at hl 1 rfl) ?_
      refine lv_iconst (v := (4 : Int32)) hx hb d_Mo_begin_36 (by decide) ?_
      refine lv_ishr hx hb d_Mo_begin_37 ?_
      refine lv_bipush (v := (15 : Int32)) hx hb d_Mo_begin_38 (by decide) ?_
      refine lv_iand hx hb d_Mo_begin_40 ?_
      exact b41 _ _ _ _ h _ _ _ (lv_sub hl [0, 1] rfl) hP hD hS
    · have h := sg_p hc h
      refine lv_bipush (v := (16 : Int32)) hx hb d_Mo_begin_30 (by decide) ?_
      refine lv_goto (tgt := 41) hx hb d_Mo_begin_32 (by decide) ?_
      exact b41 _ _ _ _ h _ _ _ (lv_sub hl [0, 1] rfl) hP hD hS
  intro H locs ls hl hP hD hS
  have hl : lv_has ls 2 [(0, .ref (a 5)), (1, .int x1)] := hl
  have h := h0
  unfold f_Mo_begin at h
  refine lv_aload_n hx hb d_Mo_begin_0 rfl (lv_at hl 0 rfl) ?_
  refine lv_iload_n hx hb d_Mo_begin_1 rfl (lv_at hl 1 rfl) ?_
  refine lv_bipush (v := (7 : Int32)) hx hb d_Mo_begin_2 (by decide) ?_
  refine lv_iand hx hb d_Mo_begin_4 ?_
  refine lv_if_ne (tgt := 13) hx hb d_Mo_begin_5 (by decide) (fun hc => ?_) (fun hc => ?_)
  · have h := sg_n hc h
    refine lv_iload_n hx hb d_Mo_begin_13 rfl (lv_at hl 1 rfl) ?_
    refine lv_bipush (v := (7 : Int32)) hx hb d_Mo_begin_14 (by decide) ?_
    refine lv_iand hx hb d_Mo_begin_16 ?_
    exact b17 _ _ _ _ h _ _ _ (lv_sub hl [0, 1] rfl) hP hD hS
  · have h := sg_p hc h
    refine lv_bipush (v := (8 : Int32)) hx hb d_Mo_begin_8 (by decide) ?_
    refine lv_goto (tgt := 17) hx hb d_Mo_begin_10 (by decide) ?_
    exact b17 _ _ _ _ h _ _ _ (lv_sub hl [0, 1] rfl) hP hD hS
def f_Mo_isUsed_16 (S : SS) (M : MM) (x0 : Int32) (x1 : Int32) (y0 : Int32) : Option RR := if ¬ (y0 = 0 ∨ y0 = 1) then none else some (y0, S, M)
def f_Mo_isUsed (S : SS) (M : MM) (x0 : Int32) (x1 : Int32) : Option RR := if (x0 >>> (((8 : Int32) + x1) &&& 31)) &&& (1 : Int32) = 0 then f_Mo_isUsed_16 S M x0 x1 (0 : Int32) else f_Mo_isUsed_16 S M x0 x1 (1 : Int32)
set_option maxHeartbeats 4000000 in
set_option maxRecDepth 100000 in
theorem c_Mo_isUsed (l : Launch) (D : va_G) (cA : ClassId) (a : Nat → Nat) (S : SS) (M : MM) (x0 : Int32) (x1 : Int32) (q : RR) (h0 : f_Mo_isUsed S M x0 x1 = some q) : Ci l y_Mo_isUsed w_Mo_isUsed rm_Mo_isUsed D vCl [(cA, .int)] (AB a) (ZB a) (wB cA a) [.int x0, .int x1] S M q := by
  refine Ci.of (cc := prog_4_method_5_code) (maxL := 2) (ty := .boolean) (by decide) rfl (Nat.le_of_ble_eq_true rfl) ?_
  intro p e s m args below meth c Q hx hb hml hown hts hK hZ ret
  have hown : s.vm.findClass R_Mo = some m.cls := hown
  have hts : ∀ w ∈ TB, w.before args s = true := fun w h => hts w (List.mem_cons_of_mem _ h)
  have hZK := ZB_k a
  have b16 : ∀ (S : SS) (M : MM) (x0 : Int32) (x1 : Int32) (y0 : Int32), f_Mo_isUsed_16 S M x0 x1 y0 = some q → BK p l e rm_Mo_isUsed s m args below meth c Q D vCl (AB a) (wB cA a) 2 16 [(0, .int x0), (1, .int x1)] [.int y0] S M := by
    intro S M x0 x1 y0 h H locs ls hl hP hD hS
    unfold f_Mo_isUsed_16 at h
    obtain ⟨hg1, h⟩ := sg_g h
    exact ret _ _ _ _ _ _ _ h (sg_nb hg1).1 hP hD hS d_Mo_isUsed_16
  intro H locs ls hl hP hD hS
  have hl : lv_has ls 2 [(0, .int x0), (1, .int x1)] := hl
  have h := h0
  unfold f_Mo_isUsed at h
  refine lv_iload_n hx hb d_Mo_isUsed_0 rfl (lv_at hl 0 rfl) ?_
  refine lv_bipush (v := (8 : Int32)) hx hb d_Mo_isUsed_1 (by decide) ?_
  refine lv_iload_n hx hb d_Mo_isUsed_3 rfl (lv_at hl 1 rfl) ?_
  refine lv_iadd hx hb d_Mo_isUsed_4 ?_
  refine lv_ishr hx hb d_Mo_isUsed_5 ?_
  refine lv_iconst (v := (1 : Int32)) hx hb d_Mo_isUsed_6 (by decide) ?_
  refine lv_iand hx hb d_Mo_isUsed_7 ?_
  refine lv_if_eq (tgt := 15) hx hb d_Mo_isUsed_8 (by decide) (fun hc => ?_) (fun hc => ?_)
  · have h := sg_p hc h
    refine lv_iconst (v := (0 : Int32)) hx hb d_Mo_isUsed_15 (by decide) ?_
    exact b16 _ _ _ _ _ h _ _ _ (lv_sub hl [0, 1] rfl) hP hD hS
  · have h := sg_n hc h
    refine lv_iconst (v := (1 : Int32)) hx hb d_Mo_isUsed_11 (by decide) ?_
    refine lv_goto (tgt := 16) hx hb d_Mo_isUsed_12 (by decide) ?_
    exact b16 _ _ _ _ _ h _ _ _ (lv_sub hl [0, 1] rfl) hP hD hS
def f_Mo_usedFrom_2_b (rec : SS → MM → Int32 → Int32 → Int32 → Option RR) (S : SS) (M : MM) (x0 : Int32) (x1 : Int32) (x2 : Int32) : Option RR := if (4 : Int32) ≤ x2 then some ((4 : Int32), S, M) else (f_Mo_isUsed S M x0 x2).bind (fun q1 => if q1.1 = 0 then rec q1.2.1 q1.2.2 x0 x1 (x2 + (1 : Int32)) else some (x2, q1.2.1, q1.2.2))
def f_Mo_usedFrom_2 : Nat → SS → MM → Int32 → Int32 → Int32 → Option RR
  | 0 => fun _ _ _ _ _ => none
  | n + 1 => f_Mo_usedFrom_2_b (f_Mo_usedFrom_2 n)
def f_Mo_usedFrom (S : SS) (M : MM) (x0 : Int32) (x1 : Int32) : Option RR := f_Mo_usedFrom_2 6 S M x0 x1 x1
set_option maxHeartbeats 4000000 in
set_option maxRecDepth 100000 in
theorem c_Mo_usedFrom (l : Launch) (D : va_G) (cA : ClassId) (a : Nat → Nat) (S : SS) (M : MM) (x0 : Int32) (x1 : Int32) (q : RR) (h0 : f_Mo_usedFrom S M x0 x1 = some q) : Ci l y_Mo_usedFrom w_Mo_usedFrom rm_Mo_usedFrom D vCl [(cA, .int)] (AB a) (ZB a) (wB cA a) [.int x0, .int x1] S M q := by
  refine Ci.of (cc := prog_4_method_4_code) (maxL := 3) (ty := .int) (by decide) rfl (Nat.le_of_ble_eq_true rfl) ?_
  intro p e s m args below meth c Q hx hb hml hown hts hK hZ ret
  have hown : s.vm.findClass R_Mo = some m.cls := hown
  have hts : ∀ w ∈ TB, w.before args s = true := fun w h => hts w (List.mem_cons_of_mem _ h)
  have hZK := ZB_k a
  have b2 : ∀ (n : Nat) (S : SS) (M : MM) (x0 : Int32) (x1 : Int32) (x2 : Int32), f_Mo_usedFrom_2 n S M x0 x1 x2 = some q → BK p l e rm_Mo_usedFrom s m args below meth c Q D vCl (AB a) (wB cA a) 3 2 [(0, .int x0), (1, .int x1), (2, .int x2)] [] S M := by
   intro n
   induction n with
   | zero => intro S M x0 x1 x2 h; cases h
   | succ n hrec =>
    intro S M x0 x1 x2 h H locs ls hl hP hD hS
    have h : f_Mo_usedFrom_2_b (f_Mo_usedFrom_2 n) S M x0 x1 x2 = some q := h
    unfold f_Mo_usedFrom_2_b at h
    refine lv_iload_n hx hb d_Mo_usedFrom_2 rfl (lv_at hl 2 rfl) ?_
    refine lv_iconst (v := (4 : Int32)) hx hb d_Mo_usedFrom_3 (by decide) ?_
    refine lv_icmp_ge (tgt := 23) hx hb d_Mo_usedFrom_4 (by decide) (fun hc => ?_) (fun hc => ?_)
    · have h := sg_p hc h
      refine lv_iconst (v := (4 : Int32)) hx hb d_Mo_usedFrom_23 (by decide) ?_
      exact ret _ _ _ _ _ _ _ h rfl hP hD hS d_Mo_usedFrom_24
    · have h := sg_n hc h
      refine lv_iload_n hx hb d_Mo_usedFrom_7 rfl (lv_at hl 0 rfl) ?_
      refine lv_iload_n hx hb d_Mo_usedFrom_8 rfl (lv_at hl 2 rfl) ?_
      obtain ⟨⟨r1, S1, M1⟩, hc1, h⟩ := sg_b h
      dsimp only at h
      refine csi (As := [.int x0, .int x2]) (rest := []) ⟨hx, hb, hml, hown, hts⟩ (c_Mo_isUsed l D cA a S M x0 x2 _ hc1) ⟨callB_of 2 hts (tb_gi tb_cd_Mo_isUsed) rfl rfl rfl (hts _ tb_in_Mo) (hts _ tb_ml_Mo_72) yd_Mo_isUsed ⟨Nat.le_of_ble_eq_true rfl, Nat.le_of_ble_eq_true rfl⟩, hts _ tb_st_Mo_isUsed⟩ hZK hK hZ hP hD hS rfl hl.1 rfl (Nat.le_of_ble_eq_true rfl) d_Mo_usedFrom_9 (fun H locs hP hD hS => ?_)
      refine lv_if_eq (tgt := 17) hx hb d_Mo_usedFrom_12 (by decide) (fun hc => ?_) (fun hc => ?_)
      · have h := sg_p hc h
        refine lv_iinc (k := 2) (v := x2 + (1 : Int32)) (lv' := [(2, .int (x2 + (1 : Int32))), (0, .int x0), (1, .int x1)]) hx hb d_Mo_usedFrom_17 hl rfl rfl (by decide) rfl (fun ls hl => ?_)
        refine lv_goto (tgt := 2) hx hb d_Mo_usedFrom_20 (by decide) ?_
        exact hrec _ _ _ _ _ h _ _ _ (lv_sub hl [1, 2, 0] rfl) hP hD hS
      · have h := sg_n hc h
        refine lv_iload_n hx hb d_Mo_usedFrom_15 rfl (lv_at hl 2 rfl) ?_
        exact ret _ _ _ _ _ _ _ h rfl hP hD hS d_Mo_usedFrom_16
  intro H locs ls hl hP hD hS
  have hl : lv_has ls 3 [(0, .int x0), (1, .int x1)] := hl
  have h := h0
  unfold f_Mo_usedFrom at h
  refine lv_iload_n hx hb d_Mo_usedFrom_0 rfl (lv_at hl 1 rfl) ?_
  refine lv_istore_n (lv' := [(2, .int x1), (0, .int x0), (1, .int x1)]) hx hb d_Mo_usedFrom_1 rfl hl (by decide) rfl (fun ls hl => ?_)
  exact b2 6 _ _ _ _ _ h _ _ _ (lv_sub hl [1, 2, 0] rfl) hP hD hS
def f_Mo_wordOf_25 (S : SS) (M : MM) (x1 : Int32) (x2 : Int32) (y0 : Int32) : Option RR := some (y0, S, M)
def f_Mo_wordOf (S : SS) (M : MM) (x1 : Int32) (x2 : Int32) : Option RR := (f_Mo_isUsed S M x2 x1).bind (fun q1 => if q1.1 = 0 then (f_Re_at q1.2.1 q1.2.2 ((22 : Int32) + x1)).bind (fun q2 => f_Mo_wordOf_25 q2.2.1 q2.2.2 x1 x2 q2.1) else if x1 < 0 ∨ 3 ≤ x1.toNatClampNeg then none else f_Mo_wordOf_25 q1.2.1 q1.2.2 x1 x2 (q1.2.2 7 x1.toNatClampNeg))
set_option maxHeartbeats 4000000 in
set_option maxRecDepth 100000 in
theorem c_Mo_wordOf (l : Launch) (D : va_G) (cA : ClassId) (a : Nat → Nat) (S : SS) (M : MM) (x1 : Int32) (x2 : Int32) (q : RR) (h0 : f_Mo_wordOf S M x1 x2 = some q) : Ci l y_Mo_wordOf w_Mo_wordOf rm_Mo_wordOf D vCl [(cA, .int)] (AB a) (ZB a) (wB cA a) [.ref (a 5), .int x1, .int x2, .ref (a 2)] S M q := by
  refine Ci.of (cc := prog_4_method_7_code) (maxL := 4) (ty := .int) (by decide) rfl (Nat.le_of_ble_eq_true rfl) ?_
  intro p e s m args below meth c Q hx hb hml hown hts hK hZ ret
  have hown : s.vm.findClass R_Mo = some m.cls := hown
  have hts : ∀ w ∈ TB, w.before args s = true := fun w h => hts w (List.mem_cons_of_mem _ h)
  have hZK := ZB_k a
  have k11 := hts _ tb_fl_Mo_11
  have b25 : ∀ (S : SS) (M : MM) (x1 : Int32) (x2 : Int32) (y0 : Int32), f_Mo_wordOf_25 S M x1 x2 y0 = some q → BK p l e rm_Mo_wordOf s m args below meth c Q D vCl (AB a) (wB cA a) 4 25 [(0, .ref (a 5)), (1, .int x1), (2, .int x2), (3, .ref (a 2))] [.int y0] S M := by
    intro S M x1 x2 y0 h H locs ls hl hP hD hS
    unfold f_Mo_wordOf_25 at h
    exact ret _ _ _ _ _ _ _ h rfl hP hD hS d_Mo_wordOf_25
  intro H locs ls hl hP hD hS
  have hl : lv_has ls 4 [(0, .ref (a 5)), (1, .int x1), (2, .int x2), (3, .ref (a 2))] := hl
  have h := h0
  unfold f_Mo_wordOf at h
  refine lv_iload_n hx hb d_Mo_wordOf_0 rfl (lv_at hl 2 rfl) ?_
  refine lv_iload_n hx hb d_Mo_wordOf_1 rfl (lv_at hl 1 rfl) ?_
  obtain ⟨⟨r1, S1, M1⟩, hc1, h⟩ := sg_b h
  dsimp only at h
  refine csi (As := [.int x2, .int x1]) (rest := []) ⟨hx, hb, hml, hown, hts⟩ (c_Mo_isUsed l D cA a S M x2 x1 _ hc1) ⟨callB_of 2 hts (tb_gi tb_cd_Mo_isUsed) rfl rfl rfl (hts _ tb_in_Mo) (hts _ tb_ml_Mo_72) yd_Mo_isUsed ⟨Nat.le_of_ble_eq_true rfl, Nat.le_of_ble_eq_true rfl⟩, hts _ tb_st_Mo_isUsed⟩ hZK hK hZ hP hD hS rfl hl.1 rfl (Nat.le_of_ble_eq_true rfl) d_Mo_wordOf_2 (fun H locs hP hD hS => ?_)
  refine lv_if_eq (tgt := 17) hx hb d_Mo_wordOf_5 (by decide) (fun hc => ?_) (fun hc => ?_)
  · have h := sg_p hc h
    refine lv_aload_n hx hb d_Mo_wordOf_17 rfl (lv_at hl 3 rfl) ?_
    refine lv_bipush (v := (22 : Int32)) hx hb d_Mo_wordOf_18 (by decide) ?_
    refine lv_iload_n hx hb d_Mo_wordOf_20 rfl (lv_at hl 1 rfl) ?_
    refine lv_iadd hx hb d_Mo_wordOf_21 ?_
    obtain ⟨⟨r2, S2, M2⟩, hc2, h⟩ := sg_b h
    dsimp only at h
    refine cvi (As := [.int ((22 : Int32) + x1)]) (rest := []) ⟨hx, hb, hml, hown, hts⟩ (c_Re_at l D cA a S1 M1 ((22 : Int32) + x1) _ hc2) ⟨callB_of 1 hts (tb_gi tb_cd_Re_at) rfl rfl rfl (hts _ tb_in_Re) (hts _ tb_ml_Mo_46) yd_Re_at ⟨Nat.le_of_ble_eq_true rfl, Nat.le_of_ble_eq_true rfl⟩, hts _ tb_im_Re_at, hts _ tb_se_Re_at⟩ hZK hK hZ hP hD hS 2 (wB_at2 _ _ _ _) rfl rfl hl.1 rfl (Nat.le_of_ble_eq_true rfl) d_Mo_wordOf_22 (fun H locs hP hD hS => ?_)
    exact b25 _ _ _ _ _ h _ _ _ (lv_sub hl [0, 1, 2, 3] rfl) hP hD hS
  · have h := sg_n hc h
    refine lv_aload_n hx hb d_Mo_wordOf_8 rfl (lv_at hl 0 rfl) ?_
    refine va_get (D := D) (ci := 5) (v := .ref (a 14)) (C := R_Mo) (T := T_Mo) (N := 10) hx hb hts iMo hown hK hP 5 (wB_at5 _ _ _ _) rfl 0 (by decide) k11 (fun _ h9 => h9) rfl d_Mo_wordOf_9 ?_
    refine lv_iload_n hx hb d_Mo_wordOf_12 rfl (lv_at hl 1 rfl) ?_
    obtain ⟨hg3, h⟩ := sg_g h
    refine va_iald hx hb hK hP 14 0 (wB_at14 _ _ _ _) rfl hg3 d_Mo_wordOf_13 ?_
    refine lv_goto (tgt := 25) hx hb d_Mo_wordOf_14 (by decide) ?_
    exact b25 _ _ _ _ _ h _ _ _ (lv_sub hl [0, 1, 2, 3] rfl) hP hD hS
def f_Mo_masked_40 (S : SS) (M : MM) (x1 : Int32) (x3 : Int32) : Option RR := some (x3, S, M)
def f_Mo_masked_18 (S : SS) (M : MM) (x1 : Int32) (x3 : Int32) : Option RR := if S 13 = (S 11) - (1 : Int32) then (f_Re_at S M (21 : Int32)).bind (fun q1 => f_Mo_masked_40 q1.2.1 q1.2.2 x1 (x3 &&& q1.1)) else f_Mo_masked_40 S M x1 x3
def f_Mo_masked (S : SS) (M : MM) (x1 : Int32) : Option RR := if S 13 = 0 then (f_Re_at S M (20 : Int32)).bind (fun q2 => f_Mo_masked_18 q2.2.1 q2.2.2 x1 (x1 &&& q2.1)) else f_Mo_masked_18 S M x1 x1
set_option maxHeartbeats 4000000 in
set_option maxRecDepth 100000 in
theorem c_Mo_masked (l : Launch) (D : va_G) (cA : ClassId) (a : Nat → Nat) (S : SS) (M : MM) (x1 : Int32) (q : RR) (h0 : f_Mo_masked S M x1 = some q) : Ci l y_Mo_masked w_Mo_masked rm_Mo_masked D vCl [(cA, .int)] (AB a) (ZB a) (wB cA a) [.ref (a 5), .int x1, .ref (a 2)] S M q := by
  refine Ci.of (cc := prog_4_method_8_code) (maxL := 4) (ty := .int) (by decide) rfl (Nat.le_of_ble_eq_true rfl) ?_
  intro p e s m args below meth c Q hx hb hml hown hts hK hZ ret
  have hown : s.vm.findClass R_Mo = some m.cls := hown
  have hts : ∀ w ∈ TB, w.before args s = true := fun w h => hts w (List.mem_cons_of_mem _ h)
  have hZK := ZB_k a
  have k22 := hts _ tb_fl_Mo_22
  have k15 := hts _ tb_fl_Mo_15
  have b40 : ∀ (S : SS) (M : MM) (x1 : Int32) (x3 : Int32), f_Mo_masked_40 S M x1 x3 = some q → BK p l e rm_Mo_masked s m args below meth c Q D vCl (AB a) (wB cA a) 4 40 [(0, .ref (a 5)), (1, .int x1), (2, .ref (a 2)), (3, .int x3)] [] S M := by
    intro S M x1 x3 h H locs ls hl hP hD hS
    unfold f_Mo_masked_40 at h
    refine lv_iload_n hx hb d_Mo_masked_40 rfl (lv_at hl 3 rfl) ?_
    exact ret _ _ _ _ _ _ _ h rfl hP hD hS d_Mo_masked_41
  have b18 : ∀ (S : SS) (M : MM) (x1 : Int32) (x3 : Int32), f_Mo_masked_18 S M x1 x3 = some q → BK p l e rm_Mo_masked s m args below meth c Q D vCl (AB a) (wB cA a) 4 18 [(0, .ref (a 5)), (1, .int x1), (2, .ref (a 2)), (3, .int x3)] [] S M := by
    intro S M x1 x3 h H locs ls hl hP hD hS
    unfold f_Mo_masked_18 at h
    refine lv_aload_n hx hb d_Mo_masked_18 rfl (lv_at hl 0 rfl) ?_
    refine va_get (D := D) (ci := 5) (v := .int (S 13)) (C := R_Mo) (T := T_Mo) (N := 10) hx hb hts iMo hown hK hP 5 (wB_at5 _ _ _ _) rfl 5 (by decide) k22 (fun _ h9 => h9) rfl d_Mo_masked_19 ?_
    refine lv_aload_n hx hb d_Mo_masked_22 rfl (lv_at hl 0 rfl) ?_
    refine va_get (D := D) (ci := 5) (v := .int (S 11)) (C := R_Mo) (T := T_Mo) (N := 10) hx hb hts iMo hown hK hP 5 (wB_at5 _ _ _ _) rfl 3 (by decide) k15 (fun _ h9 => h9) rfl d_Mo_masked_23 ?_
    refine lv_iconst (v := (1 : Int32)) hx hb d_Mo_masked_26 (by decide) ?_
    refine lv_isub hx hb d_Mo_masked_27 ?_
    refine lv_icmp_ne (tgt := 40) hx hb d_Mo_masked_28 (by decide) (fun hc => ?_) (fun hc => ?_)
    · have h := sg_n hc h
      exact b40 _ _ _ _ h _ _ _ (lv_sub hl [0, 1, 2, 3] rfl) hP hD hS
    · have h := sg_p hc h
      refine lv_iload_n hx hb d_Mo_masked_31 rfl (lv_at hl 3 rfl) ?_
      refine lv_aload_n hx hb d_Mo_masked_32 rfl (lv_at hl 2 rfl) ?_
      refine lv_bipush (v := (21 : Int32)) hx hb d_Mo_masked_33 (by decide) ?_
      obtain ⟨⟨r1, S1, M1⟩, hc1, h⟩ := sg_b h
      dsimp only at h
      refine cvi (As := [.int (21 : Int32)]) (rest := [.int x3]) ⟨hx, hb, hml, hown, hts⟩ (c_Re_at l D cA a S M (21 : Int32) _ hc1) ⟨callB_of 1 hts (tb_gi tb_cd_Re_at) rfl rfl rfl (hts _ tb_in_Re) (hts _ tb_ml_Mo_46) yd_Re_at ⟨Nat.le_of_ble_eq_true rfl, Nat.le_of_ble_eq_true rfl⟩, hts _ tb_im_Re_at, hts _ tb_se_Re_at⟩ hZK hK hZ hP hD hS 2 (wB_at2 _ _ _ _) rfl rfl hl.1 rfl (Nat.le_of_ble_eq_true rfl) d_Mo_masked_35 (fun H locs hP hD hS => ?_)
      refine lv_iand hx hb d_Mo_masked_38 ?_
      refine lv_istore_n (lv' := [(3, .int (x3 &&& r1)), (0, .ref (a 5)), (1, .int x1), (2, .ref (a 2))]) hx hb d_Mo_masked_39 rfl hl (by decide) rfl (fun ls hl => ?_)
      exact b40 _ _ _ _ h _ _ _ (lv_sub hl [1, 2, 3, 0] rfl) hP hD hS
  intro H locs ls hl hP hD hS
  have hl : lv_has ls 4 [(0, .ref (a 5)), (1, .int x1), (2, .ref (a 2))] := hl
  have h := h0
  unfold f_Mo_masked at h
  refine lv_iload_n hx hb d_Mo_masked_0 rfl (lv_at hl 1 rfl) ?_
  refine lv_istore_n (lv' := [(3, .int x1), (0, .ref (a 5)), (1, .int x1), (2, .ref (a 2))]) hx hb d_Mo_masked_1 rfl hl (by decide) rfl (fun ls hl => ?_)
  refine lv_aload_n hx hb d_Mo_masked_2 rfl (lv_at hl 1 rfl) ?_
  refine va_get (D := D) (ci := 5) (v := .int (S 13)) (C := R_Mo) (T := T_Mo) (N := 10) hx hb hts iMo hown hK hP 5 (wB_at5 _ _ _ _) rfl 5 (by decide) k22 (fun _ h9 => h9) rfl d_Mo_masked_3 ?_
  refine lv_if_ne (tgt := 18) hx hb d_Mo_masked_6 (by decide) (fun hc => ?_) (fun hc => ?_)
  · have h := sg_n hc h
    exact b18 _ _ _ _ h _ _ _ (lv_sub hl [1, 2, 3, 0] rfl) hP hD hS
  · have h := sg_p hc h
    refine lv_iload_n hx hb d_Mo_masked_9 rfl (lv_at hl 0 rfl) ?_
    refine lv_aload_n hx hb d_Mo_masked_10 rfl (lv_at hl 3 rfl) ?_
    refine lv_bipush (v := (20 : Int32)) hx hb d_Mo_masked_11 (by decide) ?_
    obtain ⟨⟨r2, S2, M2⟩, hc2, h⟩ := sg_b h
    dsimp only at h
    refine cvi (As := [.int (20 : Int32)]) (rest := [.int x1]) ⟨hx, hb, hml, hown, hts⟩ (c_Re_at l D cA a S M (20 : Int32) _ hc2) ⟨callB_of 1 hts (tb_gi tb_cd_Re_at) rfl rfl rfl (hts _ tb_in_Re) (hts _ tb_ml_Mo_46) yd_Re_at ⟨Nat.le_of_ble_eq_true rfl, Nat.le_of_ble_eq_true rfl⟩, hts _ tb_im_Re_at, hts _ tb_se_Re_at⟩ hZK hK hZ hP hD hS 2 (wB_at2 _ _ _ _) rfl rfl hl.1 rfl (Nat.le_of_ble_eq_true rfl) d_Mo_masked_13 (fun H locs hP hD hS => ?_)
    refine lv_iand hx hb d_Mo_masked_16 ?_
    refine lv_istore_n (lv' := [(3, .int (x1 &&& r2)), (0, .ref (a 5)), (1, .int x1), (2, .ref (a 2))]) hx hb d_Mo_masked_17 rfl hl (by decide) rfl (fun ls hl => ?_)
    exact b18 _ _ _ _ h _ _ _ (lv_sub hl [1, 2, 3, 0] rfl) hP hD hS
def f_Mo_shifted (S : SS) (M : MM) (x0 : Int32) (x1 : Int32) (x2 : Int32) : Option RR := some (((((x0 <<< ((16 : Int32) &&& 31)) ||| x1).toUInt32 >>> (x2.toUInt32 &&& Int32.toUInt32 31)).toInt32) &&& (65535 : Int32), S, M)
set_option maxHeartbeats 4000000 in
set_option maxRecDepth 100000 in
theorem c_Mo_shifted (l : Launch) (D : va_G) (cA : ClassId) (a : Nat → Nat) (S : SS) (M : MM) (x0 : Int32) (x1 : Int32) (x2 : Int32) (q : RR) (h0 : f_Mo_shifted S M x0 x1 x2 = some q) : Ci l y_Mo_shifted w_Mo_shifted rm_Mo_shifted D vCl [(cA, .int)] (AB a) (ZB a) (wB cA a) [.int x0, .int x1, .int x2] S M q := by
  refine Ci.of (cc := prog_4_method_9_code) (maxL := 3) (ty := .int) (by decide) rfl (Nat.le_of_ble_eq_true rfl) ?_
  intro p e s m args below meth c Q hx hb hml hown hts hK hZ ret
  have hown : s.vm.findClass R_Mo = some m.cls := hown
  have hts : ∀ w ∈ TB, w.before args s = true := fun w h => hts w (List.mem_cons_of_mem _ h)
  have hZK := ZB_k a
  have k91 := hts _ tb_ct_Mo_91
  intro H locs ls hl hP hD hS
  have hl : lv_has ls 3 [(0, .int x0), (1, .int x1), (2, .int x2)] := hl
  have h := h0
  unfold f_Mo_shifted at h
  refine lv_iload_n hx hb d_Mo_shifted_0 rfl (lv_at hl 0 rfl) ?_
  refine lv_bipush (v := (16 : Int32)) hx hb d_Mo_shifted_1 (by decide) ?_
  refine lv_ishl hx hb d_Mo_shifted_3 ?_
  refine lv_iload_n hx hb d_Mo_shifted_4 rfl (lv_at hl 1 rfl) ?_
  refine lv_ior hx hb d_Mo_shifted_5 ?_
  refine lv_iload_n hx hb d_Mo_shifted_6 rfl (lv_at hl 2 rfl) ?_
  refine lv_iushr hx hb d_Mo_shifted_7 rfl ?_
  refine lv_ldc (v := (65535 : Int32)) hx hb hown k91 d_Mo_shifted_8 ?_
  refine lv_iand hx hb d_Mo_shifted_10 ?_
  exact ret _ _ _ _ _ _ _ h rfl hP hD hS d_Mo_shifted_11
def f_Mo_combined_6_b (rec : SS → MM → Int32 → Int32 → Int32 → Int32 → Int32 → Int32 → Option RR) (S : SS) (M : MM) (x0 : Int32) (x1 : Int32) (x2 : Int32) (x3 : Int32) (x4 : Int32) (x5 : Int32) : Option RR := if (16 : Int32) ≤ x5 then some (x4, S, M) else rec S M x0 x1 x2 x3 (x4 ||| (((x0 >>> (((((4 : Int32) * ((x1 >>> (x5 &&& 31)) &&& (1 : Int32))) + ((2 : Int32) * ((x2 >>> (x5 &&& 31)) &&& (1 : Int32)))) + ((x3 >>> (x5 &&& 31)) &&& (1 : Int32))) &&& 31)) &&& (1 : Int32)) <<< (x5 &&& 31))) (x5 + (1 : Int32))
def f_Mo_combined_6 : Nat → SS → MM → Int32 → Int32 → Int32 → Int32 → Int32 → Int32 → Option RR
  | 0 => fun _ _ _ _ _ _ _ _ => none
  | n + 1 => f_Mo_combined_6_b (f_Mo_combined_6 n)
def f_Mo_combined (S : SS) (M : MM) (x0 : Int32) (x1 : Int32) (x2 : Int32) (x3 : Int32) : Option RR := f_Mo_combined_6 20 S M x0 x1 x2 x3 (0 : Int32) (0 : Int32)
set_option maxHeartbeats 4000000 in
set_option maxRecDepth 100000 in
theorem c_Mo_combined (l : Launch) (D : va_G) (cA : ClassId) (a : Nat → Nat) (S : SS) (M : MM) (x0 : Int32) (x1 : Int32) (x2 : Int32) (x3 : Int32) (q : RR) (h0 : f_Mo_combined S M x0 x1 x2 x3 = some q) : Ci l y_Mo_combined w_Mo_combined rm_Mo_combined D vCl [(cA, .int)] (AB a) (ZB a) (wB cA a) [.int x0, .int x1, .int x2, .int x3] S M q := by
  refine Ci.of (cc := prog_4_method_10_code) (maxL := 7) (ty := .int) (by decide) rfl (Nat.le_of_ble_eq_true rfl) ?_
  intro p e s m args below meth c Q hx hb hml hown hts hK hZ ret
  have hown : s.vm.findClass R_Mo = some m.cls := hown
  have hts : ∀ w ∈ TB, w.before args s = true := fun w h => hts w (List.mem_cons_of_mem _ h)
  have hZK := ZB_k a
  have b6 : ∀ (n : Nat) (S : SS) (M : MM) (x0 : Int32) (x1 : Int32) (x2 : Int32) (x3 : Int32) (x4 : Int32) (x5 : Int32), f_Mo_combined_6 n S M x0 x1 x2 x3 x4 x5 = some q → BK p l e rm_Mo_combined s m args below meth c Q D vCl (AB a) (wB cA a) 7 6 [(0, .int x0), (1, .int x1), (2, .int x2), (3, .int x3), (4, .int x4), (5, .int x5)] [] S M := by
   intro n
   induction n with
   | zero => intro S M x0 x1 x2 x3 x4 x5 h; cases h
   | succ n hrec =>
    intro S M x0 x1 x2 x3 x4 x5 h H locs ls hl hP hD hS
    have h : f_Mo_combined_6_b (f_Mo_combined_6 n) S M x0 x1 x2 x3 x4 x5 = some q := h
    unfold f_Mo_combined_6_b at h
    refine lv_iload hx hb d_Mo_combined_6 (lv_at hl 5 rfl) ?_
    refine lv_bipush (v := (16 : Int32)) hx hb d_Mo_combined_8 (by decide) ?_
    refine lv_icmp_ge (tgt := 59) hx hb d_Mo_combined_10 (by decide) (fun hc => ?_) (fun hc => ?_)
    · have h := sg_p hc h
      refine lv_iload hx hb d_Mo_combined_59 (lv_at hl 4 rfl) ?_
      exact ret _ _ _ _ _ _ _ h rfl hP hD hS d_Mo_combined_61
    · have h := sg_n hc h
      refine lv_iconst (v := (4 : Int32)) hx hb d_Mo_combined_13 (by decide) ?_
      refine lv_iload_n hx hb d_Mo_combined_14 rfl (lv_at hl 1 rfl) ?_
      refine lv_iload hx hb d_Mo_combined_15 (lv_at hl 5 rfl) ?_
      refine lv_ishr hx hb d_Mo_combined_17 ?_
      refine lv_iconst (v := (1 : Int32)) hx hb d_Mo_combined_18 (by decide) ?_
      refine lv_iand hx hb d_Mo_combined_19 ?_
      refine lv_imul hx hb d_Mo_combined_20 ?_
      refine lv_iconst (v := (2 : Int32)) hx hb d_Mo_combined_21 (by decide) ?_
      refine lv_iload_n hx hb d_Mo_combined_22 rfl (lv_at hl 2 rfl) ?_
      refine lv_iload hx hb d_Mo_combined_23 (lv_at hl 5 rfl) ?_
      refine lv_ishr hx hb d_Mo_combined_25 ?_
      refine lv_iconst (v := (1 : Int32)) hx hb d_Mo_combined_26 (by decide) ?_
      refine lv_iand hx hb d_Mo_combined_27 ?_
      refine lv_imul hx hb d_Mo_combined_28 ?_
      refine lv_iadd hx hb d_Mo_combined_29 ?_
      refine lv_iload_n hx hb d_Mo_combined_30 rfl (lv_at hl 3 rfl) ?_
      refine lv_iload hx hb d_Mo_combined_31 (lv_at hl 5 rfl) ?_
      refine lv_ishr hx hb d_Mo_combined_33 ?_
      refine lv_iconst (v := (1 : Int32)) hx hb d_Mo_combined_34 (by decide) ?_
      refine lv_iand hx hb d_Mo_combined_35 ?_
      refine lv_iadd hx hb d_Mo_combined_36 ?_
      refine lv_istore (lv' := [(6, .int ((((4 : Int32) * ((x1 >>> (x5 &&& 31)) &&& (1 : Int32))) + ((2 : Int32) * ((x2 >>> (x5 &&& 31)) &&& (1 : Int32)))) + ((x3 >>> (x5 &&& 31)) &&& (1 : Int32)))), (0, .int x0), (1, .int x1), (2, .int x2), (3, .int x3), (4, .int x4), (5, .int x5)]) hx hb d_Mo_combined_37 hl (by decide) rfl (fun ls hl => ?_)
      refine lv_iload hx hb d_Mo_combined_39 (lv_at hl 5 rfl) ?_
      refine lv_iload_n hx hb d_Mo_combined_41 rfl (lv_at hl 1 rfl) ?_
      refine lv_iload hx hb d_Mo_combined_42 (lv_at hl 0 rfl) ?_
      refine lv_ishr hx hb d_Mo_combined_44 ?_
      refine lv_iconst (v := (1 : Int32)) hx hb d_Mo_combined_45 (by decide) ?_
      refine lv_iand hx hb d_Mo_combined_46 ?_
      refine lv_iload hx hb d_Mo_combined_47 (lv_at hl 6 rfl) ?_
      refine lv_ishl hx hb d_Mo_combined_49 ?_
      refine lv_ior hx hb d_Mo_combined_50 ?_
      refine lv_istore (lv' := [(4, .int (x4 ||| (((x0 >>> (((((4 : Int32) * ((x1 >>> (x5 &&& 31)) &&& (1 : Int32))) + ((2 : Int32) * ((x2 >>> (x5 &&& 31)) &&& (1 : Int32)))) + ((x3 >>> (x5 &&& 31)) &&& (1 : Int32))) &&& 31)) &&& (1 : Int32)) <<< (x5 &&& 31)))), (6, .int ((((4 : Int32) * ((x1 >>> (x5 &&& 31)) &&& (1 : Int32))) + ((2 : Int32) * ((x2 >>> (x5 &&& 31)) &&& (1 : Int32)))) + ((x3 >>> (x5 &&& 31)) &&& (1 : Int32)))), (0, .int x0), (1, .int x1), (2, .int x2), (3, .int x3), (5, .int x5)]) hx hb d_Mo_combined_51 hl (by decide) rfl (fun ls hl => ?_)
      refine lv_iinc (k := 6) (v := x5 + (1 : Int32)) (lv' := [(5, .int (x5 + (1 : Int32))), (4, .int (x4 ||| (((x0 >>> (((((4 : Int32) * ((x1 >>> (x5 &&& 31)) &&& (1 : Int32))) + ((2 : Int32) * ((x2 >>> (x5 &&& 31)) &&& (1 : Int32)))) + ((x3 >>> (x5 &&& 31)) &&& (1 : Int32))) &&& 31)) &&& (1 : Int32)) <<< (x5 &&& 31)))), (6, .int ((((4 : Int32) * ((x1 >>> (x5 &&& 31)) &&& (1 : Int32))) + ((2 : Int32) * ((x2 >>> (x5 &&& 31)) &&& (1 : Int32)))) + ((x3 >>> (x5 &&& 31)) &&& (1 : Int32)))), (0, .int x0), (1, .int x1), (2, .int x2), (3, .int x3)]) hx hb d_Mo_combined_53 hl rfl rfl (by decide) rfl (fun ls hl => ?_)
      refine lv_goto (tgt := 6) hx hb d_Mo_combined_56 (by decide) ?_
      exact hrec _ _ _ _ _ _ _ _ h _ _ _ (lv_sub hl [3, 4, 5, 6, 1, 0] rfl) hP hD hS
  intro H locs ls hl hP hD hS
  have hl : lv_has ls 7 [(0, .int x0), (1, .int x1), (2, .int x2), (3, .int x3)] := hl
  have h := h0
  unfold f_Mo_combined at h
  refine lv_iconst (v := (0 : Int32)) hx hb d_Mo_combined_0 (by decide) ?_
  refine lv_istore (lv' := [(4, .int (0 : Int32)), (0, .int x0), (1, .int x1), (2, .int x2), (3, .int x3)]) hx hb d_Mo_combined_1 hl (by decide) rfl (fun ls hl => ?_)
  refine lv_iconst (v := (0 : Int32)) hx hb d_Mo_combined_3 (by decide) ?_
  refine lv_istore (lv' := [(5, .int (0 : Int32)), (4, .int (0 : Int32)), (0, .int x0), (1, .int x1), (2, .int x2), (3, .int x3)]) hx hb d_Mo_combined_4 hl (by decide) rfl (fun ls hl => ?_)
  exact b6 20 _ _ _ _ _ _ _ _ h _ _ _ (lv_sub hl [2, 3, 4, 5, 1, 0] rfl) hP hD hS
def f_Mo_addModulos_2_2_4 (S : SS) (M : MM) (x0 : Int32) : Option RR := some (0, S, M)
def f_Mo_addModulos_31_2_3 (S : SS) (M : MM) (x0 : Int32) : Option RR := f_Mo_addModulos_2_2_4 S M x0
def f_Mo_addModulos_2_2_3 (S : SS) (M : MM) (x0 : Int32) : Option RR := (f_Mo_isUsed S M x0 (3 : Int32)).bind (fun q1 => if q1.1 = 0 then f_Mo_addModulos_31_2_3 q1.2.1 q1.2.2 x0 else (f_Re_at q1.2.1 q1.2.2 (19 : Int32)).bind (fun q2 => (f_Re_grow q2.2.1 q2.2.2 (15 : Int32) q2.1).bind (fun q3 => f_Mo_addModulos_31_2_3 q3.2.1 q3.2.2 x0)))
def f_Mo_addModulos_31_2_2 (S : SS) (M : MM) (x0 : Int32) : Option RR := f_Mo_addModulos_2_2_3 S M x0
def f_Mo_addModulos_2_2_2 (S : SS) (M : MM) (x0 : Int32) : Option RR := (f_Mo_isUsed S M x0 (2 : Int32)).bind (fun q4 => if q4.1 = 0 then f_Mo_addModulos_31_2_2 q4.2.1 q4.2.2 x0 else (f_Re_at q4.2.1 q4.2.2 (18 : Int32)).bind (fun q5 => (f_Re_grow q5.2.1 q5.2.2 (14 : Int32) q5.1).bind (fun q6 => f_Mo_addModulos_31_2_2 q6.2.1 q6.2.2 x0)))
def f_Mo_addModulos_31_2_1 (S : SS) (M : MM) (x0 : Int32) : Option RR := f_Mo_addModulos_2_2_2 S M x0
def f_Mo_addModulos_2_2_1 (S : SS) (M : MM) (x0 : Int32) : Option RR := (f_Mo_isUsed S M x0 (1 : Int32)).bind (fun q7 => if q7.1 = 0 then f_Mo_addModulos_31_2_1 q7.2.1 q7.2.2 x0 else (f_Re_at q7.2.1 q7.2.2 (17 : Int32)).bind (fun q8 => (f_Re_grow q8.2.1 q8.2.2 (13 : Int32) q8.1).bind (fun q9 => f_Mo_addModulos_31_2_1 q9.2.1 q9.2.2 x0)))
def f_Mo_addModulos_31_2_0 (S : SS) (M : MM) (x0 : Int32) : Option RR := f_Mo_addModulos_2_2_1 S M x0
def f_Mo_addModulos_2_2_0 (S : SS) (M : MM) (x0 : Int32) : Option RR := (f_Mo_isUsed S M x0 (0 : Int32)).bind (fun q10 => if q10.1 = 0 then f_Mo_addModulos_31_2_0 q10.2.1 q10.2.2 x0 else (f_Re_at q10.2.1 q10.2.2 (16 : Int32)).bind (fun q11 => (f_Re_grow q11.2.1 q11.2.2 (12 : Int32) q11.1).bind (fun q12 => f_Mo_addModulos_31_2_0 q12.2.1 q12.2.2 x0)))
def f_Mo_addModulos (S : SS) (M : MM) (x0 : Int32) : Option RR := f_Mo_addModulos_2_2_0 S M x0
set_option maxHeartbeats 4000000 in
set_option maxRecDepth 100000 in
theorem c_Mo_addModulos (l : Launch) (D : va_G) (cA : ClassId) (a : Nat → Nat) (S : SS) (M : MM) (x0 : Int32) (q : RR) (h0 : f_Mo_addModulos S M x0 = some q) : Cv l y_Mo_addModulos w_Mo_addModulos rm_Mo_addModulos D vCl [(cA, .int)] (AB a) (ZB a) (wB cA a) [.int x0, .ref (a 2)] S M q := by
  refine Cv.of (cc := prog_4_method_12_code) (maxL := 3) (by decide) rfl (Nat.le_of_ble_eq_true rfl) ?_
  intro p e s m args below meth c Q hx hb hml hown hts hK hZ ret
  have hown : s.vm.findClass R_Mo = some m.cls := hown
  have hts : ∀ w ∈ TB, w.before args s = true := fun w h => hts w (List.mem_cons_of_mem _ h)
  have hZK := ZB_k a
  have b2_2_4 : ∀ (S : SS) (M : MM) (x0 : Int32), f_Mo_addModulos_2_2_4 S M x0 = some q → BK p l e rm_Mo_addModulos s m args below meth c Q D vCl (AB a) (wB cA a) 3 2 [(0, .int x0), (1, .ref (a 2)), (2, .int (4 : Int32))] [] S M := by
    intro S M x0 h H locs ls hl hP hD hS
    unfold f_Mo_addModulos_2_2_4 at h
    refine lv_iload_n hx hb d_Mo_addModulos_2 rfl (lv_at hl 2 rfl) ?_
    refine lv_iconst (v := (4 : Int32)) hx hb d_Mo_addModulos_3 (by decide) ?_
    refine lv_icmp_ge (tgt := 37) hx hb d_Mo_addModulos_4 (by decide) (fun _ => ?_) (fun h9 => absurd h9 (by decide))
    exact ret _ _ _ _ _ _ _ h hP hD hS d_Mo_addModulos_37
  have b31_2_3 : ∀ (S : SS) (M : MM) (x0 : Int32), f_Mo_addModulos_31_2_3 S M x0 = some q → BK p l e rm_Mo_addModulos s m args below meth c Q D vCl (AB a) (wB cA a) 3 31 [(0, .int x0), (1, .ref (a 2)), (2, .int (3 : Int32))] [] S M := by
    intro S M x0 h H locs ls hl hP hD hS
    unfold f_Mo_addModulos_31_2_3 at h
    refine lv_iinc (k := 2) (v := (4 : Int32)) (lv' := [(2, .int (4 : Int32)), (0, .int x0), (1, .ref (a 2))]) hx hb d_Mo_addModulos_31 hl rfl (by decide) (by decide) rfl (fun ls hl => ?_)
    refine lv_goto (tgt := 2) hx hb d_Mo_addModulos_34 (by decide) ?_
    exact b2_2_4 _ _ _ h _ _ _ (lv_sub hl [1, 2, 0] rfl) hP hD hS
  have b2_2_3 : ∀ (S : SS) (M : MM) (x0 : Int32), f_Mo_addModulos_2_2_3 S M x0 = some q → BK p l e rm_Mo_addModulos s m args below meth c Q D vCl (AB a) (wB cA a) 3 2 [(0, .int x0), (1, .ref (a 2)), (2, .int (3 : Int32))] [] S M := by
    intro S M x0 h H locs ls hl hP hD hS
    unfold f_Mo_addModulos_2_2_3 at h
    refine lv_iload_n hx hb d_Mo_addModulos_2 rfl (lv_at hl 2 rfl) ?_
    refine lv_iconst (v := (4 : Int32)) hx hb d_Mo_addModulos_3 (by decide) ?_
    refine lv_icmp_ge (tgt := 37) hx hb d_Mo_addModulos_4 (by decide) (fun h9 => absurd h9 (by decide)) (fun _ => ?_)
    refine lv_iload_n hx hb d_Mo_addModulos_7 rfl (lv_at hl 0 rfl) ?_
    refine lv_iload_n hx hb d_Mo_addModulos_8 rfl (lv_at hl 2 rfl) ?_
    obtain ⟨⟨r1, S1, M1⟩, hc1, h⟩ := sg_b h
    dsimp only at h
    refine csi (As := [.int x0, .int (3 : Int32)]) (rest := []) ⟨hx, hb, hml, hown, hts⟩ (c_Mo_isUsed l D cA a S M x0 (3 : Int32) _ hc1) ⟨callB_of 2 hts (tb_gi tb_cd_Mo_isUsed) rfl rfl rfl (hts _ tb_in_Mo) (hts _ tb_ml_Mo_72) yd_Mo_isUsed ⟨Nat.le_of_ble_eq_true rfl, Nat.le_of_ble_eq_true rfl⟩, hts _ tb_st_Mo_isUsed⟩ hZK hK hZ hP hD hS rfl hl.1 rfl (Nat.le_of_ble_eq_true rfl) d_Mo_addModulos_9 (fun H locs hP hD hS => ?_)
    refine lv_if_eq (tgt := 31) hx hb d_Mo_addModulos_12 (by decide) (fun hc => ?_) (fun hc => ?_)
    · have h := sg_p hc h
      exact b31_2_3 _ _ _ h _ _ _ (lv_sub hl [0, 1, 2] rfl) hP hD hS
    · have h := sg_n hc h
      refine lv_aload_n hx hb d_Mo_addModulos_15 rfl (lv_at hl 1 rfl) ?_
      refine lv_bipush (v := (12 : Int32)) hx hb d_Mo_addModulos_16 (by decide) ?_
      refine lv_iload_n hx hb d_Mo_addModulos_18 rfl (lv_at hl 2 rfl) ?_
      refine lv_iadd hx hb d_Mo_addModulos_19 ?_
      refine cst_i (y := (15 : Int32)) (by decide) ?_
      refine lv_aload_n hx hb d_Mo_addModulos_20 rfl (lv_at hl 1 rfl) ?_
      refine lv_bipush (v := (16 : Int32)) hx hb d_Mo_addModulos_21 (by decide) ?_
      refine lv_iload_n hx hb d_Mo_addModulos_23 rfl (lv_at hl 2 rfl) ?_
      refine lv_iadd hx hb d_Mo_addModulos_24 ?_
      refine cst_i (y := (19 : Int32)) (by decide) ?_
      obtain ⟨⟨r2, S2, M2⟩, hc2, h⟩ := sg_b h
      dsimp only at h
      refine cvi (As := [.int (19 : Int32)]) (rest := [.int (15 : Int32), .ref (a 2)]) ⟨hx, hb, hml, hown, hts⟩ (c_Re_at l D cA a S1 M1 (19 : Int32) _ hc2) ⟨callB_of 1 hts (tb_gi tb_cd_Re_at) rfl rfl rfl (hts _ tb_in_Re) (hts _ tb_ml_Mo_46) yd_Re_at ⟨Nat.le_of_ble_eq_true rfl, Nat.le_of_ble_eq_true rfl⟩, hts _ tb_im_Re_at, hts _ tb_se_Re_at⟩ hZK hK hZ hP hD hS 2 (wB_at2 _ _ _ _) rfl rfl hl.1 rfl (Nat.le_of_ble_eq_true rfl) d_Mo_addModulos_25 (fun H locs hP hD hS => ?_)
      obtain ⟨⟨r3, S3, M3⟩, hc3, h⟩ := sg_b h
      dsimp only at h
      refine cvv (As := [.int (15 : Int32), .int r2]) (rest := []) ⟨hx, hb, hml, hown, hts⟩ (c_Re_grow l D cA a S2 M2 (15 : Int32) r2 _ hc3) ⟨callB_of 2 hts (tb_gi tb_cd_Re_grow) rfl rfl rfl (hts _ tb_in_Re) (hts _ tb_ml_Mo_57) yd_Re_grow ⟨Nat.le_of_ble_eq_true rfl, Nat.le_of_ble_eq_true rfl⟩, hts _ tb_im_Re_grow, hts _ tb_se_Re_grow⟩ hZK hK hZ hP hD hS 2 (wB_at2 _ _ _ _) rfl rfl hl.1 rfl (Nat.le_of_ble_eq_true rfl) d_Mo_addModulos_28 (fun H locs hP hD hS => ?_)
      exact b31_2_3 _ _ _ h _ _ _ (lv_sub hl [0, 1, 2] rfl) hP hD hS
  have b31_2_2 : ∀ (S : SS) (M : MM) (x0 : Int32), f_Mo_addModulos_31_2_2 S M x0 = some q → BK p l e rm_Mo_addModulos s m args below meth c Q D vCl (AB a) (wB cA a) 3 31 [(0, .int x0), (1, .ref (a 2)), (2, .int (2 : Int32))] [] S M := by
    intro S M x0 h H locs ls hl hP hD hS
    unfold f_Mo_addModulos_31_2_2 at h
    refine lv_iinc (k := 2) (v := (3 : Int32)) (lv' := [(2, .int (3 : Int32)), (0, .int x0), (1, .ref (a 2))]) hx hb d_Mo_addModulos_31 hl rfl (by decide) (by decide) rfl (fun ls hl => ?_)
    refine lv_goto (tgt := 2) hx hb d_Mo_addModulos_34 (by decide) ?_
    exact b2_2_3 _ _ _ h _ _ _ (lv_sub hl [1, 2, 0] rfl) hP hD hS
  have b2_2_2 : ∀ (S : SS) (M : MM) (x0 : Int32), f_Mo_addModulos_2_2_2 S M x0 = some q → BK p l e rm_Mo_addModulos s m args below meth c Q D vCl (AB a) (wB cA a) 3 2 [(0, .int x0), (1, .ref (a 2)), (2, .int (2 : Int32))] [] S M := by
    intro S M x0 h H locs ls hl hP hD hS
    unfold f_Mo_addModulos_2_2_2 at h
    refine lv_iload_n hx hb d_Mo_addModulos_2 rfl (lv_at hl 2 rfl) ?_
    refine lv_iconst (v := (4 : Int32)) hx hb d_Mo_addModulos_3 (by decide) ?_
    refine lv_icmp_ge (tgt := 37) hx hb d_Mo_addModulos_4 (by decide) (fun h9 => absurd h9 (by decide)) (fun _ => ?_)
    refine lv_iload_n hx hb d_Mo_addModulos_7 rfl (lv_at hl 0 rfl) ?_
    refine lv_iload_n hx hb d_Mo_addModulos_8 rfl (lv_at hl 2 rfl) ?_
    obtain ⟨⟨r4, S4, M4⟩, hc4, h⟩ := sg_b h
    dsimp only at h
    refine csi (As := [.int x0, .int (2 : Int32)]) (rest := []) ⟨hx, hb, hml, hown, hts⟩ (c_Mo_isUsed l D cA a S M x0 (2 : Int32) _ hc4) ⟨callB_of 2 hts (tb_gi tb_cd_Mo_isUsed) rfl rfl rfl (hts _ tb_in_Mo) (hts _ tb_ml_Mo_72) yd_Mo_isUsed ⟨Nat.le_of_ble_eq_true rfl, Nat.le_of_ble_eq_true rfl⟩, hts _ tb_st_Mo_isUsed⟩ hZK hK hZ hP hD hS rfl hl.1 rfl (Nat.le_of_ble_eq_true rfl) d_Mo_addModulos_9 (fun H locs hP hD hS => ?_)
    refine lv_if_eq (tgt := 31) hx hb d_Mo_addModulos_12 (by decide) (fun hc => ?_) (fun hc => ?_)
    · have h := sg_p hc h
      exact b31_2_2 _ _ _ h _ _ _ (lv_sub hl [0, 1, 2] rfl) hP hD hS
    · have h := sg_n hc h
      refine lv_aload_n hx hb d_Mo_addModulos_15 rfl (lv_at hl 1 rfl) ?_
      refine lv_bipush (v := (12 : Int32)) hx hb d_Mo_addModulos_16 (by decide) ?_
      refine lv_iload_n hx hb d_Mo_addModulos_18 rfl (lv_at hl 2 rfl) ?_
      refine lv_iadd hx hb d_Mo_addModulos_19 ?_
      refine cst_i (y := (14 : Int32)) (by decide) ?_
      refine lv_aload_n hx hb d_Mo_addModulos_20 rfl (lv_at hl 1 rfl) ?_
      refine lv_bipush (v := (16 : Int32)) hx hb d_Mo_addModulos_21 (by decide) ?_
      refine lv_iload_n hx hb d_Mo_addModulos_23 rfl (lv_at hl 2 rfl) ?_
      refine lv_iadd hx hb d_Mo_addModulos_24 ?_
      refine cst_i (y := (18 : Int32)) (by decide) ?_
      obtain ⟨⟨r5, S5, M5⟩, hc5, h⟩ := sg_b h
      dsimp only at h
      refine cvi (As := [.int (18 : Int32)]) (rest := [.int (14 : Int32), .ref (a 2)]) ⟨hx, hb, hml, hown, hts⟩ (c_Re_at l D cA a S4 M4 (18 : Int32) _ hc5) ⟨callB_of 1 hts (tb_gi tb_cd_Re_at) rfl rfl rfl (hts _ tb_in_Re) (hts _ tb_ml_Mo_46) yd_Re_at ⟨Nat.le_of_ble_eq_true rfl, Nat.le_of_ble_eq_true rfl⟩, hts _ tb_im_Re_at, hts _ tb_se_Re_at⟩ hZK hK hZ hP hD hS 2 (wB_at2 _ _ _ _) rfl rfl hl.1 rfl (Nat.le_of_ble_eq_true rfl) d_Mo_addModulos_25 (fun H locs hP hD hS => ?_)
      obtain ⟨⟨r6, S6, M6⟩, hc6, h⟩ := sg_b h
      dsimp only at h
      refine cvv (As := [.int (14 : Int32), .int r5]) (rest := []) ⟨hx, hb, hml, hown, hts⟩ (c_Re_grow l D cA a S5 M5 (14 : Int32) r5 _ hc6) ⟨callB_of 2 hts (tb_gi tb_cd_Re_grow) rfl rfl rfl (hts _ tb_in_Re) (hts _ tb_ml_Mo_57) yd_Re_grow ⟨Nat.le_of_ble_eq_true rfl, Nat.le_of_ble_eq_true rfl⟩, hts _ tb_im_Re_grow, hts _ tb_se_Re_grow⟩ hZK hK hZ hP hD hS 2 (wB_at2 _ _ _ _) rfl rfl hl.1 rfl (Nat.le_of_ble_eq_true rfl) d_Mo_addModulos_28 (fun H locs hP hD hS => ?_)
      exact b31_2_2 _ _ _ h _ _ _ (lv_sub hl [0, 1, 2] rfl) hP hD hS
  have b31_2_1 : ∀ (S : SS) (M : MM) (x0 : Int32), f_Mo_addModulos_31_2_1 S M x0 = some q → BK p l e rm_Mo_addModulos s m args below meth c Q D vCl (AB a) (wB cA a) 3 31 [(0, .int x0), (1, .ref (a 2)), (2, .int (1 : Int32))] [] S M := by
    intro S M x0 h H locs ls hl hP hD hS
    unfold f_Mo_addModulos_31_2_1 at h
    refine lv_iinc (k := 2) (v := (2 : Int32)) (lv' := [(2, .int (2 : Int32)), (0, .int x0), (1, .ref (a 2))]) hx hb d_Mo_addModulos_31 hl rfl (by decide) (by decide) rfl (fun ls hl => ?_)
    refine lv_goto (tgt := 2) hx hb d_Mo_addModulos_34 (by decide) ?_
    exact b2_2_2 _ _ _ h _ _ _ (lv_sub hl [1, 2, 0] rfl) hP hD hS
  have b2_2_1 : ∀ (S : SS) (M : MM) (x0 : Int32), f_Mo_addModulos_2_2_1 S M x0 = some q → BK p l e rm_Mo_addModulos s m args below meth c Q D vCl (AB a) (wB cA a) 3 2 [(0, .int x0), (1, .ref (a 2)), (2, .int (1 : Int32))] [] S M := by
    intro S M x0 h H locs ls hl hP hD hS
    unfold f_Mo_addModulos_2_2_1 at h
    refine lv_iload_n hx hb d_Mo_addModulos_2 rfl (lv_at hl 2 rfl) ?_
    refine lv_iconst (v := (4 : Int32)) hx hb d_Mo_addModulos_3 (by decide) ?_
    refine lv_icmp_ge (tgt := 37) hx hb d_Mo_addModulos_4 (by decide) (fun h9 => absurd h9 (by decide)) (fun _ => ?_)
    refine lv_iload_n hx hb d_Mo_addModulos_7 rfl (lv_at hl 0 rfl) ?_
    refine lv_iload_n hx hb d_Mo_addModulos_8 rfl (lv_at hl 2 rfl) ?_
    obtain ⟨⟨r7, S7, M7⟩, hc7, h⟩ := sg_b h
    dsimp only at h
    refine csi (As := [.int x0, .int (1 : Int32)]) (rest := []) ⟨hx, hb, hml, hown, hts⟩ (c_Mo_isUsed l D cA a S M x0 (1 : Int32) _ hc7) ⟨callB_of 2 hts (tb_gi tb_cd_Mo_isUsed) rfl rfl rfl (hts _ tb_in_Mo) (hts _ tb_ml_Mo_72) yd_Mo_isUsed ⟨Nat.le_of_ble_eq_true rfl, Nat.le_of_ble_eq_true rfl⟩, hts _ tb_st_Mo_isUsed⟩ hZK hK hZ hP hD hS rfl hl.1 rfl (Nat.le_of_ble_eq_true rfl) d_Mo_addModulos_9 (fun H locs hP hD hS => ?_)
    refine lv_if_eq (tgt := 31) hx hb d_Mo_addModulos_12 (by decide) (fun hc => ?_) (fun hc => ?_)
    · have h := sg_p hc h
      exact b31_2_1 _ _ _ h _ _ _ (lv_sub hl [0, 1, 2] rfl) hP hD hS
    · have h := sg_n hc h
      refine lv_aload_n hx hb d_Mo_addModulos_15 rfl (lv_at hl 1 rfl) ?_
      refine lv_bipush (v := (12 : Int32)) hx hb d_Mo_addModulos_16 (by decide) ?_
      refine lv_iload_n hx hb d_Mo_addModulos_18 rfl (lv_at hl 2 rfl) ?_
      refine lv_iadd hx hb d_Mo_addModulos_19 ?_
      refine cst_i (y := (13 : Int32)) (by decide) ?_
      refine lv_aload_n hx hb d_Mo_addModulos_20 rfl (lv_at hl 1 rfl) ?_
      refine lv_bipush (v := (16 : Int32)) hx hb d_Mo_addModulos_21 (by decide) ?_
      refine lv_iload_n hx hb d_Mo_addModulos_23 rfl (lv_at hl 2 rfl) ?_
      refine lv_iadd hx hb d_Mo_addModulos_24 ?_
      refine cst_i (y := (17 : Int32)) (by decide) ?_
      obtain ⟨⟨r8, S8, M8⟩, hc8, h⟩ := sg_b h
      dsimp only at h
      refine cvi (As := [.int (17 : Int32)]) (rest := [.int (13 : Int32), .ref (a 2)]) ⟨hx, hb, hml, hown, hts⟩ (c_Re_at l D cA a S7 M7 (17 : Int32) _ hc8) ⟨callB_of 1 hts (tb_gi tb_cd_Re_at) rfl rfl rfl (hts _ tb_in_Re) (hts _ tb_ml_Mo_46) yd_Re_at ⟨Nat.le_of_ble_eq_true rfl, Nat.le_of_ble_eq_true rfl⟩, hts _ tb_im_Re_at, hts _ tb_se_Re_at⟩ hZK hK hZ hP hD hS 2 (wB_at2 _ _ _ _) rfl rfl hl.1 rfl (Nat.le_of_ble_eq_true rfl) d_Mo_addModulos_25 (fun H locs hP hD hS => ?_)
      obtain ⟨⟨r9, S9, M9⟩, hc9, h⟩ := sg_b h
      dsimp only at h
      refine cvv (As := [.int (13 : Int32), .int r8]) (rest := []) ⟨hx, hb, hml, hown, hts⟩ (c_Re_grow l D cA a S8 M8 (13 : Int32) r8 _ hc9) ⟨callB_of 2 hts (tb_gi tb_cd_Re_grow) rfl rfl rfl (hts _ tb_in_Re) (hts _ tb_ml_Mo_57) yd_Re_grow ⟨Nat.le_of_ble_eq_true rfl, Nat.le_of_ble_eq_true rfl⟩, hts _ tb_im_Re_grow, hts _ tb_se_Re_grow⟩ hZK hK hZ hP hD hS 2 (wB_at2 _ _ _ _) rfl rfl hl.1 rfl (Nat.le_of_ble_eq_true rfl) d_Mo_addModulos_28 (fun H locs hP hD hS => ?_)
      exact b31_2_1 _ _ _ h _ _ _ (lv_sub hl [0, 1, 2] rfl) hP hD hS
  have b31_2_0 : ∀ (S : SS) (M : MM) (x0 : Int32), f_Mo_addModulos_31_2_0 S M x0 = some q → BK p l e rm_Mo_addModulos s m args below meth c Q D vCl (AB a) (wB cA a) 3 31 [(0, .int x0), (1, .ref (a 2)), (2, .int (0 : Int32))] [] S M := by
    intro S M x0 h H locs ls hl hP hD hS
    unfold f_Mo_addModulos_31_2_0 at h
    refine lv_iinc (k := 2) (v := (1 : Int32)) (lv' := [(2, .int (1 : Int32)), (0, .int x0), (1, .ref (a 2))]) hx hb d_Mo_addModulos_31 hl rfl (by decide) (by decide) rfl (fun ls hl => ?_)
    refine lv_goto (tgt := 2) hx hb d_Mo_addModulos_34 (by decide) ?_
    exact b2_2_1 _ _ _ h _ _ _ (lv_sub hl [1, 2, 0] rfl) hP hD hS
  have b2_2_0 : ∀ (S : SS) (M : MM) (x0 : Int32), f_Mo_addModulos_2_2_0 S M x0 = some q → BK p l e rm_Mo_addModulos s m args below meth c Q D vCl (AB a) (wB cA a) 3 2 [(0, .int x0), (1, .ref (a 2)), (2, .int (0 : Int32))] [] S M := by
    intro S M x0 h H locs ls hl hP hD hS
    unfold f_Mo_addModulos_2_2_0 at h
    refine lv_iload_n hx hb d_Mo_addModulos_2 rfl (lv_at hl 2 rfl) ?_
    refine lv_iconst (v := (4 : Int32)) hx hb d_Mo_addModulos_3 (by decide) ?_
    refine lv_icmp_ge (tgt := 37) hx hb d_Mo_addModulos_4 (by decide) (fun h9 => absurd h9 (by decide)) (fun _ => ?_)
    refine lv_iload_n hx hb d_Mo_addModulos_7 rfl (lv_at hl 0 rfl) ?_
    refine lv_iload_n hx hb d_Mo_addModulos_8 rfl (lv_at hl 2 rfl) ?_
    obtain ⟨⟨r10, S10, M10⟩, hc10, h⟩ := sg_b h
    dsimp only at h
    refine csi (As := [.int x0, .int (0 : Int32)]) (rest := []) ⟨hx, hb, hml, hown, hts⟩ (c_Mo_isUsed l D cA a S M x0 (0 : Int32) _ hc10) ⟨callB_of 2 hts (tb_gi tb_cd_Mo_isUsed) rfl rfl rfl (hts _ tb_in_Mo) (hts _ tb_ml_Mo_72) yd_Mo_isUsed ⟨Nat.le_of_ble_eq_true rfl, Nat.le_of_ble_eq_true rfl⟩, hts _ tb_st_Mo_isUsed⟩ hZK hK hZ hP hD hS rfl hl.1 rfl (Nat.le_of_ble_eq_true rfl) d_Mo_addModulos_9 (fun H locs hP hD hS => ?_)
    refine lv_if_eq (tgt := 31) hx hb d_Mo_addModulos_12 (by decide) (fun hc => ?_) (fun hc => ?_)
    · have h := sg_p hc h
      exact b31_2_0 _ _ _ h _ _ _ (lv_sub hl [0, 1, 2] rfl) hP hD hS
    · have h := sg_n hc h
      refine lv_aload_n hx hb d_Mo_addModulos_15 rfl (lv_at hl 1 rfl) ?_
      refine lv_bipush (v := (12 : Int32)) hx hb d_Mo_addModulos_16 (by decide) ?_
      refine lv_iload_n hx hb d_Mo_addModulos_18 rfl (lv_at hl 2 rfl) ?_
      refine lv_iadd hx hb d_Mo_addModulos_19 ?_
      refine cst_i (y := (12 : Int32)) (by decide) ?_
      refine lv_aload_n hx hb d_Mo_addModulos_20 rfl (lv_at hl 1 rfl) ?_
      refine lv_bipush (v := (16 : Int32)) hx hb d_Mo_addModulos_21 (by decide) ?_
      refine lv_iload_n hx hb d_Mo_addModulos_23 rfl (lv_at hl 2 rfl) ?_
      refine lv_iadd hx hb d_Mo_addModulos_24 ?_
      refine cst_i (y := (16 : Int32)) (by decide) ?_
      obtain ⟨⟨r11, S11, M11⟩, hc11, h⟩ := sg_b h
      dsimp only at h
      refine cvi (As := [.int (16 : Int32)]) (rest := [.int (12 : Int32), .ref (a 2)]) ⟨hx, hb, hml, hown, hts⟩ (c_Re_at l D cA a S10 M10 (16 : Int32) _ hc11) ⟨callB_of 1 hts (tb_gi tb_cd_Re_at) rfl rfl rfl (hts _ tb_in_Re) (hts _ tb_ml_Mo_46) yd_Re_at ⟨Nat.le_of_ble_eq_true rfl, Nat.le_of_ble_eq_true rfl⟩, hts _ tb_im_Re_at, hts _ tb_se_Re_at⟩ hZK hK hZ hP hD hS 2 (wB_at2 _ _ _ _) rfl rfl hl.1 rfl (Nat.le_of_ble_eq_true rfl) d_Mo_addModulos_25 (fun H locs hP hD hS => ?_)
      obtain ⟨⟨r12, S12, M12⟩, hc12, h⟩ := sg_b h
      dsimp only at h
      refine cvv (As := [.int (12 : Int32), .int r11]) (rest := []) ⟨hx, hb, hml, hown, hts⟩ (c_Re_grow l D cA a S11 M11 (12 : Int32) r11 _ hc12) ⟨callB_of 2 hts (tb_gi tb_cd_Re_grow) rfl rfl rfl (hts _ tb_in_Re) (hts _ tb_ml_Mo_57) yd_Re_grow ⟨Nat.le_of_ble_eq_true rfl, Nat.le_of_ble_eq_true rfl⟩, hts _ tb_im_Re_grow, hts _ tb_se_Re_grow⟩ hZK hK hZ hP hD hS 2 (wB_at2 _ _ _ _) rfl rfl hl.1 rfl (Nat.le_of_ble_eq_true rfl) d_Mo_addModulos_28 (fun H locs hP hD hS => ?_)
      exact b31_2_0 _ _ _ h _ _ _ (lv_sub hl [0, 1, 2] rfl) hP hD hS
  intro H locs ls hl hP hD hS
  have hl : lv_has ls 3 [(0, .int x0), (1, .ref (a 2))] := hl
  have h := h0
  unfold f_Mo_addModulos at h
  refine lv_iconst (v := (0 : Int32)) hx hb d_Mo_addModulos_0 (by decide) ?_
  refine lv_istore_n (lv' := [(2, .int (0 : Int32)), (0, .int x0), (1, .ref (a 2))]) hx hb d_Mo_addModulos_1 rfl hl (by decide) rfl (fun ls hl => ?_)
  exact b2_2_0 _ _ _ h _ _ _ (lv_sub hl [1, 2, 0] rfl) hP hD hS
def f_Mo_goOn_68 (S : SS) (M : MM) (x1 : Int32) : Option RR := some (0, S, M)
def f_Mo_goOn (S : SS) (M : MM) (x1 : Int32) : Option RR := if (upd (upd S 15 (0 : Int32)) 13 (((upd S 15 (0 : Int32)) 13) + (1 : Int32))) 11 ≤ (upd (upd S 15 (0 : Int32)) 13 (((upd S 15 (0 : Int32)) 13) + (1 : Int32))) 13 then (f_Mo_addModulos (upd (upd (upd S 15 (0 : Int32)) 13 (((upd S 15 (0 : Int32)) 13) + (1 : Int32))) 13 (0 : Int32)) M x1).bind (fun q1 => if (upd q1.2.1 14 ((q1.2.1 14) + (1 : Int32))) 14 = (upd q1.2.1 14 ((q1.2.1 14) + (1 : Int32))) 12 then (f_Re_request (upd (upd q1.2.1 14 ((q1.2.1 14) + (1 : Int32))) 9 (0 : Int32)) q1.2.2 (1 : Int32)).bind (fun q2 => f_Mo_goOn_68 q2.2.1 q2.2.2 x1) else f_Mo_goOn_68 (upd q1.2.1 14 ((q1.2.1 14) + (1 : Int32))) q1.2.2 x1) else some (0, (upd (upd S 15 (0 : Int32)) 13 (((upd S 15 (0 : Int32)) 13) + (1 : Int32))), M)
set_option maxHeartbeats 4000000 in
set_option maxRecDepth 100000 in
theorem c_Mo_goOn (l : Launch) (D : va_G) (cA : ClassId) (a : Nat → Nat) (S : SS) (M : MM) (x1 : Int32) (q : RR) (h0 : f_Mo_goOn S M x1 = some q) : Cv l y_Mo_goOn w_Mo_goOn rm_Mo_goOn D vCl [(cA, .int)] (AB a) (ZB a) (wB cA a) [.ref (a 5), .int x1, .ref (a 2)] S M q := by
  refine Cv.of (cc := prog_4_method_11_code) (maxL := 3) (by decide) rfl (Nat.le_of_ble_eq_true rfl) ?_
  intro p e s m args below meth c Q hx hb hml hown hts hK hZ ret
  have hown : s.vm.findClass R_Mo = some m.cls := hown
  have hts : ∀ w ∈ TB, w.before args s = true := fun w h => hts w (List.mem_cons_of_mem _ h)
  have hZK := ZB_k a
  have k28 := hts _ tb_fl_Mo_28
  have k22 := hts _ tb_fl_Mo_22
  have k15 := hts _ tb_fl_Mo_15
  have k25 := hts _ tb_fl_Mo_25
  have k19 := hts _ tb_fl_Mo_19
  have k41 := hts _ tb_fl_Mo_41
  have b68 : ∀ (S : SS) (M : MM) (x1 : Int32), f_Mo_goOn_68 S M x1 = some q → BK p l e rm_Mo_goOn s m args below meth c Q D vCl (AB a) (wB cA a) 3 68 [(0, .ref (a 5)), (1, .int x1), (2, .ref (a 2))] [] S M := by
    intro S M x1 h H locs ls hl hP hD hS
    unfold f_Mo_goOn_68 at h
    exact ret _ _ _ _ _ _ _ h hP hD hS d_Mo_goOn_68
  intro H locs ls hl hP hD hS
  have hl : lv_has ls 3 [(0, .ref (a 5)), (1, .int x1), (2, .ref (a 2))] := hl
  have h := h0
  unfold f_Mo_goOn at h
  refine lv_aload_n hx hb d_Mo_goOn_0 rfl (lv_at hl 0 rfl) ?_
  refine lv_iconst (v := (0 : Int32)) hx hb d_Mo_goOn_1 (by decide) ?_
  refine puwB_15 (D := D) (x := (0 : Int32)) hx hb hts iMo hown hK hP hD hS k28 rfl rfl d_Mo_goOn_2 (fun H locs hP hD hS => ?_)
  refine lv_aload_n hx hb d_Mo_goOn_5 rfl (lv_at hl 0 rfl) ?_
  refine lv_dup hx hb d_Mo_goOn_6 rfl ?_
  refine va_get (D := D) (ci := 5) (v := .int ((upd S 15 (0 : Int32)) 13)) (C := R_Mo) (T := T_Mo) (N := 10) hx hb hts iMo hown hK hP 5 (wB_at5 _ _ _ _) rfl 5 (by decide) k22 (fun _ h9 => h9) rfl d_Mo_goOn_7 ?_
  refine lv_iconst (v := (1 : Int32)) hx hb d_Mo_goOn_10 (by decide) ?_
  refine lv_iadd hx hb d_Mo_goOn_11 ?_
  refine puwB_13 (D := D) (x := ((upd S 15 (0 : Int32)) 13) + (1 : Int32)) hx hb hts iMo hown hK hP hD hS k22 rfl rfl d_Mo_goOn_12 (fun H locs hP hD hS => ?_)
  refine lv_aload_n hx hb d_Mo_goOn_15 rfl (lv_at hl 0 rfl) ?_
  refine va_get (D := D) (ci := 5) (v := .int ((upd (upd S 15 (0 : Int32)) 13 (((upd S 15 (0 : Int32)) 13) + (1 : Int32))) 13)) (C := R_Mo) (T := T_Mo) (N := 10) hx hb hts iMo hown hK hP 5 (wB_at5 _ _ _ _) rfl 5 (by decide) k22 (fun _ h9 => h9) rfl d_Mo_goOn_16 ?_
  refine lv_aload_n hx hb d_Mo_goOn_19 rfl (lv_at hl 0 rfl) ?_
  refine va_get (D := D) (ci := 5) (v := .int ((upd (upd S 15 (0 : Int32)) 13 (((upd S 15 (0 : Int32)) 13) + (1 : Int32))) 11)) (C := R_Mo) (T := T_Mo) (N := 10) hx hb hts iMo hown hK hP 5 (wB_at5 _ _ _ _) rfl 3 (by decide) k15 (fun _ h9 => h9) rfl d_Mo_goOn_20 ?_
  refine lv_icmp_ge (tgt := 27) hx hb d_Mo_goOn_23 (by decide) (fun hc => ?_) (fun hc => ?_)
  · have h := sg_p hc h
    refine lv_aload_n hx hb d_Mo_goOn_27 rfl (lv_at hl 0 rfl) ?_
    refine lv_iconst (v := (0 : Int32)) hx hb d_Mo_goOn_28 (by decide) ?_
    refine puwB_13 (D := D) (x := (0 : Int32)) hx hb hts iMo hown hK hP hD hS k22 rfl rfl d_Mo_goOn_29 (fun H locs hP hD hS => ?_)
    refine lv_iload_n hx hb d_Mo_goOn_32 rfl (lv_at hl 1 rfl) ?_
    refine lv_aload_n hx hb d_Mo_goOn_33 rfl (lv_at hl 2 rfl) ?_
    obtain ⟨⟨r1, S1, M1⟩, hc1, h⟩ := sg_b h
    dsimp only at h
    refine csv (As := [.int x1, .ref (a 2)]) (rest := []) ⟨hx, hb, hml, hown, hts⟩ (c_Mo_addModulos l D cA a (upd (upd (upd S 15 (0 : Int32)) 13 (((upd S 15 (0 : Int32)) 13) + (1 : Int32))) 13 (0 : Int32)) M x1 _ hc1) ⟨callB_of 2 hts (tb_gi tb_cd_Mo_addModulos) rfl rfl rfl (hts _ tb_in_Mo) (hts _ tb_ml_Mo_92) yd_Mo_addModulos ⟨Nat.le_of_ble_eq_true rfl, Nat.le_of_ble_eq_true rfl⟩, hts _ tb_st_Mo_addModulos⟩ hZK hK hZ hP hD hS rfl hl.1 rfl (Nat.le_of_ble_eq_true rfl) d_Mo_goOn_34 (fun H locs hP hD hS => ?_)
    refine lv_aload_n hx hb d_Mo_goOn_37 rfl (lv_at hl 0 rfl) ?_
    refine lv_dup hx hb d_Mo_goOn_38 rfl ?_
    refine va_get (D := D) (ci := 5) (v := .int (S1 14)) (C := R_Mo) (T := T_Mo) (N := 10) hx hb hts iMo hown hK hP 5 (wB_at5 _ _ _ _) rfl 6 (by decide) k25 (fun _ h9 => h9) rfl d_Mo_goOn_39 ?_
    refine lv_iconst (v := (1 : Int32)) hx hb d_Mo_goOn_42 (by decide) ?_
    refine lv_iadd hx hb d_Mo_goOn_43 ?_
    refine puwB_14 (D := D) (x := (S1 14) + (1 : Int32)) hx hb hts iMo hown hK hP hD hS k25 rfl rfl d_Mo_goOn_44 (fun H locs hP hD hS => ?_)
    refine lv_aload_n hx hb d_Mo_goOn_47 rfl (lv_at hl 0 rfl) ?_
    refine va_get (D := D) (ci := 5) (v := .int ((upd S1 14 ((S1 14) + (1 : Int32))) 14)) (C := R_Mo) (T := T_Mo) (N := 10) hx hb hts iMo hown hK hP 5 (wB_at5 _ _ _ _) rfl 6 (by decide) k25 (fun _ h9 => h9) rfl d_Mo_goOn_48 ?_
    refine lv_aload_n hx hb d_Mo_goOn_51 rfl (lv_at hl 0 rfl) ?_
    refine va_get (D := D) (ci := 5) (v := .int ((upd S1 14 ((S1 14) + (1 : Int32))) 12)) (C := R_Mo) (T := T_Mo) (N := 10) hx hb hts iMo hown hK hP 5 (wB_at5 _ _ _ _) rfl 4 (by decide) k19 (fun _ h9 => h9) rfl d_Mo_goOn_52 ?_
    refine lv_icmp_ne (tgt := 68) hx hb d_Mo_goOn_55 (by decide) (fun hc => ?_) (fun hc => ?_)
    · have h := sg_n hc h
      exact b68 _ _ _ h _ _ _ (lv_sub hl [0, 1, 2] rfl) hP hD hS
    · have h := sg_p hc h
      refine lv_aload_n hx hb d_Mo_goOn_58 rfl (lv_at hl 0 rfl) ?_
      refine lv_iconst (v := (0 : Int32)) hx hb d_Mo_goOn_59 (by decide) ?_
      refine puwB_9 (D := D) (x := (0 : Int32)) hx hb hts iMo hown hK hP hD hS k41 (by decide +kernel) (by decide +kernel) d_Mo_goOn_60 (fun H locs hP hD hS => ?_)
      refine lv_aload_n hx hb d_Mo_goOn_63 rfl (lv_at hl 2 rfl) ?_
      refine lv_iconst (v := (1 : Int32)) hx hb d_Mo_goOn_64 (by decide) ?_
      obtain ⟨⟨r2, S2, M2⟩, hc2, h⟩ := sg_b h
      dsimp only at h
      refine cvv (As := [.int (1 : Int32)]) (rest := []) ⟨hx, hb, hml, hown, hts⟩ (c_Re_request l D cA a (upd (upd S1 14 ((S1 14) + (1 : Int32))) 9 (0 : Int32)) M1 (1 : Int32) _ hc2) ⟨callB_of 1 hts (tb_gi tb_cd_Re_request) rfl rfl rfl (hts _ tb_in_Re) (hts _ tb_ml_Mo_95) yd_Re_request ⟨Nat.le_of_ble_eq_true rfl, Nat.le_of_ble_eq_true rfl⟩, hts _ tb_im_Re_request, hts _ tb_se_Re_request⟩ hZK hK hZ hP hD hS 2 (wB_at2 _ _ _ _) rfl rfl hl.1 rfl (Nat.le_of_ble_eq_true rfl) d_Mo_goOn_65 (fun H locs hP hD hS => ?_)
      exact b68 _ _ _ h _ _ _ (lv_sub hl [0, 1, 2] rfl) hP hD hS
  · have h := sg_n hc h
    exact ret _ _ _ _ _ _ _ h hP hD hS d_Mo_goOn_26
