def w_Bd_access : List Cond := Cond.code y_Bd_access prog_1_method_2_code 5 (some .boolean) :: TB
def rm_Bd_access : Room := { frames := 1, cells := 0, slots := 0, locals := 24 }
theorem d_Bd_access_0 : decode prog_1_method_2_code 0 = .ok (.iload_n 1, 1) := by decide +kernel
theorem d_Bd_access_1 : decode prog_1_method_2_code 1 = .ok (.ifCond .lt 8, 3) := by decide +kernel
theorem d_Bd_access_4 : decode prog_1_method_2_code 4 = .ok (.iload_n 1, 1) := by decide +kernel
theorem d_Bd_access_5 : decode prog_1_method_2_code 5 = .ok (.iconst 2, 1) := by decide +kernel
theorem d_Bd_access_6 : decode prog_1_method_2_code 6 = .ok (.if_icmp .le 5, 3) := by decide +kernel
theorem d_Bd_access_9 : decode prog_1_method_2_code 9 = .ok (.iconst 0, 1) := by decide +kernel
theorem d_Bd_access_10 : decode prog_1_method_2_code 10 = .ok (.ireturn, 1) := by decide +kernel
theorem d_Bd_access_11 : decode prog_1_method_2_code 11 = .ok (.iload_n 1, 1) := by decide +kernel
theorem d_Bd_access_12 : decode prog_1_method_2_code 12 = .ok (.iconst 2, 1) := by decide +kernel
theorem d_Bd_access_13 : decode prog_1_method_2_code 13 = .ok (.if_icmp .ne 8, 3) := by decide +kernel
theorem d_Bd_access_16 : decode prog_1_method_2_code 16 = .ok (.bipush 31, 2) := by decide +kernel
theorem d_Bd_access_18 : decode prog_1_method_2_code 18 = .ok (.goto 6, 3) := by decide +kernel
theorem d_Bd_access_21 : decode prog_1_method_2_code 21 = .ok (.sipush 255, 3) := by decide +kernel
theorem d_Bd_access_24 : decode prog_1_method_2_code 24 = .ok (.istore 4, 2) := by decide +kernel
theorem d_Bd_access_26 : decode prog_1_method_2_code 26 = .ok (.iload_n 2, 1) := by decide +kernel
theorem d_Bd_access_27 : decode prog_1_method_2_code 27 = .ok (.ifCond .lt 9, 3) := by decide +kernel
theorem d_Bd_access_30 : decode prog_1_method_2_code 30 = .ok (.iload_n 2, 1) := by decide +kernel
theorem d_Bd_access_31 : decode prog_1_method_2_code 31 = .ok (.iload 4, 2) := by decide +kernel
theorem d_Bd_access_33 : decode prog_1_method_2_code 33 = .ok (.if_icmp .le 5, 3) := by decide +kernel
theorem d_Bd_access_36 : decode prog_1_method_2_code 36 = .ok (.iconst 0, 1) := by decide +kernel
theorem d_Bd_access_37 : decode prog_1_method_2_code 37 = .ok (.ireturn, 1) := by decide +kernel
theorem d_Bd_access_38 : decode prog_1_method_2_code 38 = .ok (.aload_n 0, 1) := by decide +kernel
theorem d_Bd_access_39 : decode prog_1_method_2_code 39 = .ok (.getfield 47, 3) := by decide +kernel
theorem d_Bd_access_42 : decode prog_1_method_2_code 42 = .ok (.iload_n 1, 1) := by decide +kernel
theorem d_Bd_access_43 : decode prog_1_method_2_code 43 = .ok (.iload_n 2, 1) := by decide +kernel
theorem d_Bd_access_44 : decode prog_1_method_2_code 44 = .ok (.iload_n 3, 1) := by decide +kernel
theorem d_Bd_access_45 : decode prog_1_method_2_code 45 = .ok (.ldc 55, 2) := by decide +kernel
theorem d_Bd_access_47 : decode prog_1_method_2_code 47 = .ok (.iand, 1) := by decide +kernel
theorem d_Bd_access_48 : decode prog_1_method_2_code 48 = .ok (.invokevirtual 56, 3) := by decide +kernel
theorem d_Bd_access_51 : decode prog_1_method_2_code 51 = .ok (.ireturn, 1) := by decide +kernel
theorem yd_Bd_access : y_Bd_access.cls ≠ "java/lang/invoke/MethodHandle" ∧ y_Bd_access.cls ≠ "java/lang/invoke/VarHandle" ∧ (parseMethodDescriptor y_Bd_access.desc).map (fun d => d.parameters.length) = some 3 := by decide +kernel
def w_Bd_set : List Cond := Cond.code y_Bd_set prog_1_method_3_code 3 (some .boolean) :: TB
def rm_Bd_set : Room := { frames := 1, cells := 0, slots := 0, locals := 22 }
theorem d_Bd_set_0 : decode prog_1_method_3_code 0 = .ok (.iload_n 1, 1) := by decide +kernel
theorem d_Bd_set_1 : decode prog_1_method_3_code 1 = .ok (.invokestatic 60, 3) := by decide +kernel
theorem d_Bd_set_4 : decode prog_1_method_3_code 4 = .ok (.ifCond .ne 5, 3) := by decide +kernel
theorem d_Bd_set_7 : decode prog_1_method_3_code 7 = .ok (.iconst 0, 1) := by decide +kernel
theorem d_Bd_set_8 : decode prog_1_method_3_code 8 = .ok (.ireturn, 1) := by decide +kernel
theorem d_Bd_set_9 : decode prog_1_method_3_code 9 = .ok (.aload_n 0, 1) := by decide +kernel
theorem d_Bd_set_10 : decode prog_1_method_3_code 10 = .ok (.getfield 10, 3) := by decide +kernel
theorem d_Bd_set_13 : decode prog_1_method_3_code 13 = .ok (.iload_n 1, 1) := by decide +kernel
theorem d_Bd_set_14 : decode prog_1_method_3_code 14 = .ok (.iload_n 2, 1) := by decide +kernel
theorem d_Bd_set_15 : decode prog_1_method_3_code 15 = .ok (.invokevirtual 64, 3) := by decide +kernel
theorem d_Bd_set_18 : decode prog_1_method_3_code 18 = .ok (.iconst 1, 1) := by decide +kernel
theorem d_Bd_set_19 : decode prog_1_method_3_code 19 = .ok (.ireturn, 1) := by decide +kernel
theorem yd_Bd_set : y_Bd_set.cls ≠ "java/lang/invoke/MethodHandle" ∧ y_Bd_set.cls ≠ "java/lang/invoke/VarHandle" ∧ (parseMethodDescriptor y_Bd_set.desc).map (fun d => d.parameters.length) = some 2 := by decide +kernel
def w_Bd_oneClock : List Cond := Cond.code y_Bd_oneClock prog_1_method_14_code 4 none :: TB
def rm_Bd_oneClock : Room := { frames := 5, cells := 0, slots := 0, locals := 119 }
theorem d_Bd_oneClock_0 : decode prog_1_method_14_code 0 = .ok (.aload_n 0, 1) := by decide +kernel
theorem d_Bd_oneClock_1 : decode prog_1_method_14_code 1 = .ok (.getfield 79, 3) := by decide +kernel
theorem d_Bd_oneClock_4 : decode prog_1_method_14_code 4 = .ok (.iconst 5, 1) := by decide +kernel
theorem d_Bd_oneClock_5 : decode prog_1_method_14_code 5 = .ok (.ishr, 1) := by decide +kernel
theorem d_Bd_oneClock_6 : decode prog_1_method_14_code 6 = .ok (.istore_n 1, 1) := by decide +kernel
theorem d_Bd_oneClock_7 : decode prog_1_method_14_code 7 = .ok (.aload_n 0, 1) := by decide +kernel
theorem d_Bd_oneClock_8 : decode prog_1_method_14_code 8 = .ok (.getfield 79, 3) := by decide +kernel
theorem d_Bd_oneClock_11 : decode prog_1_method_14_code 11 = .ok (.bipush 31, 2) := by decide +kernel
theorem d_Bd_oneClock_13 : decode prog_1_method_14_code 13 = .ok (.iand, 1) := by decide +kernel
theorem d_Bd_oneClock_14 : decode prog_1_method_14_code 14 = .ok (.istore_n 2, 1) := by decide +kernel
theorem d_Bd_oneClock_15 : decode prog_1_method_14_code 15 = .ok (.aload_n 0, 1) := by decide +kernel
theorem d_Bd_oneClock_16 : decode prog_1_method_14_code 16 = .ok (.getfield 79, 3) := by decide +kernel
theorem d_Bd_oneClock_19 : decode prog_1_method_14_code 19 = .ok (.ifCond .ne 7, 3) := by decide +kernel
theorem d_Bd_oneClock_22 : decode prog_1_method_14_code 22 = .ok (.aload_n 0, 1) := by decide +kernel
theorem d_Bd_oneClock_23 : decode prog_1_method_14_code 23 = .ok (.invokevirtual 120, 3) := by decide +kernel
theorem d_Bd_oneClock_26 : decode prog_1_method_14_code 26 = .ok (.aload_n 0, 1) := by decide +kernel
theorem d_Bd_oneClock_27 : decode prog_1_method_14_code 27 = .ok (.getfield 26, 3) := by decide +kernel
theorem d_Bd_oneClock_30 : decode prog_1_method_14_code 30 = .ok (.iload_n 1, 1) := by decide +kernel
theorem d_Bd_oneClock_31 : decode prog_1_method_14_code 31 = .ok (.iload_n 2, 1) := by decide +kernel
theorem d_Bd_oneClock_32 : decode prog_1_method_14_code 32 = .ok (.aload_n 0, 1) := by decide +kernel
theorem d_Bd_oneClock_33 : decode prog_1_method_14_code 33 = .ok (.getfield 19, 3) := by decide +kernel
theorem d_Bd_oneClock_36 : decode prog_1_method_14_code 36 = .ok (.invokevirtual 123, 3) := by decide +kernel
theorem d_Bd_oneClock_39 : decode prog_1_method_14_code 39 = .ok (.aload_n 0, 1) := by decide +kernel
theorem d_Bd_oneClock_40 : decode prog_1_method_14_code 40 = .ok (.getfield 19, 3) := by decide +kernel
theorem d_Bd_oneClock_43 : decode prog_1_method_14_code 43 = .ok (.iconst 2, 1) := by decide +kernel
theorem d_Bd_oneClock_44 : decode prog_1_method_14_code 44 = .ok (.invokevirtual 127, 3) := by decide +kernel
theorem d_Bd_oneClock_47 : decode prog_1_method_14_code 47 = .ok (.ifCond .eq 14, 3) := by decide +kernel
theorem d_Bd_oneClock_50 : decode prog_1_method_14_code 50 = .ok (.aload_n 0, 1) := by decide +kernel
theorem d_Bd_oneClock_51 : decode prog_1_method_14_code 51 = .ok (.getfield 33, 3) := by decide +kernel
theorem d_Bd_oneClock_54 : decode prog_1_method_14_code 54 = .ok (.aload_n 0, 1) := by decide +kernel
theorem d_Bd_oneClock_55 : decode prog_1_method_14_code 55 = .ok (.getfield 79, 3) := by decide +kernel
theorem d_Bd_oneClock_58 : decode prog_1_method_14_code 58 = .ok (.invokevirtual 130, 3) := by decide +kernel
theorem d_Bd_oneClock_61 : decode prog_1_method_14_code 61 = .ok (.aload_n 0, 1) := by decide +kernel
theorem d_Bd_oneClock_62 : decode prog_1_method_14_code 62 = .ok (.iload_n 1, 1) := by decide +kernel
theorem d_Bd_oneClock_63 : decode prog_1_method_14_code 63 = .ok (.iload_n 2, 1) := by decide +kernel
theorem d_Bd_oneClock_64 : decode prog_1_method_14_code 64 = .ok (.invokevirtual 134, 3) := by decide +kernel
theorem d_Bd_oneClock_67 : decode prog_1_method_14_code 67 = .ok (.istore_n 3, 1) := by decide +kernel
theorem d_Bd_oneClock_68 : decode prog_1_method_14_code 68 = .ok (.aload_n 0, 1) := by decide +kernel
theorem d_Bd_oneClock_69 : decode prog_1_method_14_code 69 = .ok (.getfield 51, 3) := by decide +kernel
theorem d_Bd_oneClock_72 : decode prog_1_method_14_code 72 = .ok (.iload_n 3, 1) := by decide +kernel
theorem d_Bd_oneClock_73 : decode prog_1_method_14_code 73 = .ok (.dup2, 1) := by decide +kernel
theorem d_Bd_oneClock_74 : decode prog_1_method_14_code 74 = .ok (.iaload, 1) := by decide +kernel
theorem d_Bd_oneClock_75 : decode prog_1_method_14_code 75 = .ok (.iconst 1, 1) := by decide +kernel
theorem d_Bd_oneClock_76 : decode prog_1_method_14_code 76 = .ok (.iadd, 1) := by decide +kernel
theorem d_Bd_oneClock_77 : decode prog_1_method_14_code 77 = .ok (.iastore, 1) := by decide +kernel
theorem d_Bd_oneClock_78 : decode prog_1_method_14_code 78 = .ok (.aload_n 0, 1) := by decide +kernel
theorem d_Bd_oneClock_79 : decode prog_1_method_14_code 79 = .ok (.iload_n 3, 1) := by decide +kernel
theorem d_Bd_oneClock_80 : decode prog_1_method_14_code 80 = .ok (.iload_n 2, 1) := by decide +kernel
theorem d_Bd_oneClock_81 : decode prog_1_method_14_code 81 = .ok (.invokevirtual 137, 3) := by decide +kernel
theorem d_Bd_oneClock_84 : decode prog_1_method_14_code 84 = .ok (.aload_n 0, 1) := by decide +kernel
theorem d_Bd_oneClock_85 : decode prog_1_method_14_code 85 = .ok (.aload_n 0, 1) := by decide +kernel
theorem d_Bd_oneClock_86 : decode prog_1_method_14_code 86 = .ok (.getfield 79, 3) := by decide +kernel
theorem d_Bd_oneClock_89 : decode prog_1_method_14_code 89 = .ok (.iconst 1, 1) := by decide +kernel
theorem d_Bd_oneClock_90 : decode prog_1_method_14_code 90 = .ok (.iadd, 1) := by decide +kernel
theorem d_Bd_oneClock_91 : decode prog_1_method_14_code 91 = .ok (.sipush 640, 3) := by decide +kernel
theorem d_Bd_oneClock_94 : decode prog_1_method_14_code 94 = .ok (.if_icmp .ge 12, 3) := by decide +kernel
theorem d_Bd_oneClock_97 : decode prog_1_method_14_code 97 = .ok (.aload_n 0, 1) := by decide +kernel
theorem d_Bd_oneClock_98 : decode prog_1_method_14_code 98 = .ok (.getfield 79, 3) := by decide +kernel
theorem d_Bd_oneClock_101 : decode prog_1_method_14_code 101 = .ok (.iconst 1, 1) := by decide +kernel
theorem d_Bd_oneClock_102 : decode prog_1_method_14_code 102 = .ok (.iadd, 1) := by decide +kernel
theorem d_Bd_oneClock_103 : decode prog_1_method_14_code 103 = .ok (.goto 4, 3) := by decide +kernel
theorem d_Bd_oneClock_106 : decode prog_1_method_14_code 106 = .ok (.iconst 0, 1) := by decide +kernel
theorem d_Bd_oneClock_107 : decode prog_1_method_14_code 107 = .ok (.putfield 79, 3) := by decide +kernel
theorem d_Bd_oneClock_110 : decode prog_1_method_14_code 110 = .ok (.return_, 1) := by decide +kernel
theorem yd_Bd_oneClock : y_Bd_oneClock.cls ≠ "java/lang/invoke/MethodHandle" ∧ y_Bd_oneClock.cls ≠ "java/lang/invoke/VarHandle" ∧ (parseMethodDescriptor y_Bd_oneClock.desc).map (fun d => d.parameters.length) = some 0 := by decide +kernel
def w_Bd_run : List Cond := Cond.code y_Bd_run prog_1_method_4_code 4 (some .int) :: TB
def rm_Bd_run : Room := { frames := 6, cells := 0, slots := 0, locals := 142 }
theorem d_Bd_run_0 : decode prog_1_method_4_code 0 = .ok (.iload_n 1, 1) := by decide +kernel
theorem d_Bd_run_1 : decode prog_1_method_4_code 1 = .ok (.iconst 1, 1) := by decide +kernel
theorem d_Bd_run_2 : decode prog_1_method_4_code 2 = .ok (.if_icmp .lt 10, 3) := by decide +kernel
theorem d_Bd_run_5 : decode prog_1_method_4_code 5 = .ok (.iload_n 1, 1) := by decide +kernel
theorem d_Bd_run_6 : decode prog_1_method_4_code 6 = .ok (.sipush 700, 3) := by decide +kernel
theorem d_Bd_run_9 : decode prog_1_method_4_code 9 = .ok (.if_icmp .le 5, 3) := by decide +kernel
theorem d_Bd_run_12 : decode prog_1_method_4_code 12 = .ok (.iconst (-1), 1) := by decide +kernel
theorem d_Bd_run_13 : decode prog_1_method_4_code 13 = .ok (.ireturn, 1) := by decide +kernel
theorem d_Bd_run_14 : decode prog_1_method_4_code 14 = .ok (.aload_n 0, 1) := by decide +kernel
theorem d_Bd_run_15 : decode prog_1_method_4_code 15 = .ok (.getfield 51, 3) := by decide +kernel
theorem d_Bd_run_18 : decode prog_1_method_4_code 18 = .ok (.iconst 0, 1) := by decide +kernel
theorem d_Bd_run_19 : decode prog_1_method_4_code 19 = .ok (.iaload, 1) := by decide +kernel
theorem d_Bd_run_20 : decode prog_1_method_4_code 20 = .ok (.istore_n 2, 1) := by decide +kernel
theorem d_Bd_run_21 : decode prog_1_method_4_code 21 = .ok (.iconst 0, 1) := by decide +kernel
theorem d_Bd_run_22 : decode prog_1_method_4_code 22 = .ok (.istore_n 3, 1) := by decide +kernel
theorem d_Bd_run_23 : decode prog_1_method_4_code 23 = .ok (.iload_n 3, 1) := by decide +kernel
theorem d_Bd_run_24 : decode prog_1_method_4_code 24 = .ok (.iload_n 1, 1) := by decide +kernel
theorem d_Bd_run_25 : decode prog_1_method_4_code 25 = .ok (.if_icmp .ge 13, 3) := by decide +kernel
theorem d_Bd_run_28 : decode prog_1_method_4_code 28 = .ok (.aload_n 0, 1) := by decide +kernel
theorem d_Bd_run_29 : decode prog_1_method_4_code 29 = .ok (.invokevirtual 68, 3) := by decide +kernel
theorem d_Bd_run_32 : decode prog_1_method_4_code 32 = .ok (.iinc 3 1, 3) := by decide +kernel
theorem d_Bd_run_35 : decode prog_1_method_4_code 35 = .ok (.goto (-12), 3) := by decide +kernel
theorem d_Bd_run_38 : decode prog_1_method_4_code 38 = .ok (.aload_n 0, 1) := by decide +kernel
theorem d_Bd_run_39 : decode prog_1_method_4_code 39 = .ok (.getfield 51, 3) := by decide +kernel
theorem d_Bd_run_42 : decode prog_1_method_4_code 42 = .ok (.iconst 0, 1) := by decide +kernel
theorem d_Bd_run_43 : decode prog_1_method_4_code 43 = .ok (.iaload, 1) := by decide +kernel
theorem d_Bd_run_44 : decode prog_1_method_4_code 44 = .ok (.iload_n 2, 1) := by decide +kernel
theorem d_Bd_run_45 : decode prog_1_method_4_code 45 = .ok (.isub, 1) := by decide +kernel
theorem d_Bd_run_46 : decode prog_1_method_4_code 46 = .ok (.ireturn, 1) := by decide +kernel
theorem yd_Bd_run : y_Bd_run.cls ≠ "java/lang/invoke/MethodHandle" ∧ y_Bd_run.cls ≠ "java/lang/invoke/VarHandle" ∧ (parseMethodDescriptor y_Bd_run.desc).map (fun d => d.parameters.length) = some 1 := by decide +kernel
def w_Bd_word : List Cond := Cond.code y_Bd_word prog_1_method_5_code 2 (some .int) :: TB
def rm_Bd_word : Room := { frames := 1, cells := 0, slots := 0, locals := 21 }
theorem d_Bd_word_0 : decode prog_1_method_5_code 0 = .ok (.iload_n 1, 1) := by decide +kernel
theorem d_Bd_word_1 : decode prog_1_method_5_code 1 = .ok (.invokestatic 60, 3) := by decide +kernel
theorem d_Bd_word_4 : decode prog_1_method_5_code 4 = .ok (.ifCond .eq 14, 3) := by decide +kernel
theorem d_Bd_word_7 : decode prog_1_method_5_code 7 = .ok (.aload_n 0, 1) := by decide +kernel
theorem d_Bd_word_8 : decode prog_1_method_5_code 8 = .ok (.getfield 10, 3) := by decide +kernel
theorem d_Bd_word_11 : decode prog_1_method_5_code 11 = .ok (.iload_n 1, 1) := by decide +kernel
theorem d_Bd_word_12 : decode prog_1_method_5_code 12 = .ok (.invokevirtual 71, 3) := by decide +kernel
theorem d_Bd_word_15 : decode prog_1_method_5_code 15 = .ok (.goto 4, 3) := by decide +kernel
theorem d_Bd_word_18 : decode prog_1_method_5_code 18 = .ok (.iconst (-1), 1) := by decide +kernel
theorem d_Bd_word_19 : decode prog_1_method_5_code 19 = .ok (.ireturn, 1) := by decide +kernel
theorem yd_Bd_word : y_Bd_word.cls ≠ "java/lang/invoke/MethodHandle" ∧ y_Bd_word.cls ≠ "java/lang/invoke/VarHandle" ∧ (parseMethodDescriptor y_Bd_word.desc).map (fun d => d.parameters.length) = some 1 := by decide +kernel
def w_Bd_point : List Cond := Cond.code y_Bd_point prog_1_method_6_code 3 (some .int) :: TB
def rm_Bd_point : Room := { frames := 1, cells := 0, slots := 0, locals := 22 }
theorem d_Bd_point_0 : decode prog_1_method_6_code 0 = .ok (.aload_n 0, 1) := by decide +kernel
theorem d_Bd_point_1 : decode prog_1_method_6_code 1 = .ok (.getfield 26, 3) := by decide +kernel
theorem d_Bd_point_4 : decode prog_1_method_6_code 4 = .ok (.iload_n 1, 1) := by decide +kernel
theorem d_Bd_point_5 : decode prog_1_method_6_code 5 = .ok (.iload_n 2, 1) := by decide +kernel
theorem d_Bd_point_6 : decode prog_1_method_6_code 6 = .ok (.invokevirtual 75, 3) := by decide +kernel
theorem d_Bd_point_9 : decode prog_1_method_6_code 9 = .ok (.ireturn, 1) := by decide +kernel
theorem yd_Bd_point : y_Bd_point.cls ≠ "java/lang/invoke/MethodHandle" ∧ y_Bd_point.cls ≠ "java/lang/invoke/VarHandle" ∧ (parseMethodDescriptor y_Bd_point.desc).map (fun d => d.parameters.length) = some 2 := by decide +kernel
def w_Bd_place : List Cond := Cond.code y_Bd_place prog_1_method_7_code 1 (some .int) :: TB
def rm_Bd_place : Room := { frames := 0, cells := 0, slots := 0, locals := 0 }
theorem d_Bd_place_0 : decode prog_1_method_7_code 0 = .ok (.aload_n 0, 1) := by decide +kernel
theorem d_Bd_place_1 : decode prog_1_method_7_code 1 = .ok (.getfield 79, 3) := by decide +kernel
theorem d_Bd_place_4 : decode prog_1_method_7_code 4 = .ok (.ireturn, 1) := by decide +kernel
theorem yd_Bd_place : y_Bd_place.cls ≠ "java/lang/invoke/MethodHandle" ∧ y_Bd_place.cls ≠ "java/lang/invoke/VarHandle" ∧ (parseMethodDescriptor y_Bd_place.desc).map (fun d => d.parameters.length) = some 0 := by decide +kernel
def w_Bd_frames : List Cond := Cond.code y_Bd_frames prog_1_method_8_code 1 (some .int) :: TB
def rm_Bd_frames : Room := { frames := 0, cells := 0, slots := 0, locals := 0 }
theorem d_Bd_frames_0 : decode prog_1_method_8_code 0 = .ok (.aload_n 0, 1) := by decide +kernel
theorem d_Bd_frames_1 : decode prog_1_method_8_code 1 = .ok (.getfield 83, 3) := by decide +kernel
theorem d_Bd_frames_4 : decode prog_1_method_8_code 4 = .ok (.ireturn, 1) := by decide +kernel
theorem yd_Bd_frames : y_Bd_frames.cls ≠ "java/lang/invoke/MethodHandle" ∧ y_Bd_frames.cls ≠ "java/lang/invoke/VarHandle" ∧ (parseMethodDescriptor y_Bd_frames.desc).map (fun d => d.parameters.length) = some 0 := by decide +kernel
def w_Bd_slots : List Cond := Cond.code y_Bd_slots prog_1_method_9_code 2 (some .int) :: TB
def rm_Bd_slots : Room := { frames := 0, cells := 0, slots := 0, locals := 0 }
theorem d_Bd_slots_0 : decode prog_1_method_9_code 0 = .ok (.iload_n 1, 1) := by decide +kernel
theorem d_Bd_slots_1 : decode prog_1_method_9_code 1 = .ok (.ifCond .lt 9, 3) := by decide +kernel
theorem d_Bd_slots_4 : decode prog_1_method_9_code 4 = .ok (.iload_n 1, 1) := by decide +kernel
theorem d_Bd_slots_5 : decode prog_1_method_9_code 5 = .ok (.bipush 6, 2) := by decide +kernel
theorem d_Bd_slots_7 : decode prog_1_method_9_code 7 = .ok (.if_icmp .lt 7, 3) := by decide +kernel
theorem d_Bd_slots_10 : decode prog_1_method_9_code 10 = .ok (.iconst (-1), 1) := by decide +kernel
theorem d_Bd_slots_11 : decode prog_1_method_9_code 11 = .ok (.goto 9, 3) := by decide +kernel
theorem d_Bd_slots_14 : decode prog_1_method_9_code 14 = .ok (.aload_n 0, 1) := by decide +kernel
theorem d_Bd_slots_15 : decode prog_1_method_9_code 15 = .ok (.getfield 51, 3) := by decide +kernel
theorem d_Bd_slots_18 : decode prog_1_method_9_code 18 = .ok (.iload_n 1, 1) := by decide +kernel
theorem d_Bd_slots_19 : decode prog_1_method_9_code 19 = .ok (.iaload, 1) := by decide +kernel
theorem d_Bd_slots_20 : decode prog_1_method_9_code 20 = .ok (.ireturn, 1) := by decide +kernel
theorem yd_Bd_slots : y_Bd_slots.cls ≠ "java/lang/invoke/MethodHandle" ∧ y_Bd_slots.cls ≠ "java/lang/invoke/VarHandle" ∧ (parseMethodDescriptor y_Bd_slots.desc).map (fun d => d.parameters.length) = some 1 := by decide +kernel
def w_Bd_look : List Cond := Cond.code y_Bd_look prog_1_method_10_code 2 (some .int) :: TB
def rm_Bd_look : Room := { frames := 1, cells := 0, slots := 0, locals := 20 }
theorem d_Bd_look_0 : decode prog_1_method_10_code 0 = .ok (.iload_n 1, 1) := by decide +kernel
theorem d_Bd_look_1 : decode prog_1_method_10_code 1 = .ok (.tableswitch 132 0 8 #[51, 59, 70, 81, 92, 100, 108, 116, 124], 51) := by decide +kernel
theorem d_Bd_look_52 : decode prog_1_method_10_code 52 = .ok (.aload_n 0, 1) := by decide +kernel
theorem d_Bd_look_53 : decode prog_1_method_10_code 53 = .ok (.getfield 19, 3) := by decide +kernel
theorem d_Bd_look_56 : decode prog_1_method_10_code 56 = .ok (.getfield 86, 3) := by decide +kernel
theorem d_Bd_look_59 : decode prog_1_method_10_code 59 = .ok (.ireturn, 1) := by decide +kernel
theorem d_Bd_look_60 : decode prog_1_method_10_code 60 = .ok (.aload_n 0, 1) := by decide +kernel
theorem d_Bd_look_61 : decode prog_1_method_10_code 61 = .ok (.getfield 19, 3) := by decide +kernel
theorem d_Bd_look_64 : decode prog_1_method_10_code 64 = .ok (.invokevirtual 89, 3) := by decide +kernel
theorem d_Bd_look_67 : decode prog_1_method_10_code 67 = .ok (.invokestatic 93, 3) := by decide +kernel
theorem d_Bd_look_70 : decode prog_1_method_10_code 70 = .ok (.ireturn, 1) := by decide +kernel
theorem d_Bd_look_71 : decode prog_1_method_10_code 71 = .ok (.aload_n 0, 1) := by decide +kernel
theorem d_Bd_look_72 : decode prog_1_method_10_code 72 = .ok (.getfield 40, 3) := by decide +kernel
theorem d_Bd_look_75 : decode prog_1_method_10_code 75 = .ok (.getfield 97, 3) := by decide +kernel
theorem d_Bd_look_78 : decode prog_1_method_10_code 78 = .ok (.invokestatic 93, 3) := by decide +kernel
theorem d_Bd_look_81 : decode prog_1_method_10_code 81 = .ok (.ireturn, 1) := by decide +kernel
theorem d_Bd_look_82 : decode prog_1_method_10_code 82 = .ok (.aload_n 0, 1) := by decide +kernel
theorem d_Bd_look_83 : decode prog_1_method_10_code 83 = .ok (.getfield 40, 3) := by decide +kernel
theorem d_Bd_look_86 : decode prog_1_method_10_code 86 = .ok (.getfield 101, 3) := by decide +kernel
theorem d_Bd_look_89 : decode prog_1_method_10_code 89 = .ok (.invokestatic 93, 3) := by decide +kernel
theorem d_Bd_look_92 : decode prog_1_method_10_code 92 = .ok (.ireturn, 1) := by decide +kernel
theorem d_Bd_look_93 : decode prog_1_method_10_code 93 = .ok (.aload_n 0, 1) := by decide +kernel
theorem d_Bd_look_94 : decode prog_1_method_10_code 94 = .ok (.getfield 47, 3) := by decide +kernel
theorem d_Bd_look_97 : decode prog_1_method_10_code 97 = .ok (.getfield 104, 3) := by decide +kernel
theorem d_Bd_look_100 : decode prog_1_method_10_code 100 = .ok (.ireturn, 1) := by decide +kernel
theorem d_Bd_look_101 : decode prog_1_method_10_code 101 = .ok (.aload_n 0, 1) := by decide +kernel
theorem d_Bd_look_102 : decode prog_1_method_10_code 102 = .ok (.getfield 47, 3) := by decide +kernel
theorem d_Bd_look_105 : decode prog_1_method_10_code 105 = .ok (.getfield 107, 3) := by decide +kernel
theorem d_Bd_look_108 : decode prog_1_method_10_code 108 = .ok (.ireturn, 1) := by decide +kernel
theorem d_Bd_look_109 : decode prog_1_method_10_code 109 = .ok (.aload_n 0, 1) := by decide +kernel
theorem d_Bd_look_110 : decode prog_1_method_10_code 110 = .ok (.getfield 47, 3) := by decide +kernel
theorem d_Bd_look_113 : decode prog_1_method_10_code 113 = .ok (.getfield 110, 3) := by decide +kernel
theorem d_Bd_look_116 : decode prog_1_method_10_code 116 = .ok (.ireturn, 1) := by decide +kernel
theorem d_Bd_look_117 : decode prog_1_method_10_code 117 = .ok (.aload_n 0, 1) := by decide +kernel
theorem d_Bd_look_118 : decode prog_1_method_10_code 118 = .ok (.getfield 33, 3) := by decide +kernel
theorem d_Bd_look_121 : decode prog_1_method_10_code 121 = .ok (.getfield 113, 3) := by decide +kernel
theorem d_Bd_look_124 : decode prog_1_method_10_code 124 = .ok (.ireturn, 1) := by decide +kernel
theorem d_Bd_look_125 : decode prog_1_method_10_code 125 = .ok (.aload_n 0, 1) := by decide +kernel
theorem d_Bd_look_126 : decode prog_1_method_10_code 126 = .ok (.getfield 33, 3) := by decide +kernel
theorem d_Bd_look_129 : decode prog_1_method_10_code 129 = .ok (.getfield 116, 3) := by decide +kernel
theorem d_Bd_look_132 : decode prog_1_method_10_code 132 = .ok (.ireturn, 1) := by decide +kernel
theorem d_Bd_look_133 : decode prog_1_method_10_code 133 = .ok (.iconst (-1), 1) := by decide +kernel
theorem d_Bd_look_134 : decode prog_1_method_10_code 134 = .ok (.ireturn, 1) := by decide +kernel
theorem yd_Bd_look : y_Bd_look.cls ≠ "java/lang/invoke/MethodHandle" ∧ y_Bd_look.cls ≠ "java/lang/invoke/VarHandle" ∧ (parseMethodDescriptor y_Bd_look.desc).map (fun d => d.parameters.length) = some 1 := by decide +kernel
def w_Bd_register : List Cond := Cond.code y_Bd_register prog_1_method_11_code 2 (some .int) :: TB
def rm_Bd_register : Room := { frames := 1, cells := 0, slots := 0, locals := 21 }
theorem d_Bd_register_0 : decode prog_1_method_11_code 0 = .ok (.iload_n 1, 1) := by decide +kernel
theorem d_Bd_register_1 : decode prog_1_method_11_code 1 = .ok (.ifCond .lt 9, 3) := by decide +kernel
theorem d_Bd_register_4 : decode prog_1_method_11_code 4 = .ok (.iload_n 1, 1) := by decide +kernel
theorem d_Bd_register_5 : decode prog_1_method_11_code 5 = .ok (.bipush 28, 2) := by decide +kernel
theorem d_Bd_register_7 : decode prog_1_method_11_code 7 = .ok (.if_icmp .lt 7, 3) := by decide +kernel
theorem d_Bd_register_10 : decode prog_1_method_11_code 10 = .ok (.iconst (-1), 1) := by decide +kernel
theorem d_Bd_register_11 : decode prog_1_method_11_code 11 = .ok (.goto 11, 3) := by decide +kernel
theorem d_Bd_register_14 : decode prog_1_method_11_code 14 = .ok (.aload_n 0, 1) := by decide +kernel
theorem d_Bd_register_15 : decode prog_1_method_11_code 15 = .ok (.getfield 19, 3) := by decide +kernel
theorem d_Bd_register_18 : decode prog_1_method_11_code 18 = .ok (.iload_n 1, 1) := by decide +kernel
theorem d_Bd_register_19 : decode prog_1_method_11_code 19 = .ok (.invokevirtual 119, 3) := by decide +kernel
theorem d_Bd_register_22 : decode prog_1_method_11_code 22 = .ok (.ireturn, 1) := by decide +kernel
theorem yd_Bd_register : y_Bd_register.cls ≠ "java/lang/invoke/MethodHandle" ∧ y_Bd_register.cls ≠ "java/lang/invoke/VarHandle" ∧ (parseMethodDescriptor y_Bd_register.desc).map (fun d => d.parameters.length) = some 1 := by decide +kernel
theorem tb_cd_Bd_access : Cond.code y_Bd_access prog_1_method_2_code 5 (some .boolean) ∈ TB := tb_in 193 (by decide +kernel) (by decide +kernel)
theorem tb_im_Bd_access : Cond.instanceMethod y_Bd_access ∈ TB := tb_in 191 (by decide +kernel) (by decide +kernel)
theorem tb_se_Bd_access : Cond.selects "SlotBoard" y_Bd_access y_Bd_access ∈ TB := tb_in 192 (by decide +kernel) (by decide +kernel)
theorem tb_ct_Bd_55 : Cond.constant "SlotBoard" 55 (65535) ∈ TB := tb_in 194 (by decide +kernel) (by decide +kernel)
theorem tb_ml_Bd_56 : Cond.methodLink "SlotBoard" 56 y_Pr_enqueue ∈ TB := tb_in 195 (by decide +kernel) (by decide +kernel)
theorem tb_cd_Bd_set : Cond.code y_Bd_set prog_1_method_3_code 3 (some .boolean) ∈ TB := tb_in 202 (by decide +kernel) (by decide +kernel)
theorem tb_im_Bd_set : Cond.instanceMethod y_Bd_set ∈ TB := tb_in 200 (by decide +kernel) (by decide +kernel)
theorem tb_se_Bd_set : Cond.selects "SlotBoard" y_Bd_set y_Bd_set ∈ TB := tb_in 201 (by decide +kernel) (by decide +kernel)
theorem tb_ml_Bd_60 : Cond.methodLink "SlotBoard" 60 y_Bd_isAddress ∈ TB := tb_in 203 (by decide +kernel) (by decide +kernel)
theorem tb_cd_Bd_oneClock : Cond.code y_Bd_oneClock prog_1_method_14_code 4 none ∈ TB := tb_in 218 (by decide +kernel) (by decide +kernel)
theorem tb_im_Bd_oneClock : Cond.instanceMethod y_Bd_oneClock ∈ TB := tb_in 217 (by decide +kernel) (by decide +kernel)
theorem tb_se_Bd_oneClock : Cond.selects "SlotBoard" y_Bd_oneClock y_Bd_oneClock ∈ TB := tb_inS 0 (by decide +kernel) (by decide +kernel)
theorem tb_ml_Bd_120 : Cond.methodLink "SlotBoard" 120 y_Bd_beginFrame ∈ TB := tb_in 219 (by decide +kernel) (by decide +kernel)
theorem tb_ml_Bd_123 : Cond.methodLink "SlotBoard" 123 y_Pi_showClock ∈ TB := tb_in 244 (by decide +kernel) (by decide +kernel)
theorem tb_ml_Bd_130 : Cond.methodLink "SlotBoard" 130 y_Li_wakeAt ∈ TB := tb_in 263 (by decide +kernel) (by decide +kernel)
theorem tb_ml_Bd_134 : Cond.methodLink "SlotBoard" 134 y_Bd_ownerOfSlot ∈ TB := tb_in 267 (by decide +kernel) (by decide +kernel)
theorem tb_fl_Bd_51 : Cond.fieldLink "SlotBoard" 51 "SlotBoard" "owned" "[I" ∈ TB := tb_in 168 (by decide +kernel) (by decide +kernel)
theorem tb_ml_Bd_137 : Cond.methodLink "SlotBoard" 137 y_Bd_doWorkOf ∈ TB := tb_in 289 (by decide +kernel) (by decide +kernel)
theorem tb_cd_Bd_run : Cond.code y_Bd_run prog_1_method_4_code 4 (some .int) ∈ TB := tb_in 214 (by decide +kernel) (by decide +kernel)
theorem tb_im_Bd_run : Cond.instanceMethod y_Bd_run ∈ TB := tb_in 212 (by decide +kernel) (by decide +kernel)
theorem tb_se_Bd_run : Cond.selects "SlotBoard" y_Bd_run y_Bd_run ∈ TB := tb_in 213 (by decide +kernel) (by decide +kernel)
theorem tb_ml_Bd_68 : Cond.methodLink "SlotBoard" 68 y_Bd_oneClock ∈ TB := tb_in 215 (by decide +kernel) (by decide +kernel)
theorem tb_cd_Bd_word : Cond.code y_Bd_word prog_1_method_5_code 2 (some .int) ∈ TB := tb_in 413 (by decide +kernel) (by decide +kernel)
theorem tb_im_Bd_word : Cond.instanceMethod y_Bd_word ∈ TB := tb_in 411 (by decide +kernel) (by decide +kernel)
theorem tb_se_Bd_word : Cond.selects "SlotBoard" y_Bd_word y_Bd_word ∈ TB := tb_in 412 (by decide +kernel) (by decide +kernel)
theorem tb_cd_Bd_point : Cond.code y_Bd_point prog_1_method_6_code 3 (some .int) ∈ TB := tb_in 417 (by decide +kernel) (by decide +kernel)
theorem tb_im_Bd_point : Cond.instanceMethod y_Bd_point ∈ TB := tb_in 415 (by decide +kernel) (by decide +kernel)
theorem tb_se_Bd_point : Cond.selects "SlotBoard" y_Bd_point y_Bd_point ∈ TB := tb_in 416 (by decide +kernel) (by decide +kernel)
theorem tb_ml_Bd_75 : Cond.methodLink "SlotBoard" 75 y_Pi_shownAt ∈ TB := tb_in 418 (by decide +kernel) (by decide +kernel)
theorem tb_cd_Bd_place : Cond.code y_Bd_place prog_1_method_7_code 1 (some .int) ∈ TB := tb_in 425 (by decide +kernel) (by decide +kernel)
theorem tb_im_Bd_place : Cond.instanceMethod y_Bd_place ∈ TB := tb_in 423 (by decide +kernel) (by decide +kernel)
theorem tb_se_Bd_place : Cond.selects "SlotBoard" y_Bd_place y_Bd_place ∈ TB := tb_in 424 (by decide +kernel) (by decide +kernel)
theorem tb_cd_Bd_frames : Cond.code y_Bd_frames prog_1_method_8_code 1 (some .int) ∈ TB := tb_in 429 (by decide +kernel) (by decide +kernel)
theorem tb_im_Bd_frames : Cond.instanceMethod y_Bd_frames ∈ TB := tb_in 427 (by decide +kernel) (by decide +kernel)
theorem tb_se_Bd_frames : Cond.selects "SlotBoard" y_Bd_frames y_Bd_frames ∈ TB := tb_in 428 (by decide +kernel) (by decide +kernel)
theorem tb_cd_Bd_slots : Cond.code y_Bd_slots prog_1_method_9_code 2 (some .int) ∈ TB := tb_in 433 (by decide +kernel) (by decide +kernel)
theorem tb_im_Bd_slots : Cond.instanceMethod y_Bd_slots ∈ TB := tb_in 431 (by decide +kernel) (by decide +kernel)
theorem tb_se_Bd_slots : Cond.selects "SlotBoard" y_Bd_slots y_Bd_slots ∈ TB := tb_in 432 (by decide +kernel) (by decide +kernel)
theorem tb_cd_Bd_look : Cond.code y_Bd_look prog_1_method_10_code 2 (some .int) ∈ TB := tb_in 437 (by decide +kernel) (by decide +kernel)
theorem tb_im_Bd_look : Cond.instanceMethod y_Bd_look ∈ TB := tb_in 435 (by decide +kernel) (by decide +kernel)
theorem tb_se_Bd_look : Cond.selects "SlotBoard" y_Bd_look y_Bd_look ∈ TB := tb_in 436 (by decide +kernel) (by decide +kernel)
theorem tb_ml_Bd_89 : Cond.methodLink "SlotBoard" 89 y_Re_isEnabledRequested ∈ TB := tb_in 438 (by decide +kernel) (by decide +kernel)
theorem tb_ml_Bd_93 : Cond.methodLink "SlotBoard" 93 y_Bd_oneIf ∈ TB := tb_in 442 (by decide +kernel) (by decide +kernel)
theorem tb_cd_Bd_register : Cond.code y_Bd_register prog_1_method_11_code 2 (some .int) ∈ TB := tb_in 448 (by decide +kernel) (by decide +kernel)
theorem tb_im_Bd_register : Cond.instanceMethod y_Bd_register ∈ TB := tb_in 446 (by decide +kernel) (by decide +kernel)
theorem tb_se_Bd_register : Cond.selects "SlotBoard" y_Bd_register y_Bd_register ∈ TB := tb_in 447 (by decide +kernel) (by decide +kernel)
def f_Bd_access_9 (S : SS) (M : MM) (x1 : Int32) (x2 : Int32) (x3 : Int32) : Option RR := some ((0 : Int32), S, M)
def f_Bd_access_36 (S : SS) (M : MM) (x1 : Int32) (x2 : Int32) (x3 : Int32) (x4 : Int32) : Option RR := some ((0 : Int32), S, M)
def f_Bd_access_24 (S : SS) (M : MM) (x1 : Int32) (x2 : Int32) (x3 : Int32) (y0 : Int32) : Option RR := if x2 < 0 then f_Bd_access_36 S M x1 x2 x3 y0 else if x2 ≤ y0 then (f_Pr_enqueue S M x1 x2 (x3 &&& (65535 : Int32))).bind (fun q1 => if ¬ (q1.1 = 0 ∨ q1.1 = 1) then none else some (q1.1, q1.2.1, q1.2.2)) else f_Bd_access_36 S M x1 x2 x3 y0
def f_Bd_access (S : SS) (M : MM) (x1 : Int32) (x2 : Int32) (x3 : Int32) : Option RR := if x1 < 0 then f_Bd_access_9 S M x1 x2 x3 else if x1 ≤ (2 : Int32) then if x1 = (2 : Int32) then f_Bd_access_24 S M x1 x2 x3 (31 : Int32) else f_Bd_access_24 S M x1 x2 x3 (255 : Int32) else f_Bd_access_9 S M x1 x2 x3
set_option maxHeartbeats 4000000 in
set_option maxRecDepth 100000 in
theorem c_Bd_access (l : Launch) (D : va_G) (cA : ClassId) (a : Nat → Nat) (S : SS) (M : MM) (x1 : Int32) (x2 : Int32) (x3 : Int32) (q : RR) (h0 : f_Bd_access S M x1 x2 x3 = some q) : Ci l y_Bd_access w_Bd_access rm_Bd_access D vCl [(cA, .int)] (AB a) (ZB a) (wB cA a) [.ref (a 0), .int x1, .int x2, .int x3] S M q := by
  refine Ci.of (cc := prog_1_method_2_code) (maxL := 5) (ty := .boolean) (by decide) rfl (Nat.le_of_ble_eq_true rfl) ?_
  intro p e s m args below meth c Q hx hb hml hown hts hK hZ ret
  have hown : s.vm.findClass R_Bd = some m.cls := hown
  have hts : ∀ w ∈ TB, w.before args s = true := fun w h => hts w (List.mem_cons_of_mem _ h)
  have hZK := ZB_k a
  have k47 := hts _ tb_fl_Bd_47
  have k55 := hts _ tb_ct_Bd_55
  have b9 : ∀ (S : SS) (M : MM) (x1 : Int32) (x2 : Int32) (x3 : Int32), f_Bd_access_9 S M x1 x2 x3 = some q → BK p l e rm_Bd_access s m args below meth c Q D vCl (AB a) (wB cA a) 5 9 [(0, .ref (a 0)), (1, .int x1), (2, .int x2), (3, .int x3)] [] S M := by
    intro S M x1 x2 x3 h H locs ls hl hP hD hS
    unfold f_Bd_access_9 at h
    refine lv_iconst (v := (0 : Int32)) hx hb d_Bd_access_9 (by decide) ?_
    exact ret _ _ _ _ _ _ _ h (by decide +kernel) hP hD hS d_Bd_access_10
  have b36 : ∀ (S : SS) (M : MM) (x1 : Int32) (x2 : Int32) (x3 : Int32) (x4 : Int32), f_Bd_access_36 S M x1 x2 x3 x4 = some q → BK p l e rm_Bd_access s m args below meth c Q D vCl (AB a) (wB cA a) 5 36 [(0, .ref (a 0)), (1, .int x1), (2, .int x2), (3, .int x3), (4, .int x4)] [] S M := by
    intro S M x1 x2 x3 x4 h H locs ls hl hP hD hS
    unfold f_Bd_access_36 at h
    refine lv_iconst (v := (0 : Int32)) hx hb d_Bd_access_36 (by decide) ?_
    exact ret _ _ _ _ _ _ _ h (by decide +kernel) hP hD hS d_Bd_access_37
  have b24 : ∀ (S : SS) (M : MM) (x1 : Int32) (x2 : Int32) (x3 : Int32) (y0 : Int32), f_Bd_access_24 S M x1 x2 x3 y0 = some q → BK p l e rm_Bd_access s m args below meth c Q D vCl (AB a) (wB cA a) 5 24 [(0, .ref (a 0)), (1, .int x1), (2, .int x2), (3, .int x3)] [.int y0] S M := by
    intro S M x1 x2 x3 y0 h H locs ls hl hP hD hS
    unfold f_Bd_access_24 at h
    refine lv_istore (lv' := [(4, .int y0), (0, .ref (a 0)), (1, .int x1), (2, .int x2), (3, .int x3)]) hx hb d_Bd_access_24 hl (by decide) rfl (fun ls hl => ?_)
    refine lv_iload_n hx hb d_Bd_access_26 rfl (lv_at hl 3 rfl) ?_
    refine lv_if_lt (tgt := 36) hx hb d_Bd_access_27 (by decide) (fun hc => ?_) (fun hc => ?_)
    · have h := sg_p hc h
      exact b36 _ _ _ _ _ _ h _ _ _ (lv_sub hl [1, 2, 3, 4, 0] rfl) hP hD hS
    · have h := sg_n hc h
      refine lv_iload_n hx hb d_Bd_access_30 rfl (lv_at hl 3 rfl) ?_
      refine lv_iload hx hb d_Bd_access_31 (lv_at hl 0 rfl) ?_
      refine lv_icmp_le (tgt := 38) hx hb d_Bd_access_33 (by decide) (fun hc => ?_) (fun hc => ?_)
      · have h := sg_p hc h
        refine lv_aload_n hx hb d_Bd_access_38 rfl (lv_at hl 1 rfl) ?_
        refine va_get (D := D) (ci := 0) (v := .ref (a 6)) (C := R_Bd) (T := T_Bd) (N := 9) hx hb hts iBd hown hK hP 0 (wB_at0 _ _ _ _) rfl 5 (by decide) k47 (fun _ h9 => h9) rfl d_Bd_access_39 ?_
        refine lv_iload_n hx hb d_Bd_access_42 rfl (lv_at hl 2 rfl) ?_
        refine lv_iload_n hx hb d_Bd_access_43 rfl (lv_at hl 3 rfl) ?_
        refine lv_iload_n hx hb d_Bd_access_44 rfl (lv_at hl 4 rfl) ?_
        refine lv_ldc (v := (65535 : Int32)) hx hb hown k55 d_Bd_access_45 ?_
        refine lv_iand hx hb d_Bd_access_47 ?_
        obtain ⟨⟨r1, S1, M1⟩, hc1, h⟩ := sg_b h
        dsimp only at h
        refine cvi (As := [.int x1, .int x2, .int (x3 &&& (65535 : Int32))]) (rest := []) ⟨hx, hb, hml, hown, hts⟩ (c_Pr_enqueue l D cA a S M x1 x2 (x3 &&& (65535 : Int32)) _ hc1) ⟨callB_of 3 hts (tb_gi tb_cd_Pr_enqueue) rfl rfl rfl (hts _ tb_in_Pr) (hts _ tb_ml_Bd_56) yd_Pr_enqueue ⟨Nat.le_of_ble_eq_true rfl, Nat.le_of_ble_eq_true rfl⟩, hts _ tb_im_Pr_enqueue, hts _ tb_se_Pr_enqueue⟩ hZK hK hZ hP hD hS 6 (wB_at6 _ _ _ _) rfl rfl hl.1 rfl (Nat.le_of_ble_eq_true rfl) d_Bd_access_48 (fun H locs hP hD hS => ?_)
        obtain ⟨hg2, h⟩ := sg_g h
        exact ret _ _ _ _ _ _ _ h (sg_nb hg2).1 hP hD hS d_Bd_access_51
      · have h := sg_n hc h
        exact b36 _ _ _ _ _ _ h _ _ _ (lv_sub hl [1, 2, 3, 4, 0] rfl) hP hD hS
  intro H locs ls hl hP hD hS
  have hl : lv_has ls 5 [(0, .ref (a 0)), (1, .int x1), (2, .int x2), (3, .int x3)] := hl
  have h := h0
  unfold f_Bd_access at h
  refine lv_iload_n hx hb d_Bd_access_0 rfl (lv_at hl 1 rfl) ?_
  refine lv_if_lt (tgt := 9) hx hb d_Bd_access_1 (by decide) (fun hc => ?_) (fun hc => ?_)
  · have h := sg_p hc h
    exact b9 _ _ _ _ _ h _ _ _ (lv_sub hl [0, 1, 2, 3] rfl) hP hD hS
  · have h := sg_n hc h
    refine lv_iload_n hx hb d_Bd_access_4 rfl (lv_at hl 1 rfl) ?_
    refine lv_iconst (v := (2 : Int32)) hx hb d_Bd_access_5 (by decide) ?_
    refine lv_icmp_le (tgt := 11) hx hb d_Bd_access_6 (by decide) (fun hc => ?_) (fun hc => ?_)
    · have h := sg_p hc h
      refine lv_iload_n hx hb d_Bd_access_11 rfl (lv_at hl 1 rfl) ?_
      refine lv_iconst (v := (2 : Int32)) hx hb d_Bd_access_12 (by decide) ?_
      refine lv_icmp_ne (tgt := 21) hx hb d_Bd_access_13 (by decide) (fun hc => ?_) (fun hc => ?_)
      · have h := sg_n hc h
        refine lv_sipush (v := (255 : Int32)) hx hb d_Bd_access_21 (by decide) ?_
        exact b24 _ _ _ _ _ _ h _ _ _ (lv_sub hl [0, 1, 2, 3] rfl) hP hD hS
      · have h := sg_p hc h
        refine lv_bipush (v := (31 : Int32)) hx hb d_Bd_access_16 (by decide) ?_
        refine lv_goto (tgt := 24) hx hb d_Bd_access_18 (by decide) ?_
        exact b24 _ _ _ _ _ _ h _ _ _ (lv_sub hl [0, 1, 2, 3] rfl) hP hD hS
    · have h := sg_n hc h
      exact b9 _ _ _ _ _ h _ _ _ (lv_sub hl [0, 1, 2, 3] rfl) hP hD hS
def f_Bd_set (S : SS) (M : MM) (x1 : Int32) (x2 : Int32) : Option RR := (f_Bd_isAddress S M x1).bind (fun q1 => if q1.1 = 0 then some ((0 : Int32), q1.2.1, q1.2.2) else (f_Me_put q1.2.1 q1.2.2 x1 x2).bind (fun q2 => some ((1 : Int32), q2.2.1, q2.2.2)))
set_option maxHeartbeats 4000000 in
set_option maxRecDepth 100000 in
theorem c_Bd_set (l : Launch) (D : va_G) (cA : ClassId) (a : Nat → Nat) (S : SS) (M : MM) (x1 : Int32) (x2 : Int32) (q : RR) (h0 : f_Bd_set S M x1 x2 = some q) : Ci l y_Bd_set w_Bd_set rm_Bd_set D vCl [(cA, .int)] (AB a) (ZB a) (wB cA a) [.ref (a 0), .int x1, .int x2] S M q := by
  refine Ci.of (cc := prog_1_method_3_code) (maxL := 3) (ty := .boolean) (by decide) rfl (Nat.le_of_ble_eq_true rfl) ?_
  intro p e s m args below meth c Q hx hb hml hown hts hK hZ ret
  have hown : s.vm.findClass R_Bd = some m.cls := hown
  have hts : ∀ w ∈ TB, w.before args s = true := fun w h => hts w (List.mem_cons_of_mem _ h)
  have hZK := ZB_k a
  have k10 := hts _ tb_fl_Bd_10
  intro H locs ls hl hP hD hS
  have hl : lv_has ls 3 [(0, .ref (a 0)), (1, .int x1), (2, .int x2)] := hl
  have h := h0
  unfold f_Bd_set at h
  refine lv_iload_n hx hb d_Bd_set_0 rfl (lv_at hl 1 rfl) ?_
  obtain ⟨⟨r1, S1, M1⟩, hc1, h⟩ := sg_b h
  dsimp only at h
  refine csi (As := [.int x1]) (rest := []) ⟨hx, hb, hml, hown, hts⟩ (c_Bd_isAddress l D cA a S M x1 _ hc1) ⟨callB_of 1 hts (tb_gi tb_cd_Bd_isAddress) rfl rfl rfl (hts _ tb_in_Bd) (hts _ tb_ml_Bd_60) yd_Bd_isAddress ⟨Nat.le_of_ble_eq_true rfl, Nat.le_of_ble_eq_true rfl⟩, hts _ tb_st_Bd_isAddress⟩ hZK hK hZ hP hD hS rfl hl.1 rfl (Nat.le_of_ble_eq_true rfl) d_Bd_set_1 (fun H locs hP hD hS => ?_)
  refine lv_if_ne (tgt := 9) hx hb d_Bd_set_4 (by decide) (fun hc => ?_) (fun hc => ?_)
  · have h := sg_n hc h
    refine lv_aload_n hx hb d_Bd_set_9 rfl (lv_at hl 0 rfl) ?_
    refine va_get (D := D) (ci := 0) (v := .ref (a 1)) (C := R_Bd) (T := T_Bd) (N := 9) hx hb hts iBd hown hK hP 0 (wB_at0 _ _ _ _) rfl 0 (by decide) k10 (fun _ h9 => h9) rfl d_Bd_set_10 ?_
    refine lv_iload_n hx hb d_Bd_set_13 rfl (lv_at hl 1 rfl) ?_
    refine lv_iload_n hx hb d_Bd_set_14 rfl (lv_at hl 2 rfl) ?_
    obtain ⟨⟨r2, S2, M2⟩, hc2, h⟩ := sg_b h
    dsimp only at h
    refine cvv (As := [.int x1, .int x2]) (rest := []) ⟨hx, hb, hml, hown, hts⟩ (c_Me_put l D cA a S1 M1 x1 x2 _ hc2) ⟨callB_of 2 hts (tb_gi tb_cd_Me_put) rfl rfl rfl (hts _ tb_in_Me) (hts _ tb_ml_Bd_64) yd_Me_put ⟨Nat.le_of_ble_eq_true rfl, Nat.le_of_ble_eq_true rfl⟩, hts _ tb_im_Me_put, hts _ tb_se_Me_put⟩ hZK hK hZ hP hD hS 1 (wB_at1 _ _ _ _) rfl rfl hl.1 rfl (Nat.le_of_ble_eq_true rfl) d_Bd_set_15 (fun H locs hP hD hS => ?_)
    refine lv_iconst (v := (1 : Int32)) hx hb d_Bd_set_18 (by decide) ?_
    exact ret _ _ _ _ _ _ _ h (by decide +kernel) hP hD hS d_Bd_set_19
  · have h := sg_p hc h
    refine lv_iconst (v := (0 : Int32)) hx hb d_Bd_set_7 (by decide) ?_
    exact ret _ _ _ _ _ _ _ h (by decide +kernel) hP hD hS d_Bd_set_8
def f_Bd_oneClock_107 (S : SS) (M : MM) (x1 : Int32) (x2 : Int32) (x3 : Int32) (y1 : Int32) : Option RR := some (0, (upd S 0 y1), M)
def f_Bd_oneClock_61 (S : SS) (M : MM) (x1 : Int32) (x2 : Int32) : Option RR := (f_Bd_ownerOfSlot S M x1 x2).bind (fun q1 => if q1.1 < 0 ∨ 6 ≤ q1.1.toNatClampNeg then none else if q1.1 < 0 ∨ 6 ≤ q1.1.toNatClampNeg then none else (f_Bd_doWorkOf q1.2.1 (upM q1.2.2 0 (upd (q1.2.2 0) q1.1.toNatClampNeg ((q1.2.2 0 q1.1.toNatClampNeg) + (1 : Int32)))) q1.1 x2).bind (fun q4 => if (640 : Int32) ≤ (q4.2.1 0) + (1 : Int32) then f_Bd_oneClock_107 q4.2.1 q4.2.2 x1 x2 q1.1 (0 : Int32) else f_Bd_oneClock_107 q4.2.1 q4.2.2 x1 x2 q1.1 ((q4.2.1 0) + (1 : Int32))))
def f_Bd_oneClock_26 (S : SS) (M : MM) (x1 : Int32) (x2 : Int32) : Option RR := (f_Pi_showClock S M x1 x2).bind (fun q5 => (f_Re_isOn q5.2.1 q5.2.2 (2 : Int32)).bind (fun q6 => if q6.1 = 0 then f_Bd_oneClock_61 q6.2.1 q6.2.2 x1 x2 else (f_Li_wakeAt q6.2.1 q6.2.2 (q6.2.1 0)).bind (fun q7 => f_Bd_oneClock_61 q7.2.1 q7.2.2 x1 x2)))
def f_Bd_oneClock (S : SS) (M : MM) : Option RR := if S 0 = 0 then (f_Bd_beginFrame S M).bind (fun q8 => f_Bd_oneClock_26 q8.2.1 q8.2.2 ((S 0) >>> ((5 : Int32) &&& 31)) ((S 0) &&& (31 : Int32))) else f_Bd_oneClock_26 S M ((S 0) >>> ((5 : Int32) &&& 31)) ((S 0) &&& (31 : Int32))
set_option maxHeartbeats 4000000 in
set_option maxRecDepth 100000 in
theorem c_Bd_oneClock (l : Launch) (D : va_G) (cA : ClassId) (a : Nat → Nat) (S : SS) (M : MM) (q : RR) (h0 : f_Bd_oneClock S M = some q) : Cv l y_Bd_oneClock w_Bd_oneClock rm_Bd_oneClock D vCl [(cA, .int)] (AB a) (ZB a) (wB cA a) [.ref (a 0)] S M q := by
  refine Cv.of (cc := prog_1_method_14_code) (maxL := 4) (by decide) rfl (Nat.le_of_ble_eq_true rfl) ?_
  intro p e s m args below meth c Q hx hb hml hown hts hK hZ ret
  have hown : s.vm.findClass R_Bd = some m.cls := hown
  have hts : ∀ w ∈ TB, w.before args s = true := fun w h => hts w (List.mem_cons_of_mem _ h)
  have hZK := ZB_k a
  have k79 := hts _ tb_fl_Bd_79
  have k26 := hts _ tb_fl_Bd_26
  have k19 := hts _ tb_fl_Bd_19
  have k33 := hts _ tb_fl_Bd_33
  have k51 := hts _ tb_fl_Bd_51
  have b107 : ∀ (S : SS) (M : MM) (x1 : Int32) (x2 : Int32) (x3 : Int32) (y1 : Int32), f_Bd_oneClock_107 S M x1 x2 x3 y1 = some q → BK p l e rm_Bd_oneClock s m args below meth c Q D vCl (AB a) (wB cA a) 4 107 [(0, .ref (a 0)), (1, .int x1), (2, .int x2), (3, .int x3)] [.int y1, .ref (a 0)] S M := by
    intro S M x1 x2 x3 y1 h H locs ls hl hP hD hS
    unfold f_Bd_oneClock_107 at h
    refine puwB_0 (D := D) (x := y1) hx hb hts iBd hown hK hP hD hS k79 rfl rfl d_Bd_oneClock_107 (fun H locs hP hD hS => ?_)
    exact ret _ _ _ _ _ _ _ h hP hD hS d_Bd_oneClock_110
  have b61 : ∀ (S : SS) (M : MM) (x1 : Int32) (x2 : Int32), f_Bd_oneClock_61 S M x1 x2 = some q → BK p l e rm_Bd_oneClock s m args below meth c Q D vCl (AB a) (wB cA a) 4 61 [(0, .ref (a 0)), (1, .int x1), (2, .int x2)] [] S M := by
    intro S M x1 x2 h H locs ls hl hP hD hS
    unfold f_Bd_oneClock_61 at h
    refine lv_aload_n hx hb d_Bd_oneClock_61 rfl (lv_at hl 0 rfl) ?_
    refine lv_iload_n hx hb d_Bd_oneClock_62 rfl (lv_at hl 1 rfl) ?_
    refine lv_iload_n hx hb d_Bd_oneClock_63 rfl (lv_at hl 2 rfl) ?_
    obtain ⟨⟨r1, S1, M1⟩, hc1, h⟩ := sg_b h
    dsimp only at h
    refine cvi (As := [.int x1, .int x2]) (rest := []) ⟨hx, hb, hml, hown, hts⟩ (c_Bd_ownerOfSlot l D cA a S M x1 x2 _ hc1) ⟨callB_of 2 hts (tb_gi tb_cd_Bd_ownerOfSlot) rfl rfl rfl (hts _ tb_in_Bd) (hts _ tb_ml_Bd_134) yd_Bd_ownerOfSlot ⟨Nat.le_of_ble_eq_true rfl, Nat.le_of_ble_eq_true rfl⟩, hts _ tb_im_Bd_ownerOfSlot, hts _ tb_se_Bd_ownerOfSlot⟩ hZK hK hZ hP hD hS 0 (wB_at0 _ _ _ _) rfl rfl hl.1 rfl (Nat.le_of_ble_eq_true rfl) d_Bd_oneClock_64 (fun H locs hP hD hS => ?_)
    refine lv_istore_n (lv' := [(3, .int r1), (0, .ref (a 0)), (1, .int x1), (2, .int x2)]) hx hb d_Bd_oneClock_67 rfl hl (by decide) rfl (fun ls hl => ?_)
    refine lv_aload_n hx hb d_Bd_oneClock_68 rfl (lv_at hl 1 rfl) ?_
    refine va_get (D := D) (ci := 0) (v := .ref (a 7)) (C := R_Bd) (T := T_Bd) (N := 9) hx hb hts iBd hown hK hP 0 (wB_at0 _ _ _ _) rfl 6 (by decide) k51 (fun _ h9 => h9) rfl d_Bd_oneClock_69 ?_
    refine lv_iload_n hx hb d_Bd_oneClock_72 rfl (lv_at hl 0 rfl) ?_
    refine lv_dup2_11 hx hb d_Bd_oneClock_73 rfl rfl ?_
    obtain ⟨hg2, h⟩ := sg_g h
    refine va_iald hx hb hK hP 7 0 (wB_at7 _ _ _ _) rfl hg2 d_Bd_oneClock_74 ?_
    refine lv_iconst (v := (1 : Int32)) hx hb d_Bd_oneClock_75 (by decide) ?_
    refine lv_iadd hx hb d_Bd_oneClock_76 ?_
    obtain ⟨hg3, h⟩ := sg_g h
    refine va_iast (x := (M1 0 r1.toNatClampNeg) + (1 : Int32)) hx hb hK hP hD hS 7 0 (wB_at7 _ _ _ _) rfl hg3 d_Bd_oneClock_77 (fun H locs hP hD hS => ?_)
    have hP := wB_set7 hP
    have hD := wB_dset7 hD
    refine lv_aload_n hx hb d_Bd_oneClock_78 rfl (lv_at hl 1 rfl) ?_
    refine lv_iload_n hx hb d_Bd_oneClock_79 rfl (lv_at hl 0 rfl) ?_
    refine lv_iload_n hx hb d_Bd_oneClock_80 rfl (lv_at hl 3 rfl) ?_
    obtain ⟨⟨r4, S4, M4⟩, hc4, h⟩ := sg_b h
    dsimp only at h
    refine cvv (As := [.int r1, .int x2]) (rest := []) ⟨hx, hb, hml, hown, hts⟩ (c_Bd_doWorkOf l D cA a S1 (upM M1 0 (upd (M1 0) r1.toNatClampNeg ((M1 0 r1.toNatClampNeg) + (1 : Int32)))) r1 x2 _ hc4) ⟨callB_of 2 hts (tb_gi tb_cd_Bd_doWorkOf) rfl rfl rfl (hts _ tb_in_Bd) (hts _ tb_ml_Bd_137) yd_Bd_doWorkOf ⟨Nat.le_of_ble_eq_true rfl, Nat.le_of_ble_eq_true rfl⟩, hts _ tb_im_Bd_doWorkOf, hts _ tb_se_Bd_doWorkOf⟩ hZK hK hZ hP hD hS 0 (wB_at0 _ _ _ _) rfl rfl hl.1 rfl (Nat.le_of_ble_eq_true rfl) d_Bd_oneClock_81 (fun H locs hP hD hS => ?_)
    refine lv_aload_n hx hb d_Bd_oneClock_84 rfl (lv_at hl 1 rfl) ?_
    refine lv_aload_n hx hb d_Bd_oneClock_85 rfl (lv_at hl 1 rfl) ?_
    refine va_get (D := D) (ci := 0) (v := .int (S4 0)) (C := R_Bd) (T := T_Bd) (N := 9) hx hb hts iBd hown hK hP 0 (wB_at0 _ _ _ _) rfl 7 (by decide) k79 (fun _ h9 => h9) rfl d_Bd_oneClock_86 ?_
    refine lv_iconst (v := (1 : Int32)) hx hb d_Bd_oneClock_89 (by decide) ?_
    refine lv_iadd hx hb d_Bd_oneClock_90 ?_
    refine lv_sipush (v := (640 : Int32)) hx hb d_Bd_oneClock_91 (by decide) ?_
    refine lv_icmp_ge (tgt := 106) hx hb d_Bd_oneClock_94 (by decide) (fun hc => ?_) (fun hc => ?_)
    · have h := sg_p hc h
      refine lv_iconst (v := (0 : Int32)) hx hb d_Bd_oneClock_106 (by decide) ?_
      exact b107 _ _ _ _ _ _ h _ _ _ (lv_sub hl [1, 2, 3, 0] rfl) hP hD hS
    · have h := sg_n hc h
      refine lv_aload_n hx hb d_Bd_oneClock_97 rfl (lv_at hl 1 rfl) ?_
      refine va_get (D := D) (ci := 0) (v := .int (S4 0)) (C := R_Bd) (T := T_Bd) (N := 9) hx hb hts iBd hown hK hP 0 (wB_at0 _ _ _ _) rfl 7 (by decide) k79 (fun _ h9 => h9) rfl d_Bd_oneClock_98 ?_
      refine lv_iconst (v := (1 : Int32)) hx hb d_Bd_oneClock_101 (by decide) ?_
      refine lv_iadd hx hb d_Bd_oneClock_102 ?_
      refine lv_goto (tgt := 107) hx hb d_Bd_oneClock_103 (by decide) ?_
      exact b107 _ _ _ _ _ _ h _ _ _ (lv_sub hl [1, 2, 3, 0] rfl) hP hD hS
  have b26 : ∀ (S : SS) (M : MM) (x1 : Int32) (x2 : Int32), f_Bd_oneClock_26 S M x1 x2 = some q → BK p l e rm_Bd_oneClock s m args below meth c Q D vCl (AB a) (wB cA a) 4 26 [(0, .ref (a 0)), (1, .int x1), (2, .int x2)] [] S M := by
    intro S M x1 x2 h H locs ls hl hP hD hS
    unfold f_Bd_oneClock_26 at h
    refine lv_aload_n hx hb d_Bd_oneClock_26 rfl (lv_at hl 0 rfl) ?_
    refine va_get (D := D) (ci := 0) (v := .ref (a 3)) (C := R_Bd) (T := T_Bd) (N := 9) hx hb hts iBd hown hK hP 0 (wB_at0 _ _ _ _) rfl 2 (by decide) k26 (fun _ h9 => h9) rfl d_Bd_oneClock_27 ?_
    refine lv_iload_n hx hb d_Bd_oneClock_30 rfl (lv_at hl 1 rfl) ?_
    refine lv_iload_n hx hb d_Bd_oneClock_31 rfl (lv_at hl 2 rfl) ?_
    refine lv_aload_n hx hb d_Bd_oneClock_32 rfl (lv_at hl 0 rfl) ?_
    refine va_get (D := D) (ci := 0) (v := .ref (a 2)) (C := R_Bd) (T := T_Bd) (N := 9) hx hb hts iBd hown hK hP 0 (wB_at0 _ _ _ _) rfl 1 (by decide) k19 (fun _ h9 => h9) rfl d_Bd_oneClock_33 ?_
    obtain ⟨⟨r5, S5, M5⟩, hc5, h⟩ := sg_b h
    dsimp only at h
    refine cvv (As := [.int x1, .int x2, .ref (a 2)]) (rest := []) ⟨hx, hb, hml, hown, hts⟩ (c_Pi_showClock l D cA a S M x1 x2 _ hc5) ⟨callB_of 3 hts (tb_gi tb_cd_Pi_showClock) rfl rfl rfl (hts _ tb_in_Pi) (hts _ tb_ml_Bd_123) yd_Pi_showClock ⟨Nat.le_of_ble_eq_true rfl, Nat.le_of_ble_eq_true rfl⟩, hts _ tb_im_Pi_showClock, hts _ tb_se_Pi_showClock⟩ hZK hK hZ hP hD hS 3 (wB_at3 _ _ _ _) rfl rfl hl.1 rfl (Nat.le_of_ble_eq_true rfl) d_Bd_oneClock_36 (fun H locs hP hD hS => ?_)
    refine lv_aload_n hx hb d_Bd_oneClock_39 rfl (lv_at hl 0 rfl) ?_
    refine va_get (D := D) (ci := 0) (v := .ref (a 2)) (C := R_Bd) (T := T_Bd) (N := 9) hx hb hts iBd hown hK hP 0 (wB_at0 _ _ _ _) rfl 1 (by decide) k19 (fun _ h9 => h9) rfl d_Bd_oneClock_40 ?_
    refine lv_iconst (v := (2 : Int32)) hx hb d_Bd_oneClock_43 (by decide) ?_
    obtain ⟨⟨r6, S6, M6⟩, hc6, h⟩ := sg_b h
    dsimp only at h
    refine cvi (As := [.int (2 : Int32)]) (rest := []) ⟨hx, hb, hml, hown, hts⟩ (c_Re_isOn l D cA a S5 M5 (2 : Int32) _ hc6) ⟨callB_of 1 hts (tb_gi tb_cd_Re_isOn) rfl rfl rfl (hts _ tb_in_Re) (hts _ tb_ml_Bd_127) yd_Re_isOn ⟨Nat.le_of_ble_eq_true rfl, Nat.le_of_ble_eq_true rfl⟩, hts _ tb_im_Re_isOn, hts _ tb_se_Re_isOn⟩ hZK hK hZ hP hD hS 2 (wB_at2 _ _ _ _) rfl rfl hl.1 rfl (Nat.le_of_ble_eq_true rfl) d_Bd_oneClock_44 (fun H locs hP hD hS => ?_)
    refine lv_if_eq (tgt := 61) hx hb d_Bd_oneClock_47 (by decide) (fun hc => ?_) (fun hc => ?_)
    · have h := sg_p hc h
      exact b61 _ _ _ _ h _ _ _ (lv_sub hl [0, 1, 2] rfl) hP hD hS
    · have h := sg_n hc h
      refine lv_aload_n hx hb d_Bd_oneClock_50 rfl (lv_at hl 0 rfl) ?_
      refine va_get (D := D) (ci := 0) (v := .ref (a 4)) (C := R_Bd) (T := T_Bd) (N := 9) hx hb hts iBd hown hK hP 0 (wB_at0 _ _ _ _) rfl 3 (by decide) k33 (fun _ h9 => h9) rfl d_Bd_oneClock_51 ?_
      refine lv_aload_n hx hb d_Bd_oneClock_54 rfl (lv_at hl 0 rfl) ?_
      refine va_get (D := D) (ci := 0) (v := .int (S6 0)) (C := R_Bd) (T := T_Bd) (N := 9) hx hb hts iBd hown hK hP 0 (wB_at0 _ _ _ _) rfl 7 (by decide) k79 (fun _ h9 => h9) rfl d_Bd_oneClock_55 ?_
      obtain ⟨⟨r7, S7, M7⟩, hc7, h⟩ := sg_b h
      dsimp only at h
      refine cvv (As := [.int (S6 0)]) (rest := []) ⟨hx, hb, hml, hown, hts⟩ (c_Li_wakeAt l D cA a S6 M6 (S6 0) _ hc7) ⟨callB_of 1 hts (tb_gi tb_cd_Li_wakeAt) rfl rfl rfl (hts _ tb_in_Li) (hts _ tb_ml_Bd_130) yd_Li_wakeAt ⟨Nat.le_of_ble_eq_true rfl, Nat.le_of_ble_eq_true rfl⟩, hts _ tb_im_Li_wakeAt, hts _ tb_se_Li_wakeAt⟩ hZK hK hZ hP hD hS 4 (wB_at4 _ _ _ _) rfl rfl hl.1 rfl (Nat.le_of_ble_eq_true rfl) d_Bd_oneClock_58 (fun H locs hP hD hS => ?_)
      exact b61 _ _ _ _ h _ _ _ (lv_sub hl [0, 1, 2] rfl) hP hD hS
  intro H locs ls hl hP hD hS
  have hl : lv_has ls 4 [(0, .ref (a 0))] := hl
  have h := h0
  unfold f_Bd_oneClock at h
  refine lv_aload_n hx hb d_Bd_oneClock_0 rfl (lv_at hl 0 rfl) ?_
  refine va_get (D := D) (ci := 0) (v := .int (S 0)) (C := R_Bd) (T := T_Bd) (N := 9) hx hb hts iBd hown hK hP 0 (wB_at0 _ _ _ _) rfl 7 (by decide) k79 (fun _ h9 => h9) rfl d_Bd_oneClock_1 ?_
  refine lv_iconst (v := (5 : Int32)) hx hb d_Bd_oneClock_4 (by decide) ?_
  refine lv_ishr hx hb d_Bd_oneClock_5 ?_
  refine lv_istore_n (lv' := [(1, .int ((S 0) >>> ((5 : Int32) &&& 31))), (0, .ref (a 0))]) hx hb d_Bd_oneClock_6 rfl hl (by decide) rfl (fun ls hl => ?_)
  refine lv_aload_n hx hb d_Bd_oneClock_7 rfl (lv_at hl 1 rfl) ?_
  refine va_get (D := D) (ci := 0) (v := .int (S 0)) (C := R_Bd) (T := T_Bd) (N := 9) hx hb hts iBd hown hK hP 0 (wB_at0 _ _ _ _) rfl 7 (by decide) k79 (fun _ h9 => h9) rfl d_Bd_oneClock_8 ?_
  refine lv_bipush (v := (31 : Int32)) hx hb d_Bd_oneClock_11 (by decide) ?_
  refine lv_iand hx hb d_Bd_oneClock_13 ?_
  refine lv_istore_n (lv' := [(2, .int ((S 0) &&& (31 : Int32))), (1, .int ((S 0) >>> ((5 : Int32) &&& 31))), (0, .ref (a 0))]) hx hb d_Bd_oneClock_14 rfl hl (by decide) rfl (fun ls hl => ?_)
  refine lv_aload_n hx hb d_Bd_oneClock_15 rfl (lv_at hl 2 rfl) ?_
  refine va_get (D := D) (ci := 0) (v := .int (S 0)) (C := R_Bd) (T := T_Bd) (N := 9) hx hb hts iBd hown hK hP 0 (wB_at0 _ _ _ _) rfl 7 (by decide) k79 (fun _ h9 => h9) rfl d_Bd_oneClock_16 ?_
  refine lv_if_ne (tgt := 26) hx hb d_Bd_oneClock_19 (by decide) (fun hc => ?_) (fun hc => ?_)
  · have h := sg_n hc h
    exact b26 _ _ _ _ h _ _ _ (lv_sub hl [2, 1, 0] rfl) hP hD hS
  · have h := sg_p hc h
    refine lv_aload_n hx hb d_Bd_oneClock_22 rfl (lv_at hl 2 rfl) ?_
    obtain ⟨⟨r8, S8, M8⟩, hc8, h⟩ := sg_b h
    dsimp only at h
    refine cvv (As := []) (rest := []) ⟨hx, hb, hml, hown, hts⟩ (c_Bd_beginFrame l D cA a S M _ hc8) ⟨callB_of 0 hts (tb_gi tb_cd_Bd_beginFrame) rfl rfl rfl (hts _ tb_in_Bd) (hts _ tb_ml_Bd_120) yd_Bd_beginFrame ⟨Nat.le_of_ble_eq_true rfl, Nat.le_of_ble_eq_true rfl⟩, hts _ tb_im_Bd_beginFrame, hts _ tb_se_Bd_beginFrame⟩ hZK hK hZ hP hD hS 0 (wB_at0 _ _ _ _) rfl rfl hl.1 rfl (Nat.le_of_ble_eq_true rfl) d_Bd_oneClock_23 (fun H locs hP hD hS => ?_)
    exact b26 _ _ _ _ h _ _ _ (lv_sub hl [2, 1, 0] rfl) hP hD hS
def f_Bd_run_12 (S : SS) (M : MM) (x1 : Int32) : Option RR := some ((-1 : Int32), S, M)
def f_Bd_run_23_b (rec : SS → MM → Int32 → Int32 → Int32 → Option RR) (S : SS) (M : MM) (x1 : Int32) (x2 : Int32) (x3 : Int32) : Option RR := if x1 ≤ x3 then some ((M 0 0) - x2, S, M) else (f_Bd_oneClock S M).bind (fun q1 => rec q1.2.1 q1.2.2 x1 x2 (x3 + (1 : Int32)))
def f_Bd_run_23 : Nat → SS → MM → Int32 → Int32 → Int32 → Option RR
  | 0 => fun _ _ _ _ _ => none
  | n + 1 => f_Bd_run_23_b (f_Bd_run_23 n)
def f_Bd_run (S : SS) (M : MM) (x1 : Int32) : Option RR := if x1 < (1 : Int32) then f_Bd_run_12 S M x1 else if x1 ≤ (700 : Int32) then f_Bd_run_23 710 S M x1 (M 0 0) (0 : Int32) else f_Bd_run_12 S M x1
set_option maxHeartbeats 4000000 in
set_option maxRecDepth 100000 in
theorem c_Bd_run (l : Launch) (D : va_G) (cA : ClassId) (a : Nat → Nat) (S : SS) (M : MM) (x1 : Int32) (q : RR) (h0 : f_Bd_run S M x1 = some q) : Ci l y_Bd_run w_Bd_run rm_Bd_run D vCl [(cA, .int)] (AB a) (ZB a) (wB cA a) [.ref (a 0), .int x1] S M q := by
  refine Ci.of (cc := prog_1_method_4_code) (maxL := 4) (ty := .int) (by decide) rfl (Nat.le_of_ble_eq_true rfl) ?_
  intro p e s m args below meth c Q hx hb hml hown hts hK hZ ret
  have hown : s.vm.findClass R_Bd = some m.cls := hown
  have hts : ∀ w ∈ TB, w.before args s = true := fun w h => hts w (List.mem_cons_of_mem _ h)
  have hZK := ZB_k a
  have k51 := hts _ tb_fl_Bd_51
  have b12 : ∀ (S : SS) (M : MM) (x1 : Int32), f_Bd_run_12 S M x1 = some q → BK p l e rm_Bd_run s m args below meth c Q D vCl (AB a) (wB cA a) 4 12 [(0, .ref (a 0)), (1, .int x1)] [] S M := by
    intro S M x1 h H locs ls hl hP hD hS
    unfold f_Bd_run_12 at h
    refine lv_iconst (v := (-1 : Int32)) hx hb d_Bd_run_12 (by decide) ?_
    exact ret _ _ _ _ _ _ _ h rfl hP hD hS d_Bd_run_13
  have b23 : ∀ (n : Nat) (S : SS) (M : MM) (x1 : Int32) (x2 : Int32) (x3 : Int32), f_Bd_run_23 n S M x1 x2 x3 = some q → BK p l e rm_Bd_run s m args below meth c Q D vCl (AB a) (wB cA a) 4 23 [(0, .ref (a 0)), (1, .int x1), (2, .int x2), (3, .int x3)] [] S M := by
   intro n
   induction n with
   | zero => intro S M x1 x2 x3 h; cases h
   | succ n hrec =>
    intro S M x1 x2 x3 h H locs ls hl hP hD hS
    have h : f_Bd_run_23_b (f_Bd_run_23 n) S M x1 x2 x3 = some q := h
    unfold f_Bd_run_23_b at h
    refine lv_iload_n hx hb d_Bd_run_23 rfl (lv_at hl 3 rfl) ?_
    refine lv_iload_n hx hb d_Bd_run_24 rfl (lv_at hl 1 rfl) ?_
    refine lv_icmp_ge (tgt := 38) hx hb d_Bd_run_25 (by decide) (fun hc => ?_) (fun hc => ?_)
    · have h := sg_p hc h
      refine lv_aload_n hx hb d_Bd_run_38 rfl (lv_at hl 0 rfl) ?_
      refine va_get (D := D) (ci := 0) (v := .ref (a 7)) (C := R_Bd) (T := T_Bd) (N := 9) hx hb hts iBd hown hK hP 0 (wB_at0 _ _ _ _) rfl 6 (by decide) k51 (fun _ h9 => h9) rfl d_Bd_run_39 ?_
      refine lv_iconst (v := (0 : Int32)) hx hb d_Bd_run_42 (by decide) ?_
      refine ialdK hx hb hK hP 7 0 (wB_at7 _ _ _ _) rfl 0 (by decide) (by unfold vp_in; decide) d_Bd_run_43 ?_
      refine lv_iload_n hx hb d_Bd_run_44 rfl (lv_at hl 2 rfl) ?_
      refine lv_isub hx hb d_Bd_run_45 ?_
      exact ret _ _ _ _ _ _ _ h rfl hP hD hS d_Bd_run_46
    · have h := sg_n hc h
      refine lv_aload_n hx hb d_Bd_run_28 rfl (lv_at hl 0 rfl) ?_
      obtain ⟨⟨r1, S1, M1⟩, hc1, h⟩ := sg_b h
      dsimp only at h
      refine cvv (As := []) (rest := []) ⟨hx, hb, hml, hown, hts⟩ (c_Bd_oneClock l D cA a S M _ hc1) ⟨callB_of 0 hts (tb_gi tb_cd_Bd_oneClock) rfl rfl rfl (hts _ tb_in_Bd) (hts _ tb_ml_Bd_68) yd_Bd_oneClock ⟨Nat.le_of_ble_eq_true rfl, Nat.le_of_ble_eq_true rfl⟩, hts _ tb_im_Bd_oneClock, hts _ tb_se_Bd_oneClock⟩ hZK hK hZ hP hD hS 0 (wB_at0 _ _ _ _) rfl rfl hl.1 rfl (Nat.le_of_ble_eq_true rfl) d_Bd_run_29 (fun H locs hP hD hS => ?_)
      refine lv_iinc (k := 3) (v := x3 + (1 : Int32)) (lv' := [(3, .int (x3 + (1 : Int32))), (0, .ref (a 0)), (1, .int x1), (2, .int x2)]) hx hb d_Bd_run_32 hl rfl rfl (by decide) rfl (fun ls hl => ?_)
      refine lv_goto (tgt := 23) hx hb d_Bd_run_35 (by decide) ?_
      exact hrec _ _ _ _ _ h _ _ _ (lv_sub hl [1, 2, 3, 0] rfl) hP hD hS
  intro H locs ls hl hP hD hS
  have hl : lv_has ls 4 [(0, .ref (a 0)), (1, .int x1)] := hl
  have h := h0
  unfold f_Bd_run at h
  refine lv_iload_n hx hb d_Bd_run_0 rfl (lv_at hl 1 rfl) ?_
  refine lv_iconst (v := (1 : Int32)) hx hb d_Bd_run_1 (by decide) ?_
  refine lv_icmp_lt (tgt := 12) hx hb d_Bd_run_2 (by decide) (fun hc => ?_) (fun hc => ?_)
  · have h := sg_p hc h
    exact b12 _ _ _ h _ _ _ (lv_sub hl [0, 1] rfl) hP hD hS
  · have h := sg_n hc h
    refine lv_iload_n hx hb d_Bd_run_5 rfl (lv_at hl 1 rfl) ?_
    refine lv_sipush (v := (700 : Int32)) hx hb d_Bd_run_6 (by decide) ?_
    refine lv_icmp_le (tgt := 14) hx hb d_Bd_run_9 (by decide) (fun hc => ?_) (fun hc => ?_)
    · have h := sg_p hc h
      refine lv_aload_n hx hb d_Bd_run_14 rfl (lv_at hl 0 rfl) ?_
      refine va_get (D := D) (ci := 0) (v := .ref (a 7)) (C := R_Bd) (T := T_Bd) (N := 9) hx hb hts iBd hown hK hP 0 (wB_at0 _ _ _ _) rfl 6 (by decide) k51 (fun _ h9 => h9) rfl d_Bd_run_15 ?_
      refine lv_iconst (v := (0 : Int32)) hx hb d_Bd_run_18 (by decide) ?_
      refine ialdK hx hb hK hP 7 0 (wB_at7 _ _ _ _) rfl 0 (by decide) (by unfold vp_in; decide) d_Bd_run_19 ?_
      refine lv_istore_n (lv' := [(2, .int (M 0 0)), (0, .ref (a 0)), (1, .int x1)]) hx hb d_Bd_run_20 rfl hl (by decide) rfl (fun ls hl => ?_)
      refine lv_iconst (v := (0 : Int32)) hx hb d_Bd_run_21 (by decide) ?_
      refine lv_istore_n (lv' := [(3, .int (0 : Int32)), (2, .int (M 0 0)), (0, .ref (a 0)), (1, .int x1)]) hx hb d_Bd_run_22 rfl hl (by decide) rfl (fun ls hl => ?_)
      exact b23 710 _ _ _ _ _ h _ _ _ (lv_sub hl [2, 3, 1, 0] rfl) hP hD hS
    · have h := sg_n hc h
      exact b12 _ _ _ h _ _ _ (lv_sub hl [0, 1] rfl) hP hD hS
def f_Bd_word_19 (S : SS) (M : MM) (x1 : Int32) (y0 : Int32) : Option RR := some (y0, S, M)
def f_Bd_word (S : SS) (M : MM) (x1 : Int32) : Option RR := (f_Bd_isAddress S M x1).bind (fun q1 => if q1.1 = 0 then f_Bd_word_19 q1.2.1 q1.2.2 x1 (-1 : Int32) else (f_Me_at q1.2.1 q1.2.2 x1).bind (fun q2 => f_Bd_word_19 q2.2.1 q2.2.2 x1 q2.1))
set_option maxHeartbeats 4000000 in
set_option maxRecDepth 100000 in
theorem c_Bd_word (l : Launch) (D : va_G) (cA : ClassId) (a : Nat → Nat) (S : SS) (M : MM) (x1 : Int32) (q : RR) (h0 : f_Bd_word S M x1 = some q) : Ci l y_Bd_word w_Bd_word rm_Bd_word D vCl [(cA, .int)] (AB a) (ZB a) (wB cA a) [.ref (a 0), .int x1] S M q := by
  refine Ci.of (cc := prog_1_method_5_code) (maxL := 2) (ty := .int) (by decide) rfl (Nat.le_of_ble_eq_true rfl) ?_
  intro p e s m args below meth c Q hx hb hml hown hts hK hZ ret
  have hown : s.vm.findClass R_Bd = some m.cls := hown
  have hts : ∀ w ∈ TB, w.before args s = true := fun w h => hts w (List.mem_cons_of_mem _ h)
  have hZK := ZB_k a
  have k10 := hts _ tb_fl_Bd_10
  have b19 : ∀ (S : SS) (M : MM) (x1 : Int32) (y0 : Int32), f_Bd_word_19 S M x1 y0 = some q → BK p l e rm_Bd_word s m args below meth c Q D vCl (AB a) (wB cA a) 2 19 [(0, .ref (a 0)), (1, .int x1)] [.int y0] S M := by
    intro S M x1 y0 h H locs ls hl hP hD hS
    unfold f_Bd_word_19 at h
    exact ret _ _ _ _ _ _ _ h rfl hP hD hS d_Bd_word_19
  intro H locs ls hl hP hD hS
  have hl : lv_has ls 2 [(0, .ref (a 0)), (1, .int x1)] := hl
  have h := h0
  unfold f_Bd_word at h
  refine lv_iload_n hx hb d_Bd_word_0 rfl (lv_at hl 1 rfl) ?_
  obtain ⟨⟨r1, S1, M1⟩, hc1, h⟩ := sg_b h
  dsimp only at h
  refine csi (As := [.int x1]) (rest := []) ⟨hx, hb, hml, hown, hts⟩ (c_Bd_isAddress l D cA a S M x1 _ hc1) ⟨callB_of 1 hts (tb_gi tb_cd_Bd_isAddress) rfl rfl rfl (hts _ tb_in_Bd) (hts _ tb_ml_Bd_60) yd_Bd_isAddress ⟨Nat.le_of_ble_eq_true rfl, Nat.le_of_ble_eq_true rfl⟩, hts _ tb_st_Bd_isAddress⟩ hZK hK hZ hP hD hS rfl hl.1 rfl (Nat.le_of_ble_eq_true rfl) d_Bd_word_1 (fun H locs hP hD hS => ?_)
  refine lv_if_eq (tgt := 18) hx hb d_Bd_word_4 (by decide) (fun hc => ?_) (fun hc => ?_)
  · have h := sg_p hc h
    refine lv_iconst (v := (-1 : Int32)) hx hb d_Bd_word_18 (by decide) ?_
    exact b19 _ _ _ _ h _ _ _ (lv_sub hl [0, 1] rfl) hP hD hS
  · have h := sg_n hc h
    refine lv_aload_n hx hb d_Bd_word_7 rfl (lv_at hl 0 rfl) ?_
    refine va_get (D := D) (ci := 0) (v := .ref (a 1)) (C := R_Bd) (T := T_Bd) (N := 9) hx hb hts iBd hown hK hP 0 (wB_at0 _ _ _ _) rfl 0 (by decide) k10 (fun _ h9 => h9) rfl d_Bd_word_8 ?_
    refine lv_iload_n hx hb d_Bd_word_11 rfl (lv_at hl 1 rfl) ?_
    obtain ⟨⟨r2, S2, M2⟩, hc2, h⟩ := sg_b h
    dsimp only at h
    refine cvi (As := [.int x1]) (rest := []) ⟨hx, hb, hml, hown, hts⟩ (c_Me_at l D cA a S1 M1 x1 _ hc2) ⟨callB_of 1 hts (tb_gi tb_cd_Me_at) rfl rfl rfl (hts _ tb_in_Me) (hts _ tb_ml_Bd_71) yd_Me_at ⟨Nat.le_of_ble_eq_true rfl, Nat.le_of_ble_eq_true rfl⟩, hts _ tb_im_Me_at, hts _ tb_se_Me_at⟩ hZK hK hZ hP hD hS 1 (wB_at1 _ _ _ _) rfl rfl hl.1 rfl (Nat.le_of_ble_eq_true rfl) d_Bd_word_12 (fun H locs hP hD hS => ?_)
    refine lv_goto (tgt := 19) hx hb d_Bd_word_15 (by decide) ?_
    exact b19 _ _ _ _ h _ _ _ (lv_sub hl [0, 1] rfl) hP hD hS
def f_Bd_point (S : SS) (M : MM) (x1 : Int32) (x2 : Int32) : Option RR := (f_Pi_shownAt S M x1 x2).bind (fun q1 => some (q1.1, q1.2.1, q1.2.2))
set_option maxHeartbeats 4000000 in
set_option maxRecDepth 100000 in
theorem c_Bd_point (l : Launch) (D : va_G) (cA : ClassId) (a : Nat → Nat) (S : SS) (M : MM) (x1 : Int32) (x2 : Int32) (q : RR) (h0 : f_Bd_point S M x1 x2 = some q) : Ci l y_Bd_point w_Bd_point rm_Bd_point D vCl [(cA, .int)] (AB a) (ZB a) (wB cA a) [.ref (a 0), .int x1, .int x2] S M q := by
  refine Ci.of (cc := prog_1_method_6_code) (maxL := 3) (ty := .int) (by decide) rfl (Nat.le_of_ble_eq_true rfl) ?_
  intro p e s m args below meth c Q hx hb hml hown hts hK hZ ret
  have hown : s.vm.findClass R_Bd = some m.cls := hown
  have hts : ∀ w ∈ TB, w.before args s = true := fun w h => hts w (List.mem_cons_of_mem _ h)
  have hZK := ZB_k a
  have k26 := hts _ tb_fl_Bd_26
  intro H locs ls hl hP hD hS
  have hl : lv_has ls 3 [(0, .ref (a 0)), (1, .int x1), (2, .int x2)] := hl
  have h := h0
  unfold f_Bd_point at h
  refine lv_aload_n hx hb d_Bd_point_0 rfl (lv_at hl 0 rfl) ?_
  refine va_get (D := D) (ci := 0) (v := .ref (a 3)) (C := R_Bd) (T := T_Bd) (N := 9) hx hb hts iBd hown hK hP 0 (wB_at0 _ _ _ _) rfl 2 (by decide) k26 (fun _ h9 => h9) rfl d_Bd_point_1 ?_
  refine lv_iload_n hx hb d_Bd_point_4 rfl (lv_at hl 1 rfl) ?_
  refine lv_iload_n hx hb d_Bd_point_5 rfl (lv_at hl 2 rfl) ?_
  obtain ⟨⟨r1, S1, M1⟩, hc1, h⟩ := sg_b h
  dsimp only at h
  refine cvi (As := [.int x1, .int x2]) (rest := []) ⟨hx, hb, hml, hown, hts⟩ (c_Pi_shownAt l D cA a S M x1 x2 _ hc1) ⟨callB_of 2 hts (tb_gi tb_cd_Pi_shownAt) rfl rfl rfl (hts _ tb_in_Pi) (hts _ tb_ml_Bd_75) yd_Pi_shownAt ⟨Nat.le_of_ble_eq_true rfl, Nat.le_of_ble_eq_true rfl⟩, hts _ tb_im_Pi_shownAt, hts _ tb_se_Pi_shownAt⟩ hZK hK hZ hP hD hS 3 (wB_at3 _ _ _ _) rfl rfl hl.1 rfl (Nat.le_of_ble_eq_true rfl) d_Bd_point_6 (fun H locs hP hD hS => ?_)
  exact ret _ _ _ _ _ _ _ h rfl hP hD hS d_Bd_point_9
def f_Bd_place (S : SS) (M : MM) : Option RR := some (S 0, S, M)
set_option maxHeartbeats 4000000 in
set_option maxRecDepth 100000 in
theorem c_Bd_place (l : Launch) (D : va_G) (cA : ClassId) (a : Nat → Nat) (S : SS) (M : MM) (q : RR) (h0 : f_Bd_place S M = some q) : Ci l y_Bd_place w_Bd_place rm_Bd_place D vCl [(cA, .int)] (AB a) (ZB a) (wB cA a) [.ref (a 0)] S M q := by
  refine Ci.of (cc := prog_1_method_7_code) (maxL := 1) (ty := .int) (by decide) rfl (Nat.le_of_ble_eq_true rfl) ?_
  intro p e s m args below meth c Q hx hb hml hown hts hK hZ ret
  have hown : s.vm.findClass R_Bd = some m.cls := hown
  have hts : ∀ w ∈ TB, w.before args s = true := fun w h => hts w (List.mem_cons_of_mem _ h)
  have hZK := ZB_k a
  have k79 := hts _ tb_fl_Bd_79
  intro H locs ls hl hP hD hS
  have hl : lv_has ls 1 [(0, .ref (a 0))] := hl
  have h := h0
  unfold f_Bd_place at h
  refine lv_aload_n hx hb d_Bd_place_0 rfl (lv_at hl 0 rfl) ?_
  refine va_get (D := D) (ci := 0) (v := .int (S 0)) (C := R_Bd) (T := T_Bd) (N := 9) hx hb hts iBd hown hK hP 0 (wB_at0 _ _ _ _) rfl 7 (by decide) k79 (fun _ h9 => h9) rfl d_Bd_place_1 ?_
  exact ret _ _ _ _ _ _ _ h rfl hP hD hS d_Bd_place_4
def f_Bd_frames (S : SS) (M : MM) : Option RR := some (S 1, S, M)
set_option maxHeartbeats 4000000 in
set_option maxRecDepth 100000 in
theorem c_Bd_frames (l : Launch) (D : va_G) (cA : ClassId) (a : Nat → Nat) (S : SS) (M : MM) (q : RR) (h0 : f_Bd_frames S M = some q) : Ci l y_Bd_frames w_Bd_frames rm_Bd_frames D vCl [(cA, .int)] (AB a) (ZB a) (wB cA a) [.ref (a 0)] S M q := by
  refine Ci.of (cc := prog_1_method_8_code) (maxL := 1) (ty := .int) (by decide) rfl (Nat.le_of_ble_eq_true rfl) ?_
  intro p e s m args below meth c Q hx hb hml hown hts hK hZ ret
  have hown : s.vm.findClass R_Bd = some m.cls := hown
  have hts : ∀ w ∈ TB, w.before args s = true := fun w h => hts w (List.mem_cons_of_mem _ h)
  have hZK := ZB_k a
  have k83 := hts _ tb_fl_Bd_83
  intro H locs ls hl hP hD hS
  have hl : lv_has ls 1 [(0, .ref (a 0))] := hl
  have h := h0
  unfold f_Bd_frames at h
  refine lv_aload_n hx hb d_Bd_frames_0 rfl (lv_at hl 0 rfl) ?_
  refine va_get (D := D) (ci := 0) (v := .int (S 1)) (C := R_Bd) (T := T_Bd) (N := 9) hx hb hts iBd hown hK hP 0 (wB_at0 _ _ _ _) rfl 8 (by decide) k83 (fun _ h9 => h9) rfl d_Bd_frames_1 ?_
  exact ret _ _ _ _ _ _ _ h rfl hP hD hS d_Bd_frames_4
def f_Bd_slots_20 (S : SS) (M : MM) (x1 : Int32) (y0 : Int32) : Option RR := some (y0, S, M)
def f_Bd_slots_10 (S : SS) (M : MM) (x1 : Int32) : Option RR := f_Bd_slots_20 S M x1 (-1 : Int32)
def f_Bd_slots (S : SS) (M : MM) (x1 : Int32) : Option RR := if x1 < 0 then f_Bd_slots_10 S M x1 else if x1 < (6 : Int32) then if x1 < 0 ∨ 6 ≤ x1.toNatClampNeg then none else f_Bd_slots_20 S M x1 (M 0 x1.toNatClampNeg) else f_Bd_slots_10 S M x1
set_option maxHeartbeats 4000000 in
set_option maxRecDepth 100000 in
theorem c_Bd_slots (l : Launch) (D : va_G) (cA : ClassId) (a : Nat → Nat) (S : SS) (M : MM) (x1 : Int32) (q : RR) (h0 : f_Bd_slots S M x1 = some q) : Ci l y_Bd_slots w_Bd_slots rm_Bd_slots D vCl [(cA, .int)] (AB a) (ZB a) (wB cA a) [.ref (a 0), .int x1] S M q := by
  refine Ci.of (cc := prog_1_method_9_code) (maxL := 2) (ty := .int) (by decide) rfl (Nat.le_of_ble_eq_true rfl) ?_
  intro p e s m args below meth c Q hx hb hml hown hts hK hZ ret
  have hown : s.vm.findClass R_Bd = some m.cls := hown
  have hts : ∀ w ∈ TB, w.before args s = true := fun w h => hts w (List.mem_cons_of_mem _ h)
  have hZK := ZB_k a
  have k51 := hts _ tb_fl_Bd_51
  have b20 : ∀ (S : SS) (M : MM) (x1 : Int32) (y0 : Int32), f_Bd_slots_20 S M x1 y0 = some q → BK p l e rm_Bd_slots s m args below meth c Q D vCl (AB a) (wB cA a) 2 20 [(0, .ref (a 0)), (1, .int x1)] [.int y0] S M := by
    intro S M x1 y0 h H locs ls hl hP hD hS
    unfold f_Bd_slots_20 at h
    exact ret _ _ _ _ _ _ _ h rfl hP hD hS d_Bd_slots_20
  have b10 : ∀ (S : SS) (M : MM) (x1 : Int32), f_Bd_slots_10 S M x1 = some q → BK p l e rm_Bd_slots s m args below meth c Q D vCl (AB a) (wB cA a) 2 10 [(0, .ref (a 0)), (1, .int x1)] [] S M := by
    intro S M x1 h H locs ls hl hP hD hS
    unfold f_Bd_slots_10 at h
    refine lv_iconst (v := (-1 : Int32)) hx hb d_Bd_slots_10 (by decide) ?_
    refine lv_goto (tgt := 20) hx hb d_Bd_slots_11 (by decide) ?_
    exact b20 _ _ _ _ h _ _ _ (lv_sub hl [0, 1] rfl) hP hD hS
  intro H locs ls hl hP hD hS
  have hl : lv_has ls 2 [(0, .ref (a 0)), (1, .int x1)] := hl
  have h := h0
  unfold f_Bd_slots at h
  refine lv_iload_n hx hb d_Bd_slots_0 rfl (lv_at hl 1 rfl) ?_
  refine lv_if_lt (tgt := 10) hx hb d_Bd_slots_1 (by decide) (fun hc => ?_) (fun hc => ?_)
  · have h := sg_p hc h
    exact b10 _ _ _ h _ _ _ (lv_sub hl [0, 1] rfl) hP hD hS
  · have h := sg_n hc h
    refine lv_iload_n hx hb d_Bd_slots_4 rfl (lv_at hl 1 rfl) ?_
    refine lv_bipush (v := (6 : Int32)) hx hb d_Bd_slots_5 (by decide) ?_
    refine lv_icmp_lt (tgt := 14) hx hb d_Bd_slots_7 (by decide) (fun hc => ?_) (fun hc => ?_)
    · have h := sg_p hc h
      refine lv_aload_n hx hb d_Bd_slots_14 rfl (lv_at hl 0 rfl) ?_
      refine va_get (D := D) (ci := 0) (v := .ref (a 7)) (C := R_Bd) (T := T_Bd) (N := 9) hx hb hts iBd hown hK hP 0 (wB_at0 _ _ _ _) rfl 6 (by decide) k51 (fun _ h9 => h9) rfl d_Bd_slots_15 ?_
      refine lv_iload_n hx hb d_Bd_slots_18 rfl (lv_at hl 1 rfl) ?_
      obtain ⟨hg1, h⟩ := sg_g h
      refine va_iald hx hb hK hP 7 0 (wB_at7 _ _ _ _) rfl hg1 d_Bd_slots_19 ?_
      exact b20 _ _ _ _ h _ _ _ (lv_sub hl [0, 1] rfl) hP hD hS
    · have h := sg_n hc h
      exact b10 _ _ _ h _ _ _ (lv_sub hl [0, 1] rfl) hP hD hS
def f_Bd_look (S : SS) (M : MM) (x1 : Int32) : Option RR := if x1 = (0 : Int32) then some (S 2, S, M) else if x1 = (1 : Int32) then (f_Re_isEnabledRequested S M).bind (fun q1 => (f_Bd_oneIf q1.2.1 q1.2.2 q1.1).bind (fun q2 => some (q2.1, q2.2.1, q2.2.2))) else if x1 = (2 : Int32) then (f_Bd_oneIf S M (S 9)).bind (fun q3 => some (q3.1, q3.2.1, q3.2.2)) else if x1 = (3 : Int32) then (f_Bd_oneIf S M (S 10)).bind (fun q4 => some (q4.1, q4.2.1, q4.2.2)) else if x1 = (4 : Int32) then some (S 19, S, M) else if x1 = (5 : Int32) then some (S 21, S, M) else if x1 = (6 : Int32) then some (S 22, S, M) else if x1 = (7 : Int32) then some (S 3, S, M) else if x1 = (8 : Int32) then some (S 4, S, M) else some ((-1 : Int32), S, M)
set_option maxHeartbeats 4000000 in
set_option maxRecDepth 100000 in
theorem c_Bd_look (l : Launch) (D : va_G) (cA : ClassId) (a : Nat → Nat) (S : SS) (M : MM) (x1 : Int32) (q : RR) (h0 : f_Bd_look S M x1 = some q) : Ci l y_Bd_look w_Bd_look rm_Bd_look D vCl [(cA, .int)] (AB a) (ZB a) (wB cA a) [.ref (a 0), .int x1] S M q := by
  refine Ci.of (cc := prog_1_method_10_code) (maxL := 2) (ty := .int) (by decide) rfl (Nat.le_of_ble_eq_true rfl) ?_
  intro p e s m args below meth c Q hx hb hml hown hts hK hZ ret
  have hown : s.vm.findClass R_Bd = some m.cls := hown
  have hts : ∀ w ∈ TB, w.before args s = true := fun w h => hts w (List.mem_cons_of_mem _ h)
  have hZK := ZB_k a
  have k19 := hts _ tb_fl_Bd_19
  have k86 : (Cond.fieldLinkNest "SlotBoard" 86 "SlotBoard$Registers" "requests" "I" "SlotBoard").before args s = true := va_Nw.use rfl (hZ.2 _ (List.mem_of_getElem? (i := 0) rfl))
  have k40 := hts _ tb_fl_Bd_40
  have k97 : (Cond.fieldLinkNest "SlotBoard" 97 "SlotBoard$Mover" "busy" "Z" "SlotBoard").before args s = true := va_Nw.use rfl (hZ.2 _ (List.mem_of_getElem? (i := 3) rfl))
  have k101 : (Cond.fieldLinkNest "SlotBoard" 101 "SlotBoard$Mover" "zero" "Z" "SlotBoard").before args s = true := va_Nw.use rfl (hZ.2 _ (List.mem_of_getElem? (i := 4) rfl))
  have k47 := hts _ tb_fl_Bd_47
  have k104 : (Cond.fieldLinkNest "SlotBoard" 104 "SlotBoard$Processor" "waiting" "I" "SlotBoard").before args s = true := va_Nw.use rfl (hZ.2 _ (List.mem_of_getElem? (i := 5) rfl))
  have k107 : (Cond.fieldLinkNest "SlotBoard" 107 "SlotBoard$Processor" "loaded" "I" "SlotBoard").before args s = true := va_Nw.use rfl (hZ.2 _ (List.mem_of_getElem? (i := 6) rfl))
  have k110 : (Cond.fieldLinkNest "SlotBoard" 110 "SlotBoard$Processor" "loads" "I" "SlotBoard").before args s = true := va_Nw.use rfl (hZ.2 _ (List.mem_of_getElem? (i := 7) rfl))
  have k33 := hts _ tb_fl_Bd_33
  have k113 : (Cond.fieldLinkNest "SlotBoard" 113 "SlotBoard$BeamList" "state" "I" "SlotBoard").before args s = true := va_Nw.use rfl (hZ.2 _ (List.mem_of_getElem? (i := 1) rfl))
  have k116 : (Cond.fieldLinkNest "SlotBoard" 116 "SlotBoard$BeamList" "address" "I" "SlotBoard").before args s = true := va_Nw.use rfl (hZ.2 _ (List.mem_of_getElem? (i := 2) rfl))
  intro H locs ls hl hP hD hS
  have hl : lv_has ls 2 [(0, .ref (a 0)), (1, .int x1)] := hl
  have h := h0
  unfold f_Bd_look at h
  refine lv_iload_n hx hb d_Bd_look_0 rfl (lv_at hl 1 rfl) ?_
  by_cases hc : x1 = (0 : Int32)
  · have h := sg_p hc h
    refine cst_i (y := (0 : Int32)) hc ?_
    refine lv_tableIn (off := 51) (tgt := 52) hx hb d_Bd_look_1 (by decide) (by decide) (by decide +kernel) (by decide) ?_
    refine lv_aload_n hx hb d_Bd_look_52 rfl (lv_at hl 0 rfl) ?_
    refine va_get (D := D) (ci := 0) (v := .ref (a 2)) (C := R_Bd) (T := T_Bd) (N := 9) hx hb hts iBd hown hK hP 0 (wB_at0 _ _ _ _) rfl 1 (by decide) k19 (fun _ h9 => h9) rfl d_Bd_look_53 ?_
    refine va_getN (D := D) (ci := 2) (v := .int (S 2)) (C := R_Re) (T := T_Re) (N := 2) hx hb hts iRe hown hK hP 2 (wB_at2 _ _ _ _) rfl 1 (by decide) k86 (fun _ h9 => h9) rfl d_Bd_look_56 ?_
    exact ret _ _ _ _ _ _ _ h rfl hP hD hS d_Bd_look_59
  have h := sg_n hc h
  have hcn9 := hc
  by_cases hc : x1 = (1 : Int32)
  · have h := sg_p hc h
    refine cst_i (y := (1 : Int32)) hc ?_
    refine lv_tableIn (off := 59) (tgt := 60) hx hb d_Bd_look_1 (by decide) (by decide) (by decide +kernel) (by decide) ?_
    refine lv_aload_n hx hb d_Bd_look_60 rfl (lv_at hl 0 rfl) ?_
    refine va_get (D := D) (ci := 0) (v := .ref (a 2)) (C := R_Bd) (T := T_Bd) (N := 9) hx hb hts iBd hown hK hP 0 (wB_at0 _ _ _ _) rfl 1 (by decide) k19 (fun _ h9 => h9) rfl d_Bd_look_61 ?_
    obtain ⟨⟨r1, S1, M1⟩, hc1, h⟩ := sg_b h
    dsimp only at h
    refine cvi (As := []) (rest := []) ⟨hx, hb, hml, hown, hts⟩ (c_Re_isEnabledRequested l D cA a S M _ hc1) ⟨callB_of 0 hts (tb_gi tb_cd_Re_isEnabledRequested) rfl rfl rfl (hts _ tb_in_Re) (hts _ tb_ml_Bd_89) yd_Re_isEnabledRequested ⟨Nat.le_of_ble_eq_true rfl, Nat.le_of_ble_eq_true rfl⟩, hts _ tb_im_Re_isEnabledRequested, hts _ tb_se_Re_isEnabledRequested⟩ hZK hK hZ hP hD hS 2 (wB_at2 _ _ _ _) rfl rfl hl.1 rfl (Nat.le_of_ble_eq_true rfl) d_Bd_look_64 (fun H locs hP hD hS => ?_)
    obtain ⟨⟨r2, S2, M2⟩, hc2, h⟩ := sg_b h
    dsimp only at h
    refine csi (As := [.int r1]) (rest := []) ⟨hx, hb, hml, hown, hts⟩ (c_Bd_oneIf l D cA a S1 M1 r1 _ hc2) ⟨callB_of 1 hts (tb_gi tb_cd_Bd_oneIf) rfl rfl rfl (hts _ tb_in_Bd) (hts _ tb_ml_Bd_93) yd_Bd_oneIf ⟨Nat.le_of_ble_eq_true rfl, Nat.le_of_ble_eq_true rfl⟩, hts _ tb_st_Bd_oneIf⟩ hZK hK hZ hP hD hS rfl hl.1 rfl (Nat.le_of_ble_eq_true rfl) d_Bd_look_67 (fun H locs hP hD hS => ?_)
    exact ret _ _ _ _ _ _ _ h rfl hP hD hS d_Bd_look_70
  have h := sg_n hc h
  have hcn24 := hc
  by_cases hc : x1 = (2 : Int32)
  · have h := sg_p hc h
    refine cst_i (y := (2 : Int32)) hc ?_
    refine lv_tableIn (off := 70) (tgt := 71) hx hb d_Bd_look_1 (by decide) (by decide) (by decide +kernel) (by decide) ?_
    refine lv_aload_n hx hb d_Bd_look_71 rfl (lv_at hl 0 rfl) ?_
    refine va_get (D := D) (ci := 0) (v := .ref (a 5)) (C := R_Bd) (T := T_Bd) (N := 9) hx hb hts iBd hown hK hP 0 (wB_at0 _ _ _ _) rfl 4 (by decide) k40 (fun _ h9 => h9) rfl d_Bd_look_72 ?_
    refine va_getN (D := D) (ci := 5) (v := .int (S 9)) (C := R_Mo) (T := T_Mo) (N := 10) hx hb hts iMo hown hK hP 5 (wB_at5 _ _ _ _) rfl 1 (by decide) k97 (fun _ h9 => h9) rfl d_Bd_look_75 ?_
    obtain ⟨⟨r3, S3, M3⟩, hc3, h⟩ := sg_b h
    dsimp only at h
    refine csi (As := [.int (S 9)]) (rest := []) ⟨hx, hb, hml, hown, hts⟩ (c_Bd_oneIf l D cA a S M (S 9) _ hc3) ⟨callB_of 1 hts (tb_gi tb_cd_Bd_oneIf) rfl rfl rfl (hts _ tb_in_Bd) (hts _ tb_ml_Bd_93) yd_Bd_oneIf ⟨Nat.le_of_ble_eq_true rfl, Nat.le_of_ble_eq_true rfl⟩, hts _ tb_st_Bd_oneIf⟩ hZK hK hZ hP hD hS rfl hl.1 rfl (Nat.le_of_ble_eq_true rfl) d_Bd_look_78 (fun H locs hP hD hS => ?_)
    exact ret _ _ _ _ _ _ _ h rfl hP hD hS d_Bd_look_81
  have h := sg_n hc h
  have hcn37 := hc
  by_cases hc : x1 = (3 : Int32)
  · have h := sg_p hc h
    refine cst_i (y := (3 : Int32)) hc ?_
    refine lv_tableIn (off := 81) (tgt := 82) hx hb d_Bd_look_1 (by decide) (by decide) (by decide +kernel) (by decide) ?_
    refine lv_aload_n hx hb d_Bd_look_82 rfl (lv_at hl 0 rfl) ?_
    refine va_get (D := D) (ci := 0) (v := .ref (a 5)) (C := R_Bd) (T := T_Bd) (N := 9) hx hb hts iBd hown hK hP 0 (wB_at0 _ _ _ _) rfl 4 (by decide) k40 (fun _ h9 => h9) rfl d_Bd_look_83 ?_
    refine va_getN (D := D) (ci := 5) (v := .int (S 10)) (C := R_Mo) (T := T_Mo) (N := 10) hx hb hts iMo hown hK hP 5 (wB_at5 _ _ _ _) rfl 2 (by decide) k101 (fun _ h9 => h9) rfl d_Bd_look_86 ?_
    obtain ⟨⟨r4, S4, M4⟩, hc4, h⟩ := sg_b h
    dsimp only at h
    refine csi (As := [.int (S 10)]) (rest := []) ⟨hx, hb, hml, hown, hts⟩ (c_Bd_oneIf l D cA a S M (S 10) _ hc4) ⟨callB_of 1 hts (tb_gi tb_cd_Bd_oneIf) rfl rfl rfl (hts _ tb_in_Bd) (hts _ tb_ml_Bd_93) yd_Bd_oneIf ⟨Nat.le_of_ble_eq_true rfl, Nat.le_of_ble_eq_true rfl⟩, hts _ tb_st_Bd_oneIf⟩ hZK hK hZ hP hD hS rfl hl.1 rfl (Nat.le_of_ble_eq_true rfl) d_Bd_look_89 (fun H locs hP hD hS => ?_)
    exact ret _ _ _ _ _ _ _ h rfl hP hD hS d_Bd_look_92
  have h := sg_n hc h
  have hcn50 := hc
  by_cases hc : x1 = (4 : Int32)
  · have h := sg_p hc h
    refine cst_i (y := (4 : Int32)) hc ?_
    refine lv_tableIn (off := 92) (tgt := 93) hx hb d_Bd_look_1 (by decide) (by decide) (by decide +kernel) (by decide) ?_
    refine lv_aload_n hx hb d_Bd_look_93 rfl (lv_at hl 0 rfl) ?_
    refine va_get (D := D) (ci := 0) (v := .ref (a 6)) (C := R_Bd) (T := T_Bd) (N := 9) hx hb hts iBd hown hK hP 0 (wB_at0 _ _ _ _) rfl 5 (by decide) k47 (fun _ h9 => h9) rfl d_Bd_look_94 ?_
    refine va_getN (D := D) (ci := 6) (v := .int (S 19)) (C := R_Pr) (T := T_Pr) (N := 8) hx hb hts iPr hown hK hP 6 (wB_at6 _ _ _ _) rfl 4 (by decide) k104 (fun _ h9 => h9) rfl d_Bd_look_97 ?_
    exact ret _ _ _ _ _ _ _ h rfl hP hD hS d_Bd_look_100
  have h := sg_n hc h
  have hcn60 := hc
  by_cases hc : x1 = (5 : Int32)
  · have h := sg_p hc h
    refine cst_i (y := (5 : Int32)) hc ?_
    refine lv_tableIn (off := 100) (tgt := 101) hx hb d_Bd_look_1 (by decide) (by decide) (by decide +kernel) (by decide) ?_
    refine lv_aload_n hx hb d_Bd_look_101 rfl (lv_at hl 0 rfl) ?_
    refine va_get (D := D) (ci := 0) (v := .ref (a 6)) (C := R_Bd) (T := T_Bd) (N := 9) hx hb hts iBd hown hK hP 0 (wB_at0 _ _ _ _) rfl 5 (by decide) k47 (fun _ h9 => h9) rfl d_Bd_look_102 ?_
    refine va_getN (D := D) (ci := 6) (v := .int (S 21)) (C := R_Pr) (T := T_Pr) (N := 8) hx hb hts iPr hown hK hP 6 (wB_at6 _ _ _ _) rfl 6 (by decide) k107 (fun _ h9 => h9) rfl d_Bd_look_105 ?_
    exact ret _ _ _ _ _ _ _ h rfl hP hD hS d_Bd_look_108
  have h := sg_n hc h
  have hcn70 := hc
  by_cases hc : x1 = (6 : Int32)
  · have h := sg_p hc h
    refine cst_i (y := (6 : Int32)) hc ?_
    refine lv_tableIn (off := 108) (tgt := 109) hx hb d_Bd_look_1 (by decide) (by decide) (by decide +kernel) (by decide) ?_
    refine lv_aload_n hx hb d_Bd_look_109 rfl (lv_at hl 0 rfl) ?_
    refine va_get (D := D) (ci := 0) (v := .ref (a 6)) (C := R_Bd) (T := T_Bd) (N := 9) hx hb hts iBd hown hK hP 0 (wB_at0 _ _ _ _) rfl 5 (by decide) k47 (fun _ h9 => h9) rfl d_Bd_look_110 ?_
    refine va_getN (D := D) (ci := 6) (v := .int (S 22)) (C := R_Pr) (T := T_Pr) (N := 8) hx hb hts iPr hown hK hP 6 (wB_at6 _ _ _ _) rfl 7 (by decide) k110 (fun _ h9 => h9) rfl d_Bd_look_113 ?_
    exact ret _ _ _ _ _ _ _ h rfl hP hD hS d_Bd_look_116
  have h := sg_n hc h
  have hcn80 := hc
  by_cases hc : x1 = (7 : Int32)
  · have h := sg_p hc h
    refine cst_i (y := (7 : Int32)) hc ?_
    refine lv_tableIn (off := 116) (tgt := 117) hx hb d_Bd_look_1 (by decide) (by decide) (by decide +kernel) (by decide) ?_
    refine lv_aload_n hx hb d_Bd_look_117 rfl (lv_at hl 0 rfl) ?_
    refine va_get (D := D) (ci := 0) (v := .ref (a 4)) (C := R_Bd) (T := T_Bd) (N := 9) hx hb hts iBd hown hK hP 0 (wB_at0 _ _ _ _) rfl 3 (by decide) k33 (fun _ h9 => h9) rfl d_Bd_look_118 ?_
    refine va_getN (D := D) (ci := 4) (v := .int (S 3)) (C := R_Li) (T := T_Li) (N := 6) hx hb hts iLi hown hK hP 4 (wB_at4 _ _ _ _) rfl 0 (by decide) k113 (fun _ h9 => h9) rfl d_Bd_look_121 ?_
    exact ret _ _ _ _ _ _ _ h rfl hP hD hS d_Bd_look_124
  have h := sg_n hc h
  have hcn90 := hc
  by_cases hc : x1 = (8 : Int32)
  · have h := sg_p hc h
    refine cst_i (y := (8 : Int32)) hc ?_
    refine lv_tableIn (off := 124) (tgt := 125) hx hb d_Bd_look_1 (by decide) (by decide) (by decide +kernel) (by decide) ?_
    refine lv_aload_n hx hb d_Bd_look_125 rfl (lv_at hl 0 rfl) ?_
    refine va_get (D := D) (ci := 0) (v := .ref (a 4)) (C := R_Bd) (T := T_Bd) (N := 9) hx hb hts iBd hown hK hP 0 (wB_at0 _ _ _ _) rfl 3 (by decide) k33 (fun _ h9 => h9) rfl d_Bd_look_126 ?_
    refine va_getN (D := D) (ci := 4) (v := .int (S 4)) (C := R_Li) (T := T_Li) (N := 6) hx hb hts iLi hown hK hP 4 (wB_at4 _ _ _ _) rfl 1 (by decide) k116 (fun _ h9 => h9) rfl d_Bd_look_129 ?_
    exact ret _ _ _ _ _ _ _ h rfl hP hD hS d_Bd_look_132
  have h := sg_n hc h
  have hcn100 := hc
  refine lv_tableOut (tgt := 133) hx hb d_Bd_look_1 (by have := lv_neT (a := 0) hcn9 (by decide); have := lv_neT (a := 1) hcn24 (by decide); have := lv_neT (a := 2) hcn37 (by decide); have := lv_neT (a := 3) hcn50 (by decide); have := lv_neT (a := 4) hcn60 (by decide); have := lv_neT (a := 5) hcn70 (by decide); have := lv_neT (a := 6) hcn80 (by decide); have := lv_neT (a := 7) hcn90 (by decide); have := lv_neT (a := 8) hcn100 (by decide); omega) (by decide) ?_
  refine lv_iconst (v := (-1 : Int32)) hx hb d_Bd_look_133 (by decide) ?_
  exact ret _ _ _ _ _ _ _ h rfl hP hD hS d_Bd_look_134
def f_Bd_register_22 (S : SS) (M : MM) (x1 : Int32) (y0 : Int32) : Option RR := some (y0, S, M)
def f_Bd_register_10 (S : SS) (M : MM) (x1 : Int32) : Option RR := f_Bd_register_22 S M x1 (-1 : Int32)
def f_Bd_register (S : SS) (M : MM) (x1 : Int32) : Option RR := if x1 < 0 then f_Bd_register_10 S M x1 else if x1 < (28 : Int32) then (f_Re_at S M x1).bind (fun q1 => f_Bd_register_22 q1.2.1 q1.2.2 x1 q1.1) else f_Bd_register_10 S M x1
set_option maxHeartbeats 4000000 in
set_option maxRecDepth 100000 in
theorem c_Bd_register (l : Launch) (D : va_G) (cA : ClassId) (a : Nat → Nat) (S : SS) (M : MM) (x1 : Int32) (q : RR) (h0 : f_Bd_register S M x1 = some q) : Ci l y_Bd_register w_Bd_register rm_Bd_register D vCl [(cA, .int)] (AB a) (ZB a) (wB cA a) [.ref (a 0), .int x1] S M q := by
  refine Ci.of (cc := prog_1_method_11_code) (maxL := 2) (ty := .int) (by decide) rfl (Nat.le_of_ble_eq_true rfl) ?_
  intro p e s m args below meth c Q hx hb hml hown hts hK hZ ret
  have hown : s.vm.findClass R_Bd = some m.cls := hown
  have hts : ∀ w ∈ TB, w.before args s = true := fun w h => hts w (List.mem_cons_of_mem _ h)
  have hZK := ZB_k a
  have k19 := hts _ tb_fl_Bd_19
  have b22 : ∀ (S : SS) (M : MM) (x1 : Int32) (y0 : Int32), f_Bd_register_22 S M x1 y0 = some q → BK p l e rm_Bd_register s m args below meth c Q D vCl (AB a) (wB cA a) 2 22 [(0, .ref (a 0)), (1, .int x1)] [.int y0] S M := by
    intro S M x1 y0 h H locs ls hl hP hD hS
    unfold f_Bd_register_22 at h
    exact ret _ _ _ _ _ _ _ h rfl hP hD hS d_Bd_register_22
  have b10 : ∀ (S : SS) (M : MM) (x1 : Int32), f_Bd_register_10 S M x1 = some q → BK p l e rm_Bd_register s m args below meth c Q D vCl (AB a) (wB cA a) 2 10 [(0, .ref (a 0)), (1, .int x1)] [] S M := by
    intro S M x1 h H locs ls hl hP hD hS
    unfold f_Bd_register_10 at h
    refine lv_iconst (v := (-1 : Int32)) hx hb d_Bd_register_10 (by decide) ?_
    refine lv_goto (tgt := 22) hx hb d_Bd_register_11 (by decide) ?_
    exact b22 _ _ _ _ h _ _ _ (lv_sub hl [0, 1] rfl) hP hD hS
  intro H locs ls hl hP hD hS
  have hl : lv_has ls 2 [(0, .ref (a 0)), (1, .int x1)] := hl
  have h := h0
  unfold f_Bd_register at h
  refine lv_iload_n hx hb d_Bd_register_0 rfl (lv_at hl 1 rfl) ?_
  refine lv_if_lt (tgt := 10) hx hb d_Bd_register_1 (by decide) (fun hc => ?_) (fun hc => ?_)
  · have h := sg_p hc h
    exact b10 _ _ _ h _ _ _ (lv_sub hl [0, 1] rfl) hP hD hS
  · have h := sg_n hc h
    refine lv_iload_n hx hb d_Bd_register_4 rfl (lv_at hl 1 rfl) ?_
    refine lv_bipush (v := (28 : Int32)) hx hb d_Bd_register_5 (by decide) ?_
    refine lv_icmp_lt (tgt := 14) hx hb d_Bd_register_7 (by decide) (fun hc => ?_) (fun hc => ?_)
    · have h := sg_p hc h
      refine lv_aload_n hx hb d_Bd_register_14 rfl (lv_at hl 0 rfl) ?_
      refine va_get (D := D) (ci := 0) (v := .ref (a 2)) (C := R_Bd) (T := T_Bd) (N := 9) hx hb hts iBd hown hK hP 0 (wB_at0 _ _ _ _) rfl 1 (by decide) k19 (fun _ h9 => h9) rfl d_Bd_register_15 ?_
      refine lv_iload_n hx hb d_Bd_register_18 rfl (lv_at hl 1 rfl) ?_
      obtain ⟨⟨r1, S1, M1⟩, hc1, h⟩ := sg_b h
      dsimp only at h
      refine cvi (As := [.int x1]) (rest := []) ⟨hx, hb, hml, hown, hts⟩ (c_Re_at l D cA a S M x1 _ hc1) ⟨callB_of 1 hts (tb_gi tb_cd_Re_at) rfl rfl rfl (hts _ tb_in_Re) (hts _ tb_ml_Bd_119) yd_Re_at ⟨Nat.le_of_ble_eq_true rfl, Nat.le_of_ble_eq_true rfl⟩, hts _ tb_im_Re_at, hts _ tb_se_Re_at⟩ hZK hK hZ hP hD hS 2 (wB_at2 _ _ _ _) rfl rfl hl.1 rfl (Nat.le_of_ble_eq_true rfl) d_Bd_register_19 (fun H locs hP hD hS => ?_)
      exact b22 _ _ _ _ h _ _ _ (lv_sub hl [0, 1] rfl) hP hD hS
    · have h := sg_n hc h
      exact b10 _ _ _ h _ _ _ (lv_sub hl [0, 1] rfl) hP hD hS
