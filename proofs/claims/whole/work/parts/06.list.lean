def w_Pr_enqueue : List Cond := Cond.code y_Pr_enqueue prog_6_method_2_code 5 (some .boolean) :: TB
def rm_Pr_enqueue : Room := { frames := 0, cells := 0, slots := 0, locals := 0 }
theorem d_Pr_enqueue_0 : decode prog_6_method_2_code 0 = .ok (.aload_n 0, 1) := by decide +kernel
theorem d_Pr_enqueue_1 : decode prog_6_method_2_code 1 = .ok (.getfield 19, 3) := by decide +kernel
theorem d_Pr_enqueue_4 : decode prog_6_method_2_code 4 = .ok (.bipush 8, 2) := by decide +kernel
theorem d_Pr_enqueue_6 : decode prog_6_method_2_code 6 = .ok (.if_icmp .lt 5, 3) := by decide +kernel
theorem d_Pr_enqueue_9 : decode prog_6_method_2_code 9 = .ok (.iconst 0, 1) := by decide +kernel
theorem d_Pr_enqueue_10 : decode prog_6_method_2_code 10 = .ok (.ireturn, 1) := by decide +kernel
theorem d_Pr_enqueue_11 : decode prog_6_method_2_code 11 = .ok (.aload_n 0, 1) := by decide +kernel
theorem d_Pr_enqueue_12 : decode prog_6_method_2_code 12 = .ok (.getfield 23, 3) := by decide +kernel
theorem d_Pr_enqueue_15 : decode prog_6_method_2_code 15 = .ok (.aload_n 0, 1) := by decide +kernel
theorem d_Pr_enqueue_16 : decode prog_6_method_2_code 16 = .ok (.getfield 19, 3) := by decide +kernel
theorem d_Pr_enqueue_19 : decode prog_6_method_2_code 19 = .ok (.iadd, 1) := by decide +kernel
theorem d_Pr_enqueue_20 : decode prog_6_method_2_code 20 = .ok (.bipush 7, 2) := by decide +kernel
theorem d_Pr_enqueue_22 : decode prog_6_method_2_code 22 = .ok (.iand, 1) := by decide +kernel
theorem d_Pr_enqueue_23 : decode prog_6_method_2_code 23 = .ok (.istore 4, 2) := by decide +kernel
theorem d_Pr_enqueue_25 : decode prog_6_method_2_code 25 = .ok (.aload_n 0, 1) := by decide +kernel
theorem d_Pr_enqueue_26 : decode prog_6_method_2_code 26 = .ok (.getfield 9, 3) := by decide +kernel
theorem d_Pr_enqueue_29 : decode prog_6_method_2_code 29 = .ok (.iload 4, 2) := by decide +kernel
theorem d_Pr_enqueue_31 : decode prog_6_method_2_code 31 = .ok (.iload_n 1, 1) := by decide +kernel
theorem d_Pr_enqueue_32 : decode prog_6_method_2_code 32 = .ok (.iastore, 1) := by decide +kernel
theorem d_Pr_enqueue_33 : decode prog_6_method_2_code 33 = .ok (.aload_n 0, 1) := by decide +kernel
theorem d_Pr_enqueue_34 : decode prog_6_method_2_code 34 = .ok (.getfield 13, 3) := by decide +kernel
theorem d_Pr_enqueue_37 : decode prog_6_method_2_code 37 = .ok (.iload 4, 2) := by decide +kernel
theorem d_Pr_enqueue_39 : decode prog_6_method_2_code 39 = .ok (.iload_n 2, 1) := by decide +kernel
theorem d_Pr_enqueue_40 : decode prog_6_method_2_code 40 = .ok (.iastore, 1) := by decide +kernel
theorem d_Pr_enqueue_41 : decode prog_6_method_2_code 41 = .ok (.aload_n 0, 1) := by decide +kernel
theorem d_Pr_enqueue_42 : decode prog_6_method_2_code 42 = .ok (.getfield 16, 3) := by decide +kernel
theorem d_Pr_enqueue_45 : decode prog_6_method_2_code 45 = .ok (.iload 4, 2) := by decide +kernel
theorem d_Pr_enqueue_47 : decode prog_6_method_2_code 47 = .ok (.iload_n 3, 1) := by decide +kernel
theorem d_Pr_enqueue_48 : decode prog_6_method_2_code 48 = .ok (.iastore, 1) := by decide +kernel
theorem d_Pr_enqueue_49 : decode prog_6_method_2_code 49 = .ok (.aload_n 0, 1) := by decide +kernel
theorem d_Pr_enqueue_50 : decode prog_6_method_2_code 50 = .ok (.dup, 1) := by decide +kernel
theorem d_Pr_enqueue_51 : decode prog_6_method_2_code 51 = .ok (.getfield 19, 3) := by decide +kernel
theorem d_Pr_enqueue_54 : decode prog_6_method_2_code 54 = .ok (.iconst 1, 1) := by decide +kernel
theorem d_Pr_enqueue_55 : decode prog_6_method_2_code 55 = .ok (.iadd, 1) := by decide +kernel
theorem d_Pr_enqueue_56 : decode prog_6_method_2_code 56 = .ok (.putfield 19, 3) := by decide +kernel
theorem d_Pr_enqueue_59 : decode prog_6_method_2_code 59 = .ok (.iconst 1, 1) := by decide +kernel
theorem d_Pr_enqueue_60 : decode prog_6_method_2_code 60 = .ok (.ireturn, 1) := by decide +kernel
theorem yd_Pr_enqueue : y_Pr_enqueue.cls ≠ "java/lang/invoke/MethodHandle" ∧ y_Pr_enqueue.cls ≠ "java/lang/invoke/VarHandle" ∧ (parseMethodDescriptor y_Pr_enqueue.desc).map (fun d => d.parameters.length) = some 3 := by decide +kernel
def w_Li_goOnAt : List Cond := Cond.code y_Li_goOnAt prog_2_method_2_code 2 none :: TB
def rm_Li_goOnAt : Room := { frames := 0, cells := 0, slots := 0, locals := 0 }
theorem d_Li_goOnAt_0 : decode prog_2_method_2_code 0 = .ok (.aload_n 0, 1) := by decide +kernel
theorem d_Li_goOnAt_1 : decode prog_2_method_2_code 1 = .ok (.iconst 1, 1) := by decide +kernel
theorem d_Li_goOnAt_2 : decode prog_2_method_2_code 2 = .ok (.putfield 11, 3) := by decide +kernel
theorem d_Li_goOnAt_5 : decode prog_2_method_2_code 5 = .ok (.aload_n 0, 1) := by decide +kernel
theorem d_Li_goOnAt_6 : decode prog_2_method_2_code 6 = .ok (.iload_n 1, 1) := by decide +kernel
theorem d_Li_goOnAt_7 : decode prog_2_method_2_code 7 = .ok (.putfield 15, 3) := by decide +kernel
theorem d_Li_goOnAt_10 : decode prog_2_method_2_code 10 = .ok (.aload_n 0, 1) := by decide +kernel
theorem d_Li_goOnAt_11 : decode prog_2_method_2_code 11 = .ok (.iconst 0, 1) := by decide +kernel
theorem d_Li_goOnAt_12 : decode prog_2_method_2_code 12 = .ok (.putfield 18, 3) := by decide +kernel
theorem d_Li_goOnAt_15 : decode prog_2_method_2_code 15 = .ok (.aload_n 0, 1) := by decide +kernel
theorem d_Li_goOnAt_16 : decode prog_2_method_2_code 16 = .ok (.iconst 0, 1) := by decide +kernel
theorem d_Li_goOnAt_17 : decode prog_2_method_2_code 17 = .ok (.putfield 22, 3) := by decide +kernel
theorem d_Li_goOnAt_20 : decode prog_2_method_2_code 20 = .ok (.return_, 1) := by decide +kernel
theorem yd_Li_goOnAt : y_Li_goOnAt.cls ≠ "java/lang/invoke/MethodHandle" ∧ y_Li_goOnAt.cls ≠ "java/lang/invoke/VarHandle" ∧ (parseMethodDescriptor y_Li_goOnAt.desc).map (fun d => d.parameters.length) = some 1 := by decide +kernel
def w_Li_wakeAt : List Cond := Cond.code y_Li_wakeAt prog_2_method_3_code 2 none :: TB
def rm_Li_wakeAt : Room := { frames := 0, cells := 0, slots := 0, locals := 0 }
theorem d_Li_wakeAt_0 : decode prog_2_method_3_code 0 = .ok (.aload_n 0, 1) := by decide +kernel
theorem d_Li_wakeAt_1 : decode prog_2_method_3_code 1 = .ok (.getfield 11, 3) := by decide +kernel
theorem d_Li_wakeAt_4 : decode prog_2_method_3_code 4 = .ok (.iconst 2, 1) := by decide +kernel
theorem d_Li_wakeAt_5 : decode prog_2_method_3_code 5 = .ok (.if_icmp .ne 16, 3) := by decide +kernel
theorem d_Li_wakeAt_8 : decode prog_2_method_3_code 8 = .ok (.iload_n 1, 1) := by decide +kernel
theorem d_Li_wakeAt_9 : decode prog_2_method_3_code 9 = .ok (.aload_n 0, 1) := by decide +kernel
theorem d_Li_wakeAt_10 : decode prog_2_method_3_code 10 = .ok (.getfield 25, 3) := by decide +kernel
theorem d_Li_wakeAt_13 : decode prog_2_method_3_code 13 = .ok (.if_icmp .lt 8, 3) := by decide +kernel
theorem d_Li_wakeAt_16 : decode prog_2_method_3_code 16 = .ok (.aload_n 0, 1) := by decide +kernel
theorem d_Li_wakeAt_17 : decode prog_2_method_3_code 17 = .ok (.iconst 1, 1) := by decide +kernel
theorem d_Li_wakeAt_18 : decode prog_2_method_3_code 18 = .ok (.putfield 11, 3) := by decide +kernel
theorem d_Li_wakeAt_21 : decode prog_2_method_3_code 21 = .ok (.return_, 1) := by decide +kernel
theorem yd_Li_wakeAt : y_Li_wakeAt.cls ≠ "java/lang/invoke/MethodHandle" ∧ y_Li_wakeAt.cls ≠ "java/lang/invoke/VarHandle" ∧ (parseMethodDescriptor y_Li_wakeAt.desc).map (fun d => d.parameters.length) = some 1 := by decide +kernel
def w_Pr_hasLostEnough : List Cond := Cond.code y_Pr_hasLostEnough prog_6_method_4_code 1 (some .boolean) :: TB
def rm_Pr_hasLostEnough : Room := { frames := 0, cells := 0, slots := 0, locals := 0 }
theorem d_Pr_hasLostEnough_0 : decode prog_6_method_4_code 0 = .ok (.aload_n 0, 1) := by decide +kernel
theorem d_Pr_hasLostEnough_1 : decode prog_6_method_4_code 1 = .ok (.getfield 26, 3) := by decide +kernel
theorem d_Pr_hasLostEnough_4 : decode prog_6_method_4_code 4 = .ok (.iconst 3, 1) := by decide +kernel
theorem d_Pr_hasLostEnough_5 : decode prog_6_method_4_code 5 = .ok (.if_icmp .lt 7, 3) := by decide +kernel
theorem d_Pr_hasLostEnough_8 : decode prog_6_method_4_code 8 = .ok (.iconst 1, 1) := by decide +kernel
theorem d_Pr_hasLostEnough_9 : decode prog_6_method_4_code 9 = .ok (.goto 4, 3) := by decide +kernel
theorem d_Pr_hasLostEnough_12 : decode prog_6_method_4_code 12 = .ok (.iconst 0, 1) := by decide +kernel
theorem d_Pr_hasLostEnough_13 : decode prog_6_method_4_code 13 = .ok (.ireturn, 1) := by decide +kernel
theorem yd_Pr_hasLostEnough : y_Pr_hasLostEnough.cls ≠ "java/lang/invoke/MethodHandle" ∧ y_Pr_hasLostEnough.cls ≠ "java/lang/invoke/VarHandle" ∧ (parseMethodDescriptor y_Pr_hasLostEnough.desc).map (fun d => d.parameters.length) = some 0 := by decide +kernel
def w_Pr_wantsSlot : List Cond := Cond.code y_Pr_wantsSlot prog_6_method_3_code 1 (some .boolean) :: TB
def rm_Pr_wantsSlot : Room := { frames := 0, cells := 0, slots := 0, locals := 0 }
theorem d_Pr_wantsSlot_0 : decode prog_6_method_3_code 0 = .ok (.aload_n 0, 1) := by decide +kernel
theorem d_Pr_wantsSlot_1 : decode prog_6_method_3_code 1 = .ok (.getfield 19, 3) := by decide +kernel
theorem d_Pr_wantsSlot_4 : decode prog_6_method_3_code 4 = .ok (.ifCond .le 7, 3) := by decide +kernel
theorem d_Pr_wantsSlot_7 : decode prog_6_method_3_code 7 = .ok (.iconst 1, 1) := by decide +kernel
theorem d_Pr_wantsSlot_8 : decode prog_6_method_3_code 8 = .ok (.goto 4, 3) := by decide +kernel
theorem d_Pr_wantsSlot_11 : decode prog_6_method_3_code 11 = .ok (.iconst 0, 1) := by decide +kernel
theorem d_Pr_wantsSlot_12 : decode prog_6_method_3_code 12 = .ok (.ireturn, 1) := by decide +kernel
theorem yd_Pr_wantsSlot : y_Pr_wantsSlot.cls ≠ "java/lang/invoke/MethodHandle" ∧ y_Pr_wantsSlot.cls ≠ "java/lang/invoke/VarHandle" ∧ (parseMethodDescriptor y_Pr_wantsSlot.desc).map (fun d => d.parameters.length) = some 0 := by decide +kernel
def w_Li_movedRegister : List Cond := Cond.code y_Li_movedRegister prog_2_method_5_code 1 (some .int) :: TB
def rm_Li_movedRegister : Room := { frames := 0, cells := 0, slots := 0, locals := 0 }
theorem d_Li_movedRegister_0 : decode prog_2_method_5_code 0 = .ok (.aload_n 0, 1) := by decide +kernel
theorem d_Li_movedRegister_1 : decode prog_2_method_5_code 1 = .ok (.getfield 28, 3) := by decide +kernel
theorem d_Li_movedRegister_4 : decode prog_2_method_5_code 4 = .ok (.iconst 1, 1) := by decide +kernel
theorem d_Li_movedRegister_5 : decode prog_2_method_5_code 5 = .ok (.ishr, 1) := by decide +kernel
theorem d_Li_movedRegister_6 : decode prog_2_method_5_code 6 = .ok (.bipush 31, 2) := by decide +kernel
theorem d_Li_movedRegister_8 : decode prog_2_method_5_code 8 = .ok (.iand, 1) := by decide +kernel
theorem d_Li_movedRegister_9 : decode prog_2_method_5_code 9 = .ok (.ireturn, 1) := by decide +kernel
theorem yd_Li_movedRegister : y_Li_movedRegister.cls ≠ "java/lang/invoke/MethodHandle" ∧ y_Li_movedRegister.cls ≠ "java/lang/invoke/VarHandle" ∧ (parseMethodDescriptor y_Li_movedRegister.desc).map (fun d => d.parameters.length) = some 0 := by decide +kernel
def w_Li_waitOrSkip : List Cond := Cond.code y_Li_waitOrSkip prog_2_method_6_code 3 none :: TB
def rm_Li_waitOrSkip : Room := { frames := 0, cells := 0, slots := 0, locals := 0 }
theorem d_Li_waitOrSkip_0 : decode prog_2_method_6_code 0 = .ok (.aload_n 0, 1) := by decide +kernel
theorem d_Li_waitOrSkip_1 : decode prog_2_method_6_code 1 = .ok (.aload_n 0, 1) := by decide +kernel
theorem d_Li_waitOrSkip_2 : decode prog_2_method_6_code 2 = .ok (.getfield 28, 3) := by decide +kernel
theorem d_Li_waitOrSkip_5 : decode prog_2_method_6_code 5 = .ok (.iconst 3, 1) := by decide +kernel
theorem d_Li_waitOrSkip_6 : decode prog_2_method_6_code 6 = .ok (.ishr, 1) := by decide +kernel
theorem d_Li_waitOrSkip_7 : decode prog_2_method_6_code 7 = .ok (.sipush 1023, 3) := by decide +kernel
theorem d_Li_waitOrSkip_10 : decode prog_2_method_6_code 10 = .ok (.iand, 1) := by decide +kernel
theorem d_Li_waitOrSkip_11 : decode prog_2_method_6_code 11 = .ok (.putfield 25, 3) := by decide +kernel
theorem d_Li_waitOrSkip_14 : decode prog_2_method_6_code 14 = .ok (.iload_n 1, 1) := by decide +kernel
theorem d_Li_waitOrSkip_15 : decode prog_2_method_6_code 15 = .ok (.iconst 1, 1) := by decide +kernel
theorem d_Li_waitOrSkip_16 : decode prog_2_method_6_code 16 = .ok (.iand, 1) := by decide +kernel
theorem d_Li_waitOrSkip_17 : decode prog_2_method_6_code 17 = .ok (.ifCond .ne 11, 3) := by decide +kernel
theorem d_Li_waitOrSkip_20 : decode prog_2_method_6_code 20 = .ok (.aload_n 0, 1) := by decide +kernel
theorem d_Li_waitOrSkip_21 : decode prog_2_method_6_code 21 = .ok (.iconst 2, 1) := by decide +kernel
theorem d_Li_waitOrSkip_22 : decode prog_2_method_6_code 22 = .ok (.putfield 11, 3) := by decide +kernel
theorem d_Li_waitOrSkip_25 : decode prog_2_method_6_code 25 = .ok (.goto 20, 3) := by decide +kernel
theorem d_Li_waitOrSkip_28 : decode prog_2_method_6_code 28 = .ok (.aload_n 0, 1) := by decide +kernel
theorem d_Li_waitOrSkip_29 : decode prog_2_method_6_code 29 = .ok (.iload_n 2, 1) := by decide +kernel
theorem d_Li_waitOrSkip_30 : decode prog_2_method_6_code 30 = .ok (.aload_n 0, 1) := by decide +kernel
theorem d_Li_waitOrSkip_31 : decode prog_2_method_6_code 31 = .ok (.getfield 25, 3) := by decide +kernel
theorem d_Li_waitOrSkip_34 : decode prog_2_method_6_code 34 = .ok (.if_icmp .lt 7, 3) := by decide +kernel
theorem d_Li_waitOrSkip_37 : decode prog_2_method_6_code 37 = .ok (.iconst 1, 1) := by decide +kernel
theorem d_Li_waitOrSkip_38 : decode prog_2_method_6_code 38 = .ok (.goto 4, 3) := by decide +kernel
theorem d_Li_waitOrSkip_41 : decode prog_2_method_6_code 41 = .ok (.iconst 0, 1) := by decide +kernel
theorem d_Li_waitOrSkip_42 : decode prog_2_method_6_code 42 = .ok (.putfield 22, 3) := by decide +kernel
theorem d_Li_waitOrSkip_45 : decode prog_2_method_6_code 45 = .ok (.return_, 1) := by decide +kernel
theorem yd_Li_waitOrSkip : y_Li_waitOrSkip.cls ≠ "java/lang/invoke/MethodHandle" ∧ y_Li_waitOrSkip.cls ≠ "java/lang/invoke/VarHandle" ∧ (parseMethodDescriptor y_Li_waitOrSkip.desc).map (fun d => d.parameters.length) = some 2 := by decide +kernel
def w_Li_takeWord : List Cond := Cond.code y_Li_takeWord prog_2_method_4_code 4 (some .boolean) :: TB
def rm_Li_takeWord : Room := { frames := 1, cells := 0, slots := 0, locals := 22 }
theorem d_Li_takeWord_0 : decode prog_2_method_4_code 0 = .ok (.aload_n 0, 1) := by decide +kernel
theorem d_Li_takeWord_1 : decode prog_2_method_4_code 1 = .ok (.aload_n 0, 1) := by decide +kernel
theorem d_Li_takeWord_2 : decode prog_2_method_4_code 2 = .ok (.getfield 15, 3) := by decide +kernel
theorem d_Li_takeWord_5 : decode prog_2_method_4_code 5 = .ok (.iconst 1, 1) := by decide +kernel
theorem d_Li_takeWord_6 : decode prog_2_method_4_code 6 = .ok (.iadd, 1) := by decide +kernel
theorem d_Li_takeWord_7 : decode prog_2_method_4_code 7 = .ok (.sipush 255, 3) := by decide +kernel
theorem d_Li_takeWord_10 : decode prog_2_method_4_code 10 = .ok (.iand, 1) := by decide +kernel
theorem d_Li_takeWord_11 : decode prog_2_method_4_code 11 = .ok (.putfield 15, 3) := by decide +kernel
theorem d_Li_takeWord_14 : decode prog_2_method_4_code 14 = .ok (.aload_n 0, 1) := by decide +kernel
theorem d_Li_takeWord_15 : decode prog_2_method_4_code 15 = .ok (.aload_n 0, 1) := by decide +kernel
theorem d_Li_takeWord_16 : decode prog_2_method_4_code 16 = .ok (.getfield 18, 3) := by decide +kernel
theorem d_Li_takeWord_19 : decode prog_2_method_4_code 19 = .ok (.ifCond .ne 7, 3) := by decide +kernel
theorem d_Li_takeWord_22 : decode prog_2_method_4_code 22 = .ok (.iconst 1, 1) := by decide +kernel
theorem d_Li_takeWord_23 : decode prog_2_method_4_code 23 = .ok (.goto 4, 3) := by decide +kernel
theorem d_Li_takeWord_26 : decode prog_2_method_4_code 26 = .ok (.iconst 0, 1) := by decide +kernel
theorem d_Li_takeWord_27 : decode prog_2_method_4_code 27 = .ok (.putfield 18, 3) := by decide +kernel
theorem d_Li_takeWord_30 : decode prog_2_method_4_code 30 = .ok (.aload_n 0, 1) := by decide +kernel
theorem d_Li_takeWord_31 : decode prog_2_method_4_code 31 = .ok (.getfield 18, 3) := by decide +kernel
theorem d_Li_takeWord_34 : decode prog_2_method_4_code 34 = .ok (.ifCond .eq 10, 3) := by decide +kernel
theorem d_Li_takeWord_37 : decode prog_2_method_4_code 37 = .ok (.aload_n 0, 1) := by decide +kernel
theorem d_Li_takeWord_38 : decode prog_2_method_4_code 38 = .ok (.iload_n 1, 1) := by decide +kernel
theorem d_Li_takeWord_39 : decode prog_2_method_4_code 39 = .ok (.putfield 28, 3) := by decide +kernel
theorem d_Li_takeWord_42 : decode prog_2_method_4_code 42 = .ok (.iconst 0, 1) := by decide +kernel
theorem d_Li_takeWord_43 : decode prog_2_method_4_code 43 = .ok (.ireturn, 1) := by decide +kernel
theorem d_Li_takeWord_44 : decode prog_2_method_4_code 44 = .ok (.aload_n 0, 1) := by decide +kernel
theorem d_Li_takeWord_45 : decode prog_2_method_4_code 45 = .ok (.getfield 22, 3) := by decide +kernel
theorem d_Li_takeWord_48 : decode prog_2_method_4_code 48 = .ok (.istore_n 3, 1) := by decide +kernel
theorem d_Li_takeWord_49 : decode prog_2_method_4_code 49 = .ok (.aload_n 0, 1) := by decide +kernel
theorem d_Li_takeWord_50 : decode prog_2_method_4_code 50 = .ok (.iconst 0, 1) := by decide +kernel
theorem d_Li_takeWord_51 : decode prog_2_method_4_code 51 = .ok (.putfield 22, 3) := by decide +kernel
theorem d_Li_takeWord_54 : decode prog_2_method_4_code 54 = .ok (.aload_n 0, 1) := by decide +kernel
theorem d_Li_takeWord_55 : decode prog_2_method_4_code 55 = .ok (.getfield 28, 3) := by decide +kernel
theorem d_Li_takeWord_58 : decode prog_2_method_4_code 58 = .ok (.iconst 1, 1) := by decide +kernel
theorem d_Li_takeWord_59 : decode prog_2_method_4_code 59 = .ok (.iand, 1) := by decide +kernel
theorem d_Li_takeWord_60 : decode prog_2_method_4_code 60 = .ok (.ifCond .ne 21, 3) := by decide +kernel
theorem d_Li_takeWord_63 : decode prog_2_method_4_code 63 = .ok (.iload_n 3, 1) := by decide +kernel
theorem d_Li_takeWord_64 : decode prog_2_method_4_code 64 = .ok (.ifCond .ne 15, 3) := by decide +kernel
theorem d_Li_takeWord_67 : decode prog_2_method_4_code 67 = .ok (.aload_n 0, 1) := by decide +kernel
theorem d_Li_takeWord_68 : decode prog_2_method_4_code 68 = .ok (.invokevirtual 31, 3) := by decide +kernel
theorem d_Li_takeWord_71 : decode prog_2_method_4_code 71 = .ok (.iconst 2, 1) := by decide +kernel
theorem d_Li_takeWord_72 : decode prog_2_method_4_code 72 = .ok (.if_icmp .le 7, 3) := by decide +kernel
theorem d_Li_takeWord_75 : decode prog_2_method_4_code 75 = .ok (.iconst 1, 1) := by decide +kernel
theorem d_Li_takeWord_76 : decode prog_2_method_4_code 76 = .ok (.goto 4, 3) := by decide +kernel
theorem d_Li_takeWord_79 : decode prog_2_method_4_code 79 = .ok (.iconst 0, 1) := by decide +kernel
theorem d_Li_takeWord_80 : decode prog_2_method_4_code 80 = .ok (.ireturn, 1) := by decide +kernel
theorem d_Li_takeWord_81 : decode prog_2_method_4_code 81 = .ok (.aload_n 0, 1) := by decide +kernel
theorem d_Li_takeWord_82 : decode prog_2_method_4_code 82 = .ok (.iload_n 1, 1) := by decide +kernel
theorem d_Li_takeWord_83 : decode prog_2_method_4_code 83 = .ok (.iload_n 2, 1) := by decide +kernel
theorem d_Li_takeWord_84 : decode prog_2_method_4_code 84 = .ok (.invokevirtual 37, 3) := by decide +kernel
theorem d_Li_takeWord_87 : decode prog_2_method_4_code 87 = .ok (.iconst 0, 1) := by decide +kernel
theorem d_Li_takeWord_88 : decode prog_2_method_4_code 88 = .ok (.ireturn, 1) := by decide +kernel
theorem yd_Li_takeWord : y_Li_takeWord.cls ≠ "java/lang/invoke/MethodHandle" ∧ y_Li_takeWord.cls ≠ "java/lang/invoke/VarHandle" ∧ (parseMethodDescriptor y_Li_takeWord.desc).map (fun d => d.parameters.length) = some 2 := by decide +kernel
def w_Pr_seeMoverSlot : List Cond := Cond.code y_Pr_seeMoverSlot prog_6_method_5_code 1 none :: TB
def rm_Pr_seeMoverSlot : Room := { frames := 1, cells := 0, slots := 0, locals := 20 }
theorem d_Pr_seeMoverSlot_0 : decode prog_6_method_5_code 0 = .ok (.aload_n 0, 1) := by decide +kernel
theorem d_Pr_seeMoverSlot_1 : decode prog_6_method_5_code 1 = .ok (.aload_n 0, 1) := by decide +kernel
theorem d_Pr_seeMoverSlot_2 : decode prog_6_method_5_code 2 = .ok (.invokevirtual 29, 3) := by decide +kernel
theorem d_Pr_seeMoverSlot_5 : decode prog_6_method_5_code 5 = .ok (.ifCond .eq 12, 3) := by decide +kernel
theorem d_Pr_seeMoverSlot_8 : decode prog_6_method_5_code 8 = .ok (.aload_n 0, 1) := by decide +kernel
theorem d_Pr_seeMoverSlot_9 : decode prog_6_method_5_code 9 = .ok (.getfield 26, 3) := by decide +kernel
theorem d_Pr_seeMoverSlot_12 : decode prog_6_method_5_code 12 = .ok (.iconst 1, 1) := by decide +kernel
theorem d_Pr_seeMoverSlot_13 : decode prog_6_method_5_code 13 = .ok (.iadd, 1) := by decide +kernel
theorem d_Pr_seeMoverSlot_14 : decode prog_6_method_5_code 14 = .ok (.goto 4, 3) := by decide +kernel
theorem d_Pr_seeMoverSlot_17 : decode prog_6_method_5_code 17 = .ok (.iconst 0, 1) := by decide +kernel
theorem d_Pr_seeMoverSlot_18 : decode prog_6_method_5_code 18 = .ok (.putfield 26, 3) := by decide +kernel
theorem d_Pr_seeMoverSlot_21 : decode prog_6_method_5_code 21 = .ok (.return_, 1) := by decide +kernel
theorem yd_Pr_seeMoverSlot : y_Pr_seeMoverSlot.cls ≠ "java/lang/invoke/MethodHandle" ∧ y_Pr_seeMoverSlot.cls ≠ "java/lang/invoke/VarHandle" ∧ (parseMethodDescriptor y_Pr_seeMoverSlot.desc).map (fun d => d.parameters.length) = some 0 := by decide +kernel
def w_Pr_firstTarget : List Cond := Cond.code y_Pr_firstTarget prog_6_method_7_code 1 (some .int) :: TB
def rm_Pr_firstTarget : Room := { frames := 0, cells := 0, slots := 0, locals := 0 }
theorem d_Pr_firstTarget_0 : decode prog_6_method_7_code 0 = .ok (.aload_n 0, 1) := by decide +kernel
theorem d_Pr_firstTarget_1 : decode prog_6_method_7_code 1 = .ok (.getfield 13, 3) := by decide +kernel
theorem d_Pr_firstTarget_4 : decode prog_6_method_7_code 4 = .ok (.aload_n 0, 1) := by decide +kernel
theorem d_Pr_firstTarget_5 : decode prog_6_method_7_code 5 = .ok (.getfield 23, 3) := by decide +kernel
theorem d_Pr_firstTarget_8 : decode prog_6_method_7_code 8 = .ok (.iaload, 1) := by decide +kernel
theorem d_Pr_firstTarget_9 : decode prog_6_method_7_code 9 = .ok (.ireturn, 1) := by decide +kernel
theorem yd_Pr_firstTarget : y_Pr_firstTarget.cls ≠ "java/lang/invoke/MethodHandle" ∧ y_Pr_firstTarget.cls ≠ "java/lang/invoke/VarHandle" ∧ (parseMethodDescriptor y_Pr_firstTarget.desc).map (fun d => d.parameters.length) = some 0 := by decide +kernel
def w_Pr_firstValue : List Cond := Cond.code y_Pr_firstValue prog_6_method_8_code 1 (some .int) :: TB
def rm_Pr_firstValue : Room := { frames := 0, cells := 0, slots := 0, locals := 0 }
theorem d_Pr_firstValue_0 : decode prog_6_method_8_code 0 = .ok (.aload_n 0, 1) := by decide +kernel
theorem d_Pr_firstValue_1 : decode prog_6_method_8_code 1 = .ok (.getfield 16, 3) := by decide +kernel
theorem d_Pr_firstValue_4 : decode prog_6_method_8_code 4 = .ok (.aload_n 0, 1) := by decide +kernel
theorem d_Pr_firstValue_5 : decode prog_6_method_8_code 5 = .ok (.getfield 23, 3) := by decide +kernel
theorem d_Pr_firstValue_8 : decode prog_6_method_8_code 8 = .ok (.iaload, 1) := by decide +kernel
theorem d_Pr_firstValue_9 : decode prog_6_method_8_code 9 = .ok (.ireturn, 1) := by decide +kernel
theorem yd_Pr_firstValue : y_Pr_firstValue.cls ≠ "java/lang/invoke/MethodHandle" ∧ y_Pr_firstValue.cls ≠ "java/lang/invoke/VarHandle" ∧ (parseMethodDescriptor y_Pr_firstValue.desc).map (fun d => d.parameters.length) = some 0 := by decide +kernel
def w_Pr_firstKind : List Cond := Cond.code y_Pr_firstKind prog_6_method_6_code 1 (some .int) :: TB
def rm_Pr_firstKind : Room := { frames := 0, cells := 0, slots := 0, locals := 0 }
theorem d_Pr_firstKind_0 : decode prog_6_method_6_code 0 = .ok (.aload_n 0, 1) := by decide +kernel
theorem d_Pr_firstKind_1 : decode prog_6_method_6_code 1 = .ok (.getfield 9, 3) := by decide +kernel
theorem d_Pr_firstKind_4 : decode prog_6_method_6_code 4 = .ok (.aload_n 0, 1) := by decide +kernel
theorem d_Pr_firstKind_5 : decode prog_6_method_6_code 5 = .ok (.getfield 23, 3) := by decide +kernel
theorem d_Pr_firstKind_8 : decode prog_6_method_6_code 8 = .ok (.iaload, 1) := by decide +kernel
theorem d_Pr_firstKind_9 : decode prog_6_method_6_code 9 = .ok (.ireturn, 1) := by decide +kernel
theorem yd_Pr_firstKind : y_Pr_firstKind.cls ≠ "java/lang/invoke/MethodHandle" ∧ y_Pr_firstKind.cls ≠ "java/lang/invoke/VarHandle" ∧ (parseMethodDescriptor y_Pr_firstKind.desc).map (fun d => d.parameters.length) = some 0 := by decide +kernel
def w_Pr_load : List Cond := Cond.code y_Pr_load prog_6_method_9_code 2 none :: TB
def rm_Pr_load : Room := { frames := 0, cells := 0, slots := 0, locals := 0 }
theorem d_Pr_load_0 : decode prog_6_method_9_code 0 = .ok (.aload_n 0, 1) := by decide +kernel
theorem d_Pr_load_1 : decode prog_6_method_9_code 1 = .ok (.iload_n 1, 1) := by decide +kernel
theorem d_Pr_load_2 : decode prog_6_method_9_code 2 = .ok (.putfield 33, 3) := by decide +kernel
theorem d_Pr_load_5 : decode prog_6_method_9_code 5 = .ok (.aload_n 0, 1) := by decide +kernel
theorem d_Pr_load_6 : decode prog_6_method_9_code 6 = .ok (.dup, 1) := by decide +kernel
theorem d_Pr_load_7 : decode prog_6_method_9_code 7 = .ok (.getfield 36, 3) := by decide +kernel
theorem d_Pr_load_10 : decode prog_6_method_9_code 10 = .ok (.iconst 1, 1) := by decide +kernel
theorem d_Pr_load_11 : decode prog_6_method_9_code 11 = .ok (.iadd, 1) := by decide +kernel
theorem d_Pr_load_12 : decode prog_6_method_9_code 12 = .ok (.putfield 36, 3) := by decide +kernel
theorem d_Pr_load_15 : decode prog_6_method_9_code 15 = .ok (.return_, 1) := by decide +kernel
theorem yd_Pr_load : y_Pr_load.cls ≠ "java/lang/invoke/MethodHandle" ∧ y_Pr_load.cls ≠ "java/lang/invoke/VarHandle" ∧ (parseMethodDescriptor y_Pr_load.desc).map (fun d => d.parameters.length) = some 1 := by decide +kernel
def w_Pr_dropFirst : List Cond := Cond.code y_Pr_dropFirst prog_6_method_10_code 1 none :: TB
def rm_Pr_dropFirst : Room := { frames := 0, cells := 0, slots := 0, locals := 0 }
theorem d_Pr_dropFirst_0 : decode prog_6_method_10_code 0 = .ok (.aload_n 0, 1) := by decide +kernel
theorem d_Pr_dropFirst_1 : decode prog_6_method_10_code 1 = .ok (.aload_n 0, 1) := by decide +kernel
theorem d_Pr_dropFirst_2 : decode prog_6_method_10_code 2 = .ok (.getfield 23, 3) := by decide +kernel
theorem d_Pr_dropFirst_5 : decode prog_6_method_10_code 5 = .ok (.iconst 1, 1) := by decide +kernel
theorem d_Pr_dropFirst_6 : decode prog_6_method_10_code 6 = .ok (.iadd, 1) := by decide +kernel
theorem d_Pr_dropFirst_7 : decode prog_6_method_10_code 7 = .ok (.bipush 7, 2) := by decide +kernel
theorem d_Pr_dropFirst_9 : decode prog_6_method_10_code 9 = .ok (.iand, 1) := by decide +kernel
theorem d_Pr_dropFirst_10 : decode prog_6_method_10_code 10 = .ok (.putfield 23, 3) := by decide +kernel
theorem d_Pr_dropFirst_13 : decode prog_6_method_10_code 13 = .ok (.aload_n 0, 1) := by decide +kernel
theorem d_Pr_dropFirst_14 : decode prog_6_method_10_code 14 = .ok (.dup, 1) := by decide +kernel
theorem d_Pr_dropFirst_15 : decode prog_6_method_10_code 15 = .ok (.getfield 19, 3) := by decide +kernel
theorem d_Pr_dropFirst_18 : decode prog_6_method_10_code 18 = .ok (.iconst 1, 1) := by decide +kernel
theorem d_Pr_dropFirst_19 : decode prog_6_method_10_code 19 = .ok (.isub, 1) := by decide +kernel
theorem d_Pr_dropFirst_20 : decode prog_6_method_10_code 20 = .ok (.putfield 19, 3) := by decide +kernel
theorem d_Pr_dropFirst_23 : decode prog_6_method_10_code 23 = .ok (.aload_n 0, 1) := by decide +kernel
theorem d_Pr_dropFirst_24 : decode prog_6_method_10_code 24 = .ok (.iconst 0, 1) := by decide +kernel
theorem d_Pr_dropFirst_25 : decode prog_6_method_10_code 25 = .ok (.putfield 26, 3) := by decide +kernel
theorem d_Pr_dropFirst_28 : decode prog_6_method_10_code 28 = .ok (.return_, 1) := by decide +kernel
theorem yd_Pr_dropFirst : y_Pr_dropFirst.cls ≠ "java/lang/invoke/MethodHandle" ∧ y_Pr_dropFirst.cls ≠ "java/lang/invoke/VarHandle" ∧ (parseMethodDescriptor y_Pr_dropFirst.desc).map (fun d => d.parameters.length) = some 0 := by decide +kernel
theorem tb_cd_Pr_enqueue : Cond.code y_Pr_enqueue prog_6_method_2_code 5 (some .boolean) ∈ TB := tb_in 198 (by decide +kernel) (by decide +kernel)
theorem tb_in_Pr : Cond.initialized "SlotBoard$Processor" ∈ TB := tb_in 7 (by decide +kernel) (by decide +kernel)
theorem tb_im_Pr_enqueue : Cond.instanceMethod y_Pr_enqueue ∈ TB := tb_in 196 (by decide +kernel) (by decide +kernel)
theorem tb_se_Pr_enqueue : Cond.selects "SlotBoard$Processor" y_Pr_enqueue y_Pr_enqueue ∈ TB := tb_in 197 (by decide +kernel) (by decide +kernel)
theorem tb_fl_Pr_19 : Cond.fieldLink "SlotBoard$Processor" 19 "SlotBoard$Processor" "waiting" "I" ∈ TB := tb_in 138 (by decide +kernel) (by decide +kernel)
theorem tb_fl_Pr_23 : Cond.fieldLink "SlotBoard$Processor" 23 "SlotBoard$Processor" "head" "I" ∈ TB := tb_in 137 (by decide +kernel) (by decide +kernel)
theorem tb_fl_Pr_9 : Cond.fieldLink "SlotBoard$Processor" 9 "SlotBoard$Processor" "kinds" "[I" ∈ TB := tb_in 134 (by decide +kernel) (by decide +kernel)
theorem tb_fl_Pr_13 : Cond.fieldLink "SlotBoard$Processor" 13 "SlotBoard$Processor" "targets" "[I" ∈ TB := tb_in 135 (by decide +kernel) (by decide +kernel)
theorem tb_fl_Pr_16 : Cond.fieldLink "SlotBoard$Processor" 16 "SlotBoard$Processor" "values" "[I" ∈ TB := tb_in 136 (by decide +kernel) (by decide +kernel)
theorem tb_cd_Li_goOnAt : Cond.code y_Li_goOnAt prog_2_method_2_code 2 none ∈ TB := tb_in 243 (by decide +kernel) (by decide +kernel)
theorem tb_in_Li : Cond.initialized "SlotBoard$BeamList" ∈ TB := tb_in 5 (by decide +kernel) (by decide +kernel)
theorem tb_im_Li_goOnAt : Cond.instanceMethod y_Li_goOnAt ∈ TB := tb_in 241 (by decide +kernel) (by decide +kernel)
theorem tb_se_Li_goOnAt : Cond.selects "SlotBoard$BeamList" y_Li_goOnAt y_Li_goOnAt ∈ TB := tb_in 242 (by decide +kernel) (by decide +kernel)
theorem tb_fl_Li_11 : Cond.fieldLink "SlotBoard$BeamList" 11 "SlotBoard$BeamList" "state" "I" ∈ TB := tb_in 68 (by decide +kernel) (by decide +kernel)
theorem tb_fl_Li_15 : Cond.fieldLink "SlotBoard$BeamList" 15 "SlotBoard$BeamList" "address" "I" ∈ TB := tb_in 70 (by decide +kernel) (by decide +kernel)
theorem tb_fl_Li_18 : Cond.fieldLink "SlotBoard$BeamList" 18 "SlotBoard$BeamList" "halfway" "Z" ∈ TB := tb_in 74 (by decide +kernel) (by decide +kernel)
theorem tb_fl_Li_22 : Cond.fieldLink "SlotBoard$BeamList" 22 "SlotBoard$BeamList" "leavesMoveOut" "Z" ∈ TB := tb_in 75 (by decide +kernel) (by decide +kernel)
theorem tb_cd_Li_wakeAt : Cond.code y_Li_wakeAt prog_2_method_3_code 2 none ∈ TB := tb_in 266 (by decide +kernel) (by decide +kernel)
theorem tb_im_Li_wakeAt : Cond.instanceMethod y_Li_wakeAt ∈ TB := tb_in 264 (by decide +kernel) (by decide +kernel)
theorem tb_se_Li_wakeAt : Cond.selects "SlotBoard$BeamList" y_Li_wakeAt y_Li_wakeAt ∈ TB := tb_in 265 (by decide +kernel) (by decide +kernel)
theorem tb_fl_Li_25 : Cond.fieldLink "SlotBoard$BeamList" 25 "SlotBoard$BeamList" "target" "I" ∈ TB := tb_in 73 (by decide +kernel) (by decide +kernel)
theorem tb_cd_Pr_hasLostEnough : Cond.code y_Pr_hasLostEnough prog_6_method_4_code 1 (some .boolean) ∈ TB := tb_in 284 (by decide +kernel) (by decide +kernel)
theorem tb_im_Pr_hasLostEnough : Cond.instanceMethod y_Pr_hasLostEnough ∈ TB := tb_in 282 (by decide +kernel) (by decide +kernel)
theorem tb_se_Pr_hasLostEnough : Cond.selects "SlotBoard$Processor" y_Pr_hasLostEnough y_Pr_hasLostEnough ∈ TB := tb_in 283 (by decide +kernel) (by decide +kernel)
theorem tb_fl_Pr_26 : Cond.fieldLink "SlotBoard$Processor" 26 "SlotBoard$Processor" "lost" "I" ∈ TB := tb_in 140 (by decide +kernel) (by decide +kernel)
theorem tb_cd_Pr_wantsSlot : Cond.code y_Pr_wantsSlot prog_6_method_3_code 1 (some .boolean) ∈ TB := tb_in 288 (by decide +kernel) (by decide +kernel)
theorem tb_im_Pr_wantsSlot : Cond.instanceMethod y_Pr_wantsSlot ∈ TB := tb_in 286 (by decide +kernel) (by decide +kernel)
theorem tb_se_Pr_wantsSlot : Cond.selects "SlotBoard$Processor" y_Pr_wantsSlot y_Pr_wantsSlot ∈ TB := tb_in 287 (by decide +kernel) (by decide +kernel)
theorem tb_cd_Li_movedRegister : Cond.code y_Li_movedRegister prog_2_method_5_code 1 (some .int) ∈ TB := tb_in 313 (by decide +kernel) (by decide +kernel)
theorem tb_im_Li_movedRegister : Cond.instanceMethod y_Li_movedRegister ∈ TB := tb_in 311 (by decide +kernel) (by decide +kernel)
theorem tb_se_Li_movedRegister : Cond.selects "SlotBoard$BeamList" y_Li_movedRegister y_Li_movedRegister ∈ TB := tb_in 312 (by decide +kernel) (by decide +kernel)
theorem tb_fl_Li_28 : Cond.fieldLink "SlotBoard$BeamList" 28 "SlotBoard$BeamList" "first" "I" ∈ TB := tb_in 72 (by decide +kernel) (by decide +kernel)
theorem tb_cd_Li_waitOrSkip : Cond.code y_Li_waitOrSkip prog_2_method_6_code 3 none ∈ TB := tb_in 317 (by decide +kernel) (by decide +kernel)
theorem tb_im_Li_waitOrSkip : Cond.instanceMethod y_Li_waitOrSkip ∈ TB := tb_in 316 (by decide +kernel) (by decide +kernel)
theorem tb_se_Li_waitOrSkip : Cond.selects "SlotBoard$BeamList" y_Li_waitOrSkip y_Li_waitOrSkip ∈ TB := tb_inS 8 (by decide +kernel) (by decide +kernel)
theorem tb_cd_Li_takeWord : Cond.code y_Li_takeWord prog_2_method_4_code 4 (some .boolean) ∈ TB := tb_in 309 (by decide +kernel) (by decide +kernel)
theorem tb_im_Li_takeWord : Cond.instanceMethod y_Li_takeWord ∈ TB := tb_in 307 (by decide +kernel) (by decide +kernel)
theorem tb_se_Li_takeWord : Cond.selects "SlotBoard$BeamList" y_Li_takeWord y_Li_takeWord ∈ TB := tb_in 308 (by decide +kernel) (by decide +kernel)
theorem tb_ml_Li_37 : Cond.methodLink "SlotBoard$BeamList" 37 y_Li_waitOrSkip ∈ TB := tb_in 314 (by decide +kernel) (by decide +kernel)
theorem tb_ml_Li_31 : Cond.methodLink "SlotBoard$BeamList" 31 y_Li_movedRegister ∈ TB := tb_in 310 (by decide +kernel) (by decide +kernel)
theorem tb_cd_Pr_seeMoverSlot : Cond.code y_Pr_seeMoverSlot prog_6_method_5_code 1 none ∈ TB := tb_in 340 (by decide +kernel) (by decide +kernel)
theorem tb_im_Pr_seeMoverSlot : Cond.instanceMethod y_Pr_seeMoverSlot ∈ TB := tb_in 338 (by decide +kernel) (by decide +kernel)
theorem tb_se_Pr_seeMoverSlot : Cond.selects "SlotBoard$Processor" y_Pr_seeMoverSlot y_Pr_seeMoverSlot ∈ TB := tb_in 339 (by decide +kernel) (by decide +kernel)
theorem tb_ml_Pr_29 : Cond.methodLink "SlotBoard$Processor" 29 y_Pr_wantsSlot ∈ TB := tb_in 341 (by decide +kernel) (by decide +kernel)
theorem tb_cd_Pr_firstTarget : Cond.code y_Pr_firstTarget prog_6_method_7_code 1 (some .int) ∈ TB := tb_in 393 (by decide +kernel) (by decide +kernel)
theorem tb_im_Pr_firstTarget : Cond.instanceMethod y_Pr_firstTarget ∈ TB := tb_in 391 (by decide +kernel) (by decide +kernel)
theorem tb_se_Pr_firstTarget : Cond.selects "SlotBoard$Processor" y_Pr_firstTarget y_Pr_firstTarget ∈ TB := tb_in 392 (by decide +kernel) (by decide +kernel)
theorem tb_cd_Pr_firstValue : Cond.code y_Pr_firstValue prog_6_method_8_code 1 (some .int) ∈ TB := tb_in 397 (by decide +kernel) (by decide +kernel)
theorem tb_im_Pr_firstValue : Cond.instanceMethod y_Pr_firstValue ∈ TB := tb_in 395 (by decide +kernel) (by decide +kernel)
theorem tb_se_Pr_firstValue : Cond.selects "SlotBoard$Processor" y_Pr_firstValue y_Pr_firstValue ∈ TB := tb_in 396 (by decide +kernel) (by decide +kernel)
theorem tb_cd_Pr_firstKind : Cond.code y_Pr_firstKind prog_6_method_6_code 1 (some .int) ∈ TB := tb_in 401 (by decide +kernel) (by decide +kernel)
theorem tb_im_Pr_firstKind : Cond.instanceMethod y_Pr_firstKind ∈ TB := tb_in 399 (by decide +kernel) (by decide +kernel)
theorem tb_se_Pr_firstKind : Cond.selects "SlotBoard$Processor" y_Pr_firstKind y_Pr_firstKind ∈ TB := tb_in 400 (by decide +kernel) (by decide +kernel)
theorem tb_cd_Pr_load : Cond.code y_Pr_load prog_6_method_9_code 2 none ∈ TB := tb_in 405 (by decide +kernel) (by decide +kernel)
theorem tb_im_Pr_load : Cond.instanceMethod y_Pr_load ∈ TB := tb_in 403 (by decide +kernel) (by decide +kernel)
theorem tb_se_Pr_load : Cond.selects "SlotBoard$Processor" y_Pr_load y_Pr_load ∈ TB := tb_in 404 (by decide +kernel) (by decide +kernel)
theorem tb_fl_Pr_33 : Cond.fieldLink "SlotBoard$Processor" 33 "SlotBoard$Processor" "loaded" "I" ∈ TB := tb_in 141 (by decide +kernel) (by decide +kernel)
theorem tb_fl_Pr_36 : Cond.fieldLink "SlotBoard$Processor" 36 "SlotBoard$Processor" "loads" "I" ∈ TB := tb_in 143 (by decide +kernel) (by decide +kernel)
theorem tb_cd_Pr_dropFirst : Cond.code y_Pr_dropFirst prog_6_method_10_code 1 none ∈ TB := tb_in 409 (by decide +kernel) (by decide +kernel)
theorem tb_im_Pr_dropFirst : Cond.instanceMethod y_Pr_dropFirst ∈ TB := tb_in 407 (by decide +kernel) (by decide +kernel)
theorem tb_se_Pr_dropFirst : Cond.selects "SlotBoard$Processor" y_Pr_dropFirst y_Pr_dropFirst ∈ TB := tb_in 408 (by decide +kernel) (by decide +kernel)
def f_Pr_enqueue (S : SS) (M : MM) (x1 : Int32) (x2 : Int32) (x3 : Int32) : Option RR := if S 19 < (8 : Int32) then if ((S 18) + (S 19)) &&& (7 : Int32) < 0 ∨ 8 ≤ (((S 18) + (S 19)) &&& (7 : Int32)).toNatClampNeg then none else if ((S 18) + (S 19)) &&& (7 : Int32) < 0 ∨ 8 ≤ (((S 18) + (S 19)) &&& (7 : Int32)).toNatClampNeg then none else if ((S 18) + (S 19)) &&& (7 : Int32) < 0 ∨ 8 ≤ (((S 18) + (S 19)) &&& (7 : Int32)).toNatClampNeg then none else some ((1 : Int32), (upd S 19 ((S 19) + (1 : Int32))), (upM (upM (upM M 8 (upd (M 8) (((S 18) + (S 19)) &&& (7 : Int32)).toNatClampNeg x1)) 9 (upd ((upM M 8 (upd (M 8) (((S 18) + (S 19)) &&& (7 : Int32)).toNatClampNeg x1)) 9) (((S 18) + (S 19)) &&& (7 : Int32)).toNatClampNeg x2)) 10 (upd ((upM (upM M 8 (upd (M 8) (((S 18) + (S 19)) &&& (7 : Int32)).toNatClampNeg x1)) 9 (upd ((upM M 8 (upd (M 8) (((S 18) + (S 19)) &&& (7 : Int32)).toNatClampNeg x1)) 9) (((S 18) + (S 19)) &&& (7 : Int32)).toNatClampNeg x2)) 10) (((S 18) + (S 19)) &&& (7 : Int32)).toNatClampNeg x3))) else some ((0 : Int32), S, M)
set_option maxHeartbeats 4000000 in
set_option maxRecDepth 100000 in
theorem c_Pr_enqueue (l : Launch) (D : va_G) (cA : ClassId) (a : Nat → Nat) (S : SS) (M : MM) (x1 : Int32) (x2 : Int32) (x3 : Int32) (q : RR) (h0 : f_Pr_enqueue S M x1 x2 x3 = some q) : Ci l y_Pr_enqueue w_Pr_enqueue rm_Pr_enqueue D vCl [(cA, .int)] (AB a) (ZB a) (wB cA a) [.ref (a 6), .int x1, .int x2, .int x3] S M q := by
  refine Ci.of (cc := prog_6_method_2_code) (maxL := 5) (ty := .boolean) (by decide) rfl (Nat.le_of_ble_eq_true rfl) ?_
  intro p e s m args below meth c Q hx hb hml hown hts hK hZ ret
  have hown : s.vm.findClass R_Pr = some m.cls := hown
  have hts : ∀ w ∈ TB, w.before args s = true := fun w h => hts w (List.mem_cons_of_mem _ h)
  have hZK := ZB_k a
  have k19 := hts _ tb_fl_Pr_19
  have k23 := hts _ tb_fl_Pr_23
  have k9 := hts _ tb_fl_Pr_9
  have k13 := hts _ tb_fl_Pr_13
  have k16 := hts _ tb_fl_Pr_16
  intro H locs ls hl hP hD hS
  have hl : lv_has ls 5 [(0, .ref (a 6)), (1, .int x1), (2, .int x2), (3, .int x3)] := hl
  have h := h0
  unfold f_Pr_enqueue at h
  refine lv_aload_n hx hb d_Pr_enqueue_0 rfl (lv_at hl 0 rfl) ?_
  refine va_get (D := D) (ci := 6) (v := .int (S 19)) (C := R_Pr) (T := T_Pr) (N := 8) hx hb hts iPr hown hK hP 6 (wB_at6 _ _ _ _) rfl 4 (by decide) k19 (fun _ h9 => h9) rfl d_Pr_enqueue_1 ?_
  refine lv_bipush (v := (8 : Int32)) hx hb d_Pr_enqueue_4 (by decide) ?_
  refine lv_icmp_lt (tgt := 11) hx hb d_Pr_enqueue_6 (by decide) (fun hc => ?_) (fun hc => ?_)
  · have h := sg_p hc h
    refine lv_aload_n hx hb d_Pr_enqueue_11 rfl (lv_at hl 0 rfl) ?_
    refine va_get (D := D) (ci := 6) (v := .int (S 18)) (C := R_Pr) (T := T_Pr) (N := 8) hx hb hts iPr hown hK hP 6 (wB_at6 _ _ _ _) rfl 3 (by decide) k23 (fun _ h9 => h9) rfl d_Pr_enqueue_12 ?_
    refine lv_aload_n hx hb d_Pr_enqueue_15 rfl (lv_at hl 0 rfl) ?_
    refine va_get (D := D) (ci := 6) (v := .int (S 19)) (C := R_Pr) (T := T_Pr) (N := 8) hx hb hts iPr hown hK hP 6 (wB_at6 _ _ _ _) rfl 4 (by decide) k19 (fun _ h9 => h9) rfl d_Pr_enqueue_16 ?_
    refine lv_iadd hx hb d_Pr_enqueue_19 ?_
    refine lv_bipush (v := (7 : Int32)) hx hb d_Pr_enqueue_20 (by decide) ?_
    refine lv_iand hx hb d_Pr_enqueue_22 ?_
    refine lv_istore (lv' := [(4, .int (((S 18) + (S 19)) &&& (7 : Int32))), (0, .ref (a 6)), (1, .int x1), (2, .int x2), (3, .int x3)]) hx hb d_Pr_enqueue_23 hl (by decide) rfl (fun ls hl => ?_)
    refine lv_aload_n hx hb d_Pr_enqueue_25 rfl (lv_at hl 1 rfl) ?_
    refine va_get (D := D) (ci := 6) (v := .ref (a 15)) (C := R_Pr) (T := T_Pr) (N := 8) hx hb hts iPr hown hK hP 6 (wB_at6 _ _ _ _) rfl 0 (by decide) k9 (fun _ h9 => h9) rfl d_Pr_enqueue_26 ?_
    refine lv_iload hx hb d_Pr_enqueue_29 (lv_at hl 0 rfl) ?_
    refine lv_iload_n hx hb d_Pr_enqueue_31 rfl (lv_at hl 2 rfl) ?_
    obtain ⟨hg1, h⟩ := sg_g h
    refine va_iast (x := x1) hx hb hK hP hD hS 15 0 (wB_at15 _ _ _ _) rfl hg1 d_Pr_enqueue_32 (fun H locs hP hD hS => ?_)
    have hP := wB_set15 hP
    have hD := wB_dset15 hD
    refine lv_aload_n hx hb d_Pr_enqueue_33 rfl (lv_at hl 1 rfl) ?_
    refine va_get (D := D) (ci := 6) (v := .ref (a 16)) (C := R_Pr) (T := T_Pr) (N := 8) hx hb hts iPr hown hK hP 6 (wB_at6 _ _ _ _) rfl 1 (by decide) k13 (fun _ h9 => h9) rfl d_Pr_enqueue_34 ?_
    refine lv_iload hx hb d_Pr_enqueue_37 (lv_at hl 0 rfl) ?_
    refine lv_iload_n hx hb d_Pr_enqueue_39 rfl (lv_at hl 3 rfl) ?_
    obtain ⟨hg2, h⟩ := sg_g h
    refine va_iast (x := x2) hx hb hK hP hD hS 16 0 (wB_at16 _ _ _ _) rfl hg2 d_Pr_enqueue_40 (fun H locs hP hD hS => ?_)
    have hP := wB_set16 hP
    have hD := wB_dset16 hD
    refine lv_aload_n hx hb d_Pr_enqueue_41 rfl (lv_at hl 1 rfl) ?_
    refine va_get (D := D) (ci := 6) (v := .ref (a 17)) (C := R_Pr) (T := T_Pr) (N := 8) hx hb hts iPr hown hK hP 6 (wB_at6 _ _ _ _) rfl 2 (by decide) k16 (fun _ h9 => h9) rfl d_Pr_enqueue_42 ?_
    refine lv_iload hx hb d_Pr_enqueue_45 (lv_at hl 0 rfl) ?_
    refine lv_iload_n hx hb d_Pr_enqueue_47 rfl (lv_at hl 4 rfl) ?_
    obtain ⟨hg3, h⟩ := sg_g h
    refine va_iast (x := x3) hx hb hK hP hD hS 17 0 (wB_at17 _ _ _ _) rfl hg3 d_Pr_enqueue_48 (fun H locs hP hD hS => ?_)
    have hP := wB_set17 hP
    have hD := wB_dset17 hD
    refine lv_aload_n hx hb d_Pr_enqueue_49 rfl (lv_at hl 1 rfl) ?_
    refine lv_dup hx hb d_Pr_enqueue_50 rfl ?_
    refine va_get (D := D) (ci := 6) (v := .int (S 19)) (C := R_Pr) (T := T_Pr) (N := 8) hx hb hts iPr hown hK hP 6 (wB_at6 _ _ _ _) rfl 4 (by decide) k19 (fun _ h9 => h9) rfl d_Pr_enqueue_51 ?_
    refine lv_iconst (v := (1 : Int32)) hx hb d_Pr_enqueue_54 (by decide) ?_
    refine lv_iadd hx hb d_Pr_enqueue_55 ?_
    refine puwB_19 (D := D) (x := (S 19) + (1 : Int32)) hx hb hts iPr hown hK hP hD hS k19 rfl rfl d_Pr_enqueue_56 (fun H locs hP hD hS => ?_)
    refine lv_iconst (v := (1 : Int32)) hx hb d_Pr_enqueue_59 (by decide) ?_
    exact ret _ _ _ _ _ _ _ h (by decide +kernel) hP hD hS d_Pr_enqueue_60
  · have h := sg_n hc h
    refine lv_iconst (v := (0 : Int32)) hx hb d_Pr_enqueue_9 (by decide) ?_
    exact ret _ _ _ _ _ _ _ h (by decide +kernel) hP hD hS d_Pr_enqueue_10
def f_Li_goOnAt (S : SS) (M : MM) (x1 : Int32) : Option RR := some (0, (upd (upd (upd (upd S 3 (1 : Int32)) 4 x1) 7 (0 : Int32)) 8 (0 : Int32)), M)
set_option maxHeartbeats 4000000 in
set_option maxRecDepth 100000 in
theorem c_Li_goOnAt (l : Launch) (D : va_G) (cA : ClassId) (a : Nat → Nat) (S : SS) (M : MM) (x1 : Int32) (q : RR) (h0 : f_Li_goOnAt S M x1 = some q) : Cv l y_Li_goOnAt w_Li_goOnAt rm_Li_goOnAt D vCl [(cA, .int)] (AB a) (ZB a) (wB cA a) [.ref (a 4), .int x1] S M q := by
  refine Cv.of (cc := prog_2_method_2_code) (maxL := 2) (by decide) rfl (Nat.le_of_ble_eq_true rfl) ?_
  intro p e s m args below meth c Q hx hb hml hown hts hK hZ ret
  have hown : s.vm.findClass R_Li = some m.cls := hown
  have hts : ∀ w ∈ TB, w.before args s = true := fun w h => hts w (List.mem_cons_of_mem _ h)
  have hZK := ZB_k a
  have k11 := hts _ tb_fl_Li_11
  have k15 := hts _ tb_fl_Li_15
  have k18 := hts _ tb_fl_Li_18
  have k22 := hts _ tb_fl_Li_22
  intro H locs ls hl hP hD hS
  have hl : lv_has ls 2 [(0, .ref (a 4)), (1, .int x1)] := hl
  have h := h0
  unfold f_Li_goOnAt at h
  refine lv_aload_n hx hb d_Li_goOnAt_0 rfl (lv_at hl 0 rfl) ?_
  refine lv_iconst (v := (1 : Int32)) hx hb d_Li_goOnAt_1 (by decide) ?_
  refine puwB_3 (D := D) (x := (1 : Int32)) hx hb hts iLi hown hK hP hD hS k11 rfl rfl d_Li_goOnAt_2 (fun H locs hP hD hS => ?_)
  refine lv_aload_n hx hb d_Li_goOnAt_5 rfl (lv_at hl 0 rfl) ?_
  refine lv_iload_n hx hb d_Li_goOnAt_6 rfl (lv_at hl 1 rfl) ?_
  refine puwB_4 (D := D) (x := x1) hx hb hts iLi hown hK hP hD hS k15 rfl rfl d_Li_goOnAt_7 (fun H locs hP hD hS => ?_)
  refine lv_aload_n hx hb d_Li_goOnAt_10 rfl (lv_at hl 0 rfl) ?_
  refine lv_iconst (v := (0 : Int32)) hx hb d_Li_goOnAt_11 (by decide) ?_
  refine puwB_7 (D := D) (x := (0 : Int32)) hx hb hts iLi hown hK hP hD hS k18 (by decide +kernel) (by decide +kernel) d_Li_goOnAt_12 (fun H locs hP hD hS => ?_)
  refine lv_aload_n hx hb d_Li_goOnAt_15 rfl (lv_at hl 0 rfl) ?_
  refine lv_iconst (v := (0 : Int32)) hx hb d_Li_goOnAt_16 (by decide) ?_
  refine puwB_8 (D := D) (x := (0 : Int32)) hx hb hts iLi hown hK hP hD hS k22 (by decide +kernel) (by decide +kernel) d_Li_goOnAt_17 (fun H locs hP hD hS => ?_)
  exact ret _ _ _ _ _ _ _ h hP hD hS d_Li_goOnAt_20
def f_Li_wakeAt_21 (S : SS) (M : MM) (x1 : Int32) : Option RR := some (0, S, M)
def f_Li_wakeAt (S : SS) (M : MM) (x1 : Int32) : Option RR := if S 3 = (2 : Int32) then if x1 < S 6 then f_Li_wakeAt_21 S M x1 else f_Li_wakeAt_21 (upd S 3 (1 : Int32)) M x1 else f_Li_wakeAt_21 S M x1
set_option maxHeartbeats 4000000 in
set_option maxRecDepth 100000 in
theorem c_Li_wakeAt (l : Launch) (D : va_G) (cA : ClassId) (a : Nat → Nat) (S : SS) (M : MM) (x1 : Int32) (q : RR) (h0 : f_Li_wakeAt S M x1 = some q) : Cv l y_Li_wakeAt w_Li_wakeAt rm_Li_wakeAt D vCl [(cA, .int)] (AB a) (ZB a) (wB cA a) [.ref (a 4), .int x1] S M q := by
  refine Cv.of (cc := prog_2_method_3_code) (maxL := 2) (by decide) rfl (Nat.le_of_ble_eq_true rfl) ?_
  intro p e s m args below meth c Q hx hb hml hown hts hK hZ ret
  have hown : s.vm.findClass R_Li = some m.cls := hown
  have hts : ∀ w ∈ TB, w.before args s = true := fun w h => hts w (List.mem_cons_of_mem _ h)
  have hZK := ZB_k a
  have k11 := hts _ tb_fl_Li_11
  have k25 := hts _ tb_fl_Li_25
  have b21 : ∀ (S : SS) (M : MM) (x1 : Int32), f_Li_wakeAt_21 S M x1 = some q → BK p l e rm_Li_wakeAt s m args below meth c Q D vCl (AB a) (wB cA a) 2 21 [(0, .ref (a 4)), (1, .int x1)] [] S M := by
    intro S M x1 h H locs ls hl hP hD hS
    unfold f_Li_wakeAt_21 at h
    exact ret _ _ _ _ _ _ _ h hP hD hS d_Li_wakeAt_21
  intro H locs ls hl hP hD hS
  have hl : lv_has ls 2 [(0, .ref (a 4)), (1, .int x1)] := hl
  have h := h0
  unfold f_Li_wakeAt at h
  refine lv_aload_n hx hb d_Li_wakeAt_0 rfl (lv_at hl 0 rfl) ?_
  refine va_get (D := D) (ci := 4) (v := .int (S 3)) (C := R_Li) (T := T_Li) (N := 6) hx hb hts iLi hown hK hP 4 (wB_at4 _ _ _ _) rfl 0 (by decide) k11 (fun _ h9 => h9) rfl d_Li_wakeAt_1 ?_
  refine lv_iconst (v := (2 : Int32)) hx hb d_Li_wakeAt_4 (by decide) ?_
  refine lv_icmp_ne (tgt := 21) hx hb d_Li_wakeAt_5 (by decide) (fun hc => ?_) (fun hc => ?_)
  · have h := sg_n hc h
    exact b21 _ _ _ h _ _ _ (lv_sub hl [0, 1] rfl) hP hD hS
  · have h := sg_p hc h
    refine lv_iload_n hx hb d_Li_wakeAt_8 rfl (lv_at hl 1 rfl) ?_
    refine lv_aload_n hx hb d_Li_wakeAt_9 rfl (lv_at hl 0 rfl) ?_
    refine va_get (D := D) (ci := 4) (v := .int (S 6)) (C := R_Li) (T := T_Li) (N := 6) hx hb hts iLi hown hK hP 4 (wB_at4 _ _ _ _) rfl 3 (by decide) k25 (fun _ h9 => h9) rfl d_Li_wakeAt_10 ?_
    refine lv_icmp_lt (tgt := 21) hx hb d_Li_wakeAt_13 (by decide) (fun hc => ?_) (fun hc => ?_)
    · have h := sg_p hc h
      exact b21 _ _ _ h _ _ _ (lv_sub hl [0, 1] rfl) hP hD hS
    · have h := sg_n hc h
      refine lv_aload_n hx hb d_Li_wakeAt_16 rfl (lv_at hl 0 rfl) ?_
      refine lv_iconst (v := (1 : Int32)) hx hb d_Li_wakeAt_17 (by decide) ?_
      refine puwB_3 (D := D) (x := (1 : Int32)) hx hb hts iLi hown hK hP hD hS k11 rfl rfl d_Li_wakeAt_18 (fun H locs hP hD hS => ?_)
      exact b21 _ _ _ h _ _ _ (lv_sub hl [0, 1] rfl) hP hD hS
def f_Pr_hasLostEnough_13 (S : SS) (M : MM) (y0 : Int32) : Option RR := if ¬ (y0 = 0 ∨ y0 = 1) then none else some (y0, S, M)
def f_Pr_hasLostEnough (S : SS) (M : MM) : Option RR := if S 20 < (3 : Int32) then f_Pr_hasLostEnough_13 S M (0 : Int32) else f_Pr_hasLostEnough_13 S M (1 : Int32)
set_option maxHeartbeats 4000000 in
set_option maxRecDepth 100000 in
theorem c_Pr_hasLostEnough (l : Launch) (D : va_G) (cA : ClassId) (a : Nat → Nat) (S : SS) (M : MM) (q : RR) (h0 : f_Pr_hasLostEnough S M = some q) : Ci l y_Pr_hasLostEnough w_Pr_hasLostEnough rm_Pr_hasLostEnough D vCl [(cA, .int)] (AB a) (ZB a) (wB cA a) [.ref (a 6)] S M q := by
  refine Ci.of (cc := prog_6_method_4_code) (maxL := 1) (ty := .boolean) (by decide) rfl (Nat.le_of_ble_eq_true rfl) ?_
  intro p e s m args below meth c Q hx hb hml hown hts hK hZ ret
  have hown : s.vm.findClass R_Pr = some m.cls := hown
  have hts : ∀ w ∈ TB, w.before args s = true := fun w h => hts w (List.mem_cons_of_mem _ h)
  have hZK := ZB_k a
  have k26 := hts _ tb_fl_Pr_26
  have b13 : ∀ (S : SS) (M : MM) (y0 : Int32), f_Pr_hasLostEnough_13 S M y0 = some q → BK p l e rm_Pr_hasLostEnough s m args below meth c Q D vCl (AB a) (wB cA a) 1 13 [(0, .ref (a 6))] [.int y0] S M := by
    intro S M y0 h H locs ls hl hP hD hS
    unfold f_Pr_hasLostEnough_13 at h
    obtain ⟨hg1, h⟩ := sg_g h
    exact ret _ _ _ _ _ _ _ h (sg_nb hg1).1 hP hD hS d_Pr_hasLostEnough_13
  intro H locs ls hl hP hD hS
  have hl : lv_has ls 1 [(0, .ref (a 6))] := hl
  have h := h0
  unfold f_Pr_hasLostEnough at h
  refine lv_aload_n hx hb d_Pr_hasLostEnough_0 rfl (lv_at hl 0 rfl) ?_
  refine va_get (D := D) (ci := 6) (v := .int (S 20)) (C := R_Pr) (T := T_Pr) (N := 8) hx hb hts iPr hown hK hP 6 (wB_at6 _ _ _ _) rfl 5 (by decide) k26 (fun _ h9 => h9) rfl d_Pr_hasLostEnough_1 ?_
  refine lv_iconst (v := (3 : Int32)) hx hb d_Pr_hasLostEnough_4 (by decide) ?_
  refine lv_icmp_lt (tgt := 12) hx hb d_Pr_hasLostEnough_5 (by decide) (fun hc => ?_) (fun hc => ?_)
  · have h := sg_p hc h
    refine lv_iconst (v := (0 : Int32)) hx hb d_Pr_hasLostEnough_12 (by decide) ?_
    exact b13 _ _ _ h _ _ _ (lv_sub hl [0] rfl) hP hD hS
  · have h := sg_n hc h
    refine lv_iconst (v := (1 : Int32)) hx hb d_Pr_hasLostEnough_8 (by decide) ?_
    refine lv_goto (tgt := 13) hx hb d_Pr_hasLostEnough_9 (by decide) ?_
    exact b13 _ _ _ h _ _ _ (lv_sub hl [0] rfl) hP hD hS
def f_Pr_wantsSlot_12 (S : SS) (M : MM) (y0 : Int32) : Option RR := if ¬ (y0 = 0 ∨ y0 = 1) then none else some (y0, S, M)
def f_Pr_wantsSlot (S : SS) (M : MM) : Option RR := if S 19 ≤ 0 then f_Pr_wantsSlot_12 S M (0 : Int32) else f_Pr_wantsSlot_12 S M (1 : Int32)
set_option maxHeartbeats 4000000 in
set_option maxRecDepth 100000 in
theorem c_Pr_wantsSlot (l : Launch) (D : va_G) (cA : ClassId) (a : Nat → Nat) (S : SS) (M : MM) (q : RR) (h0 : f_Pr_wantsSlot S M = some q) : Ci l y_Pr_wantsSlot w_Pr_wantsSlot rm_Pr_wantsSlot D vCl [(cA, .int)] (AB a) (ZB a) (wB cA a) [.ref (a 6)] S M q := by
  refine Ci.of (cc := prog_6_method_3_code) (maxL := 1) (ty := .boolean) (by decide) rfl (Nat.le_of_ble_eq_true rfl) ?_
  intro p e s m args below meth c Q hx hb hml hown hts hK hZ ret
  have hown : s.vm.findClass R_Pr = some m.cls := hown
  have hts : ∀ w ∈ TB, w.before args s = true := fun w h => hts w (List.mem_cons_of_mem _ h)
  have hZK := ZB_k a
  have k19 := hts _ tb_fl_Pr_19
  have b12 : ∀ (S : SS) (M : MM) (y0 : Int32), f_Pr_wantsSlot_12 S M y0 = some q → BK p l e rm_Pr_wantsSlot s m args below meth c Q D vCl (AB a) (wB cA a) 1 12 [(0, .ref (a 6))] [.int y0] S M := by
    intro S M y0 h H locs ls hl hP hD hS
    unfold f_Pr_wantsSlot_12 at h
    obtain ⟨hg1, h⟩ := sg_g h
    exact ret _ _ _ _ _ _ _ h (sg_nb hg1).1 hP hD hS d_Pr_wantsSlot_12
  intro H locs ls hl hP hD hS
  have hl : lv_has ls 1 [(0, .ref (a 6))] := hl
  have h := h0
  unfold f_Pr_wantsSlot at h
  refine lv_aload_n hx hb d_Pr_wantsSlot_0 rfl (lv_at hl 0 rfl) ?_
  refine va_get (D := D) (ci := 6) (v := .int (S 19)) (C := R_Pr) (T := T_Pr) (N := 8) hx hb hts iPr hown hK hP 6 (wB_at6 _ _ _ _) rfl 4 (by decide) k19 (fun _ h9 => h9) rfl d_Pr_wantsSlot_1 ?_
  refine lv_if_le (tgt := 11) hx hb d_Pr_wantsSlot_4 (by decide) (fun hc => ?_) (fun hc => ?_)
  · have h := sg_p hc h
    refine lv_iconst (v := (0 : Int32)) hx hb d_Pr_wantsSlot_11 (by decide) ?_
    exact b12 _ _ _ h _ _ _ (lv_sub hl [0] rfl) hP hD hS
  · have h := sg_n hc h
    refine lv_iconst (v := (1 : Int32)) hx hb d_Pr_wantsSlot_7 (by decide) ?_
    refine lv_goto (tgt := 12) hx hb d_Pr_wantsSlot_8 (by decide) ?_
    exact b12 _ _ _ h _ _ _ (lv_sub hl [0] rfl) hP hD hS
def f_Li_movedRegister (S : SS) (M : MM) : Option RR := some (((S 5) >>> ((1 : Int32) &&& 31)) &&& (31 : Int32), S, M)
set_option maxHeartbeats 4000000 in
set_option maxRecDepth 100000 in
theorem c_Li_movedRegister (l : Launch) (D : va_G) (cA : ClassId) (a : Nat → Nat) (S : SS) (M : MM) (q : RR) (h0 : f_Li_movedRegister S M = some q) : Ci l y_Li_movedRegister w_Li_movedRegister rm_Li_movedRegister D vCl [(cA, .int)] (AB a) (ZB a) (wB cA a) [.ref (a 4)] S M q := by
  refine Ci.of (cc := prog_2_method_5_code) (maxL := 1) (ty := .int) (by decide) rfl (Nat.le_of_ble_eq_true rfl) ?_
  intro p e s m args below meth c Q hx hb hml hown hts hK hZ ret
  have hown : s.vm.findClass R_Li = some m.cls := hown
  have hts : ∀ w ∈ TB, w.before args s = true := fun w h => hts w (List.mem_cons_of_mem _ h)
  have hZK := ZB_k a
  have k28 := hts _ tb_fl_Li_28
  intro H locs ls hl hP hD hS
  have hl : lv_has ls 1 [(0, .ref (a 4))] := hl
  have h := h0
  unfold f_Li_movedRegister at h
  refine lv_aload_n hx hb d_Li_movedRegister_0 rfl (lv_at hl 0 rfl) ?_
  refine va_get (D := D) (ci := 4) (v := .int (S 5)) (C := R_Li) (T := T_Li) (N := 6) hx hb hts iLi hown hK hP 4 (wB_at4 _ _ _ _) rfl 2 (by decide) k28 (fun _ h9 => h9) rfl d_Li_movedRegister_1 ?_
  refine lv_iconst (v := (1 : Int32)) hx hb d_Li_movedRegister_4 (by decide) ?_
  refine lv_ishr hx hb d_Li_movedRegister_5 ?_
  refine lv_bipush (v := (31 : Int32)) hx hb d_Li_movedRegister_6 (by decide) ?_
  refine lv_iand hx hb d_Li_movedRegister_8 ?_
  exact ret _ _ _ _ _ _ _ h rfl hP hD hS d_Li_movedRegister_9
def f_Li_waitOrSkip_45 (S : SS) (M : MM) (x1 : Int32) (x2 : Int32) : Option RR := some (0, S, M)
def f_Li_waitOrSkip_42 (S : SS) (M : MM) (x1 : Int32) (x2 : Int32) (y1 : Int32) : Option RR := if ¬ (y1 = 0 ∨ y1 = 1) then none else f_Li_waitOrSkip_45 (upd S 8 y1) M x1 x2
def f_Li_waitOrSkip (S : SS) (M : MM) (x1 : Int32) (x2 : Int32) : Option RR := if x1 &&& (1 : Int32) = 0 then f_Li_waitOrSkip_45 (upd (upd S 6 (((S 5) >>> ((3 : Int32) &&& 31)) &&& (1023 : Int32))) 3 (2 : Int32)) M x1 x2 else if x2 < (upd S 6 (((S 5) >>> ((3 : Int32) &&& 31)) &&& (1023 : Int32))) 6 then f_Li_waitOrSkip_42 (upd S 6 (((S 5) >>> ((3 : Int32) &&& 31)) &&& (1023 : Int32))) M x1 x2 (0 : Int32) else f_Li_waitOrSkip_42 (upd S 6 (((S 5) >>> ((3 : Int32) &&& 31)) &&& (1023 : Int32))) M x1 x2 (1 : Int32)
set_option maxHeartbeats 4000000 in
set_option maxRecDepth 100000 in
theorem c_Li_waitOrSkip (l : Launch) (D : va_G) (cA : ClassId) (a : Nat → Nat) (S : SS) (M : MM) (x1 : Int32) (x2 : Int32) (q : RR) (h0 : f_Li_waitOrSkip S M x1 x2 = some q) : Cv l y_Li_waitOrSkip w_Li_waitOrSkip rm_Li_waitOrSkip D vCl [(cA, .int)] (AB a) (ZB a) (wB cA a) [.ref (a 4), .int x1, .int x2] S M q := by
  refine Cv.of (cc := prog_2_method_6_code) (maxL := 3) (by decide) rfl (Nat.le_of_ble_eq_true rfl) ?_
  intro p e s m args below meth c Q hx hb hml hown hts hK hZ ret
  have hown : s.vm.findClass R_Li = some m.cls := hown
  have hts : ∀ w ∈ TB, w.before args s = true := fun w h => hts w (List.mem_cons_of_mem _ h)
  have hZK := ZB_k a
  have k28 := hts _ tb_fl_Li_28
  have k25 := hts _ tb_fl_Li_25
  have k11 := hts _ tb_fl_Li_11
  have k22 := hts _ tb_fl_Li_22
  have b45 : ∀ (S : SS) (M : MM) (x1 : Int32) (x2 : Int32), f_Li_waitOrSkip_45 S M x1 x2 = some q → BK p l e rm_Li_waitOrSkip s m args below meth c Q D vCl (AB a) (wB cA a) 3 45 [(0, .ref (a 4)), (1, .int x1), (2, .int x2)] [] S M := by
    intro S M x1 x2 h H locs ls hl hP hD hS
    unfold f_Li_waitOrSkip_45 at h
    exact ret _ _ _ _ _ _ _ h hP hD hS d_Li_waitOrSkip_45
  have b42 : ∀ (S : SS) (M : MM) (x1 : Int32) (x2 : Int32) (y1 : Int32), f_Li_waitOrSkip_42 S M x1 x2 y1 = some q → BK p l e rm_Li_waitOrSkip s m args below meth c Q D vCl (AB a) (wB cA a) 3 42 [(0, .ref (a 4)), (1, .int x1), (2, .int x2)] [.int y1, .ref (a 4)] S M := by
    intro S M x1 x2 y1 h H locs ls hl hP hD hS
    unfold f_Li_waitOrSkip_42 at h
    obtain ⟨hg1, h⟩ := sg_g h
    refine puwB_8 (D := D) (x := y1) hx hb hts iLi hown hK hP hD hS k22 (sg_nb hg1).1 (sg_nb hg1).2 d_Li_waitOrSkip_42 (fun H locs hP hD hS => ?_)
    exact b45 _ _ _ _ h _ _ _ (lv_sub hl [0, 1, 2] rfl) hP hD hS
  intro H locs ls hl hP hD hS
  have hl : lv_has ls 3 [(0, .ref (a 4)), (1, .int x1), (2, .int x2)] := hl
  have h := h0
  unfold f_Li_waitOrSkip at h
  refine lv_aload_n hx hb d_Li_waitOrSkip_0 rfl (lv_at hl 0 rfl) ?_
  refine lv_aload_n hx hb d_Li_waitOrSkip_1 rfl (lv_at hl 0 rfl) ?_
  refine va_get (D := D) (ci := 4) (v := .int (S 5)) (C := R_Li) (T := T_Li) (N := 6) hx hb hts iLi hown hK hP 4 (wB_at4 _ _ _ _) rfl 2 (by decide) k28 (fun _ h9 => h9) rfl d_Li_waitOrSkip_2 ?_
  refine lv_iconst (v := (3 : Int32)) hx hb d_Li_waitOrSkip_5 (by decide) ?_
  refine lv_ishr hx hb d_Li_waitOrSkip_6 ?_
  refine lv_sipush (v := (1023 : Int32)) hx hb d_Li_waitOrSkip_7 (by decide) ?_
  refine lv_iand hx hb d_Li_waitOrSkip_10 ?_
  refine puwB_6 (D := D) (x := ((S 5) >>> ((3 : Int32) &&& 31)) &&& (1023 : Int32)) hx hb hts iLi hown hK hP hD hS k25 rfl rfl d_Li_waitOrSkip_11 (fun H locs hP hD hS => ?_)
  refine lv_iload_n hx hb d_Li_waitOrSkip_14 rfl (lv_at hl 1 rfl) ?_
  refine lv_iconst (v := (1 : Int32)) hx hb d_Li_waitOrSkip_15 (by decide) ?_
  refine lv_iand hx hb d_Li_waitOrSkip_16 ?_
  refine lv_if_ne (tgt := 28) hx hb d_Li_waitOrSkip_17 (by decide) (fun hc => ?_) (fun hc => ?_)
  · have h := sg_n hc h
    refine lv_aload_n hx hb d_Li_waitOrSkip_28 rfl (lv_at hl 0 rfl) ?_
    refine lv_iload_n hx hb d_Li_waitOrSkip_29 rfl (lv_at hl 2 rfl) ?_
    refine lv_aload_n hx hb d_Li_waitOrSkip_30 rfl (lv_at hl 0 rfl) ?_
    refine va_get (D := D) (ci := 4) (v := .int ((upd S 6 (((S 5) >>> ((3 : Int32) &&& 31)) &&& (1023 : Int32))) 6)) (C := R_Li) (T := T_Li) (N := 6) hx hb hts iLi hown hK hP 4 (wB_at4 _ _ _ _) rfl 3 (by decide) k25 (fun _ h9 => h9) rfl d_Li_waitOrSkip_31 ?_
    refine lv_icmp_lt (tgt := 41) hx hb d_Li_waitOrSkip_34 (by decide) (fun hc => ?_) (fun hc => ?_)
    · have h := sg_p hc h
      refine lv_iconst (v := (0 : Int32)) hx hb d_Li_waitOrSkip_41 (by decide) ?_
      exact b42 _ _ _ _ _ h _ _ _ (lv_sub hl [0, 1, 2] rfl) hP hD hS
    · have h := sg_n hc h
      refine lv_iconst (v := (1 : Int32)) hx hb d_Li_waitOrSkip_37 (by decide) ?_
      refine lv_goto (tgt := 42) hx hb d_Li_waitOrSkip_38 (by decide) ?_
      exact b42 _ _ _ _ _ h _ _ _ (lv_sub hl [0, 1, 2] rfl) hP hD hS
  · have h := sg_p hc h
    refine lv_aload_n hx hb d_Li_waitOrSkip_20 rfl (lv_at hl 0 rfl) ?_
    refine lv_iconst (v := (2 : Int32)) hx hb d_Li_waitOrSkip_21 (by decide) ?_
    refine puwB_3 (D := D) (x := (2 : Int32)) hx hb hts iLi hown hK hP hD hS k11 rfl rfl d_Li_waitOrSkip_22 (fun H locs hP hD hS => ?_)
    refine lv_goto (tgt := 45) hx hb d_Li_waitOrSkip_25 (by decide) ?_
    exact b45 _ _ _ _ h _ _ _ (lv_sub hl [0, 1, 2] rfl) hP hD hS
def f_Li_takeWord_80 (S : SS) (M : MM) (x1 : Int32) (x2 : Int32) (x3 : Int32) (y0 : Int32) : Option RR := if ¬ (y0 = 0 ∨ y0 = 1) then none else some (y0, S, M)
def f_Li_takeWord_79 (S : SS) (M : MM) (x1 : Int32) (x2 : Int32) (x3 : Int32) : Option RR := f_Li_takeWord_80 S M x1 x2 x3 (0 : Int32)
def f_Li_takeWord_27 (S : SS) (M : MM) (x1 : Int32) (x2 : Int32) (y1 : Int32) : Option RR := if ¬ (y1 = 0 ∨ y1 = 1) then none else if (upd S 7 y1) 7 = 0 then if ((upd (upd S 7 y1) 8 (0 : Int32)) 5) &&& (1 : Int32) = 0 then if (upd S 7 y1) 8 = 0 then (f_Li_movedRegister (upd (upd S 7 y1) 8 (0 : Int32)) M).bind (fun q4 => if q4.1 ≤ (2 : Int32) then f_Li_takeWord_79 q4.2.1 q4.2.2 x1 x2 ((upd S 7 y1) 8) else f_Li_takeWord_80 q4.2.1 q4.2.2 x1 x2 ((upd S 7 y1) 8) (1 : Int32)) else f_Li_takeWord_79 (upd (upd S 7 y1) 8 (0 : Int32)) M x1 x2 ((upd S 7 y1) 8) else (f_Li_waitOrSkip (upd (upd S 7 y1) 8 (0 : Int32)) M x1 x2).bind (fun q3 => some ((0 : Int32), q3.2.1, q3.2.2)) else some ((0 : Int32), (upd (upd S 7 y1) 5 x1), M)
def f_Li_takeWord (S : SS) (M : MM) (x1 : Int32) (x2 : Int32) : Option RR := if (upd S 4 (((S 4) + (1 : Int32)) &&& (255 : Int32))) 7 = 0 then f_Li_takeWord_27 (upd S 4 (((S 4) + (1 : Int32)) &&& (255 : Int32))) M x1 x2 (1 : Int32) else f_Li_takeWord_27 (upd S 4 (((S 4) + (1 : Int32)) &&& (255 : Int32))) M x1 x2 (0 : Int32)
set_option maxHeartbeats 4000000 in
set_option maxRecDepth 100000 in
theorem c_Li_takeWord (l : Launch) (D : va_G) (cA : ClassId) (a : Nat → Nat) (S : SS) (M : MM) (x1 : Int32) (x2 : Int32) (q : RR) (h0 : f_Li_takeWord S M x1 x2 = some q) : Ci l y_Li_takeWord w_Li_takeWord rm_Li_takeWord D vCl [(cA, .int)] (AB a) (ZB a) (wB cA a) [.ref (a 4), .int x1, .int x2] S M q := by
  refine Ci.of (cc := prog_2_method_4_code) (maxL := 4) (ty := .boolean) (by decide) rfl (Nat.le_of_ble_eq_true rfl) ?_
  intro p e s m args below meth c Q hx hb hml hown hts hK hZ ret
  have hown : s.vm.findClass R_Li = some m.cls := hown
  have hts : ∀ w ∈ TB, w.before args s = true := fun w h => hts w (List.mem_cons_of_mem _ h)
  have hZK := ZB_k a
  have k15 := hts _ tb_fl_Li_15
  have k18 := hts _ tb_fl_Li_18
  have k22 := hts _ tb_fl_Li_22
  have k28 := hts _ tb_fl_Li_28
  have b80 : ∀ (S : SS) (M : MM) (x1 : Int32) (x2 : Int32) (x3 : Int32) (y0 : Int32), f_Li_takeWord_80 S M x1 x2 x3 y0 = some q → BK p l e rm_Li_takeWord s m args below meth c Q D vCl (AB a) (wB cA a) 4 80 [(0, .ref (a 4)), (1, .int x1), (2, .int x2), (3, .int x3)] [.int y0] S M := by
    intro S M x1 x2 x3 y0 h H locs ls hl hP hD hS
    unfold f_Li_takeWord_80 at h
    obtain ⟨hg1, h⟩ := sg_g h
    exact ret _ _ _ _ _ _ _ h (sg_nb hg1).1 hP hD hS d_Li_takeWord_80
  have b79 : ∀ (S : SS) (M : MM) (x1 : Int32) (x2 : Int32) (x3 : Int32), f_Li_takeWord_79 S M x1 x2 x3 = some q → BK p l e rm_Li_takeWord s m args below meth c Q D vCl (AB a) (wB cA a) 4 79 [(0, .ref (a 4)), (1, .int x1), (2, .int x2), (3, .int x3)] [] S M := by
    intro S M x1 x2 x3 h H locs ls hl hP hD hS
    unfold f_Li_takeWord_79 at h
    refine lv_iconst (v := (0 : Int32)) hx hb d_Li_takeWord_79 (by decide) ?_
    exact b80 _ _ _ _ _ _ h _ _ _ (lv_sub hl [0, 1, 2, 3] rfl) hP hD hS
  have b27 : ∀ (S : SS) (M : MM) (x1 : Int32) (x2 : Int32) (y1 : Int32), f_Li_takeWord_27 S M x1 x2 y1 = some q → BK p l e rm_Li_takeWord s m args below meth c Q D vCl (AB a) (wB cA a) 4 27 [(0, .ref (a 4)), (1, .int x1), (2, .int x2)] [.int y1, .ref (a 4)] S M := by
    intro S M x1 x2 y1 h H locs ls hl hP hD hS
    unfold f_Li_takeWord_27 at h
    obtain ⟨hg2, h⟩ := sg_g h
    refine puwB_7 (D := D) (x := y1) hx hb hts iLi hown hK hP hD hS k18 (sg_nb hg2).1 (sg_nb hg2).2 d_Li_takeWord_27 (fun H locs hP hD hS => ?_)
    refine lv_aload_n hx hb d_Li_takeWord_30 rfl (lv_at hl 0 rfl) ?_
    refine va_get (D := D) (ci := 4) (v := .int ((upd S 7 y1) 7)) (C := R_Li) (T := T_Li) (N := 6) hx hb hts iLi hown hK hP 4 (wB_at4 _ _ _ _) rfl 4 (by decide) k18 (fun _ h9 => h9) rfl d_Li_takeWord_31 ?_
    refine lv_if_eq (tgt := 44) hx hb d_Li_takeWord_34 (by decide) (fun hc => ?_) (fun hc => ?_)
    · have h := sg_p hc h
      refine lv_aload_n hx hb d_Li_takeWord_44 rfl (lv_at hl 0 rfl) ?_
      refine va_get (D := D) (ci := 4) (v := .int ((upd S 7 y1) 8)) (C := R_Li) (T := T_Li) (N := 6) hx hb hts iLi hown hK hP 4 (wB_at4 _ _ _ _) rfl 5 (by decide) k22 (fun _ h9 => h9) rfl d_Li_takeWord_45 ?_
      refine lv_istore_n (lv' := [(3, .int ((upd S 7 y1) 8)), (0, .ref (a 4)), (1, .int x1), (2, .int x2)]) hx hb d_Li_takeWord_48 rfl hl (by decide) rfl (fun ls hl => ?_)
      refine lv_aload_n hx hb d_Li_takeWord_49 rfl (lv_at hl 1 rfl) ?_
      refine lv_iconst (v := (0 : Int32)) hx hb d_Li_takeWord_50 (by decide) ?_
      refine puwB_8 (D := D) (x := (0 : Int32)) hx hb hts iLi hown hK hP hD hS k22 (by decide +kernel) (by decide +kernel) d_Li_takeWord_51 (fun H locs hP hD hS => ?_)
      refine lv_aload_n hx hb d_Li_takeWord_54 rfl (lv_at hl 1 rfl) ?_
      refine va_get (D := D) (ci := 4) (v := .int ((upd (upd S 7 y1) 8 (0 : Int32)) 5)) (C := R_Li) (T := T_Li) (N := 6) hx hb hts iLi hown hK hP 4 (wB_at4 _ _ _ _) rfl 2 (by decide) k28 (fun _ h9 => h9) rfl d_Li_takeWord_55 ?_
      refine lv_iconst (v := (1 : Int32)) hx hb d_Li_takeWord_58 (by decide) ?_
      refine lv_iand hx hb d_Li_takeWord_59 ?_
      refine lv_if_ne (tgt := 81) hx hb d_Li_takeWord_60 (by decide) (fun hc => ?_) (fun hc => ?_)
      · have h := sg_n hc h
        refine lv_aload_n hx hb d_Li_takeWord_81 rfl (lv_at hl 1 rfl) ?_
        refine lv_iload_n hx hb d_Li_takeWord_82 rfl (lv_at hl 2 rfl) ?_
        refine lv_iload_n hx hb d_Li_takeWord_83 rfl (lv_at hl 3 rfl) ?_
        obtain ⟨⟨r3, S3, M3⟩, hc3, h⟩ := sg_b h
        dsimp only at h
        refine cvv (As := [.int x1, .int x2]) (rest := []) ⟨hx, hb, hml, hown, hts⟩ (c_Li_waitOrSkip l D cA a (upd (upd S 7 y1) 8 (0 : Int32)) M x1 x2 _ hc3) ⟨callB_of 2 hts (tb_gi tb_cd_Li_waitOrSkip) rfl rfl rfl (hts _ tb_in_Li) (hts _ tb_ml_Li_37) yd_Li_waitOrSkip ⟨Nat.le_of_ble_eq_true rfl, Nat.le_of_ble_eq_true rfl⟩, hts _ tb_im_Li_waitOrSkip, hts _ tb_se_Li_waitOrSkip⟩ hZK hK hZ hP hD hS 4 (wB_at4 _ _ _ _) rfl rfl hl.1 rfl (Nat.le_of_ble_eq_true rfl) d_Li_takeWord_84 (fun H locs hP hD hS => ?_)
        refine lv_iconst (v := (0 : Int32)) hx hb d_Li_takeWord_87 (by decide) ?_
        exact ret _ _ _ _ _ _ _ h (by decide +kernel) hP hD hS d_Li_takeWord_88
      · have h := sg_p hc h
        refine lv_iload_n hx hb d_Li_takeWord_63 rfl (lv_at hl 0 rfl) ?_
        refine lv_if_ne (tgt := 79) hx hb d_Li_takeWord_64 (by decide) (fun hc => ?_) (fun hc => ?_)
        · have h := sg_n hc h
          exact b79 _ _ _ _ _ h _ _ _ (lv_sub hl [1, 2, 3, 0] rfl) hP hD hS
        · have h := sg_p hc h
          refine lv_aload_n hx hb d_Li_takeWord_67 rfl (lv_at hl 1 rfl) ?_
          obtain ⟨⟨r4, S4, M4⟩, hc4, h⟩ := sg_b h
          dsimp only at h
          refine cvi (As := []) (rest := []) ⟨hx, hb, hml, hown, hts⟩ (c_Li_movedRegister l D cA a (upd (upd S 7 y1) 8 (0 : Int32)) M _ hc4) ⟨callB_of 0 hts (tb_gi tb_cd_Li_movedRegister) rfl rfl rfl (hts _ tb_in_Li) (hts _ tb_ml_Li_31) yd_Li_movedRegister ⟨Nat.le_of_ble_eq_true rfl, Nat.le_of_ble_eq_true rfl⟩, hts _ tb_im_Li_movedRegister, hts _ tb_se_Li_movedRegister⟩ hZK hK hZ hP hD hS 4 (wB_at4 _ _ _ _) rfl rfl hl.1 rfl (Nat.le_of_ble_eq_true rfl) d_Li_takeWord_68 (fun H locs hP hD hS => ?_)
          refine lv_iconst (v := (2 : Int32)) hx hb d_Li_takeWord_71 (by decide) ?_
          refine lv_icmp_le (tgt := 79) hx hb d_Li_takeWord_72 (by decide) (fun hc => ?_) (fun hc => ?_)
          · have h := sg_p hc h
            exact b79 _ _ _ _ _ h _ _ _ (lv_sub hl [1, 2, 3, 0] rfl) hP hD hS
          · have h := sg_n hc h
            refine lv_iconst (v := (1 : Int32)) hx hb d_Li_takeWord_75 (by decide) ?_
            refine lv_goto (tgt := 80) hx hb d_Li_takeWord_76 (by decide) ?_
            exact b80 _ _ _ _ _ _ h _ _ _ (lv_sub hl [1, 2, 3, 0] rfl) hP hD hS
    · have h := sg_n hc h
      refine lv_aload_n hx hb d_Li_takeWord_37 rfl (lv_at hl 0 rfl) ?_
      refine lv_iload_n hx hb d_Li_takeWord_38 rfl (lv_at hl 1 rfl) ?_
      refine puwB_5 (D := D) (x := x1) hx hb hts iLi hown hK hP hD hS k28 rfl rfl d_Li_takeWord_39 (fun H locs hP hD hS => ?_)
      refine lv_iconst (v := (0 : Int32)) hx hb d_Li_takeWord_42 (by decide) ?_
      exact ret _ _ _ _ _ _ _ h (by decide +kernel) hP hD hS d_Li_takeWord_43
  intro H locs ls hl hP hD hS
  have hl : lv_has ls 4 [(0, .ref (a 4)), (1, .int x1), (2, .int x2)] := hl
  have h := h0
  unfold f_Li_takeWord at h
  refine lv_aload_n hx hb d_Li_takeWord_0 rfl (lv_at hl 0 rfl) ?_
  refine lv_aload_n hx hb d_Li_takeWord_1 rfl (lv_at hl 0 rfl) ?_
  refine va_get (D := D) (ci := 4) (v := .int (S 4)) (C := R_Li) (T := T_Li) (N := 6) hx hb hts iLi hown hK hP 4 (wB_at4 _ _ _ _) rfl 1 (by decide) k15 (fun _ h9 => h9) rfl d_Li_takeWord_2 ?_
  refine lv_iconst (v := (1 : Int32)) hx hb d_Li_takeWord_5 (by decide) ?_
  refine lv_iadd hx hb d_Li_takeWord_6 ?_
  refine lv_sipush (v := (255 : Int32)) hx hb d_Li_takeWord_7 (by decide) ?_
  refine lv_iand hx hb d_Li_takeWord_10 ?_
  refine puwB_4 (D := D) (x := ((S 4) + (1 : Int32)) &&& (255 : Int32)) hx hb hts iLi hown hK hP hD hS k15 rfl rfl d_Li_takeWord_11 (fun H locs hP hD hS => ?_)
  refine lv_aload_n hx hb d_Li_takeWord_14 rfl (lv_at hl 0 rfl) ?_
  refine lv_aload_n hx hb d_Li_takeWord_15 rfl (lv_at hl 0 rfl) ?_
  refine va_get (D := D) (ci := 4) (v := .int ((upd S 4 (((S 4) + (1 : Int32)) &&& (255 : Int32))) 7)) (C := R_Li) (T := T_Li) (N := 6) hx hb hts iLi hown hK hP 4 (wB_at4 _ _ _ _) rfl 4 (by decide) k18 (fun _ h9 => h9) rfl d_Li_takeWord_16 ?_
  refine lv_if_ne (tgt := 26) hx hb d_Li_takeWord_19 (by decide) (fun hc => ?_) (fun hc => ?_)
  · have h := sg_n hc h
    refine lv_iconst (v := (0 : Int32)) hx hb d_Li_takeWord_26 (by decide) ?_
    exact b27 _ _ _ _ _ h _ _ _ (lv_sub hl [0, 1, 2] rfl) hP hD hS
  · have h := sg_p hc h
    refine lv_iconst (v := (1 : Int32)) hx hb d_Li_takeWord_22 (by decide) ?_
    refine lv_goto (tgt := 27) hx hb d_Li_takeWord_23 (by decide) ?_
    exact b27 _ _ _ _ _ h _ _ _ (lv_sub hl [0, 1, 2] rfl) hP hD hS
def f_Pr_seeMoverSlot_18 (S : SS) (M : MM) (y1 : Int32) : Option RR := some (0, (upd S 20 y1), M)
def f_Pr_seeMoverSlot (S : SS) (M : MM) : Option RR := (f_Pr_wantsSlot S M).bind (fun q1 => if q1.1 = 0 then f_Pr_seeMoverSlot_18 q1.2.1 q1.2.2 (0 : Int32) else f_Pr_seeMoverSlot_18 q1.2.1 q1.2.2 ((q1.2.1 20) + (1 : Int32)))
set_option maxHeartbeats 4000000 in
set_option maxRecDepth 100000 in
theorem c_Pr_seeMoverSlot (l : Launch) (D : va_G) (cA : ClassId) (a : Nat → Nat) (S : SS) (M : MM) (q : RR) (h0 : f_Pr_seeMoverSlot S M = some q) : Cv l y_Pr_seeMoverSlot w_Pr_seeMoverSlot rm_Pr_seeMoverSlot D vCl [(cA, .int)] (AB a) (ZB a) (wB cA a) [.ref (a 6)] S M q := by
  refine Cv.of (cc := prog_6_method_5_code) (maxL := 1) (by decide) rfl (Nat.le_of_ble_eq_true rfl) ?_
  intro p e s m args below meth c Q hx hb hml hown hts hK hZ ret
  have hown : s.vm.findClass R_Pr = some m.cls := hown
  have hts : ∀ w ∈ TB, w.before args s = true := fun w h => hts w (List.mem_cons_of_mem _ h)
  have hZK := ZB_k a
  have k26 := hts _ tb_fl_Pr_26
  have b18 : ∀ (S : SS) (M : MM) (y1 : Int32), f_Pr_seeMoverSlot_18 S M y1 = some q → BK p l e rm_Pr_seeMoverSlot s m args below meth c Q D vCl (AB a) (wB cA a) 1 18 [(0, .ref (a 6))] [.int y1, .ref (a 6)] S M := by
    intro S M y1 h H locs ls hl hP hD hS
    unfold f_Pr_seeMoverSlot_18 at h
    refine puwB_20 (D := D) (x := y1) hx hb hts iPr hown hK hP hD hS k26 rfl rfl d_Pr_seeMoverSlot_18 (fun H locs hP hD hS => ?_)
    exact ret _ _ _ _ _ _ _ h hP hD hS d_Pr_seeMoverSlot_21
  intro H locs ls hl hP hD hS
  have hl : lv_has ls 1 [(0, .ref (a 6))] := hl
  have h := h0
  unfold f_Pr_seeMoverSlot at h
  refine lv_aload_n hx hb d_Pr_seeMoverSlot_0 rfl (lv_at hl 0 rfl) ?_
  refine lv_aload_n hx hb d_Pr_seeMoverSlot_1 rfl (lv_at hl 0 rfl) ?_
  obtain ⟨⟨r1, S1, M1⟩, hc1, h⟩ := sg_b h
  dsimp only at h
  refine cvi (As := []) (rest := [.ref (a 6)]) ⟨hx, hb, hml, hown, hts⟩ (c_Pr_wantsSlot l D cA a S M _ hc1) ⟨callB_of 0 hts (tb_gi tb_cd_Pr_wantsSlot) rfl rfl rfl (hts _ tb_in_Pr) (hts _ tb_ml_Pr_29) yd_Pr_wantsSlot ⟨Nat.le_of_ble_eq_true rfl, Nat.le_of_ble_eq_true rfl⟩, hts _ tb_im_Pr_wantsSlot, hts _ tb_se_Pr_wantsSlot⟩ hZK hK hZ hP hD hS 6 (wB_at6 _ _ _ _) rfl rfl hl.1 rfl (Nat.le_of_ble_eq_true rfl) d_Pr_seeMoverSlot_2 (fun H locs hP hD hS => ?_)
  refine lv_if_eq (tgt := 17) hx hb d_Pr_seeMoverSlot_5 (by decide) (fun hc => ?_) (fun hc => ?_)
  · have h := sg_p hc h
    refine lv_iconst (v := (0 : Int32)) hx hb d_Pr_seeMoverSlot_17 (by decide) ?_
    exact b18 _ _ _ h _ _ _ (lv_sub hl [0] rfl) hP hD hS
  · have h := sg_n hc h
    refine lv_aload_n hx hb d_Pr_seeMoverSlot_8 rfl (lv_at hl 0 rfl) ?_
    refine va_get (D := D) (ci := 6) (v := .int (S1 20)) (C := R_Pr) (T := T_Pr) (N := 8) hx hb hts iPr hown hK hP 6 (wB_at6 _ _ _ _) rfl 5 (by decide) k26 (fun _ h9 => h9) rfl d_Pr_seeMoverSlot_9 ?_
    refine lv_iconst (v := (1 : Int32)) hx hb d_Pr_seeMoverSlot_12 (by decide) ?_
    refine lv_iadd hx hb d_Pr_seeMoverSlot_13 ?_
    refine lv_goto (tgt := 18) hx hb d_Pr_seeMoverSlot_14 (by decide) ?_
    exact b18 _ _ _ h _ _ _ (lv_sub hl [0] rfl) hP hD hS
def f_Pr_firstTarget (S : SS) (M : MM) : Option RR := if S 18 < 0 ∨ 8 ≤ (S 18).toNatClampNeg then none else some (M 9 (S 18).toNatClampNeg, S, M)
set_option maxHeartbeats 4000000 in
set_option maxRecDepth 100000 in
theorem c_Pr_firstTarget (l : Launch) (D : va_G) (cA : ClassId) (a : Nat → Nat) (S : SS) (M : MM) (q : RR) (h0 : f_Pr_firstTarget S M = some q) : Ci l y_Pr_firstTarget w_Pr_firstTarget rm_Pr_firstTarget D vCl [(cA, .int)] (AB a) (ZB a) (wB cA a) [.ref (a 6)] S M q := by
  refine Ci.of (cc := prog_6_method_7_code) (maxL := 1) (ty := .int) (by decide) rfl (Nat.le_of_ble_eq_true rfl) ?_
  intro p e s m args below meth c Q hx hb hml hown hts hK hZ ret
  have hown : s.vm.findClass R_Pr = some m.cls := hown
  have hts : ∀ w ∈ TB, w.before args s = true := fun w h => hts w (List.mem_cons_of_mem _ h)
  have hZK := ZB_k a
  have k13 := hts _ tb_fl_Pr_13
  have k23 := hts _ tb_fl_Pr_23
  intro H locs ls hl hP hD hS
  have hl : lv_has ls 1 [(0, .ref (a 6))] := hl
  have h := h0
  unfold f_Pr_firstTarget at h
  refine lv_aload_n hx hb d_Pr_firstTarget_0 rfl (lv_at hl 0 rfl) ?_
  refine va_get (D := D) (ci := 6) (v := .ref (a 16)) (C := R_Pr) (T := T_Pr) (N := 8) hx hb hts iPr hown hK hP 6 (wB_at6 _ _ _ _) rfl 1 (by decide) k13 (fun _ h9 => h9) rfl d_Pr_firstTarget_1 ?_
  refine lv_aload_n hx hb d_Pr_firstTarget_4 rfl (lv_at hl 0 rfl) ?_
  refine va_get (D := D) (ci := 6) (v := .int (S 18)) (C := R_Pr) (T := T_Pr) (N := 8) hx hb hts iPr hown hK hP 6 (wB_at6 _ _ _ _) rfl 3 (by decide) k23 (fun _ h9 => h9) rfl d_Pr_firstTarget_5 ?_
  obtain ⟨hg1, h⟩ := sg_g h
  refine va_iald hx hb hK hP 16 0 (wB_at16 _ _ _ _) rfl hg1 d_Pr_firstTarget_8 ?_
  exact ret _ _ _ _ _ _ _ h rfl hP hD hS d_Pr_firstTarget_9
def f_Pr_firstValue (S : SS) (M : MM) : Option RR := if S 18 < 0 ∨ 8 ≤ (S 18).toNatClampNeg then none else some (M 10 (S 18).toNatClampNeg, S, M)
set_option maxHeartbeats 4000000 in
set_option maxRecDepth 100000 in
theorem c_Pr_firstValue (l : Launch) (D : va_G) (cA : ClassId) (a : Nat → Nat) (S : SS) (M : MM) (q : RR) (h0 : f_Pr_firstValue S M = some q) : Ci l y_Pr_firstValue w_Pr_firstValue rm_Pr_firstValue D vCl [(cA, .int)] (AB a) (ZB a) (wB cA a) [.ref (a 6)] S M q := by
  refine Ci.of (cc := prog_6_method_8_code) (maxL := 1) (ty := .int) (by decide) rfl (Nat.le_of_ble_eq_true rfl) ?_
  intro p e s m args below meth c Q hx hb hml hown hts hK hZ ret
  have hown : s.vm.findClass R_Pr = some m.cls := hown
  have hts : ∀ w ∈ TB, w.before args s = true := fun w h => hts w (List.mem_cons_of_mem _ h)
  have hZK := ZB_k a
  have k16 := hts _ tb_fl_Pr_16
  have k23 := hts _ tb_fl_Pr_23
  intro H locs ls hl hP hD hS
  have hl : lv_has ls 1 [(0, .ref (a 6))] := hl
  have h := h0
  unfold f_Pr_firstValue at h
  refine lv_aload_n hx hb d_Pr_firstValue_0 rfl (lv_at hl 0 rfl) ?_
  refine va_get (D := D) (ci := 6) (v := .ref (a 17)) (C := R_Pr) (T := T_Pr) (N := 8) hx hb hts iPr hown hK hP 6 (wB_at6 _ _ _ _) rfl 2 (by decide) k16 (fun _ h9 => h9) rfl d_Pr_firstValue_1 ?_
  refine lv_aload_n hx hb d_Pr_firstValue_4 rfl (lv_at hl 0 rfl) ?_
  refine va_get (D := D) (ci := 6) (v := .int (S 18)) (C := R_Pr) (T := T_Pr) (N := 8) hx hb hts iPr hown hK hP 6 (wB_at6 _ _ _ _) rfl 3 (by decide) k23 (fun _ h9 => h9) rfl d_Pr_firstValue_5 ?_
  obtain ⟨hg1, h⟩ := sg_g h
  refine va_iald hx hb hK hP 17 0 (wB_at17 _ _ _ _) rfl hg1 d_Pr_firstValue_8 ?_
  exact ret _ _ _ _ _ _ _ h rfl hP hD hS d_Pr_firstValue_9
def f_Pr_firstKind (S : SS) (M : MM) : Option RR := if S 18 < 0 ∨ 8 ≤ (S 18).toNatClampNeg then none else some (M 8 (S 18).toNatClampNeg, S, M)
set_option maxHeartbeats 4000000 in
set_option maxRecDepth 100000 in
theorem c_Pr_firstKind (l : Launch) (D : va_G) (cA : ClassId) (a : Nat → Nat) (S : SS) (M : MM) (q : RR) (h0 : f_Pr_firstKind S M = some q) : Ci l y_Pr_firstKind w_Pr_firstKind rm_Pr_firstKind D vCl [(cA, .int)] (AB a) (ZB a) (wB cA a) [.ref (a 6)] S M q := by
  refine Ci.of (cc := prog_6_method_6_code) (maxL := 1) (ty := .int) (by decide) rfl (Nat.le_of_ble_eq_true rfl) ?_
  intro p e s m args below meth c Q hx hb hml hown hts hK hZ ret
  have hown : s.vm.findClass R_Pr = some m.cls := hown
  have hts : ∀ w ∈ TB, w.before args s = true := fun w h => hts w (List.mem_cons_of_mem _ h)
  have hZK := ZB_k a
  have k9 := hts _ tb_fl_Pr_9
  have k23 := hts _ tb_fl_Pr_23
  intro H locs ls hl hP hD hS
  have hl : lv_has ls 1 [(0, .ref (a 6))] := hl
  have h := h0
  unfold f_Pr_firstKind at h
  refine lv_aload_n hx hb d_Pr_firstKind_0 rfl (lv_at hl 0 rfl) ?_
  refine va_get (D := D) (ci := 6) (v := .ref (a 15)) (C := R_Pr) (T := T_Pr) (N := 8) hx hb hts iPr hown hK hP 6 (wB_at6 _ _ _ _) rfl 0 (by decide) k9 (fun _ h9 => h9) rfl d_Pr_firstKind_1 ?_
  refine lv_aload_n hx hb d_Pr_firstKind_4 rfl (lv_at hl 0 rfl) ?_
  refine va_get (D := D) (ci := 6) (v := .int (S 18)) (C := R_Pr) (T := T_Pr) (N := 8) hx hb hts iPr hown hK hP 6 (wB_at6 _ _ _ _) rfl 3 (by decide) k23 (fun _ h9 => h9) rfl d_Pr_firstKind_5 ?_
  obtain ⟨hg1, h⟩ := sg_g h
  refine va_iald hx hb hK hP 15 0 (wB_at15 _ _ _ _) rfl hg1 d_Pr_firstKind_8 ?_
  exact ret _ _ _ _ _ _ _ h rfl hP hD hS d_Pr_firstKind_9
def f_Pr_load (S : SS) (M : MM) (x1 : Int32) : Option RR := some (0, (upd (upd S 21 x1) 22 (((upd S 21 x1) 22) + (1 : Int32))), M)
set_option maxHeartbeats 4000000 in
set_option maxRecDepth 100000 in
theorem c_Pr_load (l : Launch) (D : va_G) (cA : ClassId) (a : Nat → Nat) (S : SS) (M : MM) (x1 : Int32) (q : RR) (h0 : f_Pr_load S M x1 = some q) : Cv l y_Pr_load w_Pr_load rm_Pr_load D vCl [(cA, .int)] (AB a) (ZB a) (wB cA a) [.ref (a 6), .int x1] S M q := by
  refine Cv.of (cc := prog_6_method_9_code) (maxL := 2) (by decide) rfl (Nat.le_of_ble_eq_true rfl) ?_
  intro p e s m args below meth c Q hx hb hml hown hts hK hZ ret
  have hown : s.vm.findClass R_Pr = some m.cls := hown
  have hts : ∀ w ∈ TB, w.before args s = true := fun w h => hts w (List.mem_cons_of_mem _ h)
  have hZK := ZB_k a
  have k33 := hts _ tb_fl_Pr_33
  have k36 := hts _ tb_fl_Pr_36
  intro H locs ls hl hP hD hS
  have hl : lv_has ls 2 [(0, .ref (a 6)), (1, .int x1)] := hl
  have h := h0
  unfold f_Pr_load at h
  refine lv_aload_n hx hb d_Pr_load_0 rfl (lv_at hl 0 rfl) ?_
  refine lv_iload_n hx hb d_Pr_load_1 rfl (lv_at hl 1 rfl) ?_
  refine puwB_21 (D := D) (x := x1) hx hb hts iPr hown hK hP hD hS k33 rfl rfl d_Pr_load_2 (fun H locs hP hD hS => ?_)
  refine lv_aload_n hx hb d_Pr_load_5 rfl (lv_at hl 0 rfl) ?_
  refine lv_dup hx hb d_Pr_load_6 rfl ?_
  refine va_get (D := D) (ci := 6) (v := .int ((upd S 21 x1) 22)) (C := R_Pr) (T := T_Pr) (N := 8) hx hb hts iPr hown hK hP 6 (wB_at6 _ _ _ _) rfl 7 (by decide) k36 (fun _ h9 => h9) rfl d_Pr_load_7 ?_
  refine lv_iconst (v := (1 : Int32)) hx hb d_Pr_load_10 (by decide) ?_
  refine lv_iadd hx hb d_Pr_load_11 ?_
  refine puwB_22 (D := D) (x := ((upd S 21 x1) 22) + (1 : Int32)) hx hb hts iPr hown hK hP hD hS k36 rfl rfl d_Pr_load_12 (fun H locs hP hD hS => ?_)
  exact ret _ _ _ _ _ _ _ h hP hD hS d_Pr_load_15
def f_Pr_dropFirst (S : SS) (M : MM) : Option RR := some (0, (upd (upd (upd S 18 (((S 18) + (1 : Int32)) &&& (7 : Int32))) 19 (((upd S 18 (((S 18) + (1 : Int32)) &&& (7 : Int32))) 19) - (1 : Int32))) 20 (0 : Int32)), M)
set_option maxHeartbeats 4000000 in
set_option maxRecDepth 100000 in
theorem c_Pr_dropFirst (l : Launch) (D : va_G) (cA : ClassId) (a : Nat → Nat) (S : SS) (M : MM) (q : RR) (h0 : f_Pr_dropFirst S M = some q) : Cv l y_Pr_dropFirst w_Pr_dropFirst rm_Pr_dropFirst D vCl [(cA, .int)] (AB a) (ZB a) (wB cA a) [.ref (a 6)] S M q := by
  refine Cv.of (cc := prog_6_method_10_code) (maxL := 1) (by decide) rfl (Nat.le_of_ble_eq_true rfl) ?_
  intro p e s m args below meth c Q hx hb hml hown hts hK hZ ret
  have hown : s.vm.findClass R_Pr = some m.cls := hown
  have hts : ∀ w ∈ TB, w.before args s = true := fun w h => hts w (List.mem_cons_of_mem _ h)
  have hZK := ZB_k a
  have k23 := hts _ tb_fl_Pr_23
  have k19 := hts _ tb_fl_Pr_19
  have k26 := hts _ tb_fl_Pr_26
  intro H locs ls hl hP hD hS
  have hl : lv_has ls 1 [(0, .ref (a 6))] := hl
  have h := h0
  unfold f_Pr_dropFirst at h
  refine lv_aload_n hx hb d_Pr_dropFirst_0 rfl (lv_at hl 0 rfl) ?_
  refine lv_aload_n hx hb d_Pr_dropFirst_1 rfl (lv_at hl 0 rfl) ?_
  refine va_get (D := D) (ci := 6) (v := .int (S 18)) (C := R_Pr) (T := T_Pr) (N := 8) hx hb hts iPr hown hK hP 6 (wB_at6 _ _ _ _) rfl 3 (by decide) k23 (fun _ h9 => h9) rfl d_Pr_dropFirst_2 ?_
  refine lv_iconst (v := (1 : Int32)) hx hb d_Pr_dropFirst_5 (by decide) ?_
  refine lv_iadd hx hb d_Pr_dropFirst_6 ?_
  refine lv_bipush (v := (7 : Int32)) hx hb d_Pr_dropFirst_7 (by decide) ?_
  refine lv_iand hx hb d_Pr_dropFirst_9 ?_
  refine puwB_18 (D := D) (x := ((S 18) + (1 : Int32)) &&& (7 : Int32)) hx hb hts iPr hown hK hP hD hS k23 rfl rfl d_Pr_dropFirst_10 (fun H locs hP hD hS => ?_)
  refine lv_aload_n hx hb d_Pr_dropFirst_13 rfl (lv_at hl 0 rfl) ?_
  refine lv_dup hx hb d_Pr_dropFirst_14 rfl ?_
  refine va_get (D := D) (ci := 6) (v := .int ((upd S 18 (((S 18) + (1 : Int32)) &&& (7 : Int32))) 19)) (C := R_Pr) (T := T_Pr) (N := 8) hx hb hts iPr hown hK hP 6 (wB_at6 _ _ _ _) rfl 4 (by decide) k19 (fun _ h9 => h9) rfl d_Pr_dropFirst_15 ?_
  refine lv_iconst (v := (1 : Int32)) hx hb d_Pr_dropFirst_18 (by decide) ?_
  refine lv_isub hx hb d_Pr_dropFirst_19 ?_
  refine puwB_19 (D := D) (x := ((upd S 18 (((S 18) + (1 : Int32)) &&& (7 : Int32))) 19) - (1 : Int32)) hx hb hts iPr hown hK hP hD hS k19 rfl rfl d_Pr_dropFirst_20 (fun H locs hP hD hS => ?_)
  refine lv_aload_n hx hb d_Pr_dropFirst_23 rfl (lv_at hl 0 rfl) ?_
  refine lv_iconst (v := (0 : Int32)) hx hb d_Pr_dropFirst_24 (by decide) ?_
  refine puwB_20 (D := D) (x := (0 : Int32)) hx hb hts iPr hown hK hP hD hS k26 rfl rfl d_Pr_dropFirst_25 (fun H locs hP hD hS => ?_)
  exact ret _ _ _ _ _ _ _ h hP hD hS d_Pr_dropFirst_28
