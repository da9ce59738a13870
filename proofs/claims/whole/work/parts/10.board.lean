def w_Bd_isAddress : List Cond := Cond.code y_Bd_isAddress prog_1_method_12_code 1 (some .boolean) :: TB
def rm_Bd_isAddress : Room := { frames := 0, cells := 0, slots := 0, locals := 0 }
theorem d_Bd_isAddress_0 : decode prog_1_method_12_code 0 = .ok (.iload_n 0, 1) := by decide +kernel
theorem d_Bd_isAddress_1 : decode prog_1_method_12_code 1 = .ok (.ifCond .lt 14, 3) := by decide +kernel
theorem d_Bd_isAddress_4 : decode prog_1_method_12_code 4 = .ok (.iload_n 0, 1) := by decide +kernel
theorem d_Bd_isAddress_5 : decode prog_1_method_12_code 5 = .ok (.sipush 255, 3) := by decide +kernel
theorem d_Bd_isAddress_8 : decode prog_1_method_12_code 8 = .ok (.if_icmp .gt 7, 3) := by decide +kernel
theorem d_Bd_isAddress_11 : decode prog_1_method_12_code 11 = .ok (.iconst 1, 1) := by decide +kernel
theorem d_Bd_isAddress_12 : decode prog_1_method_12_code 12 = .ok (.goto 4, 3) := by decide +kernel
theorem d_Bd_isAddress_15 : decode prog_1_method_12_code 15 = .ok (.iconst 0, 1) := by decide +kernel
theorem d_Bd_isAddress_16 : decode prog_1_method_12_code 16 = .ok (.ireturn, 1) := by decide +kernel
theorem yd_Bd_isAddress : y_Bd_isAddress.cls ≠ "java/lang/invoke/MethodHandle" ∧ y_Bd_isAddress.cls ≠ "java/lang/invoke/VarHandle" ∧ (parseMethodDescriptor y_Bd_isAddress.desc).map (fun d => d.parameters.length) = some 1 := by decide +kernel
def w_Bd_beginFrame : List Cond := Cond.code y_Bd_beginFrame prog_1_method_15_code 1 none :: TB
def rm_Bd_beginFrame : Room := { frames := 2, cells := 0, slots := 0, locals := 43 }
theorem d_Bd_beginFrame_0 : decode prog_1_method_15_code 0 = .ok (.aload_n 0, 1) := by decide +kernel
theorem d_Bd_beginFrame_1 : decode prog_1_method_15_code 1 = .ok (.dup, 1) := by decide +kernel
theorem d_Bd_beginFrame_2 : decode prog_1_method_15_code 2 = .ok (.getfield 83, 3) := by decide +kernel
theorem d_Bd_beginFrame_5 : decode prog_1_method_15_code 5 = .ok (.iconst 1, 1) := by decide +kernel
theorem d_Bd_beginFrame_6 : decode prog_1_method_15_code 6 = .ok (.iadd, 1) := by decide +kernel
theorem d_Bd_beginFrame_7 : decode prog_1_method_15_code 7 = .ok (.putfield 83, 3) := by decide +kernel
theorem d_Bd_beginFrame_10 : decode prog_1_method_15_code 10 = .ok (.aload_n 0, 1) := by decide +kernel
theorem d_Bd_beginFrame_11 : decode prog_1_method_15_code 11 = .ok (.getfield 19, 3) := by decide +kernel
theorem d_Bd_beginFrame_14 : decode prog_1_method_15_code 14 = .ok (.iconst 2, 1) := by decide +kernel
theorem d_Bd_beginFrame_15 : decode prog_1_method_15_code 15 = .ok (.invokevirtual 140, 3) := by decide +kernel
theorem d_Bd_beginFrame_18 : decode prog_1_method_15_code 18 = .ok (.aload_n 0, 1) := by decide +kernel
theorem d_Bd_beginFrame_19 : decode prog_1_method_15_code 19 = .ok (.getfield 26, 3) := by decide +kernel
theorem d_Bd_beginFrame_22 : decode prog_1_method_15_code 22 = .ok (.aload_n 0, 1) := by decide +kernel
theorem d_Bd_beginFrame_23 : decode prog_1_method_15_code 23 = .ok (.getfield 19, 3) := by decide +kernel
theorem d_Bd_beginFrame_26 : decode prog_1_method_15_code 26 = .ok (.invokevirtual 143, 3) := by decide +kernel
theorem d_Bd_beginFrame_29 : decode prog_1_method_15_code 29 = .ok (.aload_n 0, 1) := by decide +kernel
theorem d_Bd_beginFrame_30 : decode prog_1_method_15_code 30 = .ok (.getfield 19, 3) := by decide +kernel
theorem d_Bd_beginFrame_33 : decode prog_1_method_15_code 33 = .ok (.iconst 2, 1) := by decide +kernel
theorem d_Bd_beginFrame_34 : decode prog_1_method_15_code 34 = .ok (.invokevirtual 127, 3) := by decide +kernel
theorem d_Bd_beginFrame_37 : decode prog_1_method_15_code 37 = .ok (.ifCond .eq 18, 3) := by decide +kernel
theorem d_Bd_beginFrame_40 : decode prog_1_method_15_code 40 = .ok (.aload_n 0, 1) := by decide +kernel
theorem d_Bd_beginFrame_41 : decode prog_1_method_15_code 41 = .ok (.getfield 33, 3) := by decide +kernel
theorem d_Bd_beginFrame_44 : decode prog_1_method_15_code 44 = .ok (.aload_n 0, 1) := by decide +kernel
theorem d_Bd_beginFrame_45 : decode prog_1_method_15_code 45 = .ok (.getfield 19, 3) := by decide +kernel
theorem d_Bd_beginFrame_48 : decode prog_1_method_15_code 48 = .ok (.iconst 1, 1) := by decide +kernel
theorem d_Bd_beginFrame_49 : decode prog_1_method_15_code 49 = .ok (.invokevirtual 119, 3) := by decide +kernel
theorem d_Bd_beginFrame_52 : decode prog_1_method_15_code 52 = .ok (.invokevirtual 147, 3) := by decide +kernel
theorem d_Bd_beginFrame_55 : decode prog_1_method_15_code 55 = .ok (.return_, 1) := by decide +kernel
theorem yd_Bd_beginFrame : y_Bd_beginFrame.cls ≠ "java/lang/invoke/MethodHandle" ∧ y_Bd_beginFrame.cls ≠ "java/lang/invoke/VarHandle" ∧ (parseMethodDescriptor y_Bd_beginFrame.desc).map (fun d => d.parameters.length) = some 0 := by decide +kernel
def w_Bd_moverOrProcessor : List Cond := Cond.code y_Bd_moverOrProcessor prog_1_method_17_code 3 (some .int) :: TB
def rm_Bd_moverOrProcessor : Room := { frames := 1, cells := 0, slots := 0, locals := 21 }
theorem d_Bd_moverOrProcessor_0 : decode prog_1_method_17_code 0 = .ok (.aload_n 0, 1) := by decide +kernel
theorem d_Bd_moverOrProcessor_1 : decode prog_1_method_17_code 1 = .ok (.getfield 40, 3) := by decide +kernel
theorem d_Bd_moverOrProcessor_4 : decode prog_1_method_17_code 4 = .ok (.getfield 97, 3) := by decide +kernel
theorem d_Bd_moverOrProcessor_7 : decode prog_1_method_17_code 7 = .ok (.ifCond .eq 18, 3) := by decide +kernel
theorem d_Bd_moverOrProcessor_10 : decode prog_1_method_17_code 10 = .ok (.aload_n 0, 1) := by decide +kernel
theorem d_Bd_moverOrProcessor_11 : decode prog_1_method_17_code 11 = .ok (.getfield 19, 3) := by decide +kernel
theorem d_Bd_moverOrProcessor_14 : decode prog_1_method_17_code 14 = .ok (.iconst 4, 1) := by decide +kernel
theorem d_Bd_moverOrProcessor_15 : decode prog_1_method_17_code 15 = .ok (.invokevirtual 127, 3) := by decide +kernel
theorem d_Bd_moverOrProcessor_18 : decode prog_1_method_17_code 18 = .ok (.ifCond .eq 7, 3) := by decide +kernel
theorem d_Bd_moverOrProcessor_21 : decode prog_1_method_17_code 21 = .ok (.iconst 1, 1) := by decide +kernel
theorem d_Bd_moverOrProcessor_22 : decode prog_1_method_17_code 22 = .ok (.goto 4, 3) := by decide +kernel
theorem d_Bd_moverOrProcessor_25 : decode prog_1_method_17_code 25 = .ok (.iconst 0, 1) := by decide +kernel
theorem d_Bd_moverOrProcessor_26 : decode prog_1_method_17_code 26 = .ok (.istore_n 1, 1) := by decide +kernel
theorem d_Bd_moverOrProcessor_27 : decode prog_1_method_17_code 27 = .ok (.aload_n 0, 1) := by decide +kernel
theorem d_Bd_moverOrProcessor_28 : decode prog_1_method_17_code 28 = .ok (.getfield 19, 3) := by decide +kernel
theorem d_Bd_moverOrProcessor_31 : decode prog_1_method_17_code 31 = .ok (.bipush 8, 2) := by decide +kernel
theorem d_Bd_moverOrProcessor_33 : decode prog_1_method_17_code 33 = .ok (.invokevirtual 127, 3) := by decide +kernel
theorem d_Bd_moverOrProcessor_36 : decode prog_1_method_17_code 36 = .ok (.ifCond .ne 13, 3) := by decide +kernel
theorem d_Bd_moverOrProcessor_39 : decode prog_1_method_17_code 39 = .ok (.aload_n 0, 1) := by decide +kernel
theorem d_Bd_moverOrProcessor_40 : decode prog_1_method_17_code 40 = .ok (.getfield 47, 3) := by decide +kernel
theorem d_Bd_moverOrProcessor_43 : decode prog_1_method_17_code 43 = .ok (.invokevirtual 158, 3) := by decide +kernel
theorem d_Bd_moverOrProcessor_46 : decode prog_1_method_17_code 46 = .ok (.ifCond .ne 7, 3) := by decide +kernel
theorem d_Bd_moverOrProcessor_49 : decode prog_1_method_17_code 49 = .ok (.iconst 1, 1) := by decide +kernel
theorem d_Bd_moverOrProcessor_50 : decode prog_1_method_17_code 50 = .ok (.goto 4, 3) := by decide +kernel
theorem d_Bd_moverOrProcessor_53 : decode prog_1_method_17_code 53 = .ok (.iconst 0, 1) := by decide +kernel
theorem d_Bd_moverOrProcessor_54 : decode prog_1_method_17_code 54 = .ok (.istore_n 2, 1) := by decide +kernel
theorem d_Bd_moverOrProcessor_55 : decode prog_1_method_17_code 55 = .ok (.iload_n 1, 1) := by decide +kernel
theorem d_Bd_moverOrProcessor_56 : decode prog_1_method_17_code 56 = .ok (.ifCond .eq 19, 3) := by decide +kernel
theorem d_Bd_moverOrProcessor_59 : decode prog_1_method_17_code 59 = .ok (.iload_n 2, 1) := by decide +kernel
theorem d_Bd_moverOrProcessor_60 : decode prog_1_method_17_code 60 = .ok (.ifCond .ne 13, 3) := by decide +kernel
theorem d_Bd_moverOrProcessor_63 : decode prog_1_method_17_code 63 = .ok (.aload_n 0, 1) := by decide +kernel
theorem d_Bd_moverOrProcessor_64 : decode prog_1_method_17_code 64 = .ok (.getfield 47, 3) := by decide +kernel
theorem d_Bd_moverOrProcessor_67 : decode prog_1_method_17_code 67 = .ok (.invokevirtual 161, 3) := by decide +kernel
theorem d_Bd_moverOrProcessor_70 : decode prog_1_method_17_code 70 = .ok (.ifCond .ne 5, 3) := by decide +kernel
theorem d_Bd_moverOrProcessor_73 : decode prog_1_method_17_code 73 = .ok (.iconst 4, 1) := by decide +kernel
theorem d_Bd_moverOrProcessor_74 : decode prog_1_method_17_code 74 = .ok (.ireturn, 1) := by decide +kernel
theorem d_Bd_moverOrProcessor_75 : decode prog_1_method_17_code 75 = .ok (.aload_n 0, 1) := by decide +kernel
theorem d_Bd_moverOrProcessor_76 : decode prog_1_method_17_code 76 = .ok (.getfield 47, 3) := by decide +kernel
theorem d_Bd_moverOrProcessor_79 : decode prog_1_method_17_code 79 = .ok (.invokevirtual 161, 3) := by decide +kernel
theorem d_Bd_moverOrProcessor_82 : decode prog_1_method_17_code 82 = .ok (.ifCond .eq 7, 3) := by decide +kernel
theorem d_Bd_moverOrProcessor_85 : decode prog_1_method_17_code 85 = .ok (.iconst 5, 1) := by decide +kernel
theorem d_Bd_moverOrProcessor_86 : decode prog_1_method_17_code 86 = .ok (.goto 4, 3) := by decide +kernel
theorem d_Bd_moverOrProcessor_89 : decode prog_1_method_17_code 89 = .ok (.iconst 0, 1) := by decide +kernel
theorem d_Bd_moverOrProcessor_90 : decode prog_1_method_17_code 90 = .ok (.ireturn, 1) := by decide +kernel
theorem yd_Bd_moverOrProcessor : y_Bd_moverOrProcessor.cls ≠ "java/lang/invoke/MethodHandle" ∧ y_Bd_moverOrProcessor.cls ≠ "java/lang/invoke/VarHandle" ∧ (parseMethodDescriptor y_Bd_moverOrProcessor.desc).map (fun d => d.parameters.length) = some 0 := by decide +kernel
def w_Bd_ownerOfSlot : List Cond := Cond.code y_Bd_ownerOfSlot prog_1_method_16_code 3 (some .int) :: TB
def rm_Bd_ownerOfSlot : Room := { frames := 2, cells := 0, slots := 0, locals := 43 }
theorem d_Bd_ownerOfSlot_0 : decode prog_1_method_16_code 0 = .ok (.iload_n 2, 1) := by decide +kernel
theorem d_Bd_ownerOfSlot_1 : decode prog_1_method_16_code 1 = .ok (.ifCond .eq 8, 3) := by decide +kernel
theorem d_Bd_ownerOfSlot_4 : decode prog_1_method_16_code 4 = .ok (.iload_n 2, 1) := by decide +kernel
theorem d_Bd_ownerOfSlot_5 : decode prog_1_method_16_code 5 = .ok (.iconst 2, 1) := by decide +kernel
theorem d_Bd_ownerOfSlot_6 : decode prog_1_method_16_code 6 = .ok (.if_icmp .ne 5, 3) := by decide +kernel
theorem d_Bd_ownerOfSlot_9 : decode prog_1_method_16_code 9 = .ok (.iconst 1, 1) := by decide +kernel
theorem d_Bd_ownerOfSlot_10 : decode prog_1_method_16_code 10 = .ok (.ireturn, 1) := by decide +kernel
theorem d_Bd_ownerOfSlot_11 : decode prog_1_method_16_code 11 = .ok (.aload_n 0, 1) := by decide +kernel
theorem d_Bd_ownerOfSlot_12 : decode prog_1_method_16_code 12 = .ok (.getfield 19, 3) := by decide +kernel
theorem d_Bd_ownerOfSlot_15 : decode prog_1_method_16_code 15 = .ok (.iconst 1, 1) := by decide +kernel
theorem d_Bd_ownerOfSlot_16 : decode prog_1_method_16_code 16 = .ok (.invokevirtual 127, 3) := by decide +kernel
theorem d_Bd_ownerOfSlot_19 : decode prog_1_method_16_code 19 = .ok (.ifCond .eq 13, 3) := by decide +kernel
theorem d_Bd_ownerOfSlot_22 : decode prog_1_method_16_code 22 = .ok (.iload_n 1, 1) := by decide +kernel
theorem d_Bd_ownerOfSlot_23 : decode prog_1_method_16_code 23 = .ok (.iload_n 2, 1) := by decide +kernel
theorem d_Bd_ownerOfSlot_24 : decode prog_1_method_16_code 24 = .ok (.invokestatic 150, 3) := by decide +kernel
theorem d_Bd_ownerOfSlot_27 : decode prog_1_method_16_code 27 = .ok (.ifCond .eq 5, 3) := by decide +kernel
theorem d_Bd_ownerOfSlot_30 : decode prog_1_method_16_code 30 = .ok (.iconst 2, 1) := by decide +kernel
theorem d_Bd_ownerOfSlot_31 : decode prog_1_method_16_code 31 = .ok (.ireturn, 1) := by decide +kernel
theorem d_Bd_ownerOfSlot_32 : decode prog_1_method_16_code 32 = .ok (.iload_n 2, 1) := by decide +kernel
theorem d_Bd_ownerOfSlot_33 : decode prog_1_method_16_code 33 = .ok (.iconst 1, 1) := by decide +kernel
theorem d_Bd_ownerOfSlot_34 : decode prog_1_method_16_code 34 = .ok (.iand, 1) := by decide +kernel
theorem d_Bd_ownerOfSlot_35 : decode prog_1_method_16_code 35 = .ok (.ifCond .ne 27, 3) := by decide +kernel
theorem d_Bd_ownerOfSlot_38 : decode prog_1_method_16_code 38 = .ok (.aload_n 0, 1) := by decide +kernel
theorem d_Bd_ownerOfSlot_39 : decode prog_1_method_16_code 39 = .ok (.getfield 19, 3) := by decide +kernel
theorem d_Bd_ownerOfSlot_42 : decode prog_1_method_16_code 42 = .ok (.iconst 2, 1) := by decide +kernel
theorem d_Bd_ownerOfSlot_43 : decode prog_1_method_16_code 43 = .ok (.invokevirtual 127, 3) := by decide +kernel
theorem d_Bd_ownerOfSlot_46 : decode prog_1_method_16_code 46 = .ok (.ifCond .eq 16, 3) := by decide +kernel
theorem d_Bd_ownerOfSlot_49 : decode prog_1_method_16_code 49 = .ok (.aload_n 0, 1) := by decide +kernel
theorem d_Bd_ownerOfSlot_50 : decode prog_1_method_16_code 50 = .ok (.getfield 33, 3) := by decide +kernel
theorem d_Bd_ownerOfSlot_53 : decode prog_1_method_16_code 53 = .ok (.getfield 113, 3) := by decide +kernel
theorem d_Bd_ownerOfSlot_56 : decode prog_1_method_16_code 56 = .ok (.iconst 1, 1) := by decide +kernel
theorem d_Bd_ownerOfSlot_57 : decode prog_1_method_16_code 57 = .ok (.if_icmp .ne 5, 3) := by decide +kernel
theorem d_Bd_ownerOfSlot_60 : decode prog_1_method_16_code 60 = .ok (.iconst 3, 1) := by decide +kernel
theorem d_Bd_ownerOfSlot_61 : decode prog_1_method_16_code 61 = .ok (.ireturn, 1) := by decide +kernel
theorem d_Bd_ownerOfSlot_62 : decode prog_1_method_16_code 62 = .ok (.aload_n 0, 1) := by decide +kernel
theorem d_Bd_ownerOfSlot_63 : decode prog_1_method_16_code 63 = .ok (.invokevirtual 154, 3) := by decide +kernel
theorem d_Bd_ownerOfSlot_66 : decode prog_1_method_16_code 66 = .ok (.ireturn, 1) := by decide +kernel
theorem yd_Bd_ownerOfSlot : y_Bd_ownerOfSlot.cls ≠ "java/lang/invoke/MethodHandle" ∧ y_Bd_ownerOfSlot.cls ≠ "java/lang/invoke/VarHandle" ∧ (parseMethodDescriptor y_Bd_ownerOfSlot.desc).map (fun d => d.parameters.length) = some 2 := by decide +kernel
def w_Bd_writeRegister : List Cond := Cond.code y_Bd_writeRegister prog_1_method_21_code 3 none :: TB
def rm_Bd_writeRegister : Room := { frames := 1, cells := 0, slots := 0, locals := 22 }
theorem d_Bd_writeRegister_0 : decode prog_1_method_21_code 0 = .ok (.iload_n 1, 1) := by decide +kernel
theorem d_Bd_writeRegister_1 : decode prog_1_method_21_code 1 = .ok (.lookupswitch 75 #[(2, 35), (25, 53), (27, 64)], 35) := by decide +kernel
theorem d_Bd_writeRegister_36 : decode prog_1_method_21_code 36 = .ok (.aload_n 0, 1) := by decide +kernel
theorem d_Bd_writeRegister_37 : decode prog_1_method_21_code 37 = .ok (.getfield 33, 3) := by decide +kernel
theorem d_Bd_writeRegister_40 : decode prog_1_method_21_code 40 = .ok (.aload_n 0, 1) := by decide +kernel
theorem d_Bd_writeRegister_41 : decode prog_1_method_21_code 41 = .ok (.getfield 19, 3) := by decide +kernel
theorem d_Bd_writeRegister_44 : decode prog_1_method_21_code 44 = .ok (.iconst 1, 1) := by decide +kernel
theorem d_Bd_writeRegister_45 : decode prog_1_method_21_code 45 = .ok (.invokevirtual 119, 3) := by decide +kernel
theorem d_Bd_writeRegister_48 : decode prog_1_method_21_code 48 = .ok (.invokevirtual 147, 3) := by decide +kernel
theorem d_Bd_writeRegister_51 : decode prog_1_method_21_code 51 = .ok (.goto 34, 3) := by decide +kernel
theorem d_Bd_writeRegister_54 : decode prog_1_method_21_code 54 = .ok (.aload_n 0, 1) := by decide +kernel
theorem d_Bd_writeRegister_55 : decode prog_1_method_21_code 55 = .ok (.getfield 40, 3) := by decide +kernel
theorem d_Bd_writeRegister_58 : decode prog_1_method_21_code 58 = .ok (.iload_n 2, 1) := by decide +kernel
theorem d_Bd_writeRegister_59 : decode prog_1_method_21_code 59 = .ok (.invokevirtual 205, 3) := by decide +kernel
theorem d_Bd_writeRegister_62 : decode prog_1_method_21_code 62 = .ok (.goto 23, 3) := by decide +kernel
theorem d_Bd_writeRegister_65 : decode prog_1_method_21_code 65 = .ok (.aload_n 0, 1) := by decide +kernel
theorem d_Bd_writeRegister_66 : decode prog_1_method_21_code 66 = .ok (.getfield 19, 3) := by decide +kernel
theorem d_Bd_writeRegister_69 : decode prog_1_method_21_code 69 = .ok (.iload_n 2, 1) := by decide +kernel
theorem d_Bd_writeRegister_70 : decode prog_1_method_21_code 70 = .ok (.invokevirtual 208, 3) := by decide +kernel
theorem d_Bd_writeRegister_73 : decode prog_1_method_21_code 73 = .ok (.goto 12, 3) := by decide +kernel
theorem d_Bd_writeRegister_76 : decode prog_1_method_21_code 76 = .ok (.aload_n 0, 1) := by decide +kernel
theorem d_Bd_writeRegister_77 : decode prog_1_method_21_code 77 = .ok (.getfield 19, 3) := by decide +kernel
theorem d_Bd_writeRegister_80 : decode prog_1_method_21_code 80 = .ok (.iload_n 1, 1) := by decide +kernel
theorem d_Bd_writeRegister_81 : decode prog_1_method_21_code 81 = .ok (.iload_n 2, 1) := by decide +kernel
theorem d_Bd_writeRegister_82 : decode prog_1_method_21_code 82 = .ok (.invokevirtual 211, 3) := by decide +kernel
theorem d_Bd_writeRegister_85 : decode prog_1_method_21_code 85 = .ok (.return_, 1) := by decide +kernel
theorem yd_Bd_writeRegister : y_Bd_writeRegister.cls ≠ "java/lang/invoke/MethodHandle" ∧ y_Bd_writeRegister.cls ≠ "java/lang/invoke/VarHandle" ∧ (parseMethodDescriptor y_Bd_writeRegister.desc).map (fun d => d.parameters.length) = some 2 := by decide +kernel
def w_Bd_fetchForList : List Cond := Cond.code y_Bd_fetchForList prog_1_method_19_code 2 none :: TB
def rm_Bd_fetchForList : Room := { frames := 2, cells := 0, slots := 0, locals := 45 }
theorem d_Bd_fetchForList_0 : decode prog_1_method_19_code 0 = .ok (.aload_n 0, 1) := by decide +kernel
theorem d_Bd_fetchForList_1 : decode prog_1_method_19_code 1 = .ok (.getfield 10, 3) := by decide +kernel
theorem d_Bd_fetchForList_4 : decode prog_1_method_19_code 4 = .ok (.aload_n 0, 1) := by decide +kernel
theorem d_Bd_fetchForList_5 : decode prog_1_method_19_code 5 = .ok (.getfield 33, 3) := by decide +kernel
theorem d_Bd_fetchForList_8 : decode prog_1_method_19_code 8 = .ok (.getfield 116, 3) := by decide +kernel
theorem d_Bd_fetchForList_11 : decode prog_1_method_19_code 11 = .ok (.invokevirtual 71, 3) := by decide +kernel
theorem d_Bd_fetchForList_14 : decode prog_1_method_19_code 14 = .ok (.istore_n 1, 1) := by decide +kernel
theorem d_Bd_fetchForList_15 : decode prog_1_method_19_code 15 = .ok (.aload_n 0, 1) := by decide +kernel
theorem d_Bd_fetchForList_16 : decode prog_1_method_19_code 16 = .ok (.getfield 33, 3) := by decide +kernel
theorem d_Bd_fetchForList_19 : decode prog_1_method_19_code 19 = .ok (.iload_n 1, 1) := by decide +kernel
theorem d_Bd_fetchForList_20 : decode prog_1_method_19_code 20 = .ok (.aload_n 0, 1) := by decide +kernel
theorem d_Bd_fetchForList_21 : decode prog_1_method_19_code 21 = .ok (.getfield 79, 3) := by decide +kernel
theorem d_Bd_fetchForList_24 : decode prog_1_method_19_code 24 = .ok (.invokevirtual 181, 3) := by decide +kernel
theorem d_Bd_fetchForList_27 : decode prog_1_method_19_code 27 = .ok (.ifCond .eq 15, 3) := by decide +kernel
theorem d_Bd_fetchForList_30 : decode prog_1_method_19_code 30 = .ok (.aload_n 0, 1) := by decide +kernel
theorem d_Bd_fetchForList_31 : decode prog_1_method_19_code 31 = .ok (.aload_n 0, 1) := by decide +kernel
theorem d_Bd_fetchForList_32 : decode prog_1_method_19_code 32 = .ok (.getfield 33, 3) := by decide +kernel
theorem d_Bd_fetchForList_35 : decode prog_1_method_19_code 35 = .ok (.invokevirtual 184, 3) := by decide +kernel
theorem d_Bd_fetchForList_38 : decode prog_1_method_19_code 38 = .ok (.iload_n 1, 1) := by decide +kernel
theorem d_Bd_fetchForList_39 : decode prog_1_method_19_code 39 = .ok (.invokevirtual 187, 3) := by decide +kernel
theorem d_Bd_fetchForList_42 : decode prog_1_method_19_code 42 = .ok (.return_, 1) := by decide +kernel
theorem yd_Bd_fetchForList : y_Bd_fetchForList.cls ≠ "java/lang/invoke/MethodHandle" ∧ y_Bd_fetchForList.cls ≠ "java/lang/invoke/VarHandle" ∧ (parseMethodDescriptor y_Bd_fetchForList.desc).map (fun d => d.parameters.length) = some 0 := by decide +kernel
def w_Bd_doFirstAccess : List Cond := Cond.code y_Bd_doFirstAccess prog_1_method_20_code 3 none :: TB
def rm_Bd_doFirstAccess : Room := { frames := 2, cells := 0, slots := 0, locals := 44 }
theorem d_Bd_doFirstAccess_0 : decode prog_1_method_20_code 0 = .ok (.aload_n 0, 1) := by decide +kernel
theorem d_Bd_doFirstAccess_1 : decode prog_1_method_20_code 1 = .ok (.getfield 47, 3) := by decide +kernel
theorem d_Bd_doFirstAccess_4 : decode prog_1_method_20_code 4 = .ok (.invokevirtual 190, 3) := by decide +kernel
theorem d_Bd_doFirstAccess_7 : decode prog_1_method_20_code 7 = .ok (.istore_n 1, 1) := by decide +kernel
theorem d_Bd_doFirstAccess_8 : decode prog_1_method_20_code 8 = .ok (.aload_n 0, 1) := by decide +kernel
theorem d_Bd_doFirstAccess_9 : decode prog_1_method_20_code 9 = .ok (.getfield 47, 3) := by decide +kernel
theorem d_Bd_doFirstAccess_12 : decode prog_1_method_20_code 12 = .ok (.invokevirtual 193, 3) := by decide +kernel
theorem d_Bd_doFirstAccess_15 : decode prog_1_method_20_code 15 = .ok (.istore_n 2, 1) := by decide +kernel
theorem d_Bd_doFirstAccess_16 : decode prog_1_method_20_code 16 = .ok (.aload_n 0, 1) := by decide +kernel
theorem d_Bd_doFirstAccess_17 : decode prog_1_method_20_code 17 = .ok (.getfield 47, 3) := by decide +kernel
theorem d_Bd_doFirstAccess_20 : decode prog_1_method_20_code 20 = .ok (.invokevirtual 196, 3) := by decide +kernel
theorem d_Bd_doFirstAccess_23 : decode prog_1_method_20_code 23 = .ok (.lookupswitch 55 #[(0, 25), (1, 37)], 25) := by decide +kernel
theorem d_Bd_doFirstAccess_48 : decode prog_1_method_20_code 48 = .ok (.aload_n 0, 1) := by decide +kernel
theorem d_Bd_doFirstAccess_49 : decode prog_1_method_20_code 49 = .ok (.getfield 10, 3) := by decide +kernel
theorem d_Bd_doFirstAccess_52 : decode prog_1_method_20_code 52 = .ok (.iload_n 1, 1) := by decide +kernel
theorem d_Bd_doFirstAccess_53 : decode prog_1_method_20_code 53 = .ok (.iload_n 2, 1) := by decide +kernel
theorem d_Bd_doFirstAccess_54 : decode prog_1_method_20_code 54 = .ok (.invokevirtual 64, 3) := by decide +kernel
theorem d_Bd_doFirstAccess_57 : decode prog_1_method_20_code 57 = .ok (.goto 27, 3) := by decide +kernel
theorem d_Bd_doFirstAccess_60 : decode prog_1_method_20_code 60 = .ok (.aload_n 0, 1) := by decide +kernel
theorem d_Bd_doFirstAccess_61 : decode prog_1_method_20_code 61 = .ok (.getfield 47, 3) := by decide +kernel
theorem d_Bd_doFirstAccess_64 : decode prog_1_method_20_code 64 = .ok (.aload_n 0, 1) := by decide +kernel
theorem d_Bd_doFirstAccess_65 : decode prog_1_method_20_code 65 = .ok (.getfield 10, 3) := by decide +kernel
theorem d_Bd_doFirstAccess_68 : decode prog_1_method_20_code 68 = .ok (.iload_n 1, 1) := by decide +kernel
theorem d_Bd_doFirstAccess_69 : decode prog_1_method_20_code 69 = .ok (.invokevirtual 71, 3) := by decide +kernel
theorem d_Bd_doFirstAccess_72 : decode prog_1_method_20_code 72 = .ok (.invokevirtual 199, 3) := by decide +kernel
theorem d_Bd_doFirstAccess_75 : decode prog_1_method_20_code 75 = .ok (.goto 9, 3) := by decide +kernel
theorem d_Bd_doFirstAccess_78 : decode prog_1_method_20_code 78 = .ok (.aload_n 0, 1) := by decide +kernel
theorem d_Bd_doFirstAccess_79 : decode prog_1_method_20_code 79 = .ok (.iload_n 1, 1) := by decide +kernel
theorem d_Bd_doFirstAccess_80 : decode prog_1_method_20_code 80 = .ok (.iload_n 2, 1) := by decide +kernel
theorem d_Bd_doFirstAccess_81 : decode prog_1_method_20_code 81 = .ok (.invokevirtual 187, 3) := by decide +kernel
theorem d_Bd_doFirstAccess_84 : decode prog_1_method_20_code 84 = .ok (.aload_n 0, 1) := by decide +kernel
theorem d_Bd_doFirstAccess_85 : decode prog_1_method_20_code 85 = .ok (.getfield 47, 3) := by decide +kernel
theorem d_Bd_doFirstAccess_88 : decode prog_1_method_20_code 88 = .ok (.invokevirtual 202, 3) := by decide +kernel
theorem d_Bd_doFirstAccess_91 : decode prog_1_method_20_code 91 = .ok (.return_, 1) := by decide +kernel
theorem yd_Bd_doFirstAccess : y_Bd_doFirstAccess.cls ≠ "java/lang/invoke/MethodHandle" ∧ y_Bd_doFirstAccess.cls ≠ "java/lang/invoke/VarHandle" ∧ (parseMethodDescriptor y_Bd_doFirstAccess.desc).map (fun d => d.parameters.length) = some 0 := by decide +kernel
def w_Bd_doWorkOf : List Cond := Cond.code y_Bd_doWorkOf prog_1_method_18_code 3 none :: TB
def rm_Bd_doWorkOf : Room := { frames := 4, cells := 0, slots := 0, locals := 97 }
theorem d_Bd_doWorkOf_0 : decode prog_1_method_18_code 0 = .ok (.iload_n 1, 1) := by decide +kernel
theorem d_Bd_doWorkOf_1 : decode prog_1_method_18_code 1 = .ok (.tableswitch 93 2 5 #[31, 54, 61, 86], 31) := by decide +kernel
theorem d_Bd_doWorkOf_32 : decode prog_1_method_18_code 32 = .ok (.aload_n 0, 1) := by decide +kernel
theorem d_Bd_doWorkOf_33 : decode prog_1_method_18_code 33 = .ok (.getfield 26, 3) := by decide +kernel
theorem d_Bd_doWorkOf_36 : decode prog_1_method_18_code 36 = .ok (.iload_n 2, 1) := by decide +kernel
theorem d_Bd_doWorkOf_37 : decode prog_1_method_18_code 37 = .ok (.aload_n 0, 1) := by decide +kernel
theorem d_Bd_doWorkOf_38 : decode prog_1_method_18_code 38 = .ok (.getfield 10, 3) := by decide +kernel
theorem d_Bd_doWorkOf_41 : decode prog_1_method_18_code 41 = .ok (.aload_n 0, 1) := by decide +kernel
theorem d_Bd_doWorkOf_42 : decode prog_1_method_18_code 42 = .ok (.getfield 19, 3) := by decide +kernel
theorem d_Bd_doWorkOf_45 : decode prog_1_method_18_code 45 = .ok (.iconst 5, 1) := by decide +kernel
theorem d_Bd_doWorkOf_46 : decode prog_1_method_18_code 46 = .ok (.invokevirtual 119, 3) := by decide +kernel
theorem d_Bd_doWorkOf_49 : decode prog_1_method_18_code 49 = .ok (.invokevirtual 164, 3) := by decide +kernel
theorem d_Bd_doWorkOf_52 : decode prog_1_method_18_code 52 = .ok (.goto 42, 3) := by decide +kernel
theorem d_Bd_doWorkOf_55 : decode prog_1_method_18_code 55 = .ok (.aload_n 0, 1) := by decide +kernel
theorem d_Bd_doWorkOf_56 : decode prog_1_method_18_code 56 = .ok (.invokevirtual 168, 3) := by decide +kernel
theorem d_Bd_doWorkOf_59 : decode prog_1_method_18_code 59 = .ok (.goto 35, 3) := by decide +kernel
theorem d_Bd_doWorkOf_62 : decode prog_1_method_18_code 62 = .ok (.aload_n 0, 1) := by decide +kernel
theorem d_Bd_doWorkOf_63 : decode prog_1_method_18_code 63 = .ok (.getfield 47, 3) := by decide +kernel
theorem d_Bd_doWorkOf_66 : decode prog_1_method_18_code 66 = .ok (.invokevirtual 171, 3) := by decide +kernel
theorem d_Bd_doWorkOf_69 : decode prog_1_method_18_code 69 = .ok (.aload_n 0, 1) := by decide +kernel
theorem d_Bd_doWorkOf_70 : decode prog_1_method_18_code 70 = .ok (.getfield 40, 3) := by decide +kernel
theorem d_Bd_doWorkOf_73 : decode prog_1_method_18_code 73 = .ok (.aload_n 0, 1) := by decide +kernel
theorem d_Bd_doWorkOf_74 : decode prog_1_method_18_code 74 = .ok (.getfield 10, 3) := by decide +kernel
theorem d_Bd_doWorkOf_77 : decode prog_1_method_18_code 77 = .ok (.aload_n 0, 1) := by decide +kernel
theorem d_Bd_doWorkOf_78 : decode prog_1_method_18_code 78 = .ok (.getfield 19, 3) := by decide +kernel
theorem d_Bd_doWorkOf_81 : decode prog_1_method_18_code 81 = .ok (.invokevirtual 174, 3) := by decide +kernel
theorem d_Bd_doWorkOf_84 : decode prog_1_method_18_code 84 = .ok (.goto 10, 3) := by decide +kernel
theorem d_Bd_doWorkOf_87 : decode prog_1_method_18_code 87 = .ok (.aload_n 0, 1) := by decide +kernel
theorem d_Bd_doWorkOf_88 : decode prog_1_method_18_code 88 = .ok (.invokevirtual 178, 3) := by decide +kernel
theorem d_Bd_doWorkOf_91 : decode prog_1_method_18_code 91 = .ok (.goto 3, 3) := by decide +kernel
theorem d_Bd_doWorkOf_94 : decode prog_1_method_18_code 94 = .ok (.return_, 1) := by decide +kernel
theorem yd_Bd_doWorkOf : y_Bd_doWorkOf.cls ≠ "java/lang/invoke/MethodHandle" ∧ y_Bd_doWorkOf.cls ≠ "java/lang/invoke/VarHandle" ∧ (parseMethodDescriptor y_Bd_doWorkOf.desc).map (fun d => d.parameters.length) = some 2 := by decide +kernel
def w_Bd_oneIf : List Cond := Cond.code y_Bd_oneIf prog_1_method_13_code 1 (some .int) :: TB
def rm_Bd_oneIf : Room := { frames := 0, cells := 0, slots := 0, locals := 0 }
theorem d_Bd_oneIf_0 : decode prog_1_method_13_code 0 = .ok (.iload_n 0, 1) := by decide +kernel
theorem d_Bd_oneIf_1 : decode prog_1_method_13_code 1 = .ok (.ifCond .eq 7, 3) := by decide +kernel
theorem d_Bd_oneIf_4 : decode prog_1_method_13_code 4 = .ok (.iconst 1, 1) := by decide +kernel
theorem d_Bd_oneIf_5 : decode prog_1_method_13_code 5 = .ok (.goto 4, 3) := by decide +kernel
theorem d_Bd_oneIf_8 : decode prog_1_method_13_code 8 = .ok (.iconst 0, 1) := by decide +kernel
theorem d_Bd_oneIf_9 : decode prog_1_method_13_code 9 = .ok (.ireturn, 1) := by decide +kernel
theorem yd_Bd_oneIf : y_Bd_oneIf.cls ≠ "java/lang/invoke/MethodHandle" ∧ y_Bd_oneIf.cls ≠ "java/lang/invoke/VarHandle" ∧ (parseMethodDescriptor y_Bd_oneIf.desc).map (fun d => d.parameters.length) = some 1 := by decide +kernel
theorem tb_cd_Bd_isAddress : Cond.code y_Bd_isAddress prog_1_method_12_code 1 (some .boolean) ∈ TB := tb_in 205 (by decide +kernel) (by decide +kernel)
theorem tb_in_Bd : Cond.initialized "SlotBoard" ∈ TB := tb_in 1 (by decide +kernel) (by decide +kernel)
theorem tb_st_Bd_isAddress : Cond.static y_Bd_isAddress ∈ TB := tb_in 204 (by decide +kernel) (by decide +kernel)
theorem tb_cd_Bd_beginFrame : Cond.code y_Bd_beginFrame prog_1_method_15_code 1 none ∈ TB := tb_in 222 (by decide +kernel) (by decide +kernel)
theorem tb_im_Bd_beginFrame : Cond.instanceMethod y_Bd_beginFrame ∈ TB := tb_in 221 (by decide +kernel) (by decide +kernel)
theorem tb_se_Bd_beginFrame : Cond.selects "SlotBoard" y_Bd_beginFrame y_Bd_beginFrame ∈ TB := tb_inS 1 (by decide +kernel) (by decide +kernel)
theorem tb_fl_Bd_83 : Cond.fieldLink "SlotBoard" 83 "SlotBoard" "begunFrames" "I" ∈ TB := tb_in 170 (by decide +kernel) (by decide +kernel)
theorem tb_fl_Bd_19 : Cond.fieldLink "SlotBoard" 19 "SlotBoard" "registers" "LSlotBoard$Registers;" ∈ TB := tb_in 163 (by decide +kernel) (by decide +kernel)
theorem tb_ml_Bd_140 : Cond.methodLink "SlotBoard" 140 y_Re_request ∈ TB := tb_in 223 (by decide +kernel) (by decide +kernel)
theorem tb_fl_Bd_26 : Cond.fieldLink "SlotBoard" 26 "SlotBoard" "picture" "LSlotBoard$Picture;" ∈ TB := tb_in 164 (by decide +kernel) (by decide +kernel)
theorem tb_ml_Bd_143 : Cond.methodLink "SlotBoard" 143 y_Pi_returnToBases ∈ TB := tb_in 227 (by decide +kernel) (by decide +kernel)
theorem tb_ml_Bd_127 : Cond.methodLink "SlotBoard" 127 y_Re_isOn ∈ TB := tb_in 235 (by decide +kernel) (by decide +kernel)
theorem tb_fl_Bd_33 : Cond.fieldLink "SlotBoard" 33 "SlotBoard" "list" "LSlotBoard$BeamList;" ∈ TB := tb_in 165 (by decide +kernel) (by decide +kernel)
theorem tb_ml_Bd_119 : Cond.methodLink "SlotBoard" 119 y_Re_at ∈ TB := tb_in 239 (by decide +kernel) (by decide +kernel)
theorem tb_ml_Bd_147 : Cond.methodLink "SlotBoard" 147 y_Li_goOnAt ∈ TB := tb_in 240 (by decide +kernel) (by decide +kernel)
theorem tb_cd_Bd_moverOrProcessor : Cond.code y_Bd_moverOrProcessor prog_1_method_17_code 3 (some .int) ∈ TB := tb_in 280 (by decide +kernel) (by decide +kernel)
theorem tb_im_Bd_moverOrProcessor : Cond.instanceMethod y_Bd_moverOrProcessor ∈ TB := tb_in 279 (by decide +kernel) (by decide +kernel)
theorem tb_se_Bd_moverOrProcessor : Cond.selects "SlotBoard" y_Bd_moverOrProcessor y_Bd_moverOrProcessor ∈ TB := tb_inS 5 (by decide +kernel) (by decide +kernel)
theorem tb_fl_Bd_40 : Cond.fieldLink "SlotBoard" 40 "SlotBoard" "mover" "LSlotBoard$Mover;" ∈ TB := tb_in 166 (by decide +kernel) (by decide +kernel)
theorem tb_fl_Bd_47 : Cond.fieldLink "SlotBoard" 47 "SlotBoard" "processor" "LSlotBoard$Processor;" ∈ TB := tb_in 167 (by decide +kernel) (by decide +kernel)
theorem tb_ml_Bd_158 : Cond.methodLink "SlotBoard" 158 y_Pr_hasLostEnough ∈ TB := tb_in 281 (by decide +kernel) (by decide +kernel)
theorem tb_ml_Bd_161 : Cond.methodLink "SlotBoard" 161 y_Pr_wantsSlot ∈ TB := tb_in 285 (by decide +kernel) (by decide +kernel)
theorem tb_cd_Bd_ownerOfSlot : Cond.code y_Bd_ownerOfSlot prog_1_method_16_code 3 (some .int) ∈ TB := tb_in 270 (by decide +kernel) (by decide +kernel)
theorem tb_im_Bd_ownerOfSlot : Cond.instanceMethod y_Bd_ownerOfSlot ∈ TB := tb_in 269 (by decide +kernel) (by decide +kernel)
theorem tb_se_Bd_ownerOfSlot : Cond.selects "SlotBoard" y_Bd_ownerOfSlot y_Bd_ownerOfSlot ∈ TB := tb_inS 4 (by decide +kernel) (by decide +kernel)
theorem tb_ml_Bd_150 : Cond.methodLink "SlotBoard" 150 y_Pi_isFetchClock ∈ TB := tb_in 271 (by decide +kernel) (by decide +kernel)
theorem tb_ml_Bd_154 : Cond.methodLink "SlotBoard" 154 y_Bd_moverOrProcessor ∈ TB := tb_in 277 (by decide +kernel) (by decide +kernel)
theorem tb_cd_Bd_writeRegister : Cond.code y_Bd_writeRegister prog_1_method_21_code 3 none ∈ TB := tb_in 322 (by decide +kernel) (by decide +kernel)
theorem tb_im_Bd_writeRegister : Cond.instanceMethod y_Bd_writeRegister ∈ TB := tb_in 321 (by decide +kernel) (by decide +kernel)
theorem tb_se_Bd_writeRegister : Cond.selects "SlotBoard" y_Bd_writeRegister y_Bd_writeRegister ∈ TB := tb_inS 9 (by decide +kernel) (by decide +kernel)
theorem tb_ml_Bd_205 : Cond.methodLink "SlotBoard" 205 y_Mo_begin ∈ TB := tb_in 323 (by decide +kernel) (by decide +kernel)
theorem tb_ml_Bd_208 : Cond.methodLink "SlotBoard" 208 y_Re_clearRequests ∈ TB := tb_in 327 (by decide +kernel) (by decide +kernel)
theorem tb_ml_Bd_211 : Cond.methodLink "SlotBoard" 211 y_Re_put ∈ TB := tb_in 331 (by decide +kernel) (by decide +kernel)
theorem tb_cd_Bd_fetchForList : Cond.code y_Bd_fetchForList prog_1_method_19_code 2 none ∈ TB := tb_in 304 (by decide +kernel) (by decide +kernel)
theorem tb_im_Bd_fetchForList : Cond.instanceMethod y_Bd_fetchForList ∈ TB := tb_in 303 (by decide +kernel) (by decide +kernel)
theorem tb_se_Bd_fetchForList : Cond.selects "SlotBoard" y_Bd_fetchForList y_Bd_fetchForList ∈ TB := tb_inS 7 (by decide +kernel) (by decide +kernel)
theorem tb_fl_Bd_10 : Cond.fieldLink "SlotBoard" 10 "SlotBoard" "memory" "LSlotBoard$Memory;" ∈ TB := tb_in 162 (by decide +kernel) (by decide +kernel)
theorem tb_ml_Bd_71 : Cond.methodLink "SlotBoard" 71 y_Me_at ∈ TB := tb_in 305 (by decide +kernel) (by decide +kernel)
theorem tb_fl_Bd_79 : Cond.fieldLink "SlotBoard" 79 "SlotBoard" "beam" "I" ∈ TB := tb_in 169 (by decide +kernel) (by decide +kernel)
theorem tb_ml_Bd_181 : Cond.methodLink "SlotBoard" 181 y_Li_takeWord ∈ TB := tb_in 306 (by decide +kernel) (by decide +kernel)
theorem tb_ml_Bd_184 : Cond.methodLink "SlotBoard" 184 y_Li_movedRegister ∈ TB := tb_in 318 (by decide +kernel) (by decide +kernel)
theorem tb_ml_Bd_187 : Cond.methodLink "SlotBoard" 187 y_Bd_writeRegister ∈ TB := tb_in 319 (by decide +kernel) (by decide +kernel)
theorem tb_cd_Bd_doFirstAccess : Cond.code y_Bd_doFirstAccess prog_1_method_20_code 3 none ∈ TB := tb_in 389 (by decide +kernel) (by decide +kernel)
theorem tb_im_Bd_doFirstAccess : Cond.instanceMethod y_Bd_doFirstAccess ∈ TB := tb_in 388 (by decide +kernel) (by decide +kernel)
theorem tb_se_Bd_doFirstAccess : Cond.selects "SlotBoard" y_Bd_doFirstAccess y_Bd_doFirstAccess ∈ TB := tb_inS 14 (by decide +kernel) (by decide +kernel)
theorem tb_ml_Bd_190 : Cond.methodLink "SlotBoard" 190 y_Pr_firstTarget ∈ TB := tb_in 390 (by decide +kernel) (by decide +kernel)
theorem tb_ml_Bd_193 : Cond.methodLink "SlotBoard" 193 y_Pr_firstValue ∈ TB := tb_in 394 (by decide +kernel) (by decide +kernel)
theorem tb_ml_Bd_196 : Cond.methodLink "SlotBoard" 196 y_Pr_firstKind ∈ TB := tb_in 398 (by decide +kernel) (by decide +kernel)
theorem tb_ml_Bd_64 : Cond.methodLink "SlotBoard" 64 y_Me_put ∈ TB := tb_in 206 (by decide +kernel) (by decide +kernel)
theorem tb_ml_Bd_199 : Cond.methodLink "SlotBoard" 199 y_Pr_load ∈ TB := tb_in 402 (by decide +kernel) (by decide +kernel)
theorem tb_ml_Bd_202 : Cond.methodLink "SlotBoard" 202 y_Pr_dropFirst ∈ TB := tb_in 406 (by decide +kernel) (by decide +kernel)
theorem tb_cd_Bd_doWorkOf : Cond.code y_Bd_doWorkOf prog_1_method_18_code 3 none ∈ TB := tb_in 292 (by decide +kernel) (by decide +kernel)
theorem tb_im_Bd_doWorkOf : Cond.instanceMethod y_Bd_doWorkOf ∈ TB := tb_in 291 (by decide +kernel) (by decide +kernel)
theorem tb_se_Bd_doWorkOf : Cond.selects "SlotBoard" y_Bd_doWorkOf y_Bd_doWorkOf ∈ TB := tb_inS 6 (by decide +kernel) (by decide +kernel)
theorem tb_ml_Bd_164 : Cond.methodLink "SlotBoard" 164 y_Pi_fetchAt ∈ TB := tb_in 293 (by decide +kernel) (by decide +kernel)
theorem tb_ml_Bd_168 : Cond.methodLink "SlotBoard" 168 y_Bd_fetchForList ∈ TB := tb_in 301 (by decide +kernel) (by decide +kernel)
theorem tb_ml_Bd_171 : Cond.methodLink "SlotBoard" 171 y_Pr_seeMoverSlot ∈ TB := tb_in 337 (by decide +kernel) (by decide +kernel)
theorem tb_ml_Bd_174 : Cond.methodLink "SlotBoard" 174 y_Mo_takeSlot ∈ TB := tb_in 342 (by decide +kernel) (by decide +kernel)
theorem tb_ml_Bd_178 : Cond.methodLink "SlotBoard" 178 y_Bd_doFirstAccess ∈ TB := tb_in 386 (by decide +kernel) (by decide +kernel)
theorem tb_cd_Bd_oneIf : Cond.code y_Bd_oneIf prog_1_method_13_code 1 (some .int) ∈ TB := tb_in 444 (by decide +kernel) (by decide +kernel)
theorem tb_st_Bd_oneIf : Cond.static y_Bd_oneIf ∈ TB := tb_in 443 (by decide +kernel) (by decide +kernel)
def f_Bd_isAddress_16 (S : SS) (M : MM) (x0 : Int32) (y0 : Int32) : Option RR := if ¬ (y0 = 0 ∨ y0 = 1) then none else some (y0, S, M)
def f_Bd_isAddress_15 (S : SS) (M : MM) (x0 : Int32) : Option RR := f_Bd_isAddress_16 S M x0 (0 : Int32)
def f_Bd_isAddress (S : SS) (M : MM) (x0 : Int32) : Option RR := if x0 < 0 then f_Bd_isAddress_15 S M x0 else if (255 : Int32) < x0 then f_Bd_isAddress_15 S M x0 else f_Bd_isAddress_16 S M x0 (1 : Int32)
set_option maxHeartbeats 4000000 in
set_option maxRecDepth 100000 in
theorem c_Bd_isAddress (l : Launch) (D : va_G) (cA : ClassId) (a : Nat → Nat) (S : SS) (M : MM) (x0 : Int32) (q : RR) (h0 : f_Bd_isAddress S M x0 = some q) : Ci l y_Bd_isAddress w_Bd_isAddress rm_Bd_isAddress D vCl [(cA, .int)] (AB a) (ZB a) (wB cA a) [.int x0] S M q := by
  refine Ci.of (cc := prog_1_method_12_code) (maxL := 1) (ty := .boolean) (by decide) rfl (Nat.le_of_ble_eq_true rfl) ?_
  intro p e s m args below meth c Q hx hb hml hown hts hK hZ ret
  have hown : s.vm.findClass R_Bd = some m.cls := hown
  have hts : ∀ w ∈ TB, w.before args s = true := fun w h => hts w (List.mem_cons_of_mem _ h)
  have hZK := ZB_k a
  have b16 : ∀ (S : SS) (M : MM) (x0 : Int32) (y0 : Int32), f_Bd_isAddress_16 S M x0 y0 = some q → BK p l e rm_Bd_isAddress s m args below meth c Q D vCl (AB a) (wB cA a) 1 16 [(0, .int x0)] [.int y0] S M := by
    intro S M x0 y0 h H locs ls hl hP hD hS
    unfold f_Bd_isAddress_16 at h
    obtain ⟨hg1, h⟩ := sg_g h
    exact ret _ _ _ _ _ _ _ h (sg_nb hg1).1 hP hD hS d_Bd_isAddress_16
  have b15 : ∀ (S : SS) (M : MM) (x0 : Int32), f_Bd_isAddress_15 S M x0 = some q → BK p l e rm_Bd_isAddress s m args below meth c Q D vCl (AB a) (wB cA a) 1 15 [(0, .int x0)] [] S M := by
    intro S M x0 h H locs ls hl hP hD hS
    unfold f_Bd_isAddress_15 at h
    refine lv_iconst (v := (0 : Int32)) hx hb d_Bd_isAddress_15 (by decide) ?_
    exact b16 _ _ _ _ h _ _ _ (lv_sub hl [0] rfl) hP hD hS
  intro H locs ls hl hP hD hS
  have hl : lv_has ls 1 [(0, .int x0)] := hl
  have h := h0
  unfold f_Bd_isAddress at h
  refine lv_iload_n hx hb d_Bd_isAddress_0 rfl (lv_at hl 0 rfl) ?_
  refine lv_if_lt (tgt := 15) hx hb d_Bd_isAddress_1 (by decide) (fun hc => ?_) (fun hc => ?_)
  · have h := sg_p hc h
    exact b15 _ _ _ h _ _ _ (lv_sub hl [0] rfl) hP hD hS
  · have h := sg_n hc h
    refine lv_iload_n hx hb d_Bd_isAddress_4 rfl (lv_at hl 0 rfl) ?_
    refine lv_sipush (v := (255 : Int32)) hx hb d_Bd_isAddress_5 (by decide) ?_
    refine lv_icmp_gt (tgt := 15) hx hb d_Bd_isAddress_8 (by decide) (fun hc => ?_) (fun hc => ?_)
    · have h := sg_p hc h
      exact b15 _ _ _ h _ _ _ (lv_sub hl [0] rfl) hP hD hS
    · have h := sg_n hc h
      refine lv_iconst (v := (1 : Int32)) hx hb d_Bd_isAddress_11 (by decide) ?_
      refine lv_goto (tgt := 16) hx hb d_Bd_isAddress_12 (by decide) ?_
      exact b16 _ _ _ _ h _ _ _ (lv_sub hl [0] rfl) hP hD hS
def f_Bd_beginFrame_55 (S : SS) (M : MM) : Option RR := some (0, S, M)
def f_Bd_beginFrame (S : SS) (M : MM) : Option RR := (f_Re_request (upd S 1 ((S 1) + (1 : Int32))) M (2 : Int32)).bind (fun q1 => (f_Pi_returnToBases q1.2.1 q1.2.2).bind (fun q2 => (f_Re_isOn q2.2.1 q2.2.2 (2 : Int32)).bind (fun q3 => if q3.1 = 0 then f_Bd_beginFrame_55 q3.2.1 q3.2.2 else (f_Re_at q3.2.1 q3.2.2 (1 : Int32)).bind (fun q4 => (f_Li_goOnAt q4.2.1 q4.2.2 q4.1).bind (fun q5 => f_Bd_beginFrame_55 q5.2.1 q5.2.2)))))
set_option maxHeartbeats 4000000 in
set_option maxRecDepth 100000 in
theorem c_Bd_beginFrame (l : Launch) (D : va_G) (cA : ClassId) (a : Nat → Nat) (S : SS) (M : MM) (q : RR) (h0 : f_Bd_beginFrame S M = some q) : Cv l y_Bd_beginFrame w_Bd_beginFrame rm_Bd_beginFrame D vCl [(cA, .int)] (AB a) (ZB a) (wB cA a) [.ref (a 0)] S M q := by
  refine Cv.of (cc := prog_1_method_15_code) (maxL := 1) (by decide) rfl (Nat.le_of_ble_eq_true rfl) ?_
  intro p e s m args below meth c Q hx hb hml hown hts hK hZ ret
  have hown : s.vm.findClass R_Bd = some m.cls := hown
  have hts : ∀ w ∈ TB, w.before args s = true := fun w h => hts w (List.mem_cons_of_mem _ h)
  have hZK := ZB_k a
  have k83 := hts _ tb_fl_Bd_83
  have k19 := hts _ tb_fl_Bd_19
  have k26 := hts _ tb_fl_Bd_26
  have k33 := hts _ tb_fl_Bd_33
  have b55 : ∀ (S : SS) (M : MM), f_Bd_beginFrame_55 S M = some q → BK p l e rm_Bd_beginFrame s m args below meth c Q D vCl (AB a) (wB cA a) 1 55 [(0, .ref (a 0))] [] S M := by
    intro S M h H locs ls hl hP hD hS
    unfold f_Bd_beginFrame_55 at h
    exact ret _ _ _ _ _ _ _ h hP hD hS d_Bd_beginFrame_55
  intro H locs ls hl hP hD hS
  have hl : lv_has ls 1 [(0, .ref (a 0))] := hl
  have h := h0
  unfold f_Bd_beginFrame at h
  refine lv_aload_n hx hb d_Bd_beginFrame_0 rfl (lv_at hl 0 rfl) ?_
  refine lv_dup hx hb d_Bd_beginFrame_1 rfl ?_
  refine va_get (D := D) (ci := 0) (v := .int (S 1)) (C := R_Bd) (T := T_Bd) (N := 9) hx hb hts iBd hown hK hP 0 (wB_at0 _ _ _ _) rfl 8 (by decide) k83 (fun _ h9 => h9) rfl d_Bd_beginFrame_2 ?_
  refine lv_iconst (v := (1 : Int32)) hx hb d_Bd_beginFrame_5 (by decide) ?_
  refine lv_iadd hx hb d_Bd_beginFrame_6 ?_
  refine puwB_1 (D := D) (x := (S 1) + (1 : Int32)) hx hb hts iBd hown hK hP hD hS k83 rfl rfl d_Bd_beginFrame_7 (fun H locs hP hD hS => ?_)
  refine lv_aload_n hx hb d_Bd_beginFrame_10 rfl (lv_at hl 0 rfl) ?_
  refine va_get (D := D) (ci := 0) (v := .ref (a 2)) (C := R_Bd) (T := T_Bd) (N := 9) hx hb hts iBd hown hK hP 0 (wB_at0 _ _ _ _) rfl 1 (by decide) k19 (fun _ h9 => h9) rfl d_Bd_beginFrame_11 ?_
  refine lv_iconst (v := (2 : Int32)) hx hb d_Bd_beginFrame_14 (by decide) ?_
  obtain ⟨⟨r1, S1, M1⟩, hc1, h⟩ := sg_b h
  dsimp only at h
  refine cvv (As := [.int (2 : Int32)]) (rest := []) ⟨hx, hb, hml, hown, hts⟩ (c_Re_request l D cA a (upd S 1 ((S 1) + (1 : Int32))) M (2 : Int32) _ hc1) ⟨callB_of 1 hts (tb_gi tb_cd_Re_request) rfl rfl rfl (hts _ tb_in_Re) (hts _ tb_ml_Bd_140) yd_Re_request ⟨Nat.le_of_ble_eq_true rfl, Nat.le_of_ble_eq_true rfl⟩, hts _ tb_im_Re_request, hts _ tb_se_Re_request⟩ hZK hK hZ hP hD hS 2 (wB_at2 _ _ _ _) rfl rfl hl.1 rfl (Nat.le_of_ble_eq_true rfl) d_Bd_beginFrame_15 (fun H locs hP hD hS => ?_)
  refine lv_aload_n hx hb d_Bd_beginFrame_18 rfl (lv_at hl 0 rfl) ?_
  refine va_get (D := D) (ci := 0) (v := .ref (a 3)) (C := R_Bd) (T := T_Bd) (N := 9) hx hb hts iBd hown hK hP 0 (wB_at0 _ _ _ _) rfl 2 (by decide) k26 (fun _ h9 => h9) rfl d_Bd_beginFrame_19 ?_
  refine lv_aload_n hx hb d_Bd_beginFrame_22 rfl (lv_at hl 0 rfl) ?_
  refine va_get (D := D) (ci := 0) (v := .ref (a 2)) (C := R_Bd) (T := T_Bd) (N := 9) hx hb hts iBd hown hK hP 0 (wB_at0 _ _ _ _) rfl 1 (by decide) k19 (fun _ h9 => h9) rfl d_Bd_beginFrame_23 ?_
  obtain ⟨⟨r2, S2, M2⟩, hc2, h⟩ := sg_b h
  dsimp only at h
  refine cvv (As := [.ref (a 2)]) (rest := []) ⟨hx, hb, hml, hown, hts⟩ (c_Pi_returnToBases l D cA a S1 M1 _ hc2) ⟨callB_of 1 hts (tb_gi tb_cd_Pi_returnToBases) rfl rfl rfl (hts _ tb_in_Pi) (hts _ tb_ml_Bd_143) yd_Pi_returnToBases ⟨Nat.le_of_ble_eq_true rfl, Nat.le_of_ble_eq_true rfl⟩, hts _ tb_im_Pi_returnToBases, hts _ tb_se_Pi_returnToBases⟩ hZK hK hZ hP hD hS 3 (wB_at3 _ _ _ _) rfl rfl hl.1 rfl (Nat.le_of_ble_eq_true rfl) d_Bd_beginFrame_26 (fun H locs hP hD hS => ?_)
  refine lv_aload_n hx hb d_Bd_beginFrame_29 rfl (lv_at hl 0 rfl) ?_
  refine va_get (D := D) (ci := 0) (v := .ref (a 2)) (C := R_Bd) (T := T_Bd) (N := 9) hx hb hts iBd hown hK hP 0 (wB_at0 _ _ _ _) rfl 1 (by decide) k19 (fun _ h9 => h9) rfl d_Bd_beginFrame_30 ?_
  refine lv_iconst (v := (2 : Int32)) hx hb d_Bd_beginFrame_33 (by decide) ?_
  obtain ⟨⟨r3, S3, M3⟩, hc3, h⟩ := sg_b h
  dsimp only at h
  refine cvi (As := [.int (2 : Int32)]) (rest := []) ⟨hx, hb, hml, hown, hts⟩ (c_Re_isOn l D cA a S2 M2 (2 : Int32) _ hc3) ⟨callB_of 1 hts (tb_gi tb_cd_Re_isOn) rfl rfl rfl (hts _ tb_in_Re) (hts _ tb_ml_Bd_127) yd_Re_isOn ⟨Nat.le_of_ble_eq_true rfl, Nat.le_of_ble_eq_true rfl⟩, hts _ tb_im_Re_isOn, hts _ tb_se_Re_isOn⟩ hZK hK hZ hP hD hS 2 (wB_at2 _ _ _ _) rfl rfl hl.1 rfl (Nat.le_of_ble_eq_true rfl) d_Bd_beginFrame_34 (fun H locs hP hD hS => ?_)
  refine lv_if_eq (tgt := 55) hx hb d_Bd_beginFrame_37 (by decide) (fun hc => ?_) (fun hc => ?_)
  · have h := sg_p hc h
    exact b55 _ _ h _ _ _ (lv_sub hl [0] rfl) hP hD hS
  · have h := sg_n hc h
    refine lv_aload_n hx hb d_Bd_beginFrame_40 rfl (lv_at hl 0 rfl) ?_
    refine va_get (D := D) (ci := 0) (v := .ref (a 4)) (C := R_Bd) (T := T_Bd) (N := 9) hx hb hts iBd hown hK hP 0 (wB_at0 _ _ _ _) rfl 3 (by decide) k33 (fun _ h9 => h9) rfl d_Bd_beginFrame_41 ?_
    refine lv_aload_n hx hb d_Bd_beginFrame_44 rfl (lv_at hl 0 rfl) ?_
    refine va_get (D := D) (ci := 0) (v := .ref (a 2)) (C := R_Bd) (T := T_Bd) (N := 9) hx hb hts iBd hown hK hP 0 (wB_at0 _ _ _ _) rfl 1 (by decide) k19 (fun _ h9 => h9) rfl d_Bd_beginFrame_45 ?_
    refine lv_iconst (v := (1 : Int32)) hx hb d_Bd_beginFrame_48 (by decide) ?_
    obtain ⟨⟨r4, S4, M4⟩, hc4, h⟩ := sg_b h
    dsimp only at h
    refine cvi (As := [.int (1 : Int32)]) (rest := [.ref (a 4)]) ⟨hx, hb, hml, hown, hts⟩ (c_Re_at l D cA a S3 M3 (1 : Int32) _ hc4) ⟨callB_of 1 hts (tb_gi tb_cd_Re_at) rfl rfl rfl (hts _ tb_in_Re) (hts _ tb_ml_Bd_119) yd_Re_at ⟨Nat.le_of_ble_eq_true rfl, Nat.le_of_ble_eq_true rfl⟩, hts _ tb_im_Re_at, hts _ tb_se_Re_at⟩ hZK hK hZ hP hD hS 2 (wB_at2 _ _ _ _) rfl rfl hl.1 rfl (Nat.le_of_ble_eq_true rfl) d_Bd_beginFrame_49 (fun H locs hP hD hS => ?_)
    obtain ⟨⟨r5, S5, M5⟩, hc5, h⟩ := sg_b h
    dsimp only at h
    refine cvv (As := [.int r4]) (rest := []) ⟨hx, hb, hml, hown, hts⟩ (c_Li_goOnAt l D cA a S4 M4 r4 _ hc5) ⟨callB_of 1 hts (tb_gi tb_cd_Li_goOnAt) rfl rfl rfl (hts _ tb_in_Li) (hts _ tb_ml_Bd_147) yd_Li_goOnAt ⟨Nat.le_of_ble_eq_true rfl, Nat.le_of_ble_eq_true rfl⟩, hts _ tb_im_Li_goOnAt, hts _ tb_se_Li_goOnAt⟩ hZK hK hZ hP hD hS 4 (wB_at4 _ _ _ _) rfl rfl hl.1 rfl (Nat.le_of_ble_eq_true rfl) d_Bd_beginFrame_52 (fun H locs hP hD hS => ?_)
    exact b55 _ _ h _ _ _ (lv_sub hl [0] rfl) hP hD hS
def f_Bd_moverOrProcessor_73 (S : SS) (M : MM) (x1 : Int32) (x2 : Int32) : Option RR := some ((4 : Int32), S, M)
def f_Bd_moverOrProcessor_90 (S : SS) (M : MM) (x1 : Int32) (x2 : Int32) (y0 : Int32) : Option RR := some (y0, S, M)
def f_Bd_moverOrProcessor_75 (S : SS) (M : MM) (x1 : Int32) (x2 : Int32) : Option RR := (f_Pr_wantsSlot S M).bind (fun q1 => if q1.1 = 0 then f_Bd_moverOrProcessor_90 q1.2.1 q1.2.2 x1 x2 (0 : Int32) else f_Bd_moverOrProcessor_90 q1.2.1 q1.2.2 x1 x2 (5 : Int32))
def f_Bd_moverOrProcessor_54 (S : SS) (M : MM) (x1 : Int32) (y0 : Int32) : Option RR := if x1 = 0 then f_Bd_moverOrProcessor_75 S M x1 y0 else if y0 = 0 then (f_Pr_wantsSlot S M).bind (fun q2 => if q2.1 = 0 then f_Bd_moverOrProcessor_73 q2.2.1 q2.2.2 x1 y0 else f_Bd_moverOrProcessor_75 q2.2.1 q2.2.2 x1 y0) else f_Bd_moverOrProcessor_73 S M x1 y0
def f_Bd_moverOrProcessor_49 (S : SS) (M : MM) (x1 : Int32) : Option RR := f_Bd_moverOrProcessor_54 S M x1 (1 : Int32)
def f_Bd_moverOrProcessor_26 (S : SS) (M : MM) (y0 : Int32) : Option RR := (f_Re_isOn S M (8 : Int32)).bind (fun q3 => if q3.1 = 0 then (f_Pr_hasLostEnough q3.2.1 q3.2.2).bind (fun q4 => if q4.1 = 0 then f_Bd_moverOrProcessor_49 q4.2.1 q4.2.2 y0 else f_Bd_moverOrProcessor_54 q4.2.1 q4.2.2 y0 (0 : Int32)) else f_Bd_moverOrProcessor_49 q3.2.1 q3.2.2 y0)
def f_Bd_moverOrProcessor_25 (S : SS) (M : MM) : Option RR := f_Bd_moverOrProcessor_26 S M (0 : Int32)
def f_Bd_moverOrProcessor (S : SS) (M : MM) : Option RR := if S 9 = 0 then f_Bd_moverOrProcessor_25 S M else (f_Re_isOn S M (4 : Int32)).bind (fun q5 => if q5.1 = 0 then f_Bd_moverOrProcessor_25 q5.2.1 q5.2.2 else f_Bd_moverOrProcessor_26 q5.2.1 q5.2.2 (1 : Int32))
set_option maxHeartbeats 4000000 in
set_option maxRecDepth 100000 in
theorem c_Bd_moverOrProcessor (l : Launch) (D : va_G) (cA : ClassId) (a : Nat → Nat) (S : SS) (M : MM) (q : RR) (h0 : f_Bd_moverOrProcessor S M = some q) : Ci l y_Bd_moverOrProcessor w_Bd_moverOrProcessor rm_Bd_moverOrProcessor D vCl [(cA, .int)] (AB a) (ZB a) (wB cA a) [.ref (a 0)] S M q := by
  refine Ci.of (cc := prog_1_method_17_code) (maxL := 3) (ty := .int) (by decide) rfl (Nat.le_of_ble_eq_true rfl) ?_
  intro p e s m args below meth c Q hx hb hml hown hts hK hZ ret
  have hown : s.vm.findClass R_Bd = some m.cls := hown
  have hts : ∀ w ∈ TB, w.before args s = true := fun w h => hts w (List.mem_cons_of_mem _ h)
  have hZK := ZB_k a
  have k40 := hts _ tb_fl_Bd_40
  have k97 : (Cond.fieldLinkNest "SlotBoard" 97 "SlotBoard$Mover" "busy" "Z" "SlotBoard").before args s = true := va_Nw.use rfl (hZ.2 _ (List.mem_of_getElem? (i := 3) rfl))
  have k19 := hts _ tb_fl_Bd_19
  have k47 := hts _ tb_fl_Bd_47
  have b73 : ∀ (S : SS) (M : MM) (x1 : Int32) (x2 : Int32), f_Bd_moverOrProcessor_73 S M x1 x2 = some q → BK p l e rm_Bd_moverOrProcessor s m args below meth c Q D vCl (AB a) (wB cA a) 3 73 [(0, .ref (a 0)), (1, .int x1), (2, .int x2)] [] S M := by
    intro S M x1 x2 h H locs ls hl hP hD hS
    unfold f_Bd_moverOrProcessor_73 at h
    refine lv_iconst (v := (4 : Int32)) hx hb d_Bd_moverOrProcessor_73 (by decide) ?_
    exact ret _ _ _ _ _ _ _ h rfl hP hD hS d_Bd_moverOrProcessor_74
  have b90 : ∀ (S : SS) (M : MM) (x1 : Int32) (x2 : Int32) (y0 : Int32), f_Bd_moverOrProcessor_90 S M x1 x2 y0 = some q → BK p l e rm_Bd_moverOrProcessor s m args below meth c Q D vCl (AB a) (wB cA a) 3 90 [(0, .ref (a 0)), (1, .int x1), (2, .int x2)] [.int y0] S M := by
    intro S M x1 x2 y0 h H locs ls hl hP hD hS
    unfold f_Bd_moverOrProcessor_90 at h
    exact ret _ _ _ _ _ _ _ h rfl hP hD hS d_Bd_moverOrProcessor_90
  have b75 : ∀ (S : SS) (M : MM) (x1 : Int32) (x2 : Int32), f_Bd_moverOrProcessor_75 S M x1 x2 = some q → BK p l e rm_Bd_moverOrProcessor s m args below meth c Q D vCl (AB a) (wB cA a) 3 75 [(0, .ref (a 0)), (1, .int x1), (2, .int x2)] [] S M := by
    intro S M x1 x2 h H locs ls hl hP hD hS
    unfold f_Bd_moverOrProcessor_75 at h
    refine lv_aload_n hx hb d_Bd_moverOrProcessor_75 rfl (lv_at hl 0 rfl) ?_
    refine va_get (D := D) (ci := 0) (v := .ref (a 6)) (C := R_Bd) (T := T_Bd) (N := 9) hx hb hts iBd hown hK hP 0 (wB_at0 _ _ _ _) rfl 5 (by decide) k47 (fun _ h9 => h9) rfl d_Bd_moverOrProcessor_76 ?_
    obtain ⟨⟨r1, S1, M1⟩, hc1, h⟩ := sg_b h
    dsimp only at h
    refine cvi (As := []) (rest := []) ⟨hx, hb, hml, hown, hts⟩ (c_Pr_wantsSlot l D cA a S M _ hc1) ⟨callB_of 0 hts (tb_gi tb_cd_Pr_wantsSlot) rfl rfl rfl (hts _ tb_in_Pr) (hts _ tb_ml_Bd_161) yd_Pr_wantsSlot ⟨Nat.le_of_ble_eq_true rfl, Nat.le_of_ble_eq_true rfl⟩, hts _ tb_im_Pr_wantsSlot, hts _ tb_se_Pr_wantsSlot⟩ hZK hK hZ hP hD hS 6 (wB_at6 _ _ _ _) rfl rfl hl.1 rfl (Nat.le_of_ble_eq_true rfl) d_Bd_moverOrProcessor_79 (fun H locs hP hD hS => ?_)
    refine lv_if_eq (tgt := 89) hx hb d_Bd_moverOrProcessor_82 (by decide) (fun hc => ?_) (fun hc => ?_)
    · have h := sg_p hc h
      refine lv_iconst (v := (0 : Int32)) hx hb d_Bd_moverOrProcessor_89 (by decide) ?_
      exact b90 _ _ _ _ _ h _ _ _ (lv_sub hl [0, 1, 2] rfl) hP hD hS
    · have h := sg_n hc h
      refine lv_iconst (v := (5 : Int32)) hx hb d_Bd_moverOrProcessor_85 (by decide) ?_
      refine lv_goto (tgt := 90) hx hb d_Bd_moverOrProcessor_86 (by decide) ?_
      exact b90 _ _ _ _ _ h _ _ _ (lv_sub hl [0, 1, 2] rfl) hP hD hS
  have b54 : ∀ (S : SS) (M : MM) (x1 : Int32) (y0 : Int32), f_Bd_moverOrProcessor_54 S M x1 y0 = some q → BK p l e rm_Bd_moverOrProcessor s m args below meth c Q D vCl (AB a) (wB cA a) 3 54 [(0, .ref (a 0)), (1, .int x1)] [.int y0] S M := by
    intro S M x1 y0 h H locs ls hl hP hD hS
    unfold f_Bd_moverOrProcessor_54 at h
    refine lv_istore_n (lv' := [(2, .int y0), (0, .ref (a 0)), (1, .int x1)]) hx hb d_Bd_moverOrProcessor_54 rfl hl (by decide) rfl (fun ls hl => ?_)
    refine lv_iload_n hx hb d_Bd_moverOrProcessor_55 rfl (lv_at hl 2 rfl) ?_
    refine lv_if_eq (tgt := 75) hx hb d_Bd_moverOrProcessor_56 (by decide) (fun hc => ?_) (fun hc => ?_)
    · have h := sg_p hc h
      exact b75 _ _ _ _ h _ _ _ (lv_sub hl [1, 2, 0] rfl) hP hD hS
    · have h := sg_n hc h
      refine lv_iload_n hx hb d_Bd_moverOrProcessor_59 rfl (lv_at hl 0 rfl) ?_
      refine lv_if_ne (tgt := 73) hx hb d_Bd_moverOrProcessor_60 (by decide) (fun hc => ?_) (fun hc => ?_)
      · have h := sg_n hc h
        exact b73 _ _ _ _ h _ _ _ (lv_sub hl [1, 2, 0] rfl) hP hD hS
      · have h := sg_p hc h
        refine lv_aload_n hx hb d_Bd_moverOrProcessor_63 rfl (lv_at hl 1 rfl) ?_
        refine va_get (D := D) (ci := 0) (v := .ref (a 6)) (C := R_Bd) (T := T_Bd) (N := 9) hx hb hts iBd hown hK hP 0 (wB_at0 _ _ _ _) rfl 5 (by decide) k47 (fun _ h9 => h9) rfl d_Bd_moverOrProcessor_64 ?_
        obtain ⟨⟨r2, S2, M2⟩, hc2, h⟩ := sg_b h
        dsimp only at h
        refine cvi (As := []) (rest := []) ⟨hx, hb, hml, hown, hts⟩ (c_Pr_wantsSlot l D cA a S M _ hc2) ⟨callB_of 0 hts (tb_gi tb_cd_Pr_wantsSlot) rfl rfl rfl (hts _ tb_in_Pr) (hts _ tb_ml_Bd_161) yd_Pr_wantsSlot ⟨Nat.le_of_ble_eq_true rfl, Nat.le_of_ble_eq_true rfl⟩, hts _ tb_im_Pr_wantsSlot, hts _ tb_se_Pr_wantsSlot⟩ hZK hK hZ hP hD hS 6 (wB_at6 _ _ _ _) rfl rfl hl.1 rfl (Nat.le_of_ble_eq_true rfl) d_Bd_moverOrProcessor_67 (fun H locs hP hD hS => ?_)
        refine lv_if_ne (tgt := 75) hx hb d_Bd_moverOrProcessor_70 (by decide) (fun hc => ?_) (fun hc => ?_)
        · have h := sg_n hc h
          exact b75 _ _ _ _ h _ _ _ (lv_sub hl [1, 2, 0] rfl) hP hD hS
        · have h := sg_p hc h
          exact b73 _ _ _ _ h _ _ _ (lv_sub hl [1, 2, 0] rfl) hP hD hS
  have b49 : ∀ (S : SS) (M : MM) (x1 : Int32), f_Bd_moverOrProcessor_49 S M x1 = some q → BK p l e rm_Bd_moverOrProcessor s m args below meth c Q D vCl (AB a) (wB cA a) 3 49 [(0, .ref (a 0)), (1, .int x1)] [] S M := by
    intro S M x1 h H locs ls hl hP hD hS
    unfold f_Bd_moverOrProcessor_49 at h
    refine lv_iconst (v := (1 : Int32)) hx hb d_Bd_moverOrProcessor_49 (by decide) ?_
    refine lv_goto (tgt := 54) hx hb d_Bd_moverOrProcessor_50 (by decide) ?_
    exact b54 _ _ _ _ h _ _ _ (lv_sub hl [0, 1] rfl) hP hD hS
  have b26 : ∀ (S : SS) (M : MM) (y0 : Int32), f_Bd_moverOrProcessor_26 S M y0 = some q → BK p l e rm_Bd_moverOrProcessor s m args below meth c Q D vCl (AB a) (wB cA a) 3 26 [(0, .ref (a 0))] [.int y0] S M := by
    intro S M y0 h H locs ls hl hP hD hS
    unfold f_Bd_moverOrProcessor_26 at h
    refine lv_istore_n (lv' := [(1, .int y0), (0, .ref (a 0))]) hx hb d_Bd_moverOrProcessor_26 rfl hl (by decide) rfl (fun ls hl => ?_)
    refine lv_aload_n hx hb d_Bd_moverOrProcessor_27 rfl (lv_at hl 1 rfl) ?_
    refine va_get (D := D) (ci := 0) (v := .ref (a 2)) (C := R_Bd) (T := T_Bd) (N := 9) hx hb hts iBd hown hK hP 0 (wB_at0 _ _ _ _) rfl 1 (by decide) k19 (fun _ h9 => h9) rfl d_Bd_moverOrProcessor_28 ?_
    refine lv_bipush (v := (8 : Int32)) hx hb d_Bd_moverOrProcessor_31 (by decide) ?_
    obtain ⟨⟨r3, S3, M3⟩, hc3, h⟩ := sg_b h
    dsimp only at h
    refine cvi (As := [.int (8 : Int32)]) (rest := []) ⟨hx, hb, hml, hown, hts⟩ (c_Re_isOn l D cA a S M (8 : Int32) _ hc3) ⟨callB_of 1 hts (tb_gi tb_cd_Re_isOn) rfl rfl rfl (hts _ tb_in_Re) (hts _ tb_ml_Bd_127) yd_Re_isOn ⟨Nat.le_of_ble_eq_true rfl, Nat.le_of_ble_eq_true rfl⟩, hts _ tb_im_Re_isOn, hts _ tb_se_Re_isOn⟩ hZK hK hZ hP hD hS 2 (wB_at2 _ _ _ _) rfl rfl hl.1 rfl (Nat.le_of_ble_eq_true rfl) d_Bd_moverOrProcessor_33 (fun H locs hP hD hS => ?_)
    refine lv_if_ne (tgt := 49) hx hb d_Bd_moverOrProcessor_36 (by decide) (fun hc => ?_) (fun hc => ?_)
    · have h := sg_n hc h
      exact b49 _ _ _ h _ _ _ (lv_sub hl [1, 0] rfl) hP hD hS
    · have h := sg_p hc h
      refine lv_aload_n hx hb d_Bd_moverOrProcessor_39 rfl (lv_at hl 1 rfl) ?_
      refine va_get (D := D) (ci := 0) (v := .ref (a 6)) (C := R_Bd) (T := T_Bd) (N := 9) hx hb hts iBd hown hK hP 0 (wB_at0 _ _ _ _) rfl 5 (by decide) k47 (fun _ h9 => h9) rfl d_Bd_moverOrProcessor_40 ?_
      obtain ⟨⟨r4, S4, M4⟩, hc4, h⟩ := sg_b h
      dsimp only at h
      refine cvi (As := []) (rest := []) ⟨hx, hb, hml, hown, hts⟩ (c_Pr_hasLostEnough l D cA a S3 M3 _ hc4) ⟨callB_of 0 hts (tb_gi tb_cd_Pr_hasLostEnough) rfl rfl rfl (hts _ tb_in_Pr) (hts _ tb_ml_Bd_158) yd_Pr_hasLostEnough ⟨Nat.le_of_ble_eq_true rfl, Nat.le_of_ble_eq_true rfl⟩, hts _ tb_im_Pr_hasLostEnough, hts _ tb_se_Pr_hasLostEnough⟩ hZK hK hZ hP hD hS 6 (wB_at6 _ _ _ _) rfl rfl hl.1 rfl (Nat.le_of_ble_eq_true rfl) d_Bd_moverOrProcessor_43 (fun H locs hP hD hS => ?_)
      refine lv_if_ne (tgt := 53) hx hb d_Bd_moverOrProcessor_46 (by decide) (fun hc => ?_) (fun hc => ?_)
      · have h := sg_n hc h
        refine lv_iconst (v := (0 : Int32)) hx hb d_Bd_moverOrProcessor_53 (by decide) ?_
        exact b54 _ _ _ _ h _ _ _ (lv_sub hl [1, 0] rfl) hP hD hS
      · have h := sg_p hc h
        exact b49 _ _ _ h _ _ _ (lv_sub hl [1, 0] rfl) hP hD hS
  have b25 : ∀ (S : SS) (M : MM), f_Bd_moverOrProcessor_25 S M = some q → BK p l e rm_Bd_moverOrProcessor s m args below meth c Q D vCl (AB a) (wB cA a) 3 25 [(0, .ref (a 0))] [] S M := by
    intro S M h H locs ls hl hP hD hS
    unfold f_Bd_moverOrProcessor_25 at h
    refine lv_iconst (v := (0 : Int32)) hx hb d_Bd_moverOrProcessor_25 (by decide) ?_
    exact b26 _ _ _ h _ _ _ (lv_sub hl [0] rfl) hP hD hS
  intro H locs ls hl hP hD hS
  have hl : lv_has ls 3 [(0, .ref (a 0))] := hl
  have h := h0
  unfold f_Bd_moverOrProcessor at h
  refine lv_aload_n hx hb d_Bd_moverOrProcessor_0 rfl (lv_at hl 0 rfl) ?_
  refine va_get (D := D) (ci := 0) (v := .ref (a 5)) (C := R_Bd) (T := T_Bd) (N := 9) hx hb hts iBd hown hK hP 0 (wB_at0 _ _ _ _) rfl 4 (by decide) k40 (fun _ h9 => h9) rfl d_Bd_moverOrProcessor_1 ?_
  refine va_getN (D := D) (ci := 5) (v := .int (S 9)) (C := R_Mo) (T := T_Mo) (N := 10) hx hb hts iMo hown hK hP 5 (wB_at5 _ _ _ _) rfl 1 (by decide) k97 (fun _ h9 => h9) rfl d_Bd_moverOrProcessor_4 ?_
  refine lv_if_eq (tgt := 25) hx hb d_Bd_moverOrProcessor_7 (by decide) (fun hc => ?_) (fun hc => ?_)
  · have h := sg_p hc h
    exact b25 _ _ h _ _ _ (lv_sub hl [0] rfl) hP hD hS
  · have h := sg_n hc h
    refine lv_aload_n hx hb d_Bd_moverOrProcessor_10 rfl (lv_at hl 0 rfl) ?_
    refine va_get (D := D) (ci := 0) (v := .ref (a 2)) (C := R_Bd) (T := T_Bd) (N := 9) hx hb hts iBd hown hK hP 0 (wB_at0 _ _ _ _) rfl 1 (by decide) k19 (fun _ h9 => h9) rfl d_Bd_moverOrProcessor_11 ?_
    refine lv_iconst (v := (4 : Int32)) hx hb d_Bd_moverOrProcessor_14 (by decide) ?_
    obtain ⟨⟨r5, S5, M5⟩, hc5, h⟩ := sg_b h
    dsimp only at h
    refine cvi (As := [.int (4 : Int32)]) (rest := []) ⟨hx, hb, hml, hown, hts⟩ (c_Re_isOn l D cA a S M (4 : Int32) _ hc5) ⟨callB_of 1 hts (tb_gi tb_cd_Re_isOn) rfl rfl rfl (hts _ tb_in_Re) (hts _ tb_ml_Bd_127) yd_Re_isOn ⟨Nat.le_of_ble_eq_true rfl, Nat.le_of_ble_eq_true rfl⟩, hts _ tb_im_Re_isOn, hts _ tb_se_Re_isOn⟩ hZK hK hZ hP hD hS 2 (wB_at2 _ _ _ _) rfl rfl hl.1 rfl (Nat.le_of_ble_eq_true rfl) d_Bd_moverOrProcessor_15 (fun H locs hP hD hS => ?_)
    refine lv_if_eq (tgt := 25) hx hb d_Bd_moverOrProcessor_18 (by decide) (fun hc => ?_) (fun hc => ?_)
    · have h := sg_p hc h
      exact b25 _ _ h _ _ _ (lv_sub hl [0] rfl) hP hD hS
    · have h := sg_n hc h
      refine lv_iconst (v := (1 : Int32)) hx hb d_Bd_moverOrProcessor_21 (by decide) ?_
      refine lv_goto (tgt := 26) hx hb d_Bd_moverOrProcessor_22 (by decide) ?_
      exact b26 _ _ _ h _ _ _ (lv_sub hl [0] rfl) hP hD hS
def f_Bd_ownerOfSlot_9 (S : SS) (M : MM) (x1 : Int32) (x2 : Int32) : Option RR := some ((1 : Int32), S, M)
def f_Bd_ownerOfSlot_62 (S : SS) (M : MM) (x1 : Int32) (x2 : Int32) : Option RR := (f_Bd_moverOrProcessor S M).bind (fun q1 => some (q1.1, q1.2.1, q1.2.2))
def f_Bd_ownerOfSlot_32 (S : SS) (M : MM) (x1 : Int32) (x2 : Int32) : Option RR := if x2 &&& (1 : Int32) = 0 then (f_Re_isOn S M (2 : Int32)).bind (fun q2 => if q2.1 = 0 then f_Bd_ownerOfSlot_62 q2.2.1 q2.2.2 x1 x2 else if q2.2.1 3 = (1 : Int32) then some ((3 : Int32), q2.2.1, q2.2.2) else f_Bd_ownerOfSlot_62 q2.2.1 q2.2.2 x1 x2) else f_Bd_ownerOfSlot_62 S M x1 x2
def f_Bd_ownerOfSlot (S : SS) (M : MM) (x1 : Int32) (x2 : Int32) : Option RR := if x2 = 0 then f_Bd_ownerOfSlot_9 S M x1 x2 else if x2 = (2 : Int32) then f_Bd_ownerOfSlot_9 S M x1 x2 else (f_Re_isOn S M (1 : Int32)).bind (fun q3 => if q3.1 = 0 then f_Bd_ownerOfSlot_32 q3.2.1 q3.2.2 x1 x2 else (f_Pi_isFetchClock q3.2.1 q3.2.2 x1 x2).bind (fun q4 => if q4.1 = 0 then f_Bd_ownerOfSlot_32 q4.2.1 q4.2.2 x1 x2 else some ((2 : Int32), q4.2.1, q4.2.2)))
set_option maxHeartbeats 4000000 in
set_option maxRecDepth 100000 in
theorem c_Bd_ownerOfSlot (l : Launch) (D : va_G) (cA : ClassId) (a : Nat → Nat) (S : SS) (M : MM) (x1 : Int32) (x2 : Int32) (q : RR) (h0 : f_Bd_ownerOfSlot S M x1 x2 = some q) : Ci l y_Bd_ownerOfSlot w_Bd_ownerOfSlot rm_Bd_ownerOfSlot D vCl [(cA, .int)] (AB a) (ZB a) (wB cA a) [.ref (a 0), .int x1, .int x2] S M q := by
  refine Ci.of (cc := prog_1_method_16_code) (maxL := 3) (ty := .int) (by decide) rfl (Nat.le_of_ble_eq_true rfl) ?_
  intro p e s m args below meth c Q hx hb hml hown hts hK hZ ret
  have hown : s.vm.findClass R_Bd = some m.cls := hown
  have hts : ∀ w ∈ TB, w.before args s = true := fun w h => hts w (List.mem_cons_of_mem _ h)
  have hZK := ZB_k a
  have k19 := hts _ tb_fl_Bd_19
  have k33 := hts _ tb_fl_Bd_33
  have k113 : (Cond.fieldLinkNest "SlotBoard" 113 "SlotBoard$BeamList" "state" "I" "SlotBoard").before args s = true := va_Nw.use rfl (hZ.2 _ (List.mem_of_getElem? (i := 1) rfl))
  have b9 : ∀ (S : SS) (M : MM) (x1 : Int32) (x2 : Int32), f_Bd_ownerOfSlot_9 S M x1 x2 = some q → BK p l e rm_Bd_ownerOfSlot s m args below meth c Q D vCl (AB a) (wB cA a) 3 9 [(0, .ref (a 0)), (1, .int x1), (2, .int x2)] [] S M := by
    intro S M x1 x2 h H locs ls hl hP hD hS
    unfold f_Bd_ownerOfSlot_9 at h
    refine lv_iconst (v := (1 : Int32)) hx hb d_Bd_ownerOfSlot_9 (by decide) ?_
    exact ret _ _ _ _ _ _ _ h rfl hP hD hS d_Bd_ownerOfSlot_10
  have b62 : ∀ (S : SS) (M : MM) (x1 : Int32) (x2 : Int32), f_Bd_ownerOfSlot_62 S M x1 x2 = some q → BK p l e rm_Bd_ownerOfSlot s m args below meth c Q D vCl (AB a) (wB cA a) 3 62 [(0, .ref (a 0)), (1, .int x1), (2, .int x2)] [] S M := by
    intro S M x1 x2 h H locs ls hl hP hD hS
    unfold f_Bd_ownerOfSlot_62 at h
    refine lv_aload_n hx hb d_Bd_ownerOfSlot_62 rfl (lv_at hl 0 rfl) ?_
    obtain ⟨⟨r1, S1, M1⟩, hc1, h⟩ := sg_b h
    dsimp only at h
    refine cvi (As := []) (rest := []) ⟨hx, hb, hml, hown, hts⟩ (c_Bd_moverOrProcessor l D cA a S M _ hc1) ⟨callB_of 0 hts (tb_gi tb_cd_Bd_moverOrProcessor) rfl rfl rfl (hts _ tb_in_Bd) (hts _ tb_ml_Bd_154) yd_Bd_moverOrProcessor ⟨Nat.le_of_ble_eq_true rfl, Nat.le_of_ble_eq_true rfl⟩, hts _ tb_im_Bd_moverOrProcessor, hts _ tb_se_Bd_moverOrProcessor⟩ hZK hK hZ hP hD hS 0 (wB_at0 _ _ _ _) rfl rfl hl.1 rfl (Nat.le_of_ble_eq_true rfl) d_Bd_ownerOfSlot_63 (fun H locs hP hD hS => ?_)
    exact ret _ _ _ _ _ _ _ h rfl hP hD hS d_Bd_ownerOfSlot_66
  have b32 : ∀ (S : SS) (M : MM) (x1 : Int32) (x2 : Int32), f_Bd_ownerOfSlot_32 S M x1 x2 = some q → BK p l e rm_Bd_ownerOfSlot s m args below meth c Q D vCl (AB a) (wB cA a) 3 32 [(0, .ref (a 0)), (1, .int x1), (2, .int x2)] [] S M := by
    intro S M x1 x2 h H locs ls hl hP hD hS
    unfold f_Bd_ownerOfSlot_32 at h
    refine lv_iload_n hx hb d_Bd_ownerOfSlot_32 rfl (lv_at hl 2 rfl) ?_
    refine lv_iconst (v := (1 : Int32)) hx hb d_Bd_ownerOfSlot_33 (by decide) ?_
    refine lv_iand hx hb d_Bd_ownerOfSlot_34 ?_
    refine lv_if_ne (tgt := 62) hx hb d_Bd_ownerOfSlot_35 (by decide) (fun hc => ?_) (fun hc => ?_)
    · have h := sg_n hc h
      exact b62 _ _ _ _ h _ _ _ (lv_sub hl [0, 1, 2] rfl) hP hD hS
    · have h := sg_p hc h
      refine lv_aload_n hx hb d_Bd_ownerOfSlot_38 rfl (lv_at hl 0 rfl) ?_
      refine va_get (D := D) (ci := 0) (v := .ref (a 2)) (C := R_Bd) (T := T_Bd) (N := 9) hx hb hts iBd hown hK hP 0 (wB_at0 _ _ _ _) rfl 1 (by decide) k19 (fun _ h9 => h9) rfl d_Bd_ownerOfSlot_39 ?_
      refine lv_iconst (v := (2 : Int32)) hx hb d_Bd_ownerOfSlot_42 (by decide) ?_
      obtain ⟨⟨r2, S2, M2⟩, hc2, h⟩ := sg_b h
      dsimp only at h
      refine cvi (As := [.int (2 : Int32)]) (rest := []) ⟨hx, hb, hml, hown, hts⟩ (c_Re_isOn l D cA a S M (2 : Int32) _ hc2) ⟨callB_of 1 hts (tb_gi tb_cd_Re_isOn) rfl rfl rfl (hts _ tb_in_Re) (hts _ tb_ml_Bd_127) yd_Re_isOn ⟨Nat.le_of_ble_eq_true rfl, Nat.le_of_ble_eq_true rfl⟩, hts _ tb_im_Re_isOn, hts _ tb_se_Re_isOn⟩ hZK hK hZ hP hD hS 2 (wB_at2 _ _ _ _) rfl rfl hl.1 rfl (Nat.le_of_ble_eq_true rfl) d_Bd_ownerOfSlot_43 (fun H locs hP hD hS => ?_)
      refine lv_if_eq (tgt := 62) hx hb d_Bd_ownerOfSlot_46 (by decide) (fun hc => ?_) (fun hc => ?_)
      · have h := sg_p hc h
        exact b62 _ _ _ _ h _ _ _ (lv_sub hl [0, 1, 2] rfl) hP hD hS
      · have h := sg_n hc h
        refine lv_aload_n hx hb d_Bd_ownerOfSlot_49 rfl (lv_at hl 0 rfl) ?_
        refine va_get (D := D) (ci := 0) (v := .ref (a 4)) (C := R_Bd) (T := T_Bd) (N := 9) hx hb hts iBd hown hK hP 0 (wB_at0 _ _ _ _) rfl 3 (by decide) k33 (fun _ h9 => h9) rfl d_Bd_ownerOfSlot_50 ?_
        refine va_getN (D := D) (ci := 4) (v := .int (S2 3)) (C := R_Li) (T := T_Li) (N := 6) hx hb hts iLi hown hK hP 4 (wB_at4 _ _ _ _) rfl 0 (by decide) k113 (fun _ h9 => h9) rfl d_Bd_ownerOfSlot_53 ?_
        refine lv_iconst (v := (1 : Int32)) hx hb d_Bd_ownerOfSlot_56 (by decide) ?_
        refine lv_icmp_ne (tgt := 62) hx hb d_Bd_ownerOfSlot_57 (by decide) (fun hc => ?_) (fun hc => ?_)
        · have h := sg_n hc h
          exact b62 _ _ _ _ h _ _ _ (lv_sub hl [0, 1, 2] rfl) hP hD hS
        · have h := sg_p hc h
          refine lv_iconst (v := (3 : Int32)) hx hb d_Bd_ownerOfSlot_60 (by decide) ?_
          exact ret _ _ _ _ _ _ _ h rfl hP hD hS d_Bd_ownerOfSlot_61
  intro H locs ls hl hP hD hS
  have hl : lv_has ls 3 [(0, .ref (a 0)), (1, .int x1), (2, .int x2)] := hl
  have h := h0
  unfold f_Bd_ownerOfSlot at h
  refine lv_iload_n hx hb d_Bd_ownerOfSlot_0 rfl (lv_at hl 2 rfl) ?_
  refine lv_if_eq (tgt := 9) hx hb d_Bd_ownerOfSlot_1 (by decide) (fun hc => ?_) (fun hc => ?_)
  · have h := sg_p hc h
    exact b9 _ _ _ _ h _ _ _ (lv_sub hl [0, 1, 2] rfl) hP hD hS
  · have h := sg_n hc h
    refine lv_iload_n hx hb d_Bd_ownerOfSlot_4 rfl (lv_at hl 2 rfl) ?_
    refine lv_iconst (v := (2 : Int32)) hx hb d_Bd_ownerOfSlot_5 (by decide) ?_
    refine lv_icmp_ne (tgt := 11) hx hb d_Bd_ownerOfSlot_6 (by decide) (fun hc => ?_) (fun hc => ?_)
    · have h := sg_n hc h
      refine lv_aload_n hx hb d_Bd_ownerOfSlot_11 rfl (lv_at hl 0 rfl) ?_
      refine va_get (D := D) (ci := 0) (v := .ref (a 2)) (C := R_Bd) (T := T_Bd) (N := 9) hx hb hts iBd hown hK hP 0 (wB_at0 _ _ _ _) rfl 1 (by decide) k19 (fun _ h9 => h9) rfl d_Bd_ownerOfSlot_12 ?_
      refine lv_iconst (v := (1 : Int32)) hx hb d_Bd_ownerOfSlot_15 (by decide) ?_
      obtain ⟨⟨r3, S3, M3⟩, hc3, h⟩ := sg_b h
      dsimp only at h
      refine cvi (As := [.int (1 : Int32)]) (rest := []) ⟨hx, hb, hml, hown, hts⟩ (c_Re_isOn l D cA a S M (1 : Int32) _ hc3) ⟨callB_of 1 hts (tb_gi tb_cd_Re_isOn) rfl rfl rfl (hts _ tb_in_Re) (hts _ tb_ml_Bd_127) yd_Re_isOn ⟨Nat.le_of_ble_eq_true rfl, Nat.le_of_ble_eq_true rfl⟩, hts _ tb_im_Re_isOn, hts _ tb_se_Re_isOn⟩ hZK hK hZ hP hD hS 2 (wB_at2 _ _ _ _) rfl rfl hl.1 rfl (Nat.le_of_ble_eq_true rfl) d_Bd_ownerOfSlot_16 (fun H locs hP hD hS => ?_)
      refine lv_if_eq (tgt := 32) hx hb d_Bd_ownerOfSlot_19 (by decide) (fun hc => ?_) (fun hc => ?_)
      · have h := sg_p hc h
        exact b32 _ _ _ _ h _ _ _ (lv_sub hl [0, 1, 2] rfl) hP hD hS
      · have h := sg_n hc h
        refine lv_iload_n hx hb d_Bd_ownerOfSlot_22 rfl (lv_at hl 1 rfl) ?_
        refine lv_iload_n hx hb d_Bd_ownerOfSlot_23 rfl (lv_at hl 2 rfl) ?_
        obtain ⟨⟨r4, S4, M4⟩, hc4, h⟩ := sg_b h
        dsimp only at h
        refine csi (As := [.int x1, .int x2]) (rest := []) ⟨hx, hb, hml, hown, hts⟩ (c_Pi_isFetchClock l D cA a S3 M3 x1 x2 _ hc4) ⟨callB_of 2 hts (tb_gi tb_cd_Pi_isFetchClock) rfl rfl rfl (hts _ tb_in_Pi) (hts _ tb_ml_Bd_150) yd_Pi_isFetchClock ⟨Nat.le_of_ble_eq_true rfl, Nat.le_of_ble_eq_true rfl⟩, hts _ tb_st_Pi_isFetchClock⟩ hZK hK hZ hP hD hS rfl hl.1 rfl (Nat.le_of_ble_eq_true rfl) d_Bd_ownerOfSlot_24 (fun H locs hP hD hS => ?_)
        refine lv_if_eq (tgt := 32) hx hb d_Bd_ownerOfSlot_27 (by decide) (fun hc => ?_) (fun hc => ?_)
        · have h := sg_p hc h
          exact b32 _ _ _ _ h _ _ _ (lv_sub hl [0, 1, 2] rfl) hP hD hS
        · have h := sg_n hc h
          refine lv_iconst (v := (2 : Int32)) hx hb d_Bd_ownerOfSlot_30 (by decide) ?_
          exact ret _ _ _ _ _ _ _ h rfl hP hD hS d_Bd_ownerOfSlot_31
    · have h := sg_p hc h
      exact b9 _ _ _ _ h _ _ _ (lv_sub hl [0, 1, 2] rfl) hP hD hS
def f_Bd_writeRegister_85 (S : SS) (M : MM) (x1 : Int32) (x2 : Int32) : Option RR := some (0, S, M)
def f_Bd_writeRegister (S : SS) (M : MM) (x1 : Int32) (x2 : Int32) : Option RR := if x1 = (2 : Int32) then (f_Re_at S M (1 : Int32)).bind (fun q1 => (f_Li_goOnAt q1.2.1 q1.2.2 q1.1).bind (fun q2 => f_Bd_writeRegister_85 q2.2.1 q2.2.2 x1 x2)) else if x1 = (25 : Int32) then (f_Mo_begin S M x2).bind (fun q3 => f_Bd_writeRegister_85 q3.2.1 q3.2.2 x1 x2) else if x1 = (27 : Int32) then (f_Re_clearRequests S M x2).bind (fun q4 => f_Bd_writeRegister_85 q4.2.1 q4.2.2 x1 x2) else (f_Re_put S M x1 x2).bind (fun q5 => f_Bd_writeRegister_85 q5.2.1 q5.2.2 x1 x2)
set_option maxHeartbeats 4000000 in
set_option maxRecDepth 100000 in
theorem c_Bd_writeRegister (l : Launch) (D : va_G) (cA : ClassId) (a : Nat → Nat) (S : SS) (M : MM) (x1 : Int32) (x2 : Int32) (q : RR) (h0 : f_Bd_writeRegister S M x1 x2 = some q) : Cv l y_Bd_writeRegister w_Bd_writeRegister rm_Bd_writeRegister D vCl [(cA, .int)] (AB a) (ZB a) (wB cA a) [.ref (a 0), .int x1, .int x2] S M q := by
  refine Cv.of (cc := prog_1_method_21_code) (maxL := 3) (by decide) rfl (Nat.le_of_ble_eq_true rfl) ?_
  intro p e s m args below meth c Q hx hb hml hown hts hK hZ ret
  have hown : s.vm.findClass R_Bd = some m.cls := hown
  have hts : ∀ w ∈ TB, w.before args s = true := fun w h => hts w (List.mem_cons_of_mem _ h)
  have hZK := ZB_k a
  have k33 := hts _ tb_fl_Bd_33
  have k19 := hts _ tb_fl_Bd_19
  have k40 := hts _ tb_fl_Bd_40
  have b85 : ∀ (S : SS) (M : MM) (x1 : Int32) (x2 : Int32), f_Bd_writeRegister_85 S M x1 x2 = some q → BK p l e rm_Bd_writeRegister s m args below meth c Q D vCl (AB a) (wB cA a) 3 85 [(0, .ref (a 0)), (1, .int x1), (2, .int x2)] [] S M := by
    intro S M x1 x2 h H locs ls hl hP hD hS
    unfold f_Bd_writeRegister_85 at h
    exact ret _ _ _ _ _ _ _ h hP hD hS d_Bd_writeRegister_85
  intro H locs ls hl hP hD hS
  have hl : lv_has ls 3 [(0, .ref (a 0)), (1, .int x1), (2, .int x2)] := hl
  have h := h0
  unfold f_Bd_writeRegister at h
  refine lv_iload_n hx hb d_Bd_writeRegister_0 rfl (lv_at hl 1 rfl) ?_
  by_cases hc : x1 = (2 : Int32)
  · have h := sg_p hc h
    refine cst_i (y := (2 : Int32)) hc ?_
    refine lv_lookup (off := 35) (tgt := 36) hx hb d_Bd_writeRegister_1 (by decide +kernel) (by decide +kernel) (by decide) ?_
    refine lv_aload_n hx hb d_Bd_writeRegister_36 rfl (lv_at hl 0 rfl) ?_
    refine va_get (D := D) (ci := 0) (v := .ref (a 4)) (C := R_Bd) (T := T_Bd) (N := 9) hx hb hts iBd hown hK hP 0 (wB_at0 _ _ _ _) rfl 3 (by decide) k33 (fun _ h9 => h9) rfl d_Bd_writeRegister_37 ?_
    refine lv_aload_n hx hb d_Bd_writeRegister_40 rfl (lv_at hl 0 rfl) ?_
    refine va_get (D := D) (ci := 0) (v := .ref (a 2)) (C := R_Bd) (T := T_Bd) (N := 9) hx hb hts iBd hown hK hP 0 (wB_at0 _ _ _ _) rfl 1 (by decide) k19 (fun _ h9 => h9) rfl d_Bd_writeRegister_41 ?_
    refine lv_iconst (v := (1 : Int32)) hx hb d_Bd_writeRegister_44 (by decide) ?_
    obtain ⟨⟨r1, S1, M1⟩, hc1, h⟩ := sg_b h
    dsimp only at h
    refine cvi (As := [.int (1 : Int32)]) (rest := [.ref (a 4)]) ⟨hx, hb, hml, hown, hts⟩ (c_Re_at l D cA a S M (1 : Int32) _ hc1) ⟨callB_of 1 hts (tb_gi tb_cd_Re_at) rfl rfl rfl (hts _ tb_in_Re) (hts _ tb_ml_Bd_119) yd_Re_at ⟨Nat.le_of_ble_eq_true rfl, Nat.le_of_ble_eq_true rfl⟩, hts _ tb_im_Re_at, hts _ tb_se_Re_at⟩ hZK hK hZ hP hD hS 2 (wB_at2 _ _ _ _) rfl rfl hl.1 rfl (Nat.le_of_ble_eq_true rfl) d_Bd_writeRegister_45 (fun H locs hP hD hS => ?_)
    obtain ⟨⟨r2, S2, M2⟩, hc2, h⟩ := sg_b h
    dsimp only at h
    refine cvv (As := [.int r1]) (rest := []) ⟨hx, hb, hml, hown, hts⟩ (c_Li_goOnAt l D cA a S1 M1 r1 _ hc2) ⟨callB_of 1 hts (tb_gi tb_cd_Li_goOnAt) rfl rfl rfl (hts _ tb_in_Li) (hts _ tb_ml_Bd_147) yd_Li_goOnAt ⟨Nat.le_of_ble_eq_true rfl, Nat.le_of_ble_eq_true rfl⟩, hts _ tb_im_Li_goOnAt, hts _ tb_se_Li_goOnAt⟩ hZK hK hZ hP hD hS 4 (wB_at4 _ _ _ _) rfl rfl hl.1 rfl (Nat.le_of_ble_eq_true rfl) d_Bd_writeRegister_48 (fun H locs hP hD hS => ?_)
    refine lv_goto (tgt := 85) hx hb d_Bd_writeRegister_51 (by decide) ?_
    exact b85 _ _ _ _ h _ _ _ (lv_sub hl [0, 1, 2] rfl) hP hD hS
  have h := sg_n hc h
  have hcn18 := hc
  by_cases hc : x1 = (25 : Int32)
  · have h := sg_p hc h
    refine cst_i (y := (25 : Int32)) hc ?_
    refine lv_lookup (off := 53) (tgt := 54) hx hb d_Bd_writeRegister_1 (by decide +kernel) (by decide +kernel) (by decide) ?_
    refine lv_aload_n hx hb d_Bd_writeRegister_54 rfl (lv_at hl 0 rfl) ?_
    refine va_get (D := D) (ci := 0) (v := .ref (a 5)) (C := R_Bd) (T := T_Bd) (N := 9) hx hb hts iBd hown hK hP 0 (wB_at0 _ _ _ _) rfl 4 (by decide) k40 (fun _ h9 => h9) rfl d_Bd_writeRegister_55 ?_
    refine lv_iload_n hx hb d_Bd_writeRegister_58 rfl (lv_at hl 2 rfl) ?_
    obtain ⟨⟨r3, S3, M3⟩, hc3, h⟩ := sg_b h
    dsimp only at h
    refine cvv (As := [.int x2]) (rest := []) ⟨hx, hb, hml, hown, hts⟩ (c_Mo_begin l D cA a S M x2 _ hc3) ⟨callB_of 1 hts (tb_gi tb_cd_Mo_begin) rfl rfl rfl (hts _ tb_in_Mo) (hts _ tb_ml_Bd_205) yd_Mo_begin ⟨Nat.le_of_ble_eq_true rfl, Nat.le_of_ble_eq_true rfl⟩, hts _ tb_im_Mo_begin, hts _ tb_se_Mo_begin⟩ hZK hK hZ hP hD hS 5 (wB_at5 _ _ _ _) rfl rfl hl.1 rfl (Nat.le_of_ble_eq_true rfl) d_Bd_writeRegister_59 (fun H locs hP hD hS => ?_)
    refine lv_goto (tgt := 85) hx hb d_Bd_writeRegister_62 (by decide) ?_
    exact b85 _ _ _ _ h _ _ _ (lv_sub hl [0, 1, 2] rfl) hP hD hS
  have h := sg_n hc h
  have hcn32 := hc
  by_cases hc : x1 = (27 : Int32)
  · have h := sg_p hc h
    refine cst_i (y := (27 : Int32)) hc ?_
    refine lv_lookup (off := 64) (tgt := 65) hx hb d_Bd_writeRegister_1 (by decide +kernel) (by decide +kernel) (by decide) ?_
    refine lv_aload_n hx hb d_Bd_writeRegister_65 rfl (lv_at hl 0 rfl) ?_
    refine va_get (D := D) (ci := 0) (v := .ref (a 2)) (C := R_Bd) (T := T_Bd) (N := 9) hx hb hts iBd hown hK hP 0 (wB_at0 _ _ _ _) rfl 1 (by decide) k19 (fun _ h9 => h9) rfl d_Bd_writeRegister_66 ?_
    refine lv_iload_n hx hb d_Bd_writeRegister_69 rfl (lv_at hl 2 rfl) ?_
    obtain ⟨⟨r4, S4, M4⟩, hc4, h⟩ := sg_b h
    dsimp only at h
    refine cvv (As := [.int x2]) (rest := []) ⟨hx, hb, hml, hown, hts⟩ (c_Re_clearRequests l D cA a S M x2 _ hc4) ⟨callB_of 1 hts (tb_gi tb_cd_Re_clearRequests) rfl rfl rfl (hts _ tb_in_Re) (hts _ tb_ml_Bd_208) yd_Re_clearRequests ⟨Nat.le_of_ble_eq_true rfl, Nat.le_of_ble_eq_true rfl⟩, hts _ tb_im_Re_clearRequests, hts _ tb_se_Re_clearRequests⟩ hZK hK hZ hP hD hS 2 (wB_at2 _ _ _ _) rfl rfl hl.1 rfl (Nat.le_of_ble_eq_true rfl) d_Bd_writeRegister_70 (fun H locs hP hD hS => ?_)
    refine lv_goto (tgt := 85) hx hb d_Bd_writeRegister_73 (by decide) ?_
    exact b85 _ _ _ _ h _ _ _ (lv_sub hl [0, 1, 2] rfl) hP hD hS
  have h := sg_n hc h
  have hcn46 := hc
  refine lv_lookup (off := 75) (tgt := 76) hx hb d_Bd_writeRegister_1 (by decide +kernel) (by show Op.lookupswitch.offset [(2, 35), (25, 53), (27, 64)] _ _ = _; rw [lv_osw (k := (2 : Int32)) hcn18 (by decide)]; rw [lv_osw (k := (25 : Int32)) hcn32 (by decide)]; rw [lv_osw (k := (27 : Int32)) hcn46 (by decide)]; rfl) (by decide) ?_
  refine lv_aload_n hx hb d_Bd_writeRegister_76 rfl (lv_at hl 0 rfl) ?_
  refine va_get (D := D) (ci := 0) (v := .ref (a 2)) (C := R_Bd) (T := T_Bd) (N := 9) hx hb hts iBd hown hK hP 0 (wB_at0 _ _ _ _) rfl 1 (by decide) k19 (fun _ h9 => h9) rfl d_Bd_writeRegister_77 ?_
  refine lv_iload_n hx hb d_Bd_writeRegister_80 rfl (lv_at hl 1 rfl) ?_
  refine lv_iload_n hx hb d_Bd_writeRegister_81 rfl (lv_at hl 2 rfl) ?_
  obtain ⟨⟨r5, S5, M5⟩, hc5, h⟩ := sg_b h
  dsimp only at h
  refine cvv (As := [.int x1, .int x2]) (rest := []) ⟨hx, hb, hml, hown, hts⟩ (c_Re_put l D cA a S M x1 x2 _ hc5) ⟨callB_of 2 hts (tb_gi tb_cd_Re_put) rfl rfl rfl (hts _ tb_in_Re) (hts _ tb_ml_Bd_211) yd_Re_put ⟨Nat.le_of_ble_eq_true rfl, Nat.le_of_ble_eq_true rfl⟩, hts _ tb_im_Re_put, hts _ tb_se_Re_put⟩ hZK hK hZ hP hD hS 2 (wB_at2 _ _ _ _) rfl rfl hl.1 rfl (Nat.le_of_ble_eq_true rfl) d_Bd_writeRegister_82 (fun H locs hP hD hS => ?_)
  exact b85 _ _ _ _ h _ _ _ (lv_sub hl [0, 1, 2] rfl) hP hD hS
def f_Bd_fetchForList_42 (S : SS) (M : MM) (x1 : Int32) : Option RR := some (0, S, M)
def f_Bd_fetchForList (S : SS) (M : MM) : Option RR := (f_Me_at S M (S 4)).bind (fun q1 => (f_Li_takeWord q1.2.1 q1.2.2 q1.1 (q1.2.1 0)).bind (fun q2 => if q2.1 = 0 then f_Bd_fetchForList_42 q2.2.1 q2.2.2 q1.1 else (f_Li_movedRegister q2.2.1 q2.2.2).bind (fun q3 => (f_Bd_writeRegister q3.2.1 q3.2.2 q3.1 q1.1).bind (fun q4 => f_Bd_fetchForList_42 q4.2.1 q4.2.2 q1.1))))
set_option maxHeartbeats 4000000 in
set_option maxRecDepth 100000 in
theorem c_Bd_fetchForList (l : Launch) (D : va_G) (cA : ClassId) (a : Nat → Nat) (S : SS) (M : MM) (q : RR) (h0 : f_Bd_fetchForList S M = some q) : Cv l y_Bd_fetchForList w_Bd_fetchForList rm_Bd_fetchForList D vCl [(cA, .int)] (AB a) (ZB a) (wB cA a) [.ref (a 0)] S M q := by
  refine Cv.of (cc := prog_1_method_19_code) (maxL := 2) (by decide) rfl (Nat.le_of_ble_eq_true rfl) ?_
  intro p e s m args below meth c Q hx hb hml hown hts hK hZ ret
  have hown : s.vm.findClass R_Bd = some m.cls := hown
  have hts : ∀ w ∈ TB, w.before args s = true := fun w h => hts w (List.mem_cons_of_mem _ h)
  have hZK := ZB_k a
  have k10 := hts _ tb_fl_Bd_10
  have k33 := hts _ tb_fl_Bd_33
  have k116 : (Cond.fieldLinkNest "SlotBoard" 116 "SlotBoard$BeamList" "address" "I" "SlotBoard").before args s = true := va_Nw.use rfl (hZ.2 _ (List.mem_of_getElem? (i := 2) rfl))
  have k79 := hts _ tb_fl_Bd_79
  have b42 : ∀ (S : SS) (M : MM) (x1 : Int32), f_Bd_fetchForList_42 S M x1 = some q → BK p l e rm_Bd_fetchForList s m args below meth c Q D vCl (AB a) (wB cA a) 2 42 [(0, .ref (a 0)), (1, .int x1)] [] S M := by
    intro S M x1 h H locs ls hl hP hD hS
    unfold f_Bd_fetchForList_42 at h
    exact ret _ _ _ _ _ _ _ h hP hD hS d_Bd_fetchForList_42
  intro H locs ls hl hP hD hS
  have hl : lv_has ls 2 [(0, .ref (a 0))] := hl
  have h := h0
  unfold f_Bd_fetchForList at h
  refine lv_aload_n hx hb d_Bd_fetchForList_0 rfl (lv_at hl 0 rfl) ?_
  refine va_get (D := D) (ci := 0) (v := .ref (a 1)) (C := R_Bd) (T := T_Bd) (N := 9) hx hb hts iBd hown hK hP 0 (wB_at0 _ _ _ _) rfl 0 (by decide) k10 (fun _ h9 => h9) rfl d_Bd_fetchForList_1 ?_
  refine lv_aload_n hx hb d_Bd_fetchForList_4 rfl (lv_at hl 0 rfl) ?_
  refine va_get (D := D) (ci := 0) (v := .ref (a 4)) (C := R_Bd) (T := T_Bd) (N := 9) hx hb hts iBd hown hK hP 0 (wB_at0 _ _ _ _) rfl 3 (by decide) k33 (fun _ h9 => h9) rfl d_Bd_fetchForList_5 ?_
  refine va_getN (D := D) (ci := 4) (v := .int (S 4)) (C := R_Li) (T := T_Li) (N := 6) hx hb hts iLi hown hK hP 4 (wB_at4 _ _ _ _) rfl 1 (by decide) k116 (fun _ h9 => h9) rfl d_Bd_fetchForList_8 ?_
  obtain ⟨⟨r1, S1, M1⟩, hc1, h⟩ := sg_b h
  dsimp only at h
  refine cvi (As := [.int (S 4)]) (rest := []) ⟨hx, hb, hml, hown, hts⟩ (c_Me_at l D cA a S M (S 4) _ hc1) ⟨callB_of 1 hts (tb_gi tb_cd_Me_at) rfl rfl rfl (hts _ tb_in_Me) (hts _ tb_ml_Bd_71) yd_Me_at ⟨Nat.le_of_ble_eq_true rfl, Nat.le_of_ble_eq_true rfl⟩, hts _ tb_im_Me_at, hts _ tb_se_Me_at⟩ hZK hK hZ hP hD hS 1 (wB_at1 _ _ _ _) rfl rfl hl.1 rfl (Nat.le_of_ble_eq_true rfl) d_Bd_fetchForList_11 (fun H locs hP hD hS => ?_)
  refine lv_istore_n (lv' := [(1, .int r1), (0, .ref (a 0))]) hx hb d_Bd_fetchForList_14 rfl hl (by decide) rfl (fun ls hl => ?_)
  refine lv_aload_n hx hb d_Bd_fetchForList_15 rfl (lv_at hl 1 rfl) ?_
  refine va_get (D := D) (ci := 0) (v := .ref (a 4)) (C := R_Bd) (T := T_Bd) (N := 9) hx hb hts iBd hown hK hP 0 (wB_at0 _ _ _ _) rfl 3 (by decide) k33 (fun _ h9 => h9) rfl d_Bd_fetchForList_16 ?_
  refine lv_iload_n hx hb d_Bd_fetchForList_19 rfl (lv_at hl 0 rfl) ?_
  refine lv_aload_n hx hb d_Bd_fetchForList_20 rfl (lv_at hl 1 rfl) ?_
  refine va_get (D := D) (ci := 0) (v := .int (S1 0)) (C := R_Bd) (T := T_Bd) (N := 9) hx hb hts iBd hown hK hP 0 (wB_at0 _ _ _ _) rfl 7 (by decide) k79 (fun _ h9 => h9) rfl d_Bd_fetchForList_21 ?_
  obtain ⟨⟨r2, S2, M2⟩, hc2, h⟩ := sg_b h
  dsimp only at h
  refine cvi (As := [.int r1, .int (S1 0)]) (rest := []) ⟨hx, hb, hml, hown, hts⟩ (c_Li_takeWord l D cA a S1 M1 r1 (S1 0) _ hc2) ⟨callB_of 2 hts (tb_gi tb_cd_Li_takeWord) rfl rfl rfl (hts _ tb_in_Li) (hts _ tb_ml_Bd_181) yd_Li_takeWord ⟨Nat.le_of_ble_eq_true rfl, Nat.le_of_ble_eq_true rfl⟩, hts _ tb_im_Li_takeWord, hts _ tb_se_Li_takeWord⟩ hZK hK hZ hP hD hS 4 (wB_at4 _ _ _ _) rfl rfl hl.1 rfl (Nat.le_of_ble_eq_true rfl) d_Bd_fetchForList_24 (fun H locs hP hD hS => ?_)
  refine lv_if_eq (tgt := 42) hx hb d_Bd_fetchForList_27 (by decide) (fun hc => ?_) (fun hc => ?_)
  · have h := sg_p hc h
    exact b42 _ _ _ h _ _ _ (lv_sub hl [1, 0] rfl) hP hD hS
  · have h := sg_n hc h
    refine lv_aload_n hx hb d_Bd_fetchForList_30 rfl (lv_at hl 1 rfl) ?_
    refine lv_aload_n hx hb d_Bd_fetchForList_31 rfl (lv_at hl 1 rfl) ?_
    refine va_get (D := D) (ci := 0) (v := .ref (a 4)) (C := R_Bd) (T := T_Bd) (N := 9) hx hb hts iBd hown hK hP 0 (wB_at0 _ _ _ _) rfl 3 (by decide) k33 (fun _ h9 => h9) rfl d_Bd_fetchForList_32 ?_
    obtain ⟨⟨r3, S3, M3⟩, hc3, h⟩ := sg_b h
    dsimp only at h
    refine cvi (As := []) (rest := [.ref (a 0)]) ⟨hx, hb, hml, hown, hts⟩ (c_Li_movedRegister l D cA a S2 M2 _ hc3) ⟨callB_of 0 hts (tb_gi tb_cd_Li_movedRegister) rfl rfl rfl (hts _ tb_in_Li) (hts _ tb_ml_Bd_184) yd_Li_movedRegister ⟨Nat.le_of_ble_eq_true rfl, Nat.le_of_ble_eq_true rfl⟩, hts _ tb_im_Li_movedRegister, hts _ tb_se_Li_movedRegister⟩ hZK hK hZ hP hD hS 4 (wB_at4 _ _ _ _) rfl rfl hl.1 rfl (Nat.le_of_ble_eq_true rfl) d_Bd_fetchForList_35 (fun H locs hP hD hS => ?_)
    refine lv_iload_n hx hb d_Bd_fetchForList_38 rfl (lv_at hl 0 rfl) ?_
    obtain ⟨⟨r4, S4, M4⟩, hc4, h⟩ := sg_b h
    dsimp only at h
    refine cvv (As := [.int r3, .int r1]) (rest := []) ⟨hx, hb, hml, hown, hts⟩ (c_Bd_writeRegister l D cA a S3 M3 r3 r1 _ hc4) ⟨callB_of 2 hts (tb_gi tb_cd_Bd_writeRegister) rfl rfl rfl (hts _ tb_in_Bd) (hts _ tb_ml_Bd_187) yd_Bd_writeRegister ⟨Nat.le_of_ble_eq_true rfl, Nat.le_of_ble_eq_true rfl⟩, hts _ tb_im_Bd_writeRegister, hts _ tb_se_Bd_writeRegister⟩ hZK hK hZ hP hD hS 0 (wB_at0 _ _ _ _) rfl rfl hl.1 rfl (Nat.le_of_ble_eq_true rfl) d_Bd_fetchForList_39 (fun H locs hP hD hS => ?_)
    exact b42 _ _ _ h _ _ _ (lv_sub hl [1, 0] rfl) hP hD hS
def f_Bd_doFirstAccess_84 (S : SS) (M : MM) (x1 : Int32) (x2 : Int32) : Option RR := (f_Pr_dropFirst S M).bind (fun q1 => some (0, q1.2.1, q1.2.2))
def f_Bd_doFirstAccess (S : SS) (M : MM) : Option RR := (f_Pr_firstTarget S M).bind (fun q2 => (f_Pr_firstValue q2.2.1 q2.2.2).bind (fun q3 => (f_Pr_firstKind q3.2.1 q3.2.2).bind (fun q4 => if q4.1 = (0 : Int32) then (f_Me_put q4.2.1 q4.2.2 q2.1 q3.1).bind (fun q5 => f_Bd_doFirstAccess_84 q5.2.1 q5.2.2 q2.1 q3.1) else if q4.1 = (1 : Int32) then (f_Me_at q4.2.1 q4.2.2 q2.1).bind (fun q6 => (f_Pr_load q6.2.1 q6.2.2 q6.1).bind (fun q7 => f_Bd_doFirstAccess_84 q7.2.1 q7.2.2 q2.1 q3.1)) else (f_Bd_writeRegister q4.2.1 q4.2.2 q2.1 q3.1).bind (fun q8 => f_Bd_doFirstAccess_84 q8.2.1 q8.2.2 q2.1 q3.1))))
set_option maxHeartbeats 4000000 in
set_option maxRecDepth 100000 in
theorem c_Bd_doFirstAccess (l : Launch) (D : va_G) (cA : ClassId) (a : Nat → Nat) (S : SS) (M : MM) (q : RR) (h0 : f_Bd_doFirstAccess S M = some q) : Cv l y_Bd_doFirstAccess w_Bd_doFirstAccess rm_Bd_doFirstAccess D vCl [(cA, .int)] (AB a) (ZB a) (wB cA a) [.ref (a 0)] S M q := by
  refine Cv.of (cc := prog_1_method_20_code) (maxL := 3) (by decide) rfl (Nat.le_of_ble_eq_true rfl) ?_
  intro p e s m args below meth c Q hx hb hml hown hts hK hZ ret
  have hown : s.vm.findClass R_Bd = some m.cls := hown
  have hts : ∀ w ∈ TB, w.before args s = true := fun w h => hts w (List.mem_cons_of_mem _ h)
  have hZK := ZB_k a
  have k47 := hts _ tb_fl_Bd_47
  have k10 := hts _ tb_fl_Bd_10
  have b84 : ∀ (S : SS) (M : MM) (x1 : Int32) (x2 : Int32), f_Bd_doFirstAccess_84 S M x1 x2 = some q → BK p l e rm_Bd_doFirstAccess s m args below meth c Q D vCl (AB a) (wB cA a) 3 84 [(0, .ref (a 0)), (1, .int x1), (2, .int x2)] [] S M := by
    intro S M x1 x2 h H locs ls hl hP hD hS
    unfold f_Bd_doFirstAccess_84 at h
    refine lv_aload_n hx hb d_Bd_doFirstAccess_84 rfl (lv_at hl 0 rfl) ?_
    refine va_get (D := D) (ci := 0) (v := .ref (a 6)) (C := R_Bd) (T := T_Bd) (N := 9) hx hb hts iBd hown hK hP 0 (wB_at0 _ _ _ _) rfl 5 (by decide) k47 (fun _ h9 => h9) rfl d_Bd_doFirstAccess_85 ?_
    obtain ⟨⟨r1, S1, M1⟩, hc1, h⟩ := sg_b h
    dsimp only at h
    refine cvv (As := []) (rest := []) ⟨hx, hb, hml, hown, hts⟩ (c_Pr_dropFirst l D cA a S M _ hc1) ⟨callB_of 0 hts (tb_gi tb_cd_Pr_dropFirst) rfl rfl rfl (hts _ tb_in_Pr) (hts _ tb_ml_Bd_202) yd_Pr_dropFirst ⟨Nat.le_of_ble_eq_true rfl, Nat.le_of_ble_eq_true rfl⟩, hts _ tb_im_Pr_dropFirst, hts _ tb_se_Pr_dropFirst⟩ hZK hK hZ hP hD hS 6 (wB_at6 _ _ _ _) rfl rfl hl.1 rfl (Nat.le_of_ble_eq_true rfl) d_Bd_doFirstAccess_88 (fun H locs hP hD hS => ?_)
    exact ret _ _ _ _ _ _ _ h hP hD hS d_Bd_doFirstAccess_91
  intro H locs ls hl hP hD hS
  have hl : lv_has ls 3 [(0, .ref (a 0))] := hl
  have h := h0
  unfold f_Bd_doFirstAccess at h
  refine lv_aload_n hx hb d_Bd_doFirstAccess_0 rfl (lv_at hl 0 rfl) ?_
  refine va_get (D := D) (ci := 0) (v := .ref (a 6)) (C := R_Bd) (T := T_Bd) (N := 9) hx hb hts iBd hown hK hP 0 (wB_at0 _ _ _ _) rfl 5 (by decide) k47 (fun _ h9 => h9) rfl d_Bd_doFirstAccess_1 ?_
  obtain ⟨⟨r2, S2, M2⟩, hc2, h⟩ := sg_b h
  dsimp only at h
  refine cvi (As := []) (rest := []) ⟨hx, hb, hml, hown, hts⟩ (c_Pr_firstTarget l D cA a S M _ hc2) ⟨callB_of 0 hts (tb_gi tb_cd_Pr_firstTarget) rfl rfl rfl (hts _ tb_in_Pr) (hts _ tb_ml_Bd_190) yd_Pr_firstTarget ⟨Nat.le_of_ble_eq_true rfl, Nat.le_of_ble_eq_true rfl⟩, hts _ tb_im_Pr_firstTarget, hts _ tb_se_Pr_firstTarget⟩ hZK hK hZ hP hD hS 6 (wB_at6 _ _ _ _) rfl rfl hl.1 rfl (Nat.le_of_ble_eq_true rfl) d_Bd_doFirstAccess_4 (fun H locs hP hD hS => ?_)
  refine lv_istore_n (lv' := [(1, .int r2), (0, .ref (a 0))]) hx hb d_Bd_doFirstAccess_7 rfl hl (by decide) rfl (fun ls hl => ?_)
  refine lv_aload_n hx hb d_Bd_doFirstAccess_8 rfl (lv_at hl 1 rfl) ?_
  refine va_get (D := D) (ci := 0) (v := .ref (a 6)) (C := R_Bd) (T := T_Bd) (N := 9) hx hb hts iBd hown hK hP 0 (wB_at0 _ _ _ _) rfl 5 (by decide) k47 (fun _ h9 => h9) rfl d_Bd_doFirstAccess_9 ?_
  obtain ⟨⟨r3, S3, M3⟩, hc3, h⟩ := sg_b h
  dsimp only at h
  refine cvi (As := []) (rest := []) ⟨hx, hb, hml, hown, hts⟩ (c_Pr_firstValue l D cA a S2 M2 _ hc3) ⟨callB_of 0 hts (tb_gi tb_cd_Pr_firstValue) rfl rfl rfl (hts _ tb_in_Pr) (hts _ tb_ml_Bd_193) yd_Pr_firstValue ⟨Nat.le_of_ble_eq_true rfl, Nat.le_of_ble_eq_true rfl⟩, hts _ tb_im_Pr_firstValue, hts _ tb_se_Pr_firstValue⟩ hZK hK hZ hP hD hS 6 (wB_at6 _ _ _ _) rfl rfl hl.1 rfl (Nat.le_of_ble_eq_true rfl) d_Bd_doFirstAccess_12 (fun H locs hP hD hS => ?_)
  refine lv_istore_n (lv' := [(2, .int r3), (1, .int r2), (0, .ref (a 0))]) hx hb d_Bd_doFirstAccess_15 rfl hl (by decide) rfl (fun ls hl => ?_)
  refine lv_aload_n hx hb d_Bd_doFirstAccess_16 rfl (lv_at hl 2 rfl) ?_
  refine va_get (D := D) (ci := 0) (v := .ref (a 6)) (C := R_Bd) (T := T_Bd) (N := 9) hx hb hts iBd hown hK hP 0 (wB_at0 _ _ _ _) rfl 5 (by decide) k47 (fun _ h9 => h9) rfl d_Bd_doFirstAccess_17 ?_
  obtain ⟨⟨r4, S4, M4⟩, hc4, h⟩ := sg_b h
  dsimp only at h
  refine cvi (As := []) (rest := []) ⟨hx, hb, hml, hown, hts⟩ (c_Pr_firstKind l D cA a S3 M3 _ hc4) ⟨callB_of 0 hts (tb_gi tb_cd_Pr_firstKind) rfl rfl rfl (hts _ tb_in_Pr) (hts _ tb_ml_Bd_196) yd_Pr_firstKind ⟨Nat.le_of_ble_eq_true rfl, Nat.le_of_ble_eq_true rfl⟩, hts _ tb_im_Pr_firstKind, hts _ tb_se_Pr_firstKind⟩ hZK hK hZ hP hD hS 6 (wB_at6 _ _ _ _) rfl rfl hl.1 rfl (Nat.le_of_ble_eq_true rfl) d_Bd_doFirstAccess_20 (fun H locs hP hD hS => ?_)
  by_cases hc : r4 = (0 : Int32)
  · have h := sg_p hc h
    refine cst_i (y := (0 : Int32)) hc ?_
    refine lv_lookup (off := 25) (tgt := 48) hx hb d_Bd_doFirstAccess_23 (by decide +kernel) (by decide +kernel) (by decide) ?_
    refine lv_aload_n hx hb d_Bd_doFirstAccess_48 rfl (lv_at hl 2 rfl) ?_
    refine va_get (D := D) (ci := 0) (v := .ref (a 1)) (C := R_Bd) (T := T_Bd) (N := 9) hx hb hts iBd hown hK hP 0 (wB_at0 _ _ _ _) rfl 0 (by decide) k10 (fun _ h9 => h9) rfl d_Bd_doFirstAccess_49 ?_
    refine lv_iload_n hx hb d_Bd_doFirstAccess_52 rfl (lv_at hl 1 rfl) ?_
    refine lv_iload_n hx hb d_Bd_doFirstAccess_53 rfl (lv_at hl 0 rfl) ?_
    obtain ⟨⟨r5, S5, M5⟩, hc5, h⟩ := sg_b h
    dsimp only at h
    refine cvv (As := [.int r2, .int r3]) (rest := []) ⟨hx, hb, hml, hown, hts⟩ (c_Me_put l D cA a S4 M4 r2 r3 _ hc5) ⟨callB_of 2 hts (tb_gi tb_cd_Me_put) rfl rfl rfl (hts _ tb_in_Me) (hts _ tb_ml_Bd_64) yd_Me_put ⟨Nat.le_of_ble_eq_true rfl, Nat.le_of_ble_eq_true rfl⟩, hts _ tb_im_Me_put, hts _ tb_se_Me_put⟩ hZK hK hZ hP hD hS 1 (wB_at1 _ _ _ _) rfl rfl hl.1 rfl (Nat.le_of_ble_eq_true rfl) d_Bd_doFirstAccess_54 (fun H locs hP hD hS => ?_)
    refine lv_goto (tgt := 84) hx hb d_Bd_doFirstAccess_57 (by decide) ?_
    exact b84 _ _ _ _ h _ _ _ (lv_sub hl [2, 1, 0] rfl) hP hD hS
  have h := sg_n hc h
  have hcn14 := hc
  by_cases hc : r4 = (1 : Int32)
  · have h := sg_p hc h
    refine cst_i (y := (1 : Int32)) hc ?_
    refine lv_lookup (off := 37) (tgt := 60) hx hb d_Bd_doFirstAccess_23 (by decide +kernel) (by decide +kernel) (by decide) ?_
    refine lv_aload_n hx hb d_Bd_doFirstAccess_60 rfl (lv_at hl 2 rfl) ?_
    refine va_get (D := D) (ci := 0) (v := .ref (a 6)) (C := R_Bd) (T := T_Bd) (N := 9) hx hb hts iBd hown hK hP 0 (wB_at0 _ _ _ _) rfl 5 (by decide) k47 (fun _ h9 => h9) rfl d_Bd_doFirstAccess_61 ?_
    refine lv_aload_n hx hb d_Bd_doFirstAccess_64 rfl (lv_at hl 2 rfl) ?_
    refine va_get (D := D) (ci := 0) (v := .ref (a 1)) (C := R_Bd) (T := T_Bd) (N := 9) hx hb hts iBd hown hK hP 0 (wB_at0 _ _ _ _) rfl 0 (by decide) k10 (fun _ h9 => h9) rfl d_Bd_doFirstAccess_65 ?_
    refine lv_iload_n hx hb d_Bd_doFirstAccess_68 rfl (lv_at hl 1 rfl) ?_
    obtain ⟨⟨r6, S6, M6⟩, hc6, h⟩ := sg_b h
    dsimp only at h
    refine cvi (As := [.int r2]) (rest := [.ref (a 6)]) ⟨hx, hb, hml, hown, hts⟩ (c_Me_at l D cA a S4 M4 r2 _ hc6) ⟨callB_of 1 hts (tb_gi tb_cd_Me_at) rfl rfl rfl (hts _ tb_in_Me) (hts _ tb_ml_Bd_71) yd_Me_at ⟨Nat.le_of_ble_eq_true rfl, Nat.le_of_ble_eq_true rfl⟩, hts _ tb_im_Me_at, hts _ tb_se_Me_at⟩ hZK hK hZ hP hD hS 1 (wB_at1 _ _ _ _) rfl rfl hl.1 rfl (Nat.le_of_ble_eq_true rfl) d_Bd_doFirstAccess_69 (fun H locs hP hD hS => ?_)
    obtain ⟨⟨r7, S7, M7⟩, hc7, h⟩ := sg_b h
    dsimp only at h
    refine cvv (As := [.int r6]) (rest := []) ⟨hx, hb, hml, hown, hts⟩ (c_Pr_load l D cA a S6 M6 r6 _ hc7) ⟨callB_of 1 hts (tb_gi tb_cd_Pr_load) rfl rfl rfl (hts _ tb_in_Pr) (hts _ tb_ml_Bd_199) yd_Pr_load ⟨Nat.le_of_ble_eq_true rfl, Nat.le_of_ble_eq_true rfl⟩, hts _ tb_im_Pr_load, hts _ tb_se_Pr_load⟩ hZK hK hZ hP hD hS 6 (wB_at6 _ _ _ _) rfl rfl hl.1 rfl (Nat.le_of_ble_eq_true rfl) d_Bd_doFirstAccess_72 (fun H locs hP hD hS => ?_)
    refine lv_goto (tgt := 84) hx hb d_Bd_doFirstAccess_75 (by decide) ?_
    exact b84 _ _ _ _ h _ _ _ (lv_sub hl [2, 1, 0] rfl) hP hD hS
  have h := sg_n hc h
  have hcn33 := hc
  refine lv_lookup (off := 55) (tgt := 78) hx hb d_Bd_doFirstAccess_23 (by decide +kernel) (by show Op.lookupswitch.offset [(0, 25), (1, 37)] _ _ = _; rw [lv_osw (k := (0 : Int32)) hcn14 (by decide)]; rw [lv_osw (k := (1 : Int32)) hcn33 (by decide)]; rfl) (by decide) ?_
  refine lv_aload_n hx hb d_Bd_doFirstAccess_78 rfl (lv_at hl 2 rfl) ?_
  refine lv_iload_n hx hb d_Bd_doFirstAccess_79 rfl (lv_at hl 1 rfl) ?_
  refine lv_iload_n hx hb d_Bd_doFirstAccess_80 rfl (lv_at hl 0 rfl) ?_
  obtain ⟨⟨r8, S8, M8⟩, hc8, h⟩ := sg_b h
  dsimp only at h
  refine cvv (As := [.int r2, .int r3]) (rest := []) ⟨hx, hb, hml, hown, hts⟩ (c_Bd_writeRegister l D cA a S4 M4 r2 r3 _ hc8) ⟨callB_of 2 hts (tb_gi tb_cd_Bd_writeRegister) rfl rfl rfl (hts _ tb_in_Bd) (hts _ tb_ml_Bd_187) yd_Bd_writeRegister ⟨Nat.le_of_ble_eq_true rfl, Nat.le_of_ble_eq_true rfl⟩, hts _ tb_im_Bd_writeRegister, hts _ tb_se_Bd_writeRegister⟩ hZK hK hZ hP hD hS 0 (wB_at0 _ _ _ _) rfl rfl hl.1 rfl (Nat.le_of_ble_eq_true rfl) d_Bd_doFirstAccess_81 (fun H locs hP hD hS => ?_)
  exact b84 _ _ _ _ h _ _ _ (lv_sub hl [2, 1, 0] rfl) hP hD hS
def f_Bd_doWorkOf_94 (S : SS) (M : MM) (x1 : Int32) (x2 : Int32) : Option RR := some (0, S, M)
def f_Bd_doWorkOf (S : SS) (M : MM) (x1 : Int32) (x2 : Int32) : Option RR := if x1 = (2 : Int32) then (f_Re_at S M (5 : Int32)).bind (fun q1 => (f_Pi_fetchAt q1.2.1 q1.2.2 x2 q1.1).bind (fun q2 => f_Bd_doWorkOf_94 q2.2.1 q2.2.2 x1 x2)) else if x1 = (3 : Int32) then (f_Bd_fetchForList S M).bind (fun q3 => f_Bd_doWorkOf_94 q3.2.1 q3.2.2 x1 x2) else if x1 = (4 : Int32) then (f_Pr_seeMoverSlot S M).bind (fun q4 => (f_Mo_takeSlot q4.2.1 q4.2.2).bind (fun q5 => f_Bd_doWorkOf_94 q5.2.1 q5.2.2 x1 x2)) else if x1 = (5 : Int32) then (f_Bd_doFirstAccess S M).bind (fun q6 => f_Bd_doWorkOf_94 q6.2.1 q6.2.2 x1 x2) else f_Bd_doWorkOf_94 S M x1 x2
set_option maxHeartbeats 4000000 in
set_option maxRecDepth 100000 in
theorem c_Bd_doWorkOf (l : Launch) (D : va_G) (cA : ClassId) (a : Nat → Nat) (S : SS) (M : MM) (x1 : Int32) (x2 : Int32) (q : RR) (h0 : f_Bd_doWorkOf S M x1 x2 = some q) : Cv l y_Bd_doWorkOf w_Bd_doWorkOf rm_Bd_doWorkOf D vCl [(cA, .int)] (AB a) (ZB a) (wB cA a) [.ref (a 0), .int x1, .int x2] S M q := by
  refine Cv.of (cc := prog_1_method_18_code) (maxL := 3) (by decide) rfl (Nat.le_of_ble_eq_true rfl) ?_
  intro p e s m args below meth c Q hx hb hml hown hts hK hZ ret
  have hown : s.vm.findClass R_Bd = some m.cls := hown
  have hts : ∀ w ∈ TB, w.before args s = true := fun w h => hts w (List.mem_cons_of_mem _ h)
  have hZK := ZB_k a
  have k26 := hts _ tb_fl_Bd_26
  have k10 := hts _ tb_fl_Bd_10
  have k19 := hts _ tb_fl_Bd_19
  have k47 := hts _ tb_fl_Bd_47
  have k40 := hts _ tb_fl_Bd_40
  have b94 : ∀ (S : SS) (M : MM) (x1 : Int32) (x2 : Int32), f_Bd_doWorkOf_94 S M x1 x2 = some q → BK p l e rm_Bd_doWorkOf s m args below meth c Q D vCl (AB a) (wB cA a) 3 94 [(0, .ref (a 0)), (1, .int x1), (2, .int x2)] [] S M := by
    intro S M x1 x2 h H locs ls hl hP hD hS
    unfold f_Bd_doWorkOf_94 at h
    exact ret _ _ _ _ _ _ _ h hP hD hS d_Bd_doWorkOf_94
  intro H locs ls hl hP hD hS
  have hl : lv_has ls 3 [(0, .ref (a 0)), (1, .int x1), (2, .int x2)] := hl
  have h := h0
  unfold f_Bd_doWorkOf at h
  refine lv_iload_n hx hb d_Bd_doWorkOf_0 rfl (lv_at hl 1 rfl) ?_
  by_cases hc : x1 = (2 : Int32)
  · have h := sg_p hc h
    refine cst_i (y := (2 : Int32)) hc ?_
    refine lv_tableIn (off := 31) (tgt := 32) hx hb d_Bd_doWorkOf_1 (by decide) (by decide) (by decide +kernel) (by decide) ?_
    refine lv_aload_n hx hb d_Bd_doWorkOf_32 rfl (lv_at hl 0 rfl) ?_
    refine va_get (D := D) (ci := 0) (v := .ref (a 3)) (C := R_Bd) (T := T_Bd) (N := 9) hx hb hts iBd hown hK hP 0 (wB_at0 _ _ _ _) rfl 2 (by decide) k26 (fun _ h9 => h9) rfl d_Bd_doWorkOf_33 ?_
    refine lv_iload_n hx hb d_Bd_doWorkOf_36 rfl (lv_at hl 2 rfl) ?_
    refine lv_aload_n hx hb d_Bd_doWorkOf_37 rfl (lv_at hl 0 rfl) ?_
    refine va_get (D := D) (ci := 0) (v := .ref (a 1)) (C := R_Bd) (T := T_Bd) (N := 9) hx hb hts iBd hown hK hP 0 (wB_at0 _ _ _ _) rfl 0 (by decide) k10 (fun _ h9 => h9) rfl d_Bd_doWorkOf_38 ?_
    refine lv_aload_n hx hb d_Bd_doWorkOf_41 rfl (lv_at hl 0 rfl) ?_
    refine va_get (D := D) (ci := 0) (v := .ref (a 2)) (C := R_Bd) (T := T_Bd) (N := 9) hx hb hts iBd hown hK hP 0 (wB_at0 _ _ _ _) rfl 1 (by decide) k19 (fun _ h9 => h9) rfl d_Bd_doWorkOf_42 ?_
    refine lv_iconst (v := (5 : Int32)) hx hb d_Bd_doWorkOf_45 (by decide) ?_
    obtain ⟨⟨r1, S1, M1⟩, hc1, h⟩ := sg_b h
    dsimp only at h
    refine cvi (As := [.int (5 : Int32)]) (rest := [.ref (a 1), .int x2, .ref (a 3)]) ⟨hx, hb, hml, hown, hts⟩ (c_Re_at l D cA a S M (5 : Int32) _ hc1) ⟨callB_of 1 hts (tb_gi tb_cd_Re_at) rfl rfl rfl (hts _ tb_in_Re) (hts _ tb_ml_Bd_119) yd_Re_at ⟨Nat.le_of_ble_eq_true rfl, Nat.le_of_ble_eq_true rfl⟩, hts _ tb_im_Re_at, hts _ tb_se_Re_at⟩ hZK hK hZ hP hD hS 2 (wB_at2 _ _ _ _) rfl rfl hl.1 rfl (Nat.le_of_ble_eq_true rfl) d_Bd_doWorkOf_46 (fun H locs hP hD hS => ?_)
    obtain ⟨⟨r2, S2, M2⟩, hc2, h⟩ := sg_b h
    dsimp only at h
    refine cvv (As := [.int x2, .ref (a 1), .int r1]) (rest := []) ⟨hx, hb, hml, hown, hts⟩ (c_Pi_fetchAt l D cA a S1 M1 x2 r1 _ hc2) ⟨callB_of 3 hts (tb_gi tb_cd_Pi_fetchAt) rfl rfl rfl (hts _ tb_in_Pi) (hts _ tb_ml_Bd_164) yd_Pi_fetchAt ⟨Nat.le_of_ble_eq_true rfl, Nat.le_of_ble_eq_true rfl⟩, hts _ tb_im_Pi_fetchAt, hts _ tb_se_Pi_fetchAt⟩ hZK hK hZ hP hD hS 3 (wB_at3 _ _ _ _) rfl rfl hl.1 rfl (Nat.le_of_ble_eq_true rfl) d_Bd_doWorkOf_49 (fun H locs hP hD hS => ?_)
    refine lv_goto (tgt := 94) hx hb d_Bd_doWorkOf_52 (by decide) ?_
    exact b94 _ _ _ _ h _ _ _ (lv_sub hl [0, 1, 2] rfl) hP hD hS
  have h := sg_n hc h
  have hcn21 := hc
  by_cases hc : x1 = (3 : Int32)
  · have h := sg_p hc h
    refine cst_i (y := (3 : Int32)) hc ?_
    refine lv_tableIn (off := 54) (tgt := 55) hx hb d_Bd_doWorkOf_1 (by decide) (by decide) (by decide +kernel) (by decide) ?_
    refine lv_aload_n hx hb d_Bd_doWorkOf_55 rfl (lv_at hl 0 rfl) ?_
    obtain ⟨⟨r3, S3, M3⟩, hc3, h⟩ := sg_b h
    dsimp only at h
    refine cvv (As := []) (rest := []) ⟨hx, hb, hml, hown, hts⟩ (c_Bd_fetchForList l D cA a S M _ hc3) ⟨callB_of 0 hts (tb_gi tb_cd_Bd_fetchForList) rfl rfl rfl (hts _ tb_in_Bd) (hts _ tb_ml_Bd_168) yd_Bd_fetchForList ⟨Nat.le_of_ble_eq_true rfl, Nat.le_of_ble_eq_true rfl⟩, hts _ tb_im_Bd_fetchForList, hts _ tb_se_Bd_fetchForList⟩ hZK hK hZ hP hD hS 0 (wB_at0 _ _ _ _) rfl rfl hl.1 rfl (Nat.le_of_ble_eq_true rfl) d_Bd_doWorkOf_56 (fun H locs hP hD hS => ?_)
    refine lv_goto (tgt := 94) hx hb d_Bd_doWorkOf_59 (by decide) ?_
    exact b94 _ _ _ _ h _ _ _ (lv_sub hl [0, 1, 2] rfl) hP hD hS
  have h := sg_n hc h
  have hcn33 := hc
  by_cases hc : x1 = (4 : Int32)
  · have h := sg_p hc h
    refine cst_i (y := (4 : Int32)) hc ?_
    refine lv_tableIn (off := 61) (tgt := 62) hx hb d_Bd_doWorkOf_1 (by decide) (by decide) (by decide +kernel) (by decide) ?_
    refine lv_aload_n hx hb d_Bd_doWorkOf_62 rfl (lv_at hl 0 rfl) ?_
    refine va_get (D := D) (ci := 0) (v := .ref (a 6)) (C := R_Bd) (T := T_Bd) (N := 9) hx hb hts iBd hown hK hP 0 (wB_at0 _ _ _ _) rfl 5 (by decide) k47 (fun _ h9 => h9) rfl d_Bd_doWorkOf_63 ?_
    obtain ⟨⟨r4, S4, M4⟩, hc4, h⟩ := sg_b h
    dsimp only at h
    refine cvv (As := []) (rest := []) ⟨hx, hb, hml, hown, hts⟩ (c_Pr_seeMoverSlot l D cA a S M _ hc4) ⟨callB_of 0 hts (tb_gi tb_cd_Pr_seeMoverSlot) rfl rfl rfl (hts _ tb_in_Pr) (hts _ tb_ml_Bd_171) yd_Pr_seeMoverSlot ⟨Nat.le_of_ble_eq_true rfl, Nat.le_of_ble_eq_true rfl⟩, hts _ tb_im_Pr_seeMoverSlot, hts _ tb_se_Pr_seeMoverSlot⟩ hZK hK hZ hP hD hS 6 (wB_at6 _ _ _ _) rfl rfl hl.1 rfl (Nat.le_of_ble_eq_true rfl) d_Bd_doWorkOf_66 (fun H locs hP hD hS => ?_)
    refine lv_aload_n hx hb d_Bd_doWorkOf_69 rfl (lv_at hl 0 rfl) ?_
    refine va_get (D := D) (ci := 0) (v := .ref (a 5)) (C := R_Bd) (T := T_Bd) (N := 9) hx hb hts iBd hown hK hP 0 (wB_at0 _ _ _ _) rfl 4 (by decide) k40 (fun _ h9 => h9) rfl d_Bd_doWorkOf_70 ?_
    refine lv_aload_n hx hb d_Bd_doWorkOf_73 rfl (lv_at hl 0 rfl) ?_
    refine va_get (D := D) (ci := 0) (v := .ref (a 1)) (C := R_Bd) (T := T_Bd) (N := 9) hx hb hts iBd hown hK hP 0 (wB_at0 _ _ _ _) rfl 0 (by decide) k10 (fun _ h9 => h9) rfl d_Bd_doWorkOf_74 ?_
    refine lv_aload_n hx hb d_Bd_doWorkOf_77 rfl (lv_at hl 0 rfl) ?_
    refine va_get (D := D) (ci := 0) (v := .ref (a 2)) (C := R_Bd) (T := T_Bd) (N := 9) hx hb hts iBd hown hK hP 0 (wB_at0 _ _ _ _) rfl 1 (by decide) k19 (fun _ h9 => h9) rfl d_Bd_doWorkOf_78 ?_
    obtain ⟨⟨r5, S5, M5⟩, hc5, h⟩ := sg_b h
    dsimp only at h
    refine cvv (As := [.ref (a 1), .ref (a 2)]) (rest := []) ⟨hx, hb, hml, hown, hts⟩ (c_Mo_takeSlot l D cA a S4 M4 _ hc5) ⟨callB_of 2 hts (tb_gi tb_cd_Mo_takeSlot) rfl rfl rfl (hts _ tb_in_Mo) (hts _ tb_ml_Bd_174) yd_Mo_takeSlot ⟨Nat.le_of_ble_eq_true rfl, Nat.le_of_ble_eq_true rfl⟩, hts _ tb_im_Mo_takeSlot, hts _ tb_se_Mo_takeSlot⟩ hZK hK hZ hP hD hS 5 (wB_at5 _ _ _ _) rfl rfl hl.1 rfl (Nat.le_of_ble_eq_true rfl) d_Bd_doWorkOf_81 (fun H locs hP hD hS => ?_)
    refine lv_goto (tgt := 94) hx hb d_Bd_doWorkOf_84 (by decide) ?_
    exact b94 _ _ _ _ h _ _ _ (lv_sub hl [0, 1, 2] rfl) hP hD hS
  have h := sg_n hc h
  have hcn55 := hc
  by_cases hc : x1 = (5 : Int32)
  · have h := sg_p hc h
    refine cst_i (y := (5 : Int32)) hc ?_
    refine lv_tableIn (off := 86) (tgt := 87) hx hb d_Bd_doWorkOf_1 (by decide) (by decide) (by decide +kernel) (by decide) ?_
    refine lv_aload_n hx hb d_Bd_doWorkOf_87 rfl (lv_at hl 0 rfl) ?_
    obtain ⟨⟨r6, S6, M6⟩, hc6, h⟩ := sg_b h
    dsimp only at h
    refine cvv (As := []) (rest := []) ⟨hx, hb, hml, hown, hts⟩ (c_Bd_doFirstAccess l D cA a S M _ hc6) ⟨callB_of 0 hts (tb_gi tb_cd_Bd_doFirstAccess) rfl rfl rfl (hts _ tb_in_Bd) (hts _ tb_ml_Bd_178) yd_Bd_doFirstAccess ⟨Nat.le_of_ble_eq_true rfl, Nat.le_of_ble_eq_true rfl⟩, hts _ tb_im_Bd_doFirstAccess, hts _ tb_se_Bd_doFirstAccess⟩ hZK hK hZ hP hD hS 0 (wB_at0 _ _ _ _) rfl rfl hl.1 rfl (Nat.le_of_ble_eq_true rfl) d_Bd_doWorkOf_88 (fun H locs hP hD hS => ?_)
    refine lv_goto (tgt := 94) hx hb d_Bd_doWorkOf_91 (by decide) ?_
    exact b94 _ _ _ _ h _ _ _ (lv_sub hl [0, 1, 2] rfl) hP hD hS
  have h := sg_n hc h
  have hcn67 := hc
  refine lv_tableOut (tgt := 94) hx hb d_Bd_doWorkOf_1 (by have := lv_neT (a := 2) hcn21 (by decide); have := lv_neT (a := 3) hcn33 (by decide); have := lv_neT (a := 4) hcn55 (by decide); have := lv_neT (a := 5) hcn67 (by decide); omega) (by decide) ?_
  exact b94 _ _ _ _ h _ _ _ (lv_sub hl [0, 1, 2] rfl) hP hD hS
def f_Bd_oneIf_9 (S : SS) (M : MM) (x0 : Int32) (y0 : Int32) : Option RR := some (y0, S, M)
def f_Bd_oneIf (S : SS) (M : MM) (x0 : Int32) : Option RR := if x0 = 0 then f_Bd_oneIf_9 S M x0 (0 : Int32) else f_Bd_oneIf_9 S M x0 (1 : Int32)
set_option maxHeartbeats 4000000 in
set_option maxRecDepth 100000 in
theorem c_Bd_oneIf (l : Launch) (D : va_G) (cA : ClassId) (a : Nat → Nat) (S : SS) (M : MM) (x0 : Int32) (q : RR) (h0 : f_Bd_oneIf S M x0 = some q) : Ci l y_Bd_oneIf w_Bd_oneIf rm_Bd_oneIf D vCl [(cA, .int)] (AB a) (ZB a) (wB cA a) [.int x0] S M q := by
  refine Ci.of (cc := prog_1_method_13_code) (maxL := 1) (ty := .int) (by decide) rfl (Nat.le_of_ble_eq_true rfl) ?_
  intro p e s m args below meth c Q hx hb hml hown hts hK hZ ret
  have hown : s.vm.findClass R_Bd = some m.cls := hown
  have hts : ∀ w ∈ TB, w.before args s = true := fun w h => hts w (List.mem_cons_of_mem _ h)
  have hZK := ZB_k a
  have b9 : ∀ (S : SS) (M : MM) (x0 : Int32) (y0 : Int32), f_Bd_oneIf_9 S M x0 y0 = some q → BK p l e rm_Bd_oneIf s m args below meth c Q D vCl (AB a) (wB cA a) 1 9 [(0, .int x0)] [.int y0] S M := by
    intro S M x0 y0 h H locs ls hl hP hD hS
    unfold f_Bd_oneIf_9 at h
    exact ret _ _ _ _ _ _ _ h rfl hP hD hS d_Bd_oneIf_9
  intro H locs ls hl hP hD hS
  have hl : lv_has ls 1 [(0, .int x0)] := hl
  have h := h0
  unfold f_Bd_oneIf at h
  refine lv_iload_n hx hb d_Bd_oneIf_0 rfl (lv_at hl 0 rfl) ?_
  refine lv_if_eq (tgt := 8) hx hb d_Bd_oneIf_1 (by decide) (fun hc => ?_) (fun hc => ?_)
  · have h := sg_p hc h
    refine lv_iconst (v := (0 : Int32)) hx hb d_Bd_oneIf_8 (by decide) ?_
    exact b9 _ _ _ _ h _ _ _ (lv_sub hl [0] rfl) hP hD hS
  · have h := sg_n hc h
    refine lv_iconst (v := (1 : Int32)) hx hb d_Bd_oneIf_4 (by decide) ?_
    refine lv_goto (tgt := 9) hx hb d_Bd_oneIf_5 (by decide) ?_
    exact b9 _ _ _ _ h _ _ _ (lv_sub hl [0] rfl) hP hD hS
