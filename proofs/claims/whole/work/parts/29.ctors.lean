theorem cA_eq {D : va_G} {cl : List vw_C} {cA cB : ClassId} {s : State} (h : va_K D cl [(cA, .int)] s) (h2 : va_K D cl [(cB, .int)] s) : cA = cB := by
  have a : va_RA s cA .int := (h.2 0 (cA, .int) rfl).2
  have b : va_RA s cB .int := (h2.2 0 (cB, .int) rfl).2
  exact Option.some.inj (a.symm.trans b)
def ad (l : List Nat) : Nat → Nat := fun k => l.getD k 0
def nestMQ : List (Nat × MethodName) := [(9, y_Me_init), (18, y_Re_init), (25, y_Pi_init), (32, y_Li_init), (39, y_Mo_init), (46, y_Pr_init)]
def nestMW : List Cond := nestMQ.map (fun q => Cond.methodLinkNest "SlotBoard" q.1 q.2 "SlotBoard")
def w_Me_init : List Cond := Cond.code y_Me_init prog_3_method_1_code 1 none :: TB
theorem d_Me_init_0 : decode prog_3_method_1_code 0 = .ok (.aload_n 0, 1) := by decide +kernel
theorem d_Me_init_1 : decode prog_3_method_1_code 1 = .ok (.invokespecial 3, 3) := by decide +kernel
theorem d_Me_init_4 : decode prog_3_method_1_code 4 = .ok (.aload_n 0, 1) := by decide +kernel
theorem d_Me_init_5 : decode prog_3_method_1_code 5 = .ok (.sipush 256, 3) := by decide +kernel
theorem d_Me_init_8 : decode prog_3_method_1_code 8 = .ok (.newarray .int, 2) := by decide +kernel
theorem d_Me_init_10 : decode prog_3_method_1_code 10 = .ok (.putfield 11, 3) := by decide +kernel
theorem d_Me_init_13 : decode prog_3_method_1_code 13 = .ok (.return_, 1) := by decide +kernel
theorem yd_Me_init : y_Me_init.cls ≠ "java/lang/invoke/MethodHandle" ∧ y_Me_init.cls ≠ "java/lang/invoke/VarHandle" ∧ (parseMethodDescriptor y_Me_init.desc).map (fun d => d.parameters.length) = some 0 := by decide +kernel
def w_Re_init : List Cond := Cond.code y_Re_init prog_7_method_1_code 1 none :: TB
theorem d_Re_init_0 : decode prog_7_method_1_code 0 = .ok (.aload_n 0, 1) := by decide +kernel
theorem d_Re_init_1 : decode prog_7_method_1_code 1 = .ok (.invokespecial 1, 3) := by decide +kernel
theorem d_Re_init_4 : decode prog_7_method_1_code 4 = .ok (.aload_n 0, 1) := by decide +kernel
theorem d_Re_init_5 : decode prog_7_method_1_code 5 = .ok (.bipush 28, 2) := by decide +kernel
theorem d_Re_init_7 : decode prog_7_method_1_code 7 = .ok (.newarray .int, 2) := by decide +kernel
theorem d_Re_init_9 : decode prog_7_method_1_code 9 = .ok (.putfield 9, 3) := by decide +kernel
theorem d_Re_init_12 : decode prog_7_method_1_code 12 = .ok (.return_, 1) := by decide +kernel
theorem yd_Re_init : y_Re_init.cls ≠ "java/lang/invoke/MethodHandle" ∧ y_Re_init.cls ≠ "java/lang/invoke/VarHandle" ∧ (parseMethodDescriptor y_Re_init.desc).map (fun d => d.parameters.length) = some 0 := by decide +kernel
def w_Pi_init : List Cond := Cond.code y_Pi_init prog_5_method_1_code 1 none :: TB
theorem d_Pi_init_0 : decode prog_5_method_1_code 0 = .ok (.aload_n 0, 1) := by decide +kernel
theorem d_Pi_init_1 : decode prog_5_method_1_code 1 = .ok (.invokespecial 3, 3) := by decide +kernel
theorem d_Pi_init_4 : decode prog_5_method_1_code 4 = .ok (.aload_n 0, 1) := by decide +kernel
theorem d_Pi_init_5 : decode prog_5_method_1_code 5 = .ok (.iconst 2, 1) := by decide +kernel
theorem d_Pi_init_6 : decode prog_5_method_1_code 6 = .ok (.newarray .int, 2) := by decide +kernel
theorem d_Pi_init_8 : decode prog_5_method_1_code 8 = .ok (.putfield 11, 3) := by decide +kernel
theorem d_Pi_init_11 : decode prog_5_method_1_code 11 = .ok (.aload_n 0, 1) := by decide +kernel
theorem d_Pi_init_12 : decode prog_5_method_1_code 12 = .ok (.iconst 2, 1) := by decide +kernel
theorem d_Pi_init_13 : decode prog_5_method_1_code 13 = .ok (.newarray .int, 2) := by decide +kernel
theorem d_Pi_init_15 : decode prog_5_method_1_code 15 = .ok (.putfield 15, 3) := by decide +kernel
theorem d_Pi_init_18 : decode prog_5_method_1_code 18 = .ok (.aload_n 0, 1) := by decide +kernel
theorem d_Pi_init_19 : decode prog_5_method_1_code 19 = .ok (.iconst 2, 1) := by decide +kernel
theorem d_Pi_init_20 : decode prog_5_method_1_code 20 = .ok (.newarray .int, 2) := by decide +kernel
theorem d_Pi_init_22 : decode prog_5_method_1_code 22 = .ok (.putfield 18, 3) := by decide +kernel
theorem d_Pi_init_25 : decode prog_5_method_1_code 25 = .ok (.aload_n 0, 1) := by decide +kernel
theorem d_Pi_init_26 : decode prog_5_method_1_code 26 = .ok (.sipush 384, 3) := by decide +kernel
theorem d_Pi_init_29 : decode prog_5_method_1_code 29 = .ok (.newarray .int, 2) := by decide +kernel
theorem d_Pi_init_31 : decode prog_5_method_1_code 31 = .ok (.putfield 21, 3) := by decide +kernel
theorem d_Pi_init_34 : decode prog_5_method_1_code 34 = .ok (.return_, 1) := by decide +kernel
theorem yd_Pi_init : y_Pi_init.cls ≠ "java/lang/invoke/MethodHandle" ∧ y_Pi_init.cls ≠ "java/lang/invoke/VarHandle" ∧ (parseMethodDescriptor y_Pi_init.desc).map (fun d => d.parameters.length) = some 0 := by decide +kernel
def w_Li_init : List Cond := Cond.code y_Li_init prog_2_method_1_code 1 none :: TB
theorem d_Li_init_0 : decode prog_2_method_1_code 0 = .ok (.aload_n 0, 1) := by decide +kernel
theorem d_Li_init_1 : decode prog_2_method_1_code 1 = .ok (.invokespecial 3, 3) := by decide +kernel
theorem d_Li_init_4 : decode prog_2_method_1_code 4 = .ok (.aload_n 0, 1) := by decide +kernel
theorem d_Li_init_5 : decode prog_2_method_1_code 5 = .ok (.iconst 0, 1) := by decide +kernel
theorem d_Li_init_6 : decode prog_2_method_1_code 6 = .ok (.putfield 11, 3) := by decide +kernel
theorem d_Li_init_9 : decode prog_2_method_1_code 9 = .ok (.return_, 1) := by decide +kernel
theorem yd_Li_init : y_Li_init.cls ≠ "java/lang/invoke/MethodHandle" ∧ y_Li_init.cls ≠ "java/lang/invoke/VarHandle" ∧ (parseMethodDescriptor y_Li_init.desc).map (fun d => d.parameters.length) = some 0 := by decide +kernel
def w_Mo_init : List Cond := Cond.code y_Mo_init prog_4_method_1_code 1 none :: TB
theorem d_Mo_init_0 : decode prog_4_method_1_code 0 = .ok (.aload_n 0, 1) := by decide +kernel
theorem d_Mo_init_1 : decode prog_4_method_1_code 1 = .ok (.invokespecial 3, 3) := by decide +kernel
theorem d_Mo_init_4 : decode prog_4_method_1_code 4 = .ok (.aload_n 0, 1) := by decide +kernel
theorem d_Mo_init_5 : decode prog_4_method_1_code 5 = .ok (.iconst 3, 1) := by decide +kernel
theorem d_Mo_init_6 : decode prog_4_method_1_code 6 = .ok (.newarray .int, 2) := by decide +kernel
theorem d_Mo_init_8 : decode prog_4_method_1_code 8 = .ok (.putfield 11, 3) := by decide +kernel
theorem d_Mo_init_11 : decode prog_4_method_1_code 11 = .ok (.return_, 1) := by decide +kernel
theorem yd_Mo_init : y_Mo_init.cls ≠ "java/lang/invoke/MethodHandle" ∧ y_Mo_init.cls ≠ "java/lang/invoke/VarHandle" ∧ (parseMethodDescriptor y_Mo_init.desc).map (fun d => d.parameters.length) = some 0 := by decide +kernel
def w_Pr_init : List Cond := Cond.code y_Pr_init prog_6_method_1_code 1 none :: TB
theorem d_Pr_init_0 : decode prog_6_method_1_code 0 = .ok (.aload_n 0, 1) := by decide +kernel
theorem d_Pr_init_1 : decode prog_6_method_1_code 1 = .ok (.invokespecial 1, 3) := by decide +kernel
theorem d_Pr_init_4 : decode prog_6_method_1_code 4 = .ok (.aload_n 0, 1) := by decide +kernel
theorem d_Pr_init_5 : decode prog_6_method_1_code 5 = .ok (.bipush 8, 2) := by decide +kernel
theorem d_Pr_init_7 : decode prog_6_method_1_code 7 = .ok (.newarray .int, 2) := by decide +kernel
theorem d_Pr_init_9 : decode prog_6_method_1_code 9 = .ok (.putfield 9, 3) := by decide +kernel
theorem d_Pr_init_12 : decode prog_6_method_1_code 12 = .ok (.aload_n 0, 1) := by decide +kernel
theorem d_Pr_init_13 : decode prog_6_method_1_code 13 = .ok (.bipush 8, 2) := by decide +kernel
theorem d_Pr_init_15 : decode prog_6_method_1_code 15 = .ok (.newarray .int, 2) := by decide +kernel
theorem d_Pr_init_17 : decode prog_6_method_1_code 17 = .ok (.putfield 13, 3) := by decide +kernel
theorem d_Pr_init_20 : decode prog_6_method_1_code 20 = .ok (.aload_n 0, 1) := by decide +kernel
theorem d_Pr_init_21 : decode prog_6_method_1_code 21 = .ok (.bipush 8, 2) := by decide +kernel
theorem d_Pr_init_23 : decode prog_6_method_1_code 23 = .ok (.newarray .int, 2) := by decide +kernel
theorem d_Pr_init_25 : decode prog_6_method_1_code 25 = .ok (.putfield 16, 3) := by decide +kernel
theorem d_Pr_init_28 : decode prog_6_method_1_code 28 = .ok (.return_, 1) := by decide +kernel
theorem yd_Pr_init : y_Pr_init.cls ≠ "java/lang/invoke/MethodHandle" ∧ y_Pr_init.cls ≠ "java/lang/invoke/VarHandle" ∧ (parseMethodDescriptor y_Pr_init.desc).map (fun d => d.parameters.length) = some 0 := by decide +kernel
def w_Bd_init : List Cond := Cond.code y_Bd_init prog_1_method_1_code 1 none :: TB
theorem d_Bd_init_0 : decode prog_1_method_1_code 0 = .ok (.aload_n 0, 1) := by decide +kernel
theorem d_Bd_init_1 : decode prog_1_method_1_code 1 = .ok (.invokespecial 1, 3) := by decide +kernel
theorem d_Bd_init_4 : decode prog_1_method_1_code 4 = .ok (.aload_n 0, 1) := by decide +kernel
theorem d_Bd_init_5 : decode prog_1_method_1_code 5 = .ok (.new 7, 3) := by decide +kernel
theorem d_Bd_init_8 : decode prog_1_method_1_code 8 = .ok (.dup, 1) := by decide +kernel
theorem d_Bd_init_9 : decode prog_1_method_1_code 9 = .ok (.invokespecial 9, 3) := by decide +kernel
theorem d_Bd_init_12 : decode prog_1_method_1_code 12 = .ok (.putfield 10, 3) := by decide +kernel
theorem d_Bd_init_15 : decode prog_1_method_1_code 15 = .ok (.aload_n 0, 1) := by decide +kernel
theorem d_Bd_init_16 : decode prog_1_method_1_code 16 = .ok (.new 16, 3) := by decide +kernel
theorem d_Bd_init_19 : decode prog_1_method_1_code 19 = .ok (.dup, 1) := by decide +kernel
theorem d_Bd_init_20 : decode prog_1_method_1_code 20 = .ok (.invokespecial 18, 3) := by decide +kernel
theorem d_Bd_init_23 : decode prog_1_method_1_code 23 = .ok (.putfield 19, 3) := by decide +kernel
theorem d_Bd_init_26 : decode prog_1_method_1_code 26 = .ok (.aload_n 0, 1) := by decide +kernel
theorem d_Bd_init_27 : decode prog_1_method_1_code 27 = .ok (.new 23, 3) := by decide +kernel
theorem d_Bd_init_30 : decode prog_1_method_1_code 30 = .ok (.dup, 1) := by decide +kernel
theorem d_Bd_init_31 : decode prog_1_method_1_code 31 = .ok (.invokespecial 25, 3) := by decide +kernel
theorem d_Bd_init_34 : decode prog_1_method_1_code 34 = .ok (.putfield 26, 3) := by decide +kernel
theorem d_Bd_init_37 : decode prog_1_method_1_code 37 = .ok (.aload_n 0, 1) := by decide +kernel
theorem d_Bd_init_38 : decode prog_1_method_1_code 38 = .ok (.new 30, 3) := by decide +kernel
theorem d_Bd_init_41 : decode prog_1_method_1_code 41 = .ok (.dup, 1) := by decide +kernel
theorem d_Bd_init_42 : decode prog_1_method_1_code 42 = .ok (.invokespecial 32, 3) := by decide +kernel
theorem d_Bd_init_45 : decode prog_1_method_1_code 45 = .ok (.putfield 33, 3) := by decide +kernel
theorem d_Bd_init_48 : decode prog_1_method_1_code 48 = .ok (.aload_n 0, 1) := by decide +kernel
theorem d_Bd_init_49 : decode prog_1_method_1_code 49 = .ok (.new 37, 3) := by decide +kernel
theorem d_Bd_init_52 : decode prog_1_method_1_code 52 = .ok (.dup, 1) := by decide +kernel
theorem d_Bd_init_53 : decode prog_1_method_1_code 53 = .ok (.invokespecial 39, 3) := by decide +kernel
theorem d_Bd_init_56 : decode prog_1_method_1_code 56 = .ok (.putfield 40, 3) := by decide +kernel
theorem d_Bd_init_59 : decode prog_1_method_1_code 59 = .ok (.aload_n 0, 1) := by decide +kernel
theorem d_Bd_init_60 : decode prog_1_method_1_code 60 = .ok (.new 44, 3) := by decide +kernel
theorem d_Bd_init_63 : decode prog_1_method_1_code 63 = .ok (.dup, 1) := by decide +kernel
theorem d_Bd_init_64 : decode prog_1_method_1_code 64 = .ok (.invokespecial 46, 3) := by decide +kernel
theorem d_Bd_init_67 : decode prog_1_method_1_code 67 = .ok (.putfield 47, 3) := by decide +kernel
theorem d_Bd_init_70 : decode prog_1_method_1_code 70 = .ok (.aload_n 0, 1) := by decide +kernel
theorem d_Bd_init_71 : decode prog_1_method_1_code 71 = .ok (.bipush 6, 2) := by decide +kernel
theorem d_Bd_init_73 : decode prog_1_method_1_code 73 = .ok (.newarray .int, 2) := by decide +kernel
theorem d_Bd_init_75 : decode prog_1_method_1_code 75 = .ok (.putfield 51, 3) := by decide +kernel
theorem d_Bd_init_78 : decode prog_1_method_1_code 78 = .ok (.return_, 1) := by decide +kernel
theorem yd_Bd_init : y_Bd_init.cls ≠ "java/lang/invoke/MethodHandle" ∧ y_Bd_init.cls ≠ "java/lang/invoke/VarHandle" ∧ (parseMethodDescriptor y_Bd_init.desc).map (fun d => d.parameters.length) = some 0 := by decide +kernel
def w_Md_init : List Cond := Cond.code y_Md_init prog_9_method_1_code 1 none :: TB
theorem d_Md_init_0 : decode prog_9_method_1_code 0 = .ok (.aload_n 0, 1) := by decide +kernel
theorem d_Md_init_1 : decode prog_9_method_1_code 1 = .ok (.invokespecial 1, 3) := by decide +kernel
theorem d_Md_init_4 : decode prog_9_method_1_code 4 = .ok (.aload_n 0, 1) := by decide +kernel
theorem d_Md_init_5 : decode prog_9_method_1_code 5 = .ok (.sipush 256, 3) := by decide +kernel
theorem d_Md_init_8 : decode prog_9_method_1_code 8 = .ok (.newarray .int, 2) := by decide +kernel
theorem d_Md_init_10 : decode prog_9_method_1_code 10 = .ok (.putfield 7, 3) := by decide +kernel
theorem d_Md_init_13 : decode prog_9_method_1_code 13 = .ok (.aload_n 0, 1) := by decide +kernel
theorem d_Md_init_14 : decode prog_9_method_1_code 14 = .ok (.bipush 28, 2) := by decide +kernel
theorem d_Md_init_16 : decode prog_9_method_1_code 16 = .ok (.newarray .int, 2) := by decide +kernel
theorem d_Md_init_18 : decode prog_9_method_1_code 18 = .ok (.putfield 13, 3) := by decide +kernel
theorem d_Md_init_21 : decode prog_9_method_1_code 21 = .ok (.aload_n 0, 1) := by decide +kernel
theorem d_Md_init_22 : decode prog_9_method_1_code 22 = .ok (.sipush 384, 3) := by decide +kernel
theorem d_Md_init_25 : decode prog_9_method_1_code 25 = .ok (.newarray .int, 2) := by decide +kernel
theorem d_Md_init_27 : decode prog_9_method_1_code 27 = .ok (.putfield 16, 3) := by decide +kernel
theorem d_Md_init_30 : decode prog_9_method_1_code 30 = .ok (.aload_n 0, 1) := by decide +kernel
theorem d_Md_init_31 : decode prog_9_method_1_code 31 = .ok (.bipush 6, 2) := by decide +kernel
theorem d_Md_init_33 : decode prog_9_method_1_code 33 = .ok (.newarray .int, 2) := by decide +kernel
theorem d_Md_init_35 : decode prog_9_method_1_code 35 = .ok (.putfield 19, 3) := by decide +kernel
theorem d_Md_init_38 : decode prog_9_method_1_code 38 = .ok (.aload_n 0, 1) := by decide +kernel
theorem d_Md_init_39 : decode prog_9_method_1_code 39 = .ok (.iconst 2, 1) := by decide +kernel
theorem d_Md_init_40 : decode prog_9_method_1_code 40 = .ok (.newarray .int, 2) := by decide +kernel
theorem d_Md_init_42 : decode prog_9_method_1_code 42 = .ok (.putfield 22, 3) := by decide +kernel
theorem d_Md_init_45 : decode prog_9_method_1_code 45 = .ok (.aload_n 0, 1) := by decide +kernel
theorem d_Md_init_46 : decode prog_9_method_1_code 46 = .ok (.iconst 2, 1) := by decide +kernel
theorem d_Md_init_47 : decode prog_9_method_1_code 47 = .ok (.newarray .int, 2) := by decide +kernel
theorem d_Md_init_49 : decode prog_9_method_1_code 49 = .ok (.putfield 25, 3) := by decide +kernel
theorem d_Md_init_52 : decode prog_9_method_1_code 52 = .ok (.aload_n 0, 1) := by decide +kernel
theorem d_Md_init_53 : decode prog_9_method_1_code 53 = .ok (.iconst 2, 1) := by decide +kernel
theorem d_Md_init_54 : decode prog_9_method_1_code 54 = .ok (.newarray .int, 2) := by decide +kernel
theorem d_Md_init_56 : decode prog_9_method_1_code 56 = .ok (.putfield 28, 3) := by decide +kernel
theorem d_Md_init_59 : decode prog_9_method_1_code 59 = .ok (.aload_n 0, 1) := by decide +kernel
theorem d_Md_init_60 : decode prog_9_method_1_code 60 = .ok (.iconst 4, 1) := by decide +kernel
theorem d_Md_init_61 : decode prog_9_method_1_code 61 = .ok (.newarray .int, 2) := by decide +kernel
theorem d_Md_init_63 : decode prog_9_method_1_code 63 = .ok (.putfield 31, 3) := by decide +kernel
theorem d_Md_init_66 : decode prog_9_method_1_code 66 = .ok (.aload_n 0, 1) := by decide +kernel
theorem d_Md_init_67 : decode prog_9_method_1_code 67 = .ok (.bipush 24, 2) := by decide +kernel
theorem d_Md_init_69 : decode prog_9_method_1_code 69 = .ok (.newarray .int, 2) := by decide +kernel
theorem d_Md_init_71 : decode prog_9_method_1_code 71 = .ok (.putfield 34, 3) := by decide +kernel
theorem d_Md_init_74 : decode prog_9_method_1_code 74 = .ok (.return_, 1) := by decide +kernel
theorem yd_Md_init : y_Md_init.cls ≠ "java/lang/invoke/MethodHandle" ∧ y_Md_init.cls ≠ "java/lang/invoke/VarHandle" ∧ (parseMethodDescriptor y_Md_init.desc).map (fun d => d.parameters.length) = some 0 := by decide +kernel
theorem tb_cd_Me_init : Cond.code y_Me_init prog_3_method_1_code 1 none ∈ TB := tb_in 22 (by decide +kernel) (by decide +kernel)
theorem tb_im_Me_init : Cond.instanceMethod y_Me_init ∈ TB := tb_in 21 (by decide +kernel) (by decide +kernel)
theorem tb_arr : Cond.arrayClass .int ∈ TB := tb_in 28 (by decide +kernel) (by decide +kernel)
theorem tb_oi_im : Cond.instanceMethod objectInit ∈ TB := tb_in 16 (by decide +kernel) (by decide +kernel)
theorem tb_oi_cd : Cond.code objectInit ⟨#[0xb1]⟩ 1 none ∈ TB := tb_in 17 (by decide +kernel) (by decide +kernel)
theorem tb_ml_Me_3 : Cond.methodLink "SlotBoard$Memory" 3 objectInit ∈ TB := tb_in 23 (by decide +kernel) (by decide +kernel)
theorem tb_cd_Re_init : Cond.code y_Re_init prog_7_method_1_code 1 none ∈ TB := tb_in 33 (by decide +kernel) (by decide +kernel)
theorem tb_im_Re_init : Cond.instanceMethod y_Re_init ∈ TB := tb_in 32 (by decide +kernel) (by decide +kernel)
theorem tb_ml_Re_1 : Cond.methodLink "SlotBoard$Registers" 1 objectInit ∈ TB := tb_in 34 (by decide +kernel) (by decide +kernel)
theorem tb_cd_Pi_init : Cond.code y_Pi_init prog_5_method_1_code 1 none ∈ TB := tb_in 47 (by decide +kernel) (by decide +kernel)
theorem tb_im_Pi_init : Cond.instanceMethod y_Pi_init ∈ TB := tb_in 46 (by decide +kernel) (by decide +kernel)
theorem tb_ml_Pi_3 : Cond.methodLink "SlotBoard$Picture" 3 objectInit ∈ TB := tb_in 48 (by decide +kernel) (by decide +kernel)
theorem tb_cd_Li_init : Cond.code y_Li_init prog_2_method_1_code 1 none ∈ TB := tb_in 66 (by decide +kernel) (by decide +kernel)
theorem tb_im_Li_init : Cond.instanceMethod y_Li_init ∈ TB := tb_in 65 (by decide +kernel) (by decide +kernel)
theorem tb_ml_Li_3 : Cond.methodLink "SlotBoard$BeamList" 3 objectInit ∈ TB := tb_in 67 (by decide +kernel) (by decide +kernel)
theorem tb_cd_Mo_init : Cond.code y_Mo_init prog_4_method_1_code 1 none ∈ TB := tb_in 93 (by decide +kernel) (by decide +kernel)
theorem tb_im_Mo_init : Cond.instanceMethod y_Mo_init ∈ TB := tb_in 92 (by decide +kernel) (by decide +kernel)
theorem tb_ml_Mo_3 : Cond.methodLink "SlotBoard$Mover" 3 objectInit ∈ TB := tb_in 94 (by decide +kernel) (by decide +kernel)
theorem tb_cd_Pr_init : Cond.code y_Pr_init prog_6_method_1_code 1 none ∈ TB := tb_in 132 (by decide +kernel) (by decide +kernel)
theorem tb_im_Pr_init : Cond.instanceMethod y_Pr_init ∈ TB := tb_in 131 (by decide +kernel) (by decide +kernel)
theorem tb_ml_Pr_1 : Cond.methodLink "SlotBoard$Processor" 1 objectInit ∈ TB := tb_in 133 (by decide +kernel) (by decide +kernel)
theorem tb_cd_Bd_init : Cond.code y_Bd_init prog_1_method_1_code 1 none ∈ TB := tb_in 14 (by decide +kernel) (by decide +kernel)
theorem tb_im_Bd_init : Cond.instanceMethod y_Bd_init ∈ TB := tb_in 13 (by decide +kernel) (by decide +kernel)
theorem tb_ml_Bd_1 : Cond.methodLink "SlotBoard" 1 objectInit ∈ TB := tb_in 15 (by decide +kernel) (by decide +kernel)
theorem tb_cl_Bd_7 : Cond.classLink "SlotBoard" 7 "SlotBoard$Memory" ∈ TB := tb_in 18 (by decide +kernel) (by decide +kernel)
theorem tb_it_Me : Cond.instantiable "SlotBoard$Memory" 1 ∈ TB := tb_in 19 (by decide +kernel) (by decide +kernel)
theorem tb_cl_Bd_16 : Cond.classLink "SlotBoard" 16 "SlotBoard$Registers" ∈ TB := tb_in 29 (by decide +kernel) (by decide +kernel)
theorem tb_it_Re : Cond.instantiable "SlotBoard$Registers" 2 ∈ TB := tb_in 30 (by decide +kernel) (by decide +kernel)
theorem tb_cl_Bd_23 : Cond.classLink "SlotBoard" 23 "SlotBoard$Picture" ∈ TB := tb_in 43 (by decide +kernel) (by decide +kernel)
theorem tb_it_Pi : Cond.instantiable "SlotBoard$Picture" 4 ∈ TB := tb_in 44 (by decide +kernel) (by decide +kernel)
theorem tb_cl_Bd_30 : Cond.classLink "SlotBoard" 30 "SlotBoard$BeamList" ∈ TB := tb_in 62 (by decide +kernel) (by decide +kernel)
theorem tb_it_Li : Cond.instantiable "SlotBoard$BeamList" 6 ∈ TB := tb_in 63 (by decide +kernel) (by decide +kernel)
theorem tb_cl_Bd_37 : Cond.classLink "SlotBoard" 37 "SlotBoard$Mover" ∈ TB := tb_in 89 (by decide +kernel) (by decide +kernel)
theorem tb_it_Mo : Cond.instantiable "SlotBoard$Mover" 10 ∈ TB := tb_in 90 (by decide +kernel) (by decide +kernel)
theorem tb_cl_Bd_44 : Cond.classLink "SlotBoard" 44 "SlotBoard$Processor" ∈ TB := tb_in 128 (by decide +kernel) (by decide +kernel)
theorem tb_it_Pr : Cond.instantiable "SlotBoard$Processor" 8 ∈ TB := tb_in 129 (by decide +kernel) (by decide +kernel)
theorem tb_cd_Md_init : Cond.code y_Md_init prog_9_method_1_code 1 none ∈ TB := tb_in 453 (by decide +kernel) (by decide +kernel)
theorem tb_im_Md_init : Cond.instanceMethod y_Md_init ∈ TB := tb_in 452 (by decide +kernel) (by decide +kernel)
theorem tb_ml_Md_1 : Cond.methodLink "SlotBoardModel" 1 objectInit ∈ TB := tb_in 454 (by decide +kernel) (by decide +kernel)
set_option maxHeartbeats 4000000 in
set_option maxRecDepth 100000 in
theorem c_Me_init (l : Launch) (D : va_G) (h0 sz : Nat) : Met l y_Me_init w_Me_init { frames := 1, cells := 1, slots := 256, locals := 20 } (va_Pc [.ref h0] (fun U => U.heap.size = sz ∧ va_P D vCl [(h0, .inr (1, [.null]))] U.heap ∧ va_K D vCl [] U ∧ va_D (fun _ => True) [(h0, .inr (1, [.null]))])) (va_Qv (fun (_ : ClassId × (Nat → Nat)) => True) (fun u t => va_P D vCl ([(h0, .inr (1, [.ref (u.2 0)])), (u.2 0, .inl (u.1, 256, .inl (fun _ => 0)))]) t.heap ∧ va_K D vCl [(u.1, .int)] t ∧ va_D (va_A [(h0, .inr (1, [.null]))] sz) ([(h0, .inr (1, [.ref (u.2 0)])), (u.2 0, .inl (u.1, 256, .inl (fun _ => 0)))])) (va_A [(h0, .inr (1, [.null]))] sz)) 1 256 (va_A [(h0, .inr (1, [.null]))] sz) := by
  refine Met.ofW (cc := prog_3_method_1_code) (maxL := 1) (ret := none) (by decide) rfl ?_
  intro p e s m args below meth c s₁ B hml hv
  obtain ⟨rfl, hsz, hP, hK, hD0⟩ := hv
  have hx := B.exec
  have hb := B.bytes
  have hr := B.returns
  have hts0 := atoms_spec (ws := w_Me_init) B.pre
  have hts : ∀ w ∈ TB, w.before (#[.ref h0] : Array Value) s = true := fun w h => hts0 w (List.mem_cons_of_mem _ h)
  have hown : s.vm.findClass R_Me = some m.cls := findClass_of_methodNamed B.named
  have hlocks := B.notSynchronized
  have hin : meth.name = "<init>" := (name_of_methodNamed B.named B.method).1
  subst hsz
  have hD := hD0.self (sz := s.heap.size)
  generalize hAe : va_A [(h0, .inr (1, [.null]))] s.heap.size = A at hD ⊢
  have hA : ∀ q : Nat, s.heap.size ≤ q → A q := fun q h => by rw [← hAe]; exact Or.inr h
  have hS : va_S A s.heap s.heap [] := va_S.rf
  obtain ⟨H, hH⟩ : ∃ z, z = s.heap := ⟨_, rfl⟩
  rw [← hH] at hP
  have hS : va_S A s.heap H [] := by rw [hH]; exact va_S.rf
  have hl := lv_entry ([.ref h0]) (n := 1) (Nat.le_of_ble_eq_true rfl)
  rw [lg_entry_eq]
  generalize (lg_sl ([.ref h0]) ++ List.replicate (1 - (lg_sl ([.ref h0])).length) Slot.unset).toArray = ls at hl ⊢
  have hl : lv_has ls 1 [(0, .ref h0)] := hl
  rw [← hH]
  refine lv_aload_n hx hb d_Me_init_0 rfl (lv_at hl 0 rfl) ?_
  refine W.objInit hx hb hown (hts _ tb_ml_Me_3) (hts _ tb_oi_im) (hts _ tb_oi_cd) rfl (by rw [hml]; exact hl.1) rfl d_Me_init_1 (Nat.le_of_ble_eq_true rfl) (Nat.le_of_ble_eq_true rfl) ?_
  refine W.eq (g2 := F0 m 4 ls []) rfl ?_
  refine lv_aload_n hx hb d_Me_init_4 rfl (lv_at hl 0 rfl) ?_
  refine lv_sipush (v := (256 : Int32)) hx hb d_Me_init_5 (by decide) ?_
  refine va_newa (atype := .int) (ty := .int) (a0 := (256, .inl (fun _ => 0))) hx hb (hts _ tb_arr) rfl hK hP hD hS hA (fun _ => rfl) (by decide) (by decide) (by decide) (Nat.le_of_ble_eq_true rfl) (Nat.le_of_ble_eq_true rfl) d_Me_init_8 (fun q1 cA H hK2 hP hD hS => ?_)
  have hK : va_K D vCl [(cA, .int)] s := hK2
  have hP : va_P D vCl [(h0, .inr (1, [.null])), (q1, .inl (cA, 256, .inl (fun _ => 0)))] H := hP
  have hD : va_D A [(h0, .inr (1, [.null])), (q1, .inl (cA, 256, .inl (fun _ => 0)))] := hD
  refine W.widen (k := 1) (n := 256) (Nat.le_of_ble_eq_true rfl) (Nat.le_of_ble_eq_true rfl) ?_
  refine va_putF (D := D) (ci := 1) (v := .ref q1) (ty := .array .int) (C := R_Me) (T := T_Me) (N := 1) hx hb hts iMe ty_Me tyok_Me nm_Me hown hK hP hD hS 0 rfl rfl 0 (by decide) (hts _ tb_fl_Me_11) (fun _ h9 => h9) rfl hin rfl (by decide +kernel) rfl rfl (Nat.le_of_ble_eq_true rfl) d_Me_init_10 (fun H locs hP hD hS => ?_)
  have hP : va_P D vCl [(h0, .inr (1, [.ref q1])), (q1, .inl (cA, 256, .inl (fun _ => 0)))] H := hP
  have hD : va_D A [(h0, .inr (1, [.ref q1])), (q1, .inl (cA, 256, .inl (fun _ => 0)))] := hD
  have hP9 := hP.sub (ws' := [(h0, .inr (1, [.ref q1])), (q1, .inl (cA, 256, .inl (fun _ => 0)))]) [0, 1] rfl
  have hD9 := hD.sub (ws' := [(h0, .inr (1, [.ref q1])), (q1, .inl (cA, 256, .inl (fun _ => 0)))]) [0, 1] (by decide) rfl
  exact W.vret hx hb hr (fun t ht hW => ⟨⟨(cA, ad [q1]), rfl, trivial, by rw [ht]; exact hP9, va_K.moved hW.alike hK, hD9⟩, hS.F ht⟩) hS.2.2 d_Me_init_13
set_option maxHeartbeats 4000000 in
set_option maxRecDepth 100000 in
theorem c_Re_init (l : Launch) (D : va_G) (h0 sz : Nat) : Met l y_Re_init w_Re_init { frames := 1, cells := 1, slots := 28, locals := 20 } (va_Pc [.ref h0] (fun U => U.heap.size = sz ∧ va_P D vCl [(h0, .inr (2, [.null, .int 0]))] U.heap ∧ va_K D vCl [] U ∧ va_D (fun _ => True) [(h0, .inr (2, [.null, .int 0]))])) (va_Qv (fun (_ : ClassId × (Nat → Nat)) => True) (fun u t => va_P D vCl ([(h0, .inr (2, [.ref (u.2 0), .int 0])), (u.2 0, .inl (u.1, 28, .inl (fun _ => 0)))]) t.heap ∧ va_K D vCl [(u.1, .int)] t ∧ va_D (va_A [(h0, .inr (2, [.null, .int 0]))] sz) ([(h0, .inr (2, [.ref (u.2 0), .int 0])), (u.2 0, .inl (u.1, 28, .inl (fun _ => 0)))])) (va_A [(h0, .inr (2, [.null, .int 0]))] sz)) 1 28 (va_A [(h0, .inr (2, [.null, .int 0]))] sz) := by
  refine Met.ofW (cc := prog_7_method_1_code) (maxL := 1) (ret := none) (by decide) rfl ?_
  intro p e s m args below meth c s₁ B hml hv
  obtain ⟨rfl, hsz, hP, hK, hD0⟩ := hv
  have hx := B.exec
  have hb := B.bytes
  have hr := B.returns
  have hts0 := atoms_spec (ws := w_Re_init) B.pre
  have hts : ∀ w ∈ TB, w.before (#[.ref h0] : Array Value) s = true := fun w h => hts0 w (List.mem_cons_of_mem _ h)
  have hown : s.vm.findClass R_Re = some m.cls := findClass_of_methodNamed B.named
  have hlocks := B.notSynchronized
  have hin : meth.name = "<init>" := (name_of_methodNamed B.named B.method).1
  subst hsz
  have hD := hD0.self (sz := s.heap.size)
  generalize hAe : va_A [(h0, .inr (2, [.null, .int 0]))] s.heap.size = A at hD ⊢
  have hA : ∀ q : Nat, s.heap.size ≤ q → A q := fun q h => by rw [← hAe]; exact Or.inr h
  have hS : va_S A s.heap s.heap [] := va_S.rf
  obtain ⟨H, hH⟩ : ∃ z, z = s.heap := ⟨_, rfl⟩
  rw [← hH] at hP
  have hS : va_S A s.heap H [] := by rw [hH]; exact va_S.rf
  have hl := lv_entry ([.ref h0]) (n := 1) (Nat.le_of_ble_eq_true rfl)
  rw [lg_entry_eq]
  generalize (lg_sl ([.ref h0]) ++ List.replicate (1 - (lg_sl ([.ref h0])).length) Slot.unset).toArray = ls at hl ⊢
  have hl : lv_has ls 1 [(0, .ref h0)] := hl
  rw [← hH]
  refine lv_aload_n hx hb d_Re_init_0 rfl (lv_at hl 0 rfl) ?_
  refine W.objInit hx hb hown (hts _ tb_ml_Re_1) (hts _ tb_oi_im) (hts _ tb_oi_cd) rfl (by rw [hml]; exact hl.1) rfl d_Re_init_1 (Nat.le_of_ble_eq_true rfl) (Nat.le_of_ble_eq_true rfl) ?_
  refine W.eq (g2 := F0 m 4 ls []) rfl ?_
  refine lv_aload_n hx hb d_Re_init_4 rfl (lv_at hl 0 rfl) ?_
  refine lv_bipush (v := (28 : Int32)) hx hb d_Re_init_5 (by decide) ?_
  refine va_newa (atype := .int) (ty := .int) (a0 := (28, .inl (fun _ => 0))) hx hb (hts _ tb_arr) rfl hK hP hD hS hA (fun _ => rfl) (by decide) (by decide) (by decide) (Nat.le_of_ble_eq_true rfl) (Nat.le_of_ble_eq_true rfl) d_Re_init_7 (fun q1 cA H hK2 hP hD hS => ?_)
  have hK : va_K D vCl [(cA, .int)] s := hK2
  have hP : va_P D vCl [(h0, .inr (2, [.null, .int 0])), (q1, .inl (cA, 28, .inl (fun _ => 0)))] H := hP
  have hD : va_D A [(h0, .inr (2, [.null, .int 0])), (q1, .inl (cA, 28, .inl (fun _ => 0)))] := hD
  refine W.widen (k := 1) (n := 28) (Nat.le_of_ble_eq_true rfl) (Nat.le_of_ble_eq_true rfl) ?_
  refine va_putF (D := D) (ci := 2) (v := .ref q1) (ty := .array .int) (C := R_Re) (T := T_Re) (N := 2) hx hb hts iRe ty_Re tyok_Re nm_Re hown hK hP hD hS 0 rfl rfl 0 (by decide) (hts _ tb_fl_Re_9) (fun _ h9 => h9) rfl hin rfl (by decide +kernel) rfl rfl (Nat.le_of_ble_eq_true rfl) d_Re_init_9 (fun H locs hP hD hS => ?_)
  have hP : va_P D vCl [(h0, .inr (2, [.ref q1, .int 0])), (q1, .inl (cA, 28, .inl (fun _ => 0)))] H := hP
  have hD : va_D A [(h0, .inr (2, [.ref q1, .int 0])), (q1, .inl (cA, 28, .inl (fun _ => 0)))] := hD
  have hP9 := hP.sub (ws' := [(h0, .inr (2, [.ref q1, .int 0])), (q1, .inl (cA, 28, .inl (fun _ => 0)))]) [0, 1] rfl
  have hD9 := hD.sub (ws' := [(h0, .inr (2, [.ref q1, .int 0])), (q1, .inl (cA, 28, .inl (fun _ => 0)))]) [0, 1] (by decide) rfl
  exact W.vret hx hb hr (fun t ht hW => ⟨⟨(cA, ad [q1]), rfl, trivial, by rw [ht]; exact hP9, va_K.moved hW.alike hK, hD9⟩, hS.F ht⟩) hS.2.2 d_Re_init_12
set_option maxHeartbeats 4000000 in
set_option maxRecDepth 100000 in
theorem c_Pi_init (l : Launch) (D : va_G) (h0 sz : Nat) : Met l y_Pi_init w_Pi_init { frames := 1, cells := 4, slots := 390, locals := 20 } (va_Pc [.ref h0] (fun U => U.heap.size = sz ∧ va_P D vCl [(h0, .inr (3, [.null, .null, .null, .null]))] U.heap ∧ va_K D vCl [] U ∧ va_D (fun _ => True) [(h0, .inr (3, [.null, .null, .null, .null]))])) (va_Qv (fun (_ : ClassId × (Nat → Nat)) => True) (fun u t => va_P D vCl ([(h0, .inr (3, [.ref (u.2 0), .ref (u.2 1), .ref (u.2 2), .ref (u.2 3)])), (u.2 0, .inl (u.1, 2, .inl (fun _ => 0))), (u.2 1, .inl (u.1, 2, .inl (fun _ => 0))), (u.2 2, .inl (u.1, 2, .inl (fun _ => 0))), (u.2 3, .inl (u.1, 384, .inl (fun _ => 0)))]) t.heap ∧ va_K D vCl [(u.1, .int)] t ∧ va_D (va_A [(h0, .inr (3, [.null, .null, .null, .null]))] sz) ([(h0, .inr (3, [.ref (u.2 0), .ref (u.2 1), .ref (u.2 2), .ref (u.2 3)])), (u.2 0, .inl (u.1, 2, .inl (fun _ => 0))), (u.2 1, .inl (u.1, 2, .inl (fun _ => 0))), (u.2 2, .inl (u.1, 2, .inl (fun _ => 0))), (u.2 3, .inl (u.1, 384, .inl (fun _ => 0)))])) (va_A [(h0, .inr (3, [.null, .null, .null, .null]))] sz)) 4 390 (va_A [(h0, .inr (3, [.null, .null, .null, .null]))] sz) := by
  refine Met.ofW (cc := prog_5_method_1_code) (maxL := 1) (ret := none) (by decide) rfl ?_
  intro p e s m args below meth c s₁ B hml hv
  obtain ⟨rfl, hsz, hP, hK, hD0⟩ := hv
  have hx := B.exec
  have hb := B.bytes
  have hr := B.returns
  have hts0 := atoms_spec (ws := w_Pi_init) B.pre
  have hts : ∀ w ∈ TB, w.before (#[.ref h0] : Array Value) s = true := fun w h => hts0 w (List.mem_cons_of_mem _ h)
  have hown : s.vm.findClass R_Pi = some m.cls := findClass_of_methodNamed B.named
  have hlocks := B.notSynchronized
  have hin : meth.name = "<init>" := (name_of_methodNamed B.named B.method).1
  subst hsz
  have hD := hD0.self (sz := s.heap.size)
  generalize hAe : va_A [(h0, .inr (3, [.null, .null, .null, .null]))] s.heap.size = A at hD ⊢
  have hA : ∀ q : Nat, s.heap.size ≤ q → A q := fun q h => by rw [← hAe]; exact Or.inr h
  have hS : va_S A s.heap s.heap [] := va_S.rf
  obtain ⟨H, hH⟩ : ∃ z, z = s.heap := ⟨_, rfl⟩
  rw [← hH] at hP
  have hS : va_S A s.heap H [] := by rw [hH]; exact va_S.rf
  have hl := lv_entry ([.ref h0]) (n := 1) (Nat.le_of_ble_eq_true rfl)
  rw [lg_entry_eq]
  generalize (lg_sl ([.ref h0]) ++ List.replicate (1 - (lg_sl ([.ref h0])).length) Slot.unset).toArray = ls at hl ⊢
  have hl : lv_has ls 1 [(0, .ref h0)] := hl
  rw [← hH]
  refine lv_aload_n hx hb d_Pi_init_0 rfl (lv_at hl 0 rfl) ?_
  refine W.objInit hx hb hown (hts _ tb_ml_Pi_3) (hts _ tb_oi_im) (hts _ tb_oi_cd) rfl (by rw [hml]; exact hl.1) rfl d_Pi_init_1 (Nat.le_of_ble_eq_true rfl) (Nat.le_of_ble_eq_true rfl) ?_
  refine W.eq (g2 := F0 m 4 ls []) rfl ?_
  refine lv_aload_n hx hb d_Pi_init_4 rfl (lv_at hl 0 rfl) ?_
  refine lv_iconst (v := (2 : Int32)) hx hb d_Pi_init_5 (by decide) ?_
  refine va_newa (atype := .int) (ty := .int) (a0 := (2, .inl (fun _ => 0))) hx hb (hts _ tb_arr) rfl hK hP hD hS hA (fun _ => rfl) (by decide) (by decide) (by decide) (Nat.le_of_ble_eq_true rfl) (Nat.le_of_ble_eq_true rfl) d_Pi_init_6 (fun q1 cA H hK2 hP hD hS => ?_)
  have hK : va_K D vCl [(cA, .int)] s := hK2
  have hP : va_P D vCl [(h0, .inr (3, [.null, .null, .null, .null])), (q1, .inl (cA, 2, .inl (fun _ => 0)))] H := hP
  have hD : va_D A [(h0, .inr (3, [.null, .null, .null, .null])), (q1, .inl (cA, 2, .inl (fun _ => 0)))] := hD
  refine W.widen (k := 1) (n := 2) (Nat.le_of_ble_eq_true rfl) (Nat.le_of_ble_eq_true rfl) ?_
  refine va_putF (D := D) (ci := 3) (v := .ref q1) (ty := .array .int) (C := R_Pi) (T := T_Pi) (N := 4) hx hb hts iPi ty_Pi tyok_Pi nm_Pi hown hK hP hD hS 0 rfl rfl 0 (by decide) (hts _ tb_fl_Pi_11) (fun _ h9 => h9) rfl hin rfl (by decide +kernel) rfl rfl (Nat.le_of_ble_eq_true rfl) d_Pi_init_8 (fun H locs hP hD hS => ?_)
  have hP : va_P D vCl [(h0, .inr (3, [.ref q1, .null, .null, .null])), (q1, .inl (cA, 2, .inl (fun _ => 0)))] H := hP
  have hD : va_D A [(h0, .inr (3, [.ref q1, .null, .null, .null])), (q1, .inl (cA, 2, .inl (fun _ => 0)))] := hD
  refine lv_aload_n hx hb d_Pi_init_11 rfl (lv_at hl 0 rfl) ?_
  refine lv_iconst (v := (2 : Int32)) hx hb d_Pi_init_12 (by decide) ?_
  refine va_newa (atype := .int) (ty := .int) (a0 := (2, .inl (fun _ => 0))) hx hb (hts _ tb_arr) rfl hK hP hD hS hA (fun _ => rfl) (by decide) (by decide) (by decide) (Nat.le_of_ble_eq_true rfl) (Nat.le_of_ble_eq_true rfl) d_Pi_init_13 (fun q2 cB H hK2 hP hD hS => ?_)
  have hK2 : va_K D vCl [(cB, .int)] s := hK2.sub (tys' := [(cB, .int)]) [1] rfl
  have e9 := cA_eq hK hK2
  subst e9
  have hP : va_P D vCl [(h0, .inr (3, [.ref q1, .null, .null, .null])), (q1, .inl (cA, 2, .inl (fun _ => 0))), (q2, .inl (cA, 2, .inl (fun _ => 0)))] H := hP
  have hD : va_D A [(h0, .inr (3, [.ref q1, .null, .null, .null])), (q1, .inl (cA, 2, .inl (fun _ => 0))), (q2, .inl (cA, 2, .inl (fun _ => 0)))] := hD
  refine W.widen (k := 2) (n := 4) (Nat.le_of_ble_eq_true rfl) (Nat.le_of_ble_eq_true rfl) ?_
  refine va_putF (D := D) (ci := 3) (v := .ref q2) (ty := .array .int) (C := R_Pi) (T := T_Pi) (N := 4) hx hb hts iPi ty_Pi tyok_Pi nm_Pi hown hK hP hD hS 0 rfl rfl 1 (by decide) (hts _ tb_fl_Pi_15) (fun _ h9 => h9) rfl hin rfl (by decide +kernel) rfl rfl (Nat.le_of_ble_eq_true rfl) d_Pi_init_15 (fun H locs hP hD hS => ?_)
  have hP : va_P D vCl [(h0, .inr (3, [.ref q1, .ref q2, .null, .null])), (q1, .inl (cA, 2, .inl (fun _ => 0))), (q2, .inl (cA, 2, .inl (fun _ => 0)))] H := hP
  have hD : va_D A [(h0, .inr (3, [.ref q1, .ref q2, .null, .null])), (q1, .inl (cA, 2, .inl (fun _ => 0))), (q2, .inl (cA, 2, .inl (fun _ => 0)))] := hD
  refine lv_aload_n hx hb d_Pi_init_18 rfl (lv_at hl 0 rfl) ?_
  refine lv_iconst (v := (2 : Int32)) hx hb d_Pi_init_19 (by decide) ?_
  refine va_newa (atype := .int) (ty := .int) (a0 := (2, .inl (fun _ => 0))) hx hb (hts _ tb_arr) rfl hK hP hD hS hA (fun _ => rfl) (by decide) (by decide) (by decide) (Nat.le_of_ble_eq_true rfl) (Nat.le_of_ble_eq_true rfl) d_Pi_init_20 (fun q3 cB H hK2 hP hD hS => ?_)
  have hK2 : va_K D vCl [(cB, .int)] s := hK2.sub (tys' := [(cB, .int)]) [1] rfl
  have e9 := cA_eq hK hK2
  subst e9
  have hP : va_P D vCl [(h0, .inr (3, [.ref q1, .ref q2, .null, .null])), (q1, .inl (cA, 2, .inl (fun _ => 0))), (q2, .inl (cA, 2, .inl (fun _ => 0))), (q3, .inl (cA, 2, .inl (fun _ => 0)))] H := hP
  have hD : va_D A [(h0, .inr (3, [.ref q1, .ref q2, .null, .null])), (q1, .inl (cA, 2, .inl (fun _ => 0))), (q2, .inl (cA, 2, .inl (fun _ => 0))), (q3, .inl (cA, 2, .inl (fun _ => 0)))] := hD
  refine W.widen (k := 3) (n := 6) (Nat.le_of_ble_eq_true rfl) (Nat.le_of_ble_eq_true rfl) ?_
  refine va_putF (D := D) (ci := 3) (v := .ref q3) (ty := .array .int) (C := R_Pi) (T := T_Pi) (N := 4) hx hb hts iPi ty_Pi tyok_Pi nm_Pi hown hK hP hD hS 0 rfl rfl 2 (by decide) (hts _ tb_fl_Pi_18) (fun _ h9 => h9) rfl hin rfl (by decide +kernel) rfl rfl (Nat.le_of_ble_eq_true rfl) d_Pi_init_22 (fun H locs hP hD hS => ?_)
  have hP : va_P D vCl [(h0, .inr (3, [.ref q1, .ref q2, .ref q3, .null])), (q1, .inl (cA, 2, .inl (fun _ => 0))), (q2, .inl (cA, 2, .inl (fun _ => 0))), (q3, .inl (cA, 2, .inl (fun _ => 0)))] H := hP
  have hD : va_D A [(h0, .inr (3, [.ref q1, .ref q2, .ref q3, .null])), (q1, .inl (cA, 2, .inl (fun _ => 0))), (q2, .inl (cA, 2, .inl (fun _ => 0))), (q3, .inl (cA, 2, .inl (fun _ => 0)))] := hD
  refine lv_aload_n hx hb d_Pi_init_25 rfl (lv_at hl 0 rfl) ?_
  refine lv_sipush (v := (384 : Int32)) hx hb d_Pi_init_26 (by decide) ?_
  refine va_newa (atype := .int) (ty := .int) (a0 := (384, .inl (fun _ => 0))) hx hb (hts _ tb_arr) rfl hK hP hD hS hA (fun _ => rfl) (by decide) (by decide) (by decide) (Nat.le_of_ble_eq_true rfl) (Nat.le_of_ble_eq_true rfl) d_Pi_init_29 (fun q4 cB H hK2 hP hD hS => ?_)
  have hK2 : va_K D vCl [(cB, .int)] s := hK2.sub (tys' := [(cB, .int)]) [1] rfl
  have e9 := cA_eq hK hK2
  subst e9
  have hP : va_P D vCl [(h0, .inr (3, [.ref q1, .ref q2, .ref q3, .null])), (q1, .inl (cA, 2, .inl (fun _ => 0))), (q2, .inl (cA, 2, .inl (fun _ => 0))), (q3, .inl (cA, 2, .inl (fun _ => 0))), (q4, .inl (cA, 384, .inl (fun _ => 0)))] H := hP
  have hD : va_D A [(h0, .inr (3, [.ref q1, .ref q2, .ref q3, .null])), (q1, .inl (cA, 2, .inl (fun _ => 0))), (q2, .inl (cA, 2, .inl (fun _ => 0))), (q3, .inl (cA, 2, .inl (fun _ => 0))), (q4, .inl (cA, 384, .inl (fun _ => 0)))] := hD
  refine W.widen (k := 4) (n := 390) (Nat.le_of_ble_eq_true rfl) (Nat.le_of_ble_eq_true rfl) ?_
  refine va_putF (D := D) (ci := 3) (v := .ref q4) (ty := .array .int) (C := R_Pi) (T := T_Pi) (N := 4) hx hb hts iPi ty_Pi tyok_Pi nm_Pi hown hK hP hD hS 0 rfl rfl 3 (by decide) (hts _ tb_fl_Pi_21) (fun _ h9 => h9) rfl hin rfl (by decide +kernel) rfl rfl (Nat.le_of_ble_eq_true rfl) d_Pi_init_31 (fun H locs hP hD hS => ?_)
  have hP : va_P D vCl [(h0, .inr (3, [.ref q1, .ref q2, .ref q3, .ref q4])), (q1, .inl (cA, 2, .inl (fun _ => 0))), (q2, .inl (cA, 2, .inl (fun _ => 0))), (q3, .inl (cA, 2, .inl (fun _ => 0))), (q4, .inl (cA, 384, .inl (fun _ => 0)))] H := hP
  have hD : va_D A [(h0, .inr (3, [.ref q1, .ref q2, .ref q3, .ref q4])), (q1, .inl (cA, 2, .inl (fun _ => 0))), (q2, .inl (cA, 2, .inl (fun _ => 0))), (q3, .inl (cA, 2, .inl (fun _ => 0))), (q4, .inl (cA, 384, .inl (fun _ => 0)))] := hD
  have hP9 := hP.sub (ws' := [(h0, .inr (3, [.ref q1, .ref q2, .ref q3, .ref q4])), (q1, .inl (cA, 2, .inl (fun _ => 0))), (q2, .inl (cA, 2, .inl (fun _ => 0))), (q3, .inl (cA, 2, .inl (fun _ => 0))), (q4, .inl (cA, 384, .inl (fun _ => 0)))]) [0, 1, 2, 3, 4] rfl
  have hD9 := hD.sub (ws' := [(h0, .inr (3, [.ref q1, .ref q2, .ref q3, .ref q4])), (q1, .inl (cA, 2, .inl (fun _ => 0))), (q2, .inl (cA, 2, .inl (fun _ => 0))), (q3, .inl (cA, 2, .inl (fun _ => 0))), (q4, .inl (cA, 384, .inl (fun _ => 0)))]) [0, 1, 2, 3, 4] (by decide) rfl
  exact W.vret hx hb hr (fun t ht hW => ⟨⟨(cA, ad [q1, q2, q3, q4]), rfl, trivial, by rw [ht]; exact hP9, va_K.moved hW.alike hK, hD9⟩, hS.F ht⟩) hS.2.2 d_Pi_init_34
set_option maxHeartbeats 4000000 in
set_option maxRecDepth 100000 in
theorem c_Li_init (l : Launch) (D : va_G) (h0 sz : Nat) : Met l y_Li_init w_Li_init { frames := 1, cells := 0, slots := 0, locals := 20 } (va_Pc [.ref h0] (fun U => U.heap.size = sz ∧ va_P D vCl [(h0, .inr (4, [.int 0, .int 0, .int 0, .int 0, .int 0, .int 0]))] U.heap ∧ va_K D vCl [] U ∧ va_D (fun _ => True) [(h0, .inr (4, [.int 0, .int 0, .int 0, .int 0, .int 0, .int 0]))])) (va_Qv (fun (_ : ClassId × (Nat → Nat)) => True) (fun u t => va_P D vCl ([(h0, .inr (4, [.int 0, .int 0, .int 0, .int 0, .int 0, .int 0]))]) t.heap ∧ va_D (va_A [(h0, .inr (4, [.int 0, .int 0, .int 0, .int 0, .int 0, .int 0]))] sz) ([(h0, .inr (4, [.int 0, .int 0, .int 0, .int 0, .int 0, .int 0]))])) (va_A [(h0, .inr (4, [.int 0, .int 0, .int 0, .int 0, .int 0, .int 0]))] sz)) 0 0 (va_A [(h0, .inr (4, [.int 0, .int 0, .int 0, .int 0, .int 0, .int 0]))] sz) := by
  refine Met.ofW (cc := prog_2_method_1_code) (maxL := 1) (ret := none) (by decide) rfl ?_
  intro p e s m args below meth c s₁ B hml hv
  obtain ⟨rfl, hsz, hP, hK, hD0⟩ := hv
  have hx := B.exec
  have hb := B.bytes
  have hr := B.returns
  have hts0 := atoms_spec (ws := w_Li_init) B.pre
  have hts : ∀ w ∈ TB, w.before (#[.ref h0] : Array Value) s = true := fun w h => hts0 w (List.mem_cons_of_mem _ h)
  have hown : s.vm.findClass R_Li = some m.cls := findClass_of_methodNamed B.named
  have hlocks := B.notSynchronized
  have hin : meth.name = "<init>" := (name_of_methodNamed B.named B.method).1
  subst hsz
  have hD := hD0.self (sz := s.heap.size)
  generalize hAe : va_A [(h0, .inr (4, [.int 0, .int 0, .int 0, .int 0, .int 0, .int 0]))] s.heap.size = A at hD ⊢
  have hA : ∀ q : Nat, s.heap.size ≤ q → A q := fun q h => by rw [← hAe]; exact Or.inr h
  have hS : va_S A s.heap s.heap [] := va_S.rf
  obtain ⟨H, hH⟩ : ∃ z, z = s.heap := ⟨_, rfl⟩
  rw [← hH] at hP
  have hS : va_S A s.heap H [] := by rw [hH]; exact va_S.rf
  have hl := lv_entry ([.ref h0]) (n := 1) (Nat.le_of_ble_eq_true rfl)
  rw [lg_entry_eq]
  generalize (lg_sl ([.ref h0]) ++ List.replicate (1 - (lg_sl ([.ref h0])).length) Slot.unset).toArray = ls at hl ⊢
  have hl : lv_has ls 1 [(0, .ref h0)] := hl
  rw [← hH]
  refine lv_aload_n hx hb d_Li_init_0 rfl (lv_at hl 0 rfl) ?_
  refine W.objInit hx hb hown (hts _ tb_ml_Li_3) (hts _ tb_oi_im) (hts _ tb_oi_cd) rfl (by rw [hml]; exact hl.1) rfl d_Li_init_1 (Nat.le_of_ble_eq_true rfl) (Nat.le_of_ble_eq_true rfl) ?_
  refine W.eq (g2 := F0 m 4 ls []) rfl ?_
  refine lv_aload_n hx hb d_Li_init_4 rfl (lv_at hl 0 rfl) ?_
  refine lv_iconst (v := (0 : Int32)) hx hb d_Li_init_5 (by decide) ?_
  refine va_put (D := D) (ci := 4) (v := .int 0) (ty := .int) (C := R_Li) (T := T_Li) (N := 6) hx hb hts iLi ty_Li tyok_Li nm_Li hown hK hP hD hS 0 rfl rfl 0 (by decide) (hts _ tb_fl_Li_11) (fun _ h9 => h9) rfl (by decide +kernel) rfl rfl (Nat.le_of_ble_eq_true rfl) d_Li_init_6 (fun H locs hP hD hS => ?_)
  have hP : va_P D vCl [(h0, .inr (4, [.int 0, .int 0, .int 0, .int 0, .int 0, .int 0]))] H := hP
  have hD : va_D A [(h0, .inr (4, [.int 0, .int 0, .int 0, .int 0, .int 0, .int 0]))] := hD
  have hP9 := hP.sub (ws' := [(h0, .inr (4, [.int 0, .int 0, .int 0, .int 0, .int 0, .int 0]))]) [0] rfl
  have hD9 := hD.sub (ws' := [(h0, .inr (4, [.int 0, .int 0, .int 0, .int 0, .int 0, .int 0]))]) [0] (by decide) rfl
  exact W.vret hx hb hr (fun t ht hW => ⟨⟨(0, ad []), rfl, trivial, by rw [ht]; exact hP9, hD9⟩, hS.F ht⟩) hS.2.2 d_Li_init_9
set_option maxHeartbeats 4000000 in
set_option maxRecDepth 100000 in
theorem c_Mo_init (l : Launch) (D : va_G) (h0 sz : Nat) : Met l y_Mo_init w_Mo_init { frames := 1, cells := 1, slots := 3, locals := 20 } (va_Pc [.ref h0] (fun U => U.heap.size = sz ∧ va_P D vCl [(h0, .inr (5, [.null, .int 0, .int 0, .int 0, .int 0, .int 0, .int 0, .int 0, .int 0, .int 0]))] U.heap ∧ va_K D vCl [] U ∧ va_D (fun _ => True) [(h0, .inr (5, [.null, .int 0, .int 0, .int 0, .int 0, .int 0, .int 0, .int 0, .int 0, .int 0]))])) (va_Qv (fun (_ : ClassId × (Nat → Nat)) => True) (fun u t => va_P D vCl ([(h0, .inr (5, [.ref (u.2 0), .int 0, .int 0, .int 0, .int 0, .int 0, .int 0, .int 0, .int 0, .int 0])), (u.2 0, .inl (u.1, 3, .inl (fun _ => 0)))]) t.heap ∧ va_K D vCl [(u.1, .int)] t ∧ va_D (va_A [(h0, .inr (5, [.null, .int 0, .int 0, .int 0, .int 0, .int 0, .int 0, .int 0, .int 0, .int 0]))] sz) ([(h0, .inr (5, [.ref (u.2 0), .int 0, .int 0, .int 0, .int 0, .int 0, .int 0, .int 0, .int 0, .int 0])), (u.2 0, .inl (u.1, 3, .inl (fun _ => 0)))])) (va_A [(h0, .inr (5, [.null, .int 0, .int 0, .int 0, .int 0, .int 0, .int 0, .int 0, .int 0, .int 0]))] sz)) 1 3 (va_A [(h0, .inr (5, [.null, .int 0, .int 0, .int 0, .int 0, .int 0, .int 0, .int 0, .int 0, .int 0]))] sz) := by
  refine Met.ofW (cc := prog_4_method_1_code) (maxL := 1) (ret := none) (by decide) rfl ?_
  intro p e s m args below meth c s₁ B hml hv
  obtain ⟨rfl, hsz, hP, hK, hD0⟩ := hv
  have hx := B.exec
  have hb := B.bytes
  have hr := B.returns
  have hts0 := atoms_spec (ws := w_Mo_init) B.pre
  have hts : ∀ w ∈ TB, w.before (#[.ref h0] : Array Value) s = true := fun w h => hts0 w (List.mem_cons_of_mem _ h)
  have hown : s.vm.findClass R_Mo = some m.cls := findClass_of_methodNamed B.named
  have hlocks := B.notSynchronized
  have hin : meth.name = "<init>" := (name_of_methodNamed B.named B.method).1
  subst hsz
  have hD := hD0.self (sz := s.heap.size)
  generalize hAe : va_A [(h0, .inr (5, [.null, .int 0, .int 0, .int 0, .int 0, .int 0, .int 0, .int 0, .int 0, .int 0]))] s.heap.size = A at hD ⊢
  have hA : ∀ q : Nat, s.heap.size ≤ q → A q := fun q h => by rw [← hAe]; exact Or.inr h
  have hS : va_S A s.heap s.heap [] := va_S.rf
  obtain ⟨H, hH⟩ : ∃ z, z = s.heap := ⟨_, rfl⟩
  rw [← hH] at hP
  have hS : va_S A s.heap H [] := by rw [hH]; exact va_S.rf
  have hl := lv_entry ([.ref h0]) (n := 1) (Nat.le_of_ble_eq_true rfl)
  rw [lg_entry_eq]
  generalize (lg_sl ([.ref h0]) ++ List.replicate (1 - (lg_sl ([.ref h0])).length) Slot.unset).toArray = ls at hl ⊢
  have hl : lv_has ls 1 [(0, .ref h0)] := hl
  rw [← hH]
  refine lv_aload_n hx hb d_Mo_init_0 rfl (lv_at hl 0 rfl) ?_
  refine W.objInit hx hb hown (hts _ tb_ml_Mo_3) (hts _ tb_oi_im) (hts _ tb_oi_cd) rfl (by rw [hml]; exact hl.1) rfl d_Mo_init_1 (Nat.le_of_ble_eq_true rfl) (Nat.le_of_ble_eq_true rfl) ?_
  refine W.eq (g2 := F0 m 4 ls []) rfl ?_
  refine lv_aload_n hx hb d_Mo_init_4 rfl (lv_at hl 0 rfl) ?_
  refine lv_iconst (v := (3 : Int32)) hx hb d_Mo_init_5 (by decide) ?_
  refine va_newa (atype := .int) (ty := .int) (a0 := (3, .inl (fun _ => 0))) hx hb (hts _ tb_arr) rfl hK hP hD hS hA (fun _ => rfl) (by decide) (by decide) (by decide) (Nat.le_of_ble_eq_true rfl) (Nat.le_of_ble_eq_true rfl) d_Mo_init_6 (fun q1 cA H hK2 hP hD hS => ?_)
  have hK : va_K D vCl [(cA, .int)] s := hK2
  have hP : va_P D vCl [(h0, .inr (5, [.null, .int 0, .int 0, .int 0, .int 0, .int 0, .int 0, .int 0, .int 0, .int 0])), (q1, .inl (cA, 3, .inl (fun _ => 0)))] H := hP
  have hD : va_D A [(h0, .inr (5, [.null, .int 0, .int 0, .int 0, .int 0, .int 0, .int 0, .int 0, .int 0, .int 0])), (q1, .inl (cA, 3, .inl (fun _ => 0)))] := hD
  refine W.widen (k := 1) (n := 3) (Nat.le_of_ble_eq_true rfl) (Nat.le_of_ble_eq_true rfl) ?_
  refine va_putF (D := D) (ci := 5) (v := .ref q1) (ty := .array .int) (C := R_Mo) (T := T_Mo) (N := 10) hx hb hts iMo ty_Mo tyok_Mo nm_Mo hown hK hP hD hS 0 rfl rfl 0 (by decide) (hts _ tb_fl_Mo_11) (fun _ h9 => h9) rfl hin rfl (by decide +kernel) rfl rfl (Nat.le_of_ble_eq_true rfl) d_Mo_init_8 (fun H locs hP hD hS => ?_)
  have hP : va_P D vCl [(h0, .inr (5, [.ref q1, .int 0, .int 0, .int 0, .int 0, .int 0, .int 0, .int 0, .int 0, .int 0])), (q1, .inl (cA, 3, .inl (fun _ => 0)))] H := hP
  have hD : va_D A [(h0, .inr (5, [.ref q1, .int 0, .int 0, .int 0, .int 0, .int 0, .int 0, .int 0, .int 0, .int 0])), (q1, .inl (cA, 3, .inl (fun _ => 0)))] := hD
  have hP9 := hP.sub (ws' := [(h0, .inr (5, [.ref q1, .int 0, .int 0, .int 0, .int 0, .int 0, .int 0, .int 0, .int 0, .int 0])), (q1, .inl (cA, 3, .inl (fun _ => 0)))]) [0, 1] rfl
  have hD9 := hD.sub (ws' := [(h0, .inr (5, [.ref q1, .int 0, .int 0, .int 0, .int 0, .int 0, .int 0, .int 0, .int 0, .int 0])), (q1, .inl (cA, 3, .inl (fun _ => 0)))]) [0, 1] (by decide) rfl
  exact W.vret hx hb hr (fun t ht hW => ⟨⟨(cA, ad [q1]), rfl, trivial, by rw [ht]; exact hP9, va_K.moved hW.alike hK, hD9⟩, hS.F ht⟩) hS.2.2 d_Mo_init_11
set_option maxHeartbeats 4000000 in
set_option maxRecDepth 100000 in
theorem c_Pr_init (l : Launch) (D : va_G) (h0 sz : Nat) : Met l y_Pr_init w_Pr_init { frames := 1, cells := 3, slots := 24, locals := 20 } (va_Pc [.ref h0] (fun U => U.heap.size = sz ∧ va_P D vCl [(h0, .inr (6, [.null, .null, .null, .int 0, .int 0, .int 0, .int 0, .int 0]))] U.heap ∧ va_K D vCl [] U ∧ va_D (fun _ => True) [(h0, .inr (6, [.null, .null, .null, .int 0, .int 0, .int 0, .int 0, .int 0]))])) (va_Qv (fun (_ : ClassId × (Nat → Nat)) => True) (fun u t => va_P D vCl ([(h0, .inr (6, [.ref (u.2 0), .ref (u.2 1), .ref (u.2 2), .int 0, .int 0, .int 0, .int 0, .int 0])), (u.2 0, .inl (u.1, 8, .inl (fun _ => 0))), (u.2 1, .inl (u.1, 8, .inl (fun _ => 0))), (u.2 2, .inl (u.1, 8, .inl (fun _ => 0)))]) t.heap ∧ va_K D vCl [(u.1, .int)] t ∧ va_D (va_A [(h0, .inr (6, [.null, .null, .null, .int 0, .int 0, .int 0, .int 0, .int 0]))] sz) ([(h0, .inr (6, [.ref (u.2 0), .ref (u.2 1), .ref (u.2 2), .int 0, .int 0, .int 0, .int 0, .int 0])), (u.2 0, .inl (u.1, 8, .inl (fun _ => 0))), (u.2 1, .inl (u.1, 8, .inl (fun _ => 0))), (u.2 2, .inl (u.1, 8, .inl (fun _ => 0)))])) (va_A [(h0, .inr (6, [.null, .null, .null, .int 0, .int 0, .int 0, .int 0, .int 0]))] sz)) 3 24 (va_A [(h0, .inr (6, [.null, .null, .null, .int 0, .int 0, .int 0, .int 0, .int 0]))] sz) := by
  refine Met.ofW (cc := prog_6_method_1_code) (maxL := 1) (ret := none) (by decide) rfl ?_
  intro p e s m args below meth c s₁ B hml hv
  obtain ⟨rfl, hsz, hP, hK, hD0⟩ := hv
  have hx := B.exec
  have hb := B.bytes
  have hr := B.returns
  have hts0 := atoms_spec (ws := w_Pr_init) B.pre
  have hts : ∀ w ∈ TB, w.before (#[.ref h0] : Array Value) s = true := fun w h => hts0 w (List.mem_cons_of_mem _ h)
  have hown : s.vm.findClass R_Pr = some m.cls := findClass_of_methodNamed B.named
  have hlocks := B.notSynchronized
  have hin : meth.name = "<init>" := (name_of_methodNamed B.named B.method).1
  subst hsz
  have hD := hD0.self (sz := s.heap.size)
  generalize hAe : va_A [(h0, .inr (6, [.null, .null, .null, .int 0, .int 0, .int 0, .int 0, .int 0]))] s.heap.size = A at hD ⊢
  have hA : ∀ q : Nat, s.heap.size ≤ q → A q := fun q h => by rw [← hAe]; exact Or.inr h
  have hS : va_S A s.heap s.heap [] := va_S.rf
  obtain ⟨H, hH⟩ : ∃ z, z = s.heap := ⟨_, rfl⟩
  rw [← hH] at hP
  have hS : va_S A s.heap H [] := by rw [hH]; exact va_S.rf
  have hl := lv_entry ([.ref h0]) (n := 1) (Nat.le_of_ble_eq_true rfl)
  rw [lg_entry_eq]
  generalize (lg_sl ([.ref h0]) ++ List.replicate (1 - (lg_sl ([.ref h0])).length) Slot.unset).toArray = ls at hl ⊢
  have hl : lv_has ls 1 [(0, .ref h0)] := hl
  rw [← hH]
  refine lv_aload_n hx hb d_Pr_init_0 rfl (lv_at hl 0 rfl) ?_
  refine W.objInit hx hb hown (hts _ tb_ml_Pr_1) (hts _ tb_oi_im) (hts _ tb_oi_cd) rfl (by rw [hml]; exact hl.1) rfl d_Pr_init_1 (Nat.le_of_ble_eq_true rfl) (Nat.le_of_ble_eq_true rfl) ?_
  refine W.eq (g2 := F0 m 4 ls []) rfl ?_
  refine lv_aload_n hx hb d_Pr_init_4 rfl (lv_at hl 0 rfl) ?_
  refine lv_bipush (v := (8 : Int32)) hx hb d_Pr_init_5 (by decide) ?_
  refine va_newa (atype := .int) (ty := .int) (a0 := (8, .inl (fun _ => 0))) hx hb (hts _ tb_arr) rfl hK hP hD hS hA (fun _ => rfl) (by decide) (by decide) (by decide) (Nat.le_of_ble_eq_true rfl) (Nat.le_of_ble_eq_true rfl) d_Pr_init_7 (fun q1 cA H hK2 hP hD hS => ?_)
  have hK : va_K D vCl [(cA, .int)] s := hK2
  have hP : va_P D vCl [(h0, .inr (6, [.null, .null, .null, .int 0, .int 0, .int 0, .int 0, .int 0])), (q1, .inl (cA, 8, .inl (fun _ => 0)))] H := hP
  have hD : va_D A [(h0, .inr (6, [.null, .null, .null, .int 0, .int 0, .int 0, .int 0, .int 0])), (q1, .inl (cA, 8, .inl (fun _ => 0)))] := hD
  refine W.widen (k := 1) (n := 8) (Nat.le_of_ble_eq_true rfl) (Nat.le_of_ble_eq_true rfl) ?_
  refine va_putF (D := D) (ci := 6) (v := .ref q1) (ty := .array .int) (C := R_Pr) (T := T_Pr) (N := 8) hx hb hts iPr ty_Pr tyok_Pr nm_Pr hown hK hP hD hS 0 rfl rfl 0 (by decide) (hts _ tb_fl_Pr_9) (fun _ h9 => h9) rfl hin rfl (by decide +kernel) rfl rfl (Nat.le_of_ble_eq_true rfl) d_Pr_init_9 (fun H locs hP hD hS => ?_)
  have hP : va_P D vCl [(h0, .inr (6, [.ref q1, .null, .null, .int 0, .int 0, .int 0, .int 0, .int 0])), (q1, .inl (cA, 8, .inl (fun _ => 0)))] H := hP
  have hD : va_D A [(h0, .inr (6, [.ref q1, .null, .null, .int 0, .int 0, .int 0, .int 0, .int 0])), (q1, .inl (cA, 8, .inl (fun _ => 0)))] := hD
  refine lv_aload_n hx hb d_Pr_init_12 rfl (lv_at hl 0 rfl) ?_
  refine lv_bipush (v := (8 : Int32)) hx hb d_Pr_init_13 (by decide) ?_
  refine va_newa (atype := .int) (ty := .int) (a0 := (8, .inl (fun _ => 0))) hx hb (hts _ tb_arr) rfl hK hP hD hS hA (fun _ => rfl) (by decide) (by decide) (by decide) (Nat.le_of_ble_eq_true rfl) (Nat.le_of_ble_eq_true rfl) d_Pr_init_15 (fun q2 cB H hK2 hP hD hS => ?_)
  have hK2 : va_K D vCl [(cB, .int)] s := hK2.sub (tys' := [(cB, .int)]) [1] rfl
  have e9 := cA_eq hK hK2
  subst e9
  have hP : va_P D vCl [(h0, .inr (6, [.ref q1, .null, .null, .int 0, .int 0, .int 0, .int 0, .int 0])), (q1, .inl (cA, 8, .inl (fun _ => 0))), (q2, .inl (cA, 8, .inl (fun _ => 0)))] H := hP
  have hD : va_D A [(h0, .inr (6, [.ref q1, .null, .null, .int 0, .int 0, .int 0, .int 0, .int 0])), (q1, .inl (cA, 8, .inl (fun _ => 0))), (q2, .inl (cA, 8, .inl (fun _ => 0)))] := hD
  refine W.widen (k := 2) (n := 16) (Nat.le_of_ble_eq_true rfl) (Nat.le_of_ble_eq_true rfl) ?_
  refine va_putF (D := D) (ci := 6) (v := .ref q2) (ty := .array .int) (C := R_Pr) (T := T_Pr) (N := 8) hx hb hts iPr ty_Pr tyok_Pr nm_Pr hown hK hP hD hS 0 rfl rfl 1 (by decide) (hts _ tb_fl_Pr_13) (fun _ h9 => h9) rfl hin rfl (by decide +kernel) rfl rfl (Nat.le_of_ble_eq_true rfl) d_Pr_init_17 (fun H locs hP hD hS => ?_)
  have hP : va_P D vCl [(h0, .inr (6, [.ref q1, .ref q2, .null, .int 0, .int 0, .int 0, .int 0, .int 0])), (q1, .inl (cA, 8, .inl (fun _ => 0))), (q2, .inl (cA, 8, .inl (fun _ => 0)))] H := hP
  have hD : va_D A [(h0, .inr (6, [.ref q1, .ref q2, .null, .int 0, .int 0, .int 0, .int 0, .int 0])), (q1, .inl (cA, 8, .inl (fun _ => 0))), (q2, .inl (cA, 8, .inl (fun _ => 0)))] := hD
  refine lv_aload_n hx hb d_Pr_init_20 rfl (lv_at hl 0 rfl) ?_
  refine lv_bipush (v := (8 : Int32)) hx hb d_Pr_init_21 (by decide) ?_
  refine va_newa (atype := .int) (ty := .int) (a0 := (8, .inl (fun _ => 0))) hx hb (hts _ tb_arr) rfl hK hP hD hS hA (fun _ => rfl) (by decide) (by decide) (by decide) (Nat.le_of_ble_eq_true rfl) (Nat.le_of_ble_eq_true rfl) d_Pr_init_23 (fun q3 cB H hK2 hP hD hS => ?_)
  have hK2 : va_K D vCl [(cB, .int)] s := hK2.sub (tys' := [(cB, .int)]) [1] rfl
  have e9 := cA_eq hK hK2
  subst e9
  have hP : va_P D vCl [(h0, .inr (6, [.ref q1, .ref q2, .null, .int 0, .int 0, .int 0, .int 0, .int 0])), (q1, .inl (cA, 8, .inl (fun _ => 0))), (q2, .inl (cA, 8, .inl (fun _ => 0))), (q3, .inl (cA, 8, .inl (fun _ => 0)))] H := hP
  have hD : va_D A [(h0, .inr (6, [.ref q1, .ref q2, .null, .int 0, .int 0, .int 0, .int 0, .int 0])), (q1, .inl (cA, 8, .inl (fun _ => 0))), (q2, .inl (cA, 8, .inl (fun _ => 0))), (q3, .inl (cA, 8, .inl (fun _ => 0)))] := hD
  refine W.widen (k := 3) (n := 24) (Nat.le_of_ble_eq_true rfl) (Nat.le_of_ble_eq_true rfl) ?_
  refine va_putF (D := D) (ci := 6) (v := .ref q3) (ty := .array .int) (C := R_Pr) (T := T_Pr) (N := 8) hx hb hts iPr ty_Pr tyok_Pr nm_Pr hown hK hP hD hS 0 rfl rfl 2 (by decide) (hts _ tb_fl_Pr_16) (fun _ h9 => h9) rfl hin rfl (by decide +kernel) rfl rfl (Nat.le_of_ble_eq_true rfl) d_Pr_init_25 (fun H locs hP hD hS => ?_)
  have hP : va_P D vCl [(h0, .inr (6, [.ref q1, .ref q2, .ref q3, .int 0, .int 0, .int 0, .int 0, .int 0])), (q1, .inl (cA, 8, .inl (fun _ => 0))), (q2, .inl (cA, 8, .inl (fun _ => 0))), (q3, .inl (cA, 8, .inl (fun _ => 0)))] H := hP
  have hD : va_D A [(h0, .inr (6, [.ref q1, .ref q2, .ref q3, .int 0, .int 0, .int 0, .int 0, .int 0])), (q1, .inl (cA, 8, .inl (fun _ => 0))), (q2, .inl (cA, 8, .inl (fun _ => 0))), (q3, .inl (cA, 8, .inl (fun _ => 0)))] := hD
  have hP9 := hP.sub (ws' := [(h0, .inr (6, [.ref q1, .ref q2, .ref q3, .int 0, .int 0, .int 0, .int 0, .int 0])), (q1, .inl (cA, 8, .inl (fun _ => 0))), (q2, .inl (cA, 8, .inl (fun _ => 0))), (q3, .inl (cA, 8, .inl (fun _ => 0)))]) [0, 1, 2, 3] rfl
  have hD9 := hD.sub (ws' := [(h0, .inr (6, [.ref q1, .ref q2, .ref q3, .int 0, .int 0, .int 0, .int 0, .int 0])), (q1, .inl (cA, 8, .inl (fun _ => 0))), (q2, .inl (cA, 8, .inl (fun _ => 0))), (q3, .inl (cA, 8, .inl (fun _ => 0)))]) [0, 1, 2, 3] (by decide) rfl
  exact W.vret hx hb hr (fun t ht hW => ⟨⟨(cA, ad [q1, q2, q3]), rfl, trivial, by rw [ht]; exact hP9, va_K.moved hW.alike hK, hD9⟩, hS.F ht⟩) hS.2.2 d_Pr_init_28
set_option maxHeartbeats 4000000 in
set_option maxRecDepth 100000 in
theorem c_Bd_init (l : Launch) (D : va_G) (h0 sz : Nat) : Met l y_Bd_init w_Bd_init { frames := 2, cells := 17, slots := 738, locals := 40 } (va_Pc [.ref h0] (fun U => U.heap.size = sz ∧ va_P D vCl [(h0, .inr (0, [.null, .null, .null, .null, .null, .null, .null, .int 0, .int 0]))] U.heap ∧ va_K D vCl [] U ∧ va_D (fun _ => True) [(h0, .inr (0, [.null, .null, .null, .null, .null, .null, .null, .int 0, .int 0]))] ∧ ∀ w ∈ nestMW, va_Nw w U)) (va_Qv (fun (_ : ClassId × (Nat → Nat)) => True) (fun u t => va_P D vCl (wB u.1 u.2 (fun _ => 0) (fun _ _ => 0)) t.heap ∧ va_K D vCl [(u.1, .int)] t ∧ va_D (va_A [(h0, .inr (0, [.null, .null, .null, .null, .null, .null, .null, .int 0, .int 0]))] sz) (wB u.1 u.2 (fun _ => 0) (fun _ _ => 0)) ∧ u.2 0 = h0) (va_A [(h0, .inr (0, [.null, .null, .null, .null, .null, .null, .null, .int 0, .int 0]))] sz)) 17 738 (va_A [(h0, .inr (0, [.null, .null, .null, .null, .null, .null, .null, .int 0, .int 0]))] sz) := by
  refine Met.ofW (cc := prog_1_method_1_code) (maxL := 1) (ret := none) (by decide) rfl ?_
  intro p e s m args below meth c s₁ B hml hv
  obtain ⟨rfl, hsz, hP, hK, hD0, hNw⟩ := hv
  have hx := B.exec
  have hb := B.bytes
  have hr := B.returns
  have hts0 := atoms_spec (ws := w_Bd_init) B.pre
  have hts : ∀ w ∈ TB, w.before (#[.ref h0] : Array Value) s = true := fun w h => hts0 w (List.mem_cons_of_mem _ h)
  have hown : s.vm.findClass R_Bd = some m.cls := findClass_of_methodNamed B.named
  have hlocks := B.notSynchronized
  have hin : meth.name = "<init>" := (name_of_methodNamed B.named B.method).1
  subst hsz
  have hD := hD0.self (sz := s.heap.size)
  generalize hAe : va_A [(h0, .inr (0, [.null, .null, .null, .null, .null, .null, .null, .int 0, .int 0]))] s.heap.size = A at hD ⊢
  have hA : ∀ q : Nat, s.heap.size ≤ q → A q := fun q h => by rw [← hAe]; exact Or.inr h
  have hS : va_S A s.heap s.heap [] := va_S.rf
  obtain ⟨H, hH⟩ : ∃ z, z = s.heap := ⟨_, rfl⟩
  rw [← hH] at hP
  have hS : va_S A s.heap H [] := by rw [hH]; exact va_S.rf
  have hl := lv_entry ([.ref h0]) (n := 1) (Nat.le_of_ble_eq_true rfl)
  rw [lg_entry_eq]
  generalize (lg_sl ([.ref h0]) ++ List.replicate (1 - (lg_sl ([.ref h0])).length) Slot.unset).toArray = ls at hl ⊢
  have hl : lv_has ls 1 [(0, .ref h0)] := hl
  rw [← hH]
  refine lv_aload_n hx hb d_Bd_init_0 rfl (lv_at hl 0 rfl) ?_
  refine W.objInit hx hb hown (hts _ tb_ml_Bd_1) (hts _ tb_oi_im) (hts _ tb_oi_cd) rfl (by rw [hml]; exact hl.1) rfl d_Bd_init_1 (Nat.le_of_ble_eq_true rfl) (Nat.le_of_ble_eq_true rfl) ?_
  refine W.eq (g2 := F0 m 4 ls []) rfl ?_
  refine lv_aload_n hx hb d_Bd_init_4 rfl (lv_at hl 0 rfl) ?_
  refine va_new (ci := 1) (fs := [.null]) (C := R_Me) (T := T_Me) (N := 1) hx hb hts iMe ty_Me tyok_Me hown (hts _ tb_cl_Bd_7) (hts _ tb_it_Me) (hts _ tb_in_Me) hK hP hD hS hA rfl (by decide) (Nat.le_of_ble_eq_true rfl) (Nat.le_of_ble_eq_true rfl) d_Bd_init_5 (fun q1 H hP hD hS => ?_)
  have hP : va_P D vCl [(h0, .inr (0, [.null, .null, .null, .null, .null, .null, .null, .int 0, .int 0])), (q1, .inr (1, [.null]))] H := hP
  have hD : va_D A [(h0, .inr (0, [.null, .null, .null, .null, .null, .null, .null, .int 0, .int 0])), (q1, .inr (1, [.null]))] := hD
  refine W.widen (k := 1) (n := 1) (Nat.le_of_ble_eq_true rfl) (Nat.le_of_ble_eq_true rfl) ?_
  refine lv_dup hx hb d_Bd_init_8 rfl ?_
  have hPc := hP.sub (ws' := [(q1, .inr (1, [.null]))]) [1] rfl
  have hDc := hD.sub (ws' := [(q1, .inr (1, [.null]))]) [1] (by decide) rfl
  have hKc := hK.sub (tys' := []) [] rfl
  have hFc := va_free (wc := [(q1, .inr (1, [.null]))]) hD hS hA [1] rfl
  refine va_callv (va_runIN (As := []) (rest := [.ref q1, .ref h0]) ⟨hx, hb, hml, hown, hts⟩ (c_Me_init l D q1 H.size) ⟨va_cnB 0 hts (tb_gi tb_cd_Me_init) rfl rfl rfl (show va_Nw (.methodLinkNest "SlotBoard" 9 y_Me_init "SlotBoard") s from hNw _ (List.mem_of_getElem? (i := 0) rfl)) (hts _ tb_in_Me) yd_Me_init ⟨Nat.le_of_ble_eq_true rfl, Nat.le_of_ble_eq_true rfl⟩, rfl, hts _ tb_im_Me_init⟩ ⟨fun a U g mk q => by obtain ⟨q0, q1, qP, qK, qD⟩ := q; exact ⟨q0, q1, qP, va_K.moved (u := U) (U := U.calling g mk a) (Vm.Alike.refl U.vm) qK, qD⟩, fun U hU hW => ⟨rfl, by rw [hU], by rw [hU]; exact hPc, va_K.moved hW.alike hKc, hDc.weaken (fun _ _ _ _ => trivial)⟩⟩ rfl rfl hl.1 rfl (lv_room (Nat.le_of_ble_eq_true rfl)) d_Bd_init_9 ⟨Nat.le_of_ble_eq_true rfl, Nat.le_of_ble_eq_true rfl⟩) hS (fun q _ h => hFc q h) hFc (fun u t H1 locs ht hvm h5 hB hz1 hk1 hS => ?_)
  obtain ⟨cA, f2⟩ := u
  obtain ⟨hP1, hK1, hD1⟩ := hB
  rw [ht] at hP1
  have hK1 := va_K.moved hvm.symm hK1
  have hK : va_K D vCl [(cA, .int)] s := hK1
  obtain ⟨hP, hD⟩ := va_join (wr := [(h0, .inr (0, [.null, .null, .null, .null, .null, .null, .null, .int 0, .int 0]))]) (w1 := [(q1, .inr (1, [.ref (f2 0)])), ((f2 0), .inl (cA, 256, .inl (fun _ => 0)))]) hP hD [1] [0] rfl rfl (by decide) (by decide) hk1 hFc hP1 hD1
  generalize H1 = H at hP hS ⊢
  have hP : va_P D vCl [(h0, .inr (0, [.null, .null, .null, .null, .null, .null, .null, .int 0, .int 0])), (q1, .inr (1, [.ref (f2 0)])), ((f2 0), .inl (cA, 256, .inl (fun _ => 0)))] H := hP
  have hD : va_D A [(h0, .inr (0, [.null, .null, .null, .null, .null, .null, .null, .int 0, .int 0])), (q1, .inr (1, [.ref (f2 0)])), ((f2 0), .inl (cA, 256, .inl (fun _ => 0)))] := hD
  refine W.widen (k := 2) (n := 257) (Nat.le_of_ble_eq_true rfl) (Nat.le_of_ble_eq_true rfl) ?_
  refine va_putF (D := D) (ci := 0) (v := .ref q1) (ty := .object "SlotBoard$Memory") (C := R_Bd) (T := T_Bd) (N := 9) hx hb hts iBd ty_Bd tyok_Bd nm_Bd hown hK hP hD hS 0 rfl rfl 0 (by decide) (hts _ tb_fl_Bd_10) (fun _ h9 => h9) rfl hin rfl (by decide +kernel) rfl rfl (Nat.le_of_ble_eq_true rfl) d_Bd_init_12 (fun H locs hP hD hS => ?_)
  have hP : va_P D vCl [(h0, .inr (0, [.ref q1, .null, .null, .null, .null, .null, .null, .int 0, .int 0])), (q1, .inr (1, [.ref (f2 0)])), ((f2 0), .inl (cA, 256, .inl (fun _ => 0)))] H := hP
  have hD : va_D A [(h0, .inr (0, [.ref q1, .null, .null, .null, .null, .null, .null, .int 0, .int 0])), (q1, .inr (1, [.ref (f2 0)])), ((f2 0), .inl (cA, 256, .inl (fun _ => 0)))] := hD
  refine lv_aload_n hx hb d_Bd_init_15 rfl (lv_at hl 0 rfl) ?_
  refine va_new (ci := 2) (fs := [.null, .int 0]) (C := R_Re) (T := T_Re) (N := 2) hx hb hts iRe ty_Re tyok_Re hown (hts _ tb_cl_Bd_16) (hts _ tb_it_Re) (hts _ tb_in_Re) hK hP hD hS hA rfl (by decide) (Nat.le_of_ble_eq_true rfl) (Nat.le_of_ble_eq_true rfl) d_Bd_init_16 (fun q3 H hP hD hS => ?_)
  have hP : va_P D vCl [(h0, .inr (0, [.ref q1, .null, .null, .null, .null, .null, .null, .int 0, .int 0])), (q1, .inr (1, [.ref (f2 0)])), ((f2 0), .inl (cA, 256, .inl (fun _ => 0))), (q3, .inr (2, [.null, .int 0]))] H := hP
  have hD : va_D A [(h0, .inr (0, [.ref q1, .null, .null, .null, .null, .null, .null, .int 0, .int 0])), (q1, .inr (1, [.ref (f2 0)])), ((f2 0), .inl (cA, 256, .inl (fun _ => 0))), (q3, .inr (2, [.null, .int 0]))] := hD
  refine W.widen (k := 3) (n := 259) (Nat.le_of_ble_eq_true rfl) (Nat.le_of_ble_eq_true rfl) ?_
  refine lv_dup hx hb d_Bd_init_19 rfl ?_
  have hPc := hP.sub (ws' := [(q3, .inr (2, [.null, .int 0]))]) [3] rfl
  have hDc := hD.sub (ws' := [(q3, .inr (2, [.null, .int 0]))]) [3] (by decide) rfl
  have hKc := hK.sub (tys' := []) [] rfl
  have hFc := va_free (wc := [(q3, .inr (2, [.null, .int 0]))]) hD hS hA [3] rfl
  refine va_callv (va_runIN (As := []) (rest := [.ref q3, .ref h0]) ⟨hx, hb, hml, hown, hts⟩ (c_Re_init l D q3 H.size) ⟨va_cnB 0 hts (tb_gi tb_cd_Re_init) rfl rfl rfl (show va_Nw (.methodLinkNest "SlotBoard" 18 y_Re_init "SlotBoard") s from hNw _ (List.mem_of_getElem? (i := 1) rfl)) (hts _ tb_in_Re) yd_Re_init ⟨Nat.le_of_ble_eq_true rfl, Nat.le_of_ble_eq_true rfl⟩, rfl, hts _ tb_im_Re_init⟩ ⟨fun a U g mk q => by obtain ⟨q0, q1, qP, qK, qD⟩ := q; exact ⟨q0, q1, qP, va_K.moved (u := U) (U := U.calling g mk a) (Vm.Alike.refl U.vm) qK, qD⟩, fun U hU hW => ⟨rfl, by rw [hU], by rw [hU]; exact hPc, va_K.moved hW.alike hKc, hDc.weaken (fun _ _ _ _ => trivial)⟩⟩ rfl rfl hl.1 rfl (lv_room (Nat.le_of_ble_eq_true rfl)) d_Bd_init_20 ⟨Nat.le_of_ble_eq_true rfl, Nat.le_of_ble_eq_true rfl⟩) hS (fun q _ h => hFc q h) hFc (fun u t H1 locs ht hvm h5 hB hz1 hk1 hS => ?_)
  obtain ⟨cB, f4⟩ := u
  obtain ⟨hP1, hK1, hD1⟩ := hB
  rw [ht] at hP1
  have hK1 := va_K.moved hvm.symm hK1
  have e9 := cA_eq hK hK1
  subst e9
  obtain ⟨hP, hD⟩ := va_join (wr := [(h0, .inr (0, [.ref q1, .null, .null, .null, .null, .null, .null, .int 0, .int 0])), (q1, .inr (1, [.ref (f2 0)])), ((f2 0), .inl (cA, 256, .inl (fun _ => 0)))]) (w1 := [(q3, .inr (2, [.ref (f4 0), .int 0])), ((f4 0), .inl (cA, 28, .inl (fun _ => 0)))]) hP hD [3] [0, 1, 2] rfl rfl (by decide) (by decide) hk1 hFc hP1 hD1
  generalize H1 = H at hP hS ⊢
  have hP : va_P D vCl [(h0, .inr (0, [.ref q1, .null, .null, .null, .null, .null, .null, .int 0, .int 0])), (q1, .inr (1, [.ref (f2 0)])), ((f2 0), .inl (cA, 256, .inl (fun _ => 0))), (q3, .inr (2, [.ref (f4 0), .int 0])), ((f4 0), .inl (cA, 28, .inl (fun _ => 0)))] H := hP
  have hD : va_D A [(h0, .inr (0, [.ref q1, .null, .null, .null, .null, .null, .null, .int 0, .int 0])), (q1, .inr (1, [.ref (f2 0)])), ((f2 0), .inl (cA, 256, .inl (fun _ => 0))), (q3, .inr (2, [.ref (f4 0), .int 0])), ((f4 0), .inl (cA, 28, .inl (fun _ => 0)))] := hD
  refine W.widen (k := 4) (n := 287) (Nat.le_of_ble_eq_true rfl) (Nat.le_of_ble_eq_true rfl) ?_
  refine va_putF (D := D) (ci := 0) (v := .ref q3) (ty := .object "SlotBoard$Registers") (C := R_Bd) (T := T_Bd) (N := 9) hx hb hts iBd ty_Bd tyok_Bd nm_Bd hown hK hP hD hS 0 rfl rfl 1 (by decide) (hts _ tb_fl_Bd_19) (fun _ h9 => h9) rfl hin rfl (by decide +kernel) rfl rfl (Nat.le_of_ble_eq_true rfl) d_Bd_init_23 (fun H locs hP hD hS => ?_)
  have hP : va_P D vCl [(h0, .inr (0, [.ref q1, .ref q3, .null, .null, .null, .null, .null, .int 0, .int 0])), (q1, .inr (1, [.ref (f2 0)])), ((f2 0), .inl (cA, 256, .inl (fun _ => 0))), (q3, .inr (2, [.ref (f4 0), .int 0])), ((f4 0), .inl (cA, 28, .inl (fun _ => 0)))] H := hP
  have hD : va_D A [(h0, .inr (0, [.ref q1, .ref q3, .null, .null, .null, .null, .null, .int 0, .int 0])), (q1, .inr (1, [.ref (f2 0)])), ((f2 0), .inl (cA, 256, .inl (fun _ => 0))), (q3, .inr (2, [.ref (f4 0), .int 0])), ((f4 0), .inl (cA, 28, .inl (fun _ => 0)))] := hD
  refine lv_aload_n hx hb d_Bd_init_26 rfl (lv_at hl 0 rfl) ?_
  refine va_new (ci := 3) (fs := [.null, .null, .null, .null]) (C := R_Pi) (T := T_Pi) (N := 4) hx hb hts iPi ty_Pi tyok_Pi hown (hts _ tb_cl_Bd_23) (hts _ tb_it_Pi) (hts _ tb_in_Pi) hK hP hD hS hA rfl (by decide) (Nat.le_of_ble_eq_true rfl) (Nat.le_of_ble_eq_true rfl) d_Bd_init_27 (fun q5 H hP hD hS => ?_)
  have hP : va_P D vCl [(h0, .inr (0, [.ref q1, .ref q3, .null, .null, .null, .null, .null, .int 0, .int 0])), (q1, .inr (1, [.ref (f2 0)])), ((f2 0), .inl (cA, 256, .inl (fun _ => 0))), (q3, .inr (2, [.ref (f4 0), .int 0])), ((f4 0), .inl (cA, 28, .inl (fun _ => 0))), (q5, .inr (3, [.null, .null, .null, .null]))] H := hP
  have hD : va_D A [(h0, .inr (0, [.ref q1, .ref q3, .null, .null, .null, .null, .null, .int 0, .int 0])), (q1, .inr (1, [.ref (f2 0)])), ((f2 0), .inl (cA, 256, .inl (fun _ => 0))), (q3, .inr (2, [.ref (f4 0), .int 0])), ((f4 0), .inl (cA, 28, .inl (fun _ => 0))), (q5, .inr (3, [.null, .null, .null, .null]))] := hD
  refine W.widen (k := 5) (n := 291) (Nat.le_of_ble_eq_true rfl) (Nat.le_of_ble_eq_true rfl) ?_
  refine lv_dup hx hb d_Bd_init_30 rfl ?_
  have hPc := hP.sub (ws' := [(q5, .inr (3, [.null, .null, .null, .null]))]) [5] rfl
  have hDc := hD.sub (ws' := [(q5, .inr (3, [.null, .null, .null, .null]))]) [5] (by decide) rfl
  have hKc := hK.sub (tys' := []) [] rfl
  have hFc := va_free (wc := [(q5, .inr (3, [.null, .null, .null, .null]))]) hD hS hA [5] rfl
  refine va_callv (va_runIN (As := []) (rest := [.ref q5, .ref h0]) ⟨hx, hb, hml, hown, hts⟩ (c_Pi_init l D q5 H.size) ⟨va_cnB 0 hts (tb_gi tb_cd_Pi_init) rfl rfl rfl (show va_Nw (.methodLinkNest "SlotBoard" 25 y_Pi_init "SlotBoard") s from hNw _ (List.mem_of_getElem? (i := 2) rfl)) (hts _ tb_in_Pi) yd_Pi_init ⟨Nat.le_of_ble_eq_true rfl, Nat.le_of_ble_eq_true rfl⟩, rfl, hts _ tb_im_Pi_init⟩ ⟨fun a U g mk q => by obtain ⟨q0, q1, qP, qK, qD⟩ := q; exact ⟨q0, q1, qP, va_K.moved (u := U) (U := U.calling g mk a) (Vm.Alike.refl U.vm) qK, qD⟩, fun U hU hW => ⟨rfl, by rw [hU], by rw [hU]; exact hPc, va_K.moved hW.alike hKc, hDc.weaken (fun _ _ _ _ => trivial)⟩⟩ rfl rfl hl.1 rfl (lv_room (Nat.le_of_ble_eq_true rfl)) d_Bd_init_31 ⟨Nat.le_of_ble_eq_true rfl, Nat.le_of_ble_eq_true rfl⟩) hS (fun q _ h => hFc q h) hFc (fun u t H1 locs ht hvm h5 hB hz1 hk1 hS => ?_)
  obtain ⟨cB, f6⟩ := u
  obtain ⟨hP1, hK1, hD1⟩ := hB
  rw [ht] at hP1
  have hK1 := va_K.moved hvm.symm hK1
  have e9 := cA_eq hK hK1
  subst e9
  obtain ⟨hP, hD⟩ := va_join (wr := [(h0, .inr (0, [.ref q1, .ref q3, .null, .null, .null, .null, .null, .int 0, .int 0])), (q1, .inr (1, [.ref (f2 0)])), ((f2 0), .inl (cA, 256, .inl (fun _ => 0))), (q3, .inr (2, [.ref (f4 0), .int 0])), ((f4 0), .inl (cA, 28, .inl (fun _ => 0)))]) (w1 := [(q5, .inr (3, [.ref (f6 0), .ref (f6 1), .ref (f6 2), .ref (f6 3)])), ((f6 0), .inl (cA, 2, .inl (fun _ => 0))), ((f6 1), .inl (cA, 2, .inl (fun _ => 0))), ((f6 2), .inl (cA, 2, .inl (fun _ => 0))), ((f6 3), .inl (cA, 384, .inl (fun _ => 0)))]) hP hD [5] [0, 1, 2, 3, 4] rfl rfl (by decide) (by decide) hk1 hFc hP1 hD1
  generalize H1 = H at hP hS ⊢
  have hP : va_P D vCl [(h0, .inr (0, [.ref q1, .ref q3, .null, .null, .null, .null, .null, .int 0, .int 0])), (q1, .inr (1, [.ref (f2 0)])), ((f2 0), .inl (cA, 256, .inl (fun _ => 0))), (q3, .inr (2, [.ref (f4 0), .int 0])), ((f4 0), .inl (cA, 28, .inl (fun _ => 0))), (q5, .inr (3, [.ref (f6 0), .ref (f6 1), .ref (f6 2), .ref (f6 3)])), ((f6 0), .inl (cA, 2, .inl (fun _ => 0))), ((f6 1), .inl (cA, 2, .inl (fun _ => 0))), ((f6 2), .inl (cA, 2, .inl (fun _ => 0))), ((f6 3), .inl (cA, 384, .inl (fun _ => 0)))] H := hP
  have hD : va_D A [(h0, .inr (0, [.ref q1, .ref q3, .null, .null, .null, .null, .null, .int 0, .int 0])), (q1, .inr (1, [.ref (f2 0)])), ((f2 0), .inl (cA, 256, .inl (fun _ => 0))), (q3, .inr (2, [.ref (f4 0), .int 0])), ((f4 0), .inl (cA, 28, .inl (fun _ => 0))), (q5, .inr (3, [.ref (f6 0), .ref (f6 1), .ref (f6 2), .ref (f6 3)])), ((f6 0), .inl (cA, 2, .inl (fun _ => 0))), ((f6 1), .inl (cA, 2, .inl (fun _ => 0))), ((f6 2), .inl (cA, 2, .inl (fun _ => 0))), ((f6 3), .inl (cA, 384, .inl (fun _ => 0)))] := hD
  refine W.widen (k := 9) (n := 681) (Nat.le_of_ble_eq_true rfl) (Nat.le_of_ble_eq_true rfl) ?_
  refine va_putF (D := D) (ci := 0) (v := .ref q5) (ty := .object "SlotBoard$Picture") (C := R_Bd) (T := T_Bd) (N := 9) hx hb hts iBd ty_Bd tyok_Bd nm_Bd hown hK hP hD hS 0 rfl rfl 2 (by decide) (hts _ tb_fl_Bd_26) (fun _ h9 => h9) rfl hin rfl (by decide +kernel) rfl rfl (Nat.le_of_ble_eq_true rfl) d_Bd_init_34 (fun H locs hP hD hS => ?_)
  have hP : va_P D vCl [(h0, .inr (0, [.ref q1, .ref q3, .ref q5, .null, .null, .null, .null, .int 0, .int 0])), (q1, .inr (1, [.ref (f2 0)])), ((f2 0), .inl (cA, 256, .inl (fun _ => 0))), (q3, .inr (2, [.ref (f4 0), .int 0])), ((f4 0), .inl (cA, 28, .inl (fun _ => 0))), (q5, .inr (3, [.ref (f6 0), .ref (f6 1), .ref (f6 2), .ref (f6 3)])), ((f6 0), .inl (cA, 2, .inl (fun _ => 0))), ((f6 1), .inl (cA, 2, .inl (fun _ => 0))), ((f6 2), .inl (cA, 2, .inl (fun _ => 0))), ((f6 3), .inl (cA, 384, .inl (fun _ => 0)))] H := hP
  have hD : va_D A [(h0, .inr (0, [.ref q1, .ref q3, .ref q5, .null, .null, .null, .null, .int 0, .int 0])), (q1, .inr (1, [.ref (f2 0)])), ((f2 0), .inl (cA, 256, .inl (fun _ => 0))), (q3, .inr (2, [.ref (f4 0), .int 0])), ((f4 0), .inl (cA, 28, .inl (fun _ => 0))), (q5, .inr (3, [.ref (f6 0), .ref (f6 1), .ref (f6 2), .ref (f6 3)])), ((f6 0), .inl (cA, 2, .inl (fun _ => 0))), ((f6 1), .inl (cA, 2, .inl (fun _ => 0))), ((f6 2), .inl (cA, 2, .inl (fun _ => 0))), ((f6 3), .inl (cA, 384, .inl (fun _ => 0)))] := hD
  refine lv_aload_n hx hb d_Bd_init_37 rfl (lv_at hl 0 rfl) ?_
  refine va_new (ci := 4) (fs := [.int 0, .int 0, .int 0, .int 0, .int 0, .int 0]) (C := R_Li) (T := T_Li) (N := 6) hx hb hts iLi ty_Li tyok_Li hown (hts _ tb_cl_Bd_30) (hts _ tb_it_Li) (hts _ tb_in_Li) hK hP hD hS hA rfl (by decide) (Nat.le_of_ble_eq_true rfl) (Nat.le_of_ble_eq_true rfl) d_Bd_init_38 (fun q7 H hP hD hS => ?_)
  have hP : va_P D vCl [(h0, .inr (0, [.ref q1, .ref q3, .ref q5, .null, .null, .null, .null, .int 0, .int 0])), (q1, .inr (1, [.ref (f2 0)])), ((f2 0), .inl (cA, 256, .inl (fun _ => 0))), (q3, .inr (2, [.ref (f4 0), .int 0])), ((f4 0), .inl (cA, 28, .inl (fun _ => 0))), (q5, .inr (3, [.ref (f6 0), .ref (f6 1), .ref (f6 2), .ref (f6 3)])), ((f6 0), .inl (cA, 2, .inl (fun _ => 0))), ((f6 1), .inl (cA, 2, .inl (fun _ => 0))), ((f6 2), .inl (cA, 2, .inl (fun _ => 0))), ((f6 3), .inl (cA, 384, .inl (fun _ => 0))), (q7, .inr (4, [.int 0, .int 0, .int 0, .int 0, .int 0, .int 0]))] H := hP
  have hD : va_D A [(h0, .inr (0, [.ref q1, .ref q3, .ref q5, .null, .null, .null, .null, .int 0, .int 0])), (q1, .inr (1, [.ref (f2 0)])), ((f2 0), .inl (cA, 256, .inl (fun _ => 0))), (q3, .inr (2, [.ref (f4 0), .int 0])), ((f4 0), .inl (cA, 28, .inl (fun _ => 0))), (q5, .inr (3, [.ref (f6 0), .ref (f6 1), .ref (f6 2), .ref (f6 3)])), ((f6 0), .inl (cA, 2, .inl (fun _ => 0))), ((f6 1), .inl (cA, 2, .inl (fun _ => 0))), ((f6 2), .inl (cA, 2, .inl (fun _ => 0))), ((f6 3), .inl (cA, 384, .inl (fun _ => 0))), (q7, .inr (4, [.int 0, .int 0, .int 0, .int 0, .int 0, .int 0]))] := hD
  refine W.widen (k := 10) (n := 687) (Nat.le_of_ble_eq_true rfl) (Nat.le_of_ble_eq_true rfl) ?_
  refine lv_dup hx hb d_Bd_init_41 rfl ?_
  have hPc := hP.sub (ws' := [(q7, .inr (4, [.int 0, .int 0, .int 0, .int 0, .int 0, .int 0]))]) [10] rfl
  have hDc := hD.sub (ws' := [(q7, .inr (4, [.int 0, .int 0, .int 0, .int 0, .int 0, .int 0]))]) [10] (by decide) rfl
  have hKc := hK.sub (tys' := []) [] rfl
  have hFc := va_free (wc := [(q7, .inr (4, [.int 0, .int 0, .int 0, .int 0, .int 0, .int 0]))]) hD hS hA [10] rfl
  refine va_callv (va_runIN (As := []) (rest := [.ref q7, .ref h0]) ⟨hx, hb, hml, hown, hts⟩ (c_Li_init l D q7 H.size) ⟨va_cnB 0 hts (tb_gi tb_cd_Li_init) rfl rfl rfl (show va_Nw (.methodLinkNest "SlotBoard" 32 y_Li_init "SlotBoard") s from hNw _ (List.mem_of_getElem? (i := 3) rfl)) (hts _ tb_in_Li) yd_Li_init ⟨Nat.le_of_ble_eq_true rfl, Nat.le_of_ble_eq_true rfl⟩, rfl, hts _ tb_im_Li_init⟩ ⟨fun a U g mk q => by obtain ⟨q0, q1, qP, qK, qD⟩ := q; exact ⟨q0, q1, qP, va_K.moved (u := U) (U := U.calling g mk a) (Vm.Alike.refl U.vm) qK, qD⟩, fun U hU hW => ⟨rfl, by rw [hU], by rw [hU]; exact hPc, va_K.moved hW.alike hKc, hDc.weaken (fun _ _ _ _ => trivial)⟩⟩ rfl rfl hl.1 rfl (lv_room (Nat.le_of_ble_eq_true rfl)) d_Bd_init_42 ⟨Nat.le_of_ble_eq_true rfl, Nat.le_of_ble_eq_true rfl⟩) hS (fun q _ h => hFc q h) hFc (fun u t H1 locs ht hvm h5 hB hz1 hk1 hS => ?_)
  obtain ⟨f8, hf9⟩ : ∃ z, z = u.2 := ⟨_, rfl⟩
  obtain ⟨hP1, hD1⟩ := hB
  rw [ht] at hP1
  obtain ⟨hP, hD⟩ := va_join (wr := [(h0, .inr (0, [.ref q1, .ref q3, .ref q5, .null, .null, .null, .null, .int 0, .int 0])), (q1, .inr (1, [.ref (f2 0)])), ((f2 0), .inl (cA, 256, .inl (fun _ => 0))), (q3, .inr (2, [.ref (f4 0), .int 0])), ((f4 0), .inl (cA, 28, .inl (fun _ => 0))), (q5, .inr (3, [.ref (f6 0), .ref (f6 1), .ref (f6 2), .ref (f6 3)])), ((f6 0), .inl (cA, 2, .inl (fun _ => 0))), ((f6 1), .inl (cA, 2, .inl (fun _ => 0))), ((f6 2), .inl (cA, 2, .inl (fun _ => 0))), ((f6 3), .inl (cA, 384, .inl (fun _ => 0)))]) (w1 := [(q7, .inr (4, [.int 0, .int 0, .int 0, .int 0, .int 0, .int 0]))]) hP hD [10] [0, 1, 2, 3, 4, 5, 6, 7, 8, 9] rfl rfl (by decide) (by decide) hk1 hFc hP1 hD1
  generalize H1 = H at hP hS ⊢
  have hP : va_P D vCl [(h0, .inr (0, [.ref q1, .ref q3, .ref q5, .null, .null, .null, .null, .int 0, .int 0])), (q1, .inr (1, [.ref (f2 0)])), ((f2 0), .inl (cA, 256, .inl (fun _ => 0))), (q3, .inr (2, [.ref (f4 0), .int 0])), ((f4 0), .inl (cA, 28, .inl (fun _ => 0))), (q5, .inr (3, [.ref (f6 0), .ref (f6 1), .ref (f6 2), .ref (f6 3)])), ((f6 0), .inl (cA, 2, .inl (fun _ => 0))), ((f6 1), .inl (cA, 2, .inl (fun _ => 0))), ((f6 2), .inl (cA, 2, .inl (fun _ => 0))), ((f6 3), .inl (cA, 384, .inl (fun _ => 0))), (q7, .inr (4, [.int 0, .int 0, .int 0, .int 0, .int 0, .int 0]))] H := hP
  have hD : va_D A [(h0, .inr (0, [.ref q1, .ref q3, .ref q5, .null, .null, .null, .null, .int 0, .int 0])), (q1, .inr (1, [.ref (f2 0)])), ((f2 0), .inl (cA, 256, .inl (fun _ => 0))), (q3, .inr (2, [.ref (f4 0), .int 0])), ((f4 0), .inl (cA, 28, .inl (fun _ => 0))), (q5, .inr (3, [.ref (f6 0), .ref (f6 1), .ref (f6 2), .ref (f6 3)])), ((f6 0), .inl (cA, 2, .inl (fun _ => 0))), ((f6 1), .inl (cA, 2, .inl (fun _ => 0))), ((f6 2), .inl (cA, 2, .inl (fun _ => 0))), ((f6 3), .inl (cA, 384, .inl (fun _ => 0))), (q7, .inr (4, [.int 0, .int 0, .int 0, .int 0, .int 0, .int 0]))] := hD
  refine W.widen (k := 10) (n := 687) (Nat.le_of_ble_eq_true rfl) (Nat.le_of_ble_eq_true rfl) ?_
  refine va_putF (D := D) (ci := 0) (v := .ref q7) (ty := .object "SlotBoard$BeamList") (C := R_Bd) (T := T_Bd) (N := 9) hx hb hts iBd ty_Bd tyok_Bd nm_Bd hown hK hP hD hS 0 rfl rfl 3 (by decide) (hts _ tb_fl_Bd_33) (fun _ h9 => h9) rfl hin rfl (by decide +kernel) rfl rfl (Nat.le_of_ble_eq_true rfl) d_Bd_init_45 (fun H locs hP hD hS => ?_)
  have hP : va_P D vCl [(h0, .inr (0, [.ref q1, .ref q3, .ref q5, .ref q7, .null, .null, .null, .int 0, .int 0])), (q1, .inr (1, [.ref (f2 0)])), ((f2 0), .inl (cA, 256, .inl (fun _ => 0))), (q3, .inr (2, [.ref (f4 0), .int 0])), ((f4 0), .inl (cA, 28, .inl (fun _ => 0))), (q5, .inr (3, [.ref (f6 0), .ref (f6 1), .ref (f6 2), .ref (f6 3)])), ((f6 0), .inl (cA, 2, .inl (fun _ => 0))), ((f6 1), .inl (cA, 2, .inl (fun _ => 0))), ((f6 2), .inl (cA, 2, .inl (fun _ => 0))), ((f6 3), .inl (cA, 384, .inl (fun _ => 0))), (q7, .inr (4, [.int 0, .int 0, .int 0, .int 0, .int 0, .int 0]))] H := hP
  have hD : va_D A [(h0, .inr (0, [.ref q1, .ref q3, .ref q5, .ref q7, .null, .null, .null, .int 0, .int 0])), (q1, .inr (1, [.ref (f2 0)])), ((f2 0), .inl (cA, 256, .inl (fun _ => 0))), (q3, .inr (2, [.ref (f4 0), .int 0])), ((f4 0), .inl (cA, 28, .inl (fun _ => 0))), (q5, .inr (3, [.ref (f6 0), .ref (f6 1), .ref (f6 2), .ref (f6 3)])), ((f6 0), .inl (cA, 2, .inl (fun _ => 0))), ((f6 1), .inl (cA, 2, .inl (fun _ => 0))), ((f6 2), .inl (cA, 2, .inl (fun _ => 0))), ((f6 3), .inl (cA, 384, .inl (fun _ => 0))), (q7, .inr (4, [.int 0, .int 0, .int 0, .int 0, .int 0, .int 0]))] := hD
  refine lv_aload_n hx hb d_Bd_init_48 rfl (lv_at hl 0 rfl) ?_
  refine va_new (ci := 5) (fs := [.null, .int 0, .int 0, .int 0, .int 0, .int 0, .int 0, .int 0, .int 0, .int 0]) (C := R_Mo) (T := T_Mo) (N := 10) hx hb hts iMo ty_Mo tyok_Mo hown (hts _ tb_cl_Bd_37) (hts _ tb_it_Mo) (hts _ tb_in_Mo) hK hP hD hS hA rfl (by decide) (Nat.le_of_ble_eq_true rfl) (Nat.le_of_ble_eq_true rfl) d_Bd_init_49 (fun q9 H hP hD hS => ?_)
  have hP : va_P D vCl [(h0, .inr (0, [.ref q1, .ref q3, .ref q5, .ref q7, .null, .null, .null, .int 0, .int 0])), (q1, .inr (1, [.ref (f2 0)])), ((f2 0), .inl (cA, 256, .inl (fun _ => 0))), (q3, .inr (2, [.ref (f4 0), .int 0])), ((f4 0), .inl (cA, 28, .inl (fun _ => 0))), (q5, .inr (3, [.ref (f6 0), .ref (f6 1), .ref (f6 2), .ref (f6 3)])), ((f6 0), .inl (cA, 2, .inl (fun _ => 0))), ((f6 1), .inl (cA, 2, .inl (fun _ => 0))), ((f6 2), .inl (cA, 2, .inl (fun _ => 0))), ((f6 3), .inl (cA, 384, .inl (fun _ => 0))), (q7, .inr (4, [.int 0, .int 0, .int 0, .int 0, .int 0, .int 0])), (q9, .inr (5, [.null, .int 0, .int 0, .int 0, .int 0, .int 0, .int 0, .int 0, .int 0, .int 0]))] H := hP
  have hD : va_D A [(h0, .inr (0, [.ref q1, .ref q3, .ref q5, .ref q7, .null, .null, .null, .int 0, .int 0])), (q1, .inr (1, [.ref (f2 0)])), ((f2 0), .inl (cA, 256, .inl (fun _ => 0))), (q3, .inr (2, [.ref (f4 0), .int 0])), ((f4 0), .inl (cA, 28, .inl (fun _ => 0))), (q5, .inr (3, [.ref (f6 0), .ref (f6 1), .ref (f6 2), .ref (f6 3)])), ((f6 0), .inl (cA, 2, .inl (fun _ => 0))), ((f6 1), .inl (cA, 2, .inl (fun _ => 0))), ((f6 2), .inl (cA, 2, .inl (fun _ => 0))), ((f6 3), .inl (cA, 384, .inl (fun _ => 0))), (q7, .inr (4, [.int 0, .int 0, .int 0, .int 0, .int 0, .int 0])), (q9, .inr (5, [.null, .int 0, .int 0, .int 0, .int 0, .int 0, .int 0, .int 0, .int 0, .int 0]))] := hD
  refine W.widen (k := 11) (n := 697) (Nat.le_of_ble_eq_true rfl) (Nat.le_of_ble_eq_true rfl) ?_
  refine lv_dup hx hb d_Bd_init_52 rfl ?_
  have hPc := hP.sub (ws' := [(q9, .inr (5, [.null, .int 0, .int 0, .int 0, .int 0, .int 0, .int 0, .int 0, .int 0, .int 0]))]) [11] rfl
  have hDc := hD.sub (ws' := [(q9, .inr (5, [.null, .int 0, .int 0, .int 0, .int 0, .int 0, .int 0, .int 0, .int 0, .int 0]))]) [11] (by decide) rfl
  have hKc := hK.sub (tys' := []) [] rfl
  have hFc := va_free (wc := [(q9, .inr (5, [.null, .int 0, .int 0, .int 0, .int 0, .int 0, .int 0, .int 0, .int 0, .int 0]))]) hD hS hA [11] rfl
  refine va_callv (va_runIN (As := []) (rest := [.ref q9, .ref h0]) ⟨hx, hb, hml, hown, hts⟩ (c_Mo_init l D q9 H.size) ⟨va_cnB 0 hts (tb_gi tb_cd_Mo_init) rfl rfl rfl (show va_Nw (.methodLinkNest "SlotBoard" 39 y_Mo_init "SlotBoard") s from hNw _ (List.mem_of_getElem? (i := 4) rfl)) (hts _ tb_in_Mo) yd_Mo_init ⟨Nat.le_of_ble_eq_true rfl, Nat.le_of_ble_eq_true rfl⟩, rfl, hts _ tb_im_Mo_init⟩ ⟨fun a U g mk q => by obtain ⟨q0, q1, qP, qK, qD⟩ := q; exact ⟨q0, q1, qP, va_K.moved (u := U) (U := U.calling g mk a) (Vm.Alike.refl U.vm) qK, qD⟩, fun U hU hW => ⟨rfl, by rw [hU], by rw [hU]; exact hPc, va_K.moved hW.alike hKc, hDc.weaken (fun _ _ _ _ => trivial)⟩⟩ rfl rfl hl.1 rfl (lv_room (Nat.le_of_ble_eq_true rfl)) d_Bd_init_53 ⟨Nat.le_of_ble_eq_true rfl, Nat.le_of_ble_eq_true rfl⟩) hS (fun q _ h => hFc q h) hFc (fun u t H1 locs ht hvm h5 hB hz1 hk1 hS => ?_)
  obtain ⟨cB, f10⟩ := u
  obtain ⟨hP1, hK1, hD1⟩ := hB
  rw [ht] at hP1
  have hK1 := va_K.moved hvm.symm hK1
  have e9 := cA_eq hK hK1
  subst e9
  obtain ⟨hP, hD⟩ := va_join (wr := [(h0, .inr (0, [.ref q1, .ref q3, .ref q5, .ref q7, .null, .null, .null, .int 0, .int 0])), (q1, .inr (1, [.ref (f2 0)])), ((f2 0), .inl (cA, 256, .inl (fun _ => 0))), (q3, .inr (2, [.ref (f4 0), .int 0])), ((f4 0), .inl (cA, 28, .inl (fun _ => 0))), (q5, .inr (3, [.ref (f6 0), .ref (f6 1), .ref (f6 2), .ref (f6 3)])), ((f6 0), .inl (cA, 2, .inl (fun _ => 0))), ((f6 1), .inl (cA, 2, .inl (fun _ => 0))), ((f6 2), .inl (cA, 2, .inl (fun _ => 0))), ((f6 3), .inl (cA, 384, .inl (fun _ => 0))), (q7, .inr (4, [.int 0, .int 0, .int 0, .int 0, .int 0, .int 0]))]) (w1 := [(q9, .inr (5, [.ref (f10 0), .int 0, .int 0, .int 0, .int 0, .int 0, .int 0, .int 0, .int 0, .int 0])), ((f10 0), .inl (cA, 3, .inl (fun _ => 0)))]) hP hD [11] [0, 1, 2, 3, 4, 5, 6, 7, 8, 9, 10] rfl rfl (by decide) (by decide) hk1 hFc hP1 hD1
  generalize H1 = H at hP hS ⊢
  have hP : va_P D vCl [(h0, .inr (0, [.ref q1, .ref q3, .ref q5, .ref q7, .null, .null, .null, .int 0, .int 0])), (q1, .inr (1, [.ref (f2 0)])), ((f2 0), .inl (cA, 256, .inl (fun _ => 0))), (q3, .inr (2, [.ref (f4 0), .int 0])), ((f4 0), .inl (cA, 28, .inl (fun _ => 0))), (q5, .inr (3, [.ref (f6 0), .ref (f6 1), .ref (f6 2), .ref (f6 3)])), ((f6 0), .inl (cA, 2, .inl (fun _ => 0))), ((f6 1), .inl (cA, 2, .inl (fun _ => 0))), ((f6 2), .inl (cA, 2, .inl (fun _ => 0))), ((f6 3), .inl (cA, 384, .inl (fun _ => 0))), (q7, .inr (4, [.int 0, .int 0, .int 0, .int 0, .int 0, .int 0])), (q9, .inr (5, [.ref (f10 0), .int 0, .int 0, .int 0, .int 0, .int 0, .int 0, .int 0, .int 0, .int 0])), ((f10 0), .inl (cA, 3, .inl (fun _ => 0)))] H := hP
  have hD : va_D A [(h0, .inr (0, [.ref q1, .ref q3, .ref q5, .ref q7, .null, .null, .null, .int 0, .int 0])), (q1, .inr (1, [.ref (f2 0)])), ((f2 0), .inl (cA, 256, .inl (fun _ => 0))), (q3, .inr (2, [.ref (f4 0), .int 0])), ((f4 0), .inl (cA, 28, .inl (fun _ => 0))), (q5, .inr (3, [.ref (f6 0), .ref (f6 1), .ref (f6 2), .ref (f6 3)])), ((f6 0), .inl (cA, 2, .inl (fun _ => 0))), ((f6 1), .inl (cA, 2, .inl (fun _ => 0))), ((f6 2), .inl (cA, 2, .inl (fun _ => 0))), ((f6 3), .inl (cA, 384, .inl (fun _ => 0))), (q7, .inr (4, [.int 0, .int 0, .int 0, .int 0, .int 0, .int 0])), (q9, .inr (5, [.ref (f10 0), .int 0, .int 0, .int 0, .int 0, .int 0, .int 0, .int 0, .int 0, .int 0])), ((f10 0), .inl (cA, 3, .inl (fun _ => 0)))] := hD
  refine W.widen (k := 12) (n := 700) (Nat.le_of_ble_eq_true rfl) (Nat.le_of_ble_eq_true rfl) ?_
  refine va_putF (D := D) (ci := 0) (v := .ref q9) (ty := .object "SlotBoard$Mover") (C := R_Bd) (T := T_Bd) (N := 9) hx hb hts iBd ty_Bd tyok_Bd nm_Bd hown hK hP hD hS 0 rfl rfl 4 (by decide) (hts _ tb_fl_Bd_40) (fun _ h9 => h9) rfl hin rfl (by decide +kernel) rfl rfl (Nat.le_of_ble_eq_true rfl) d_Bd_init_56 (fun H locs hP hD hS => ?_)
  have hP : va_P D vCl [(h0, .inr (0, [.ref q1, .ref q3, .ref q5, .ref q7, .ref q9, .null, .null, .int 0, .int 0])), (q1, .inr (1, [.ref (f2 0)])), ((f2 0), .inl (cA, 256, .inl (fun _ => 0))), (q3, .inr (2, [.ref (f4 0), .int 0])), ((f4 0), .inl (cA, 28, .inl (fun _ => 0))), (q5, .inr (3, [.ref (f6 0), .ref (f6 1), .ref (f6 2), .ref (f6 3)])), ((f6 0), .inl (cA, 2, .inl (fun _ => 0))), ((f6 1), .inl (cA, 2, .inl (fun _ => 0))), ((f6 2), .inl (cA, 2, .inl (fun _ => 0))), ((f6 3), .inl (cA, 384, .inl (fun _ => 0))), (q7, .inr (4, [.int 0, .int 0, .int 0, .int 0, .int 0, .int 0])), (q9, .inr (5, [.ref (f10 0), .int 0, .int 0, .int 0, .int 0, .int 0, .int 0, .int 0, .int 0, .int 0])), ((f10 0), .inl (cA, 3, .inl (fun _ => 0)))] H := hP
  have hD : va_D A [(h0, .inr (0, [.ref q1, .ref q3, .ref q5, .ref q7, .ref q9, .null, .null, .int 0, .int 0])), (q1, .inr (1, [.ref (f2 0)])), ((f2 0), .inl (cA, 256, .inl (fun _ => 0))), (q3, .inr (2, [.ref (f4 0), .int 0])), ((f4 0), .inl (cA, 28, .inl (fun _ => 0))), (q5, .inr (3, [.ref (f6 0), .ref (f6 1), .ref (f6 2), .ref (f6 3)])), ((f6 0), .inl (cA, 2, .inl (fun _ => 0))), ((f6 1), .inl (cA, 2, .inl (fun _ => 0))), ((f6 2), .inl (cA, 2, .inl (fun _ => 0))), ((f6 3), .inl (cA, 384, .inl (fun _ => 0))), (q7, .inr (4, [.int 0, .int 0, .int 0, .int 0, .int 0, .int 0])), (q9, .inr (5, [.ref (f10 0), .int 0, .int 0, .int 0, .int 0, .int 0, .int 0, .int 0, .int 0, .int 0])), ((f10 0), .inl (cA, 3, .inl (fun _ => 0)))] := hD
  refine lv_aload_n hx hb d_Bd_init_59 rfl (lv_at hl 0 rfl) ?_
  refine va_new (ci := 6) (fs := [.null, .null, .null, .int 0, .int 0, .int 0, .int 0, .int 0]) (C := R_Pr) (T := T_Pr) (N := 8) hx hb hts iPr ty_Pr tyok_Pr hown (hts _ tb_cl_Bd_44) (hts _ tb_it_Pr) (hts _ tb_in_Pr) hK hP hD hS hA rfl (by decide) (Nat.le_of_ble_eq_true rfl) (Nat.le_of_ble_eq_true rfl) d_Bd_init_60 (fun q11 H hP hD hS => ?_)
  have hP : va_P D vCl [(h0, .inr (0, [.ref q1, .ref q3, .ref q5, .ref q7, .ref q9, .null, .null, .int 0, .int 0])), (q1, .inr (1, [.ref (f2 0)])), ((f2 0), .inl (cA, 256, .inl (fun _ => 0))), (q3, .inr (2, [.ref (f4 0), .int 0])), ((f4 0), .inl (cA, 28, .inl (fun _ => 0))), (q5, .inr (3, [.ref (f6 0), .ref (f6 1), .ref (f6 2), .ref (f6 3)])), ((f6 0), .inl (cA, 2, .inl (fun _ => 0))), ((f6 1), .inl (cA, 2, .inl (fun _ => 0))), ((f6 2), .inl (cA, 2, .inl (fun _ => 0))), ((f6 3), .inl (cA, 384, .inl (fun _ => 0))), (q7, .inr (4, [.int 0, .int 0, .int 0, .int 0, .int 0, .int 0])), (q9, .inr (5, [.ref (f10 0), .int 0, .int 0, .int 0, .int 0, .int 0, .int 0, .int 0, .int 0, .int 0])), ((f10 0), .inl (cA, 3, .inl (fun _ => 0))), (q11, .inr (6, [.null, .null, .null, .int 0, .int 0, .int 0, .int 0, .int 0]))] H := hP
  have hD : va_D A [(h0, .inr (0, [.ref q1, .ref q3, .ref q5, .ref q7, .ref q9, .null, .null, .int 0, .int 0])), (q1, .inr (1, [.ref (f2 0)])), ((f2 0), .inl (cA, 256, .inl (fun _ => 0))), (q3, .inr (2, [.ref (f4 0), .int 0])), ((f4 0), .inl (cA, 28, .inl (fun _ => 0))), (q5, .inr (3, [.ref (f6 0), .ref (f6 1), .ref (f6 2), .ref (f6 3)])), ((f6 0), .inl (cA, 2, .inl (fun _ => 0))), ((f6 1), .inl (cA, 2, .inl (fun _ => 0))), ((f6 2), .inl (cA, 2, .inl (fun _ => 0))), ((f6 3), .inl (cA, 384, .inl (fun _ => 0))), (q7, .inr (4, [.int 0, .int 0, .int 0, .int 0, .int 0, .int 0])), (q9, .inr (5, [.ref (f10 0), .int 0, .int 0, .int 0, .int 0, .int 0, .int 0, .int 0, .int 0, .int 0])), ((f10 0), .inl (cA, 3, .inl (fun _ => 0))), (q11, .inr (6, [.null, .null, .null, .int 0, .int 0, .int 0, .int 0, .int 0]))] := hD
  refine W.widen (k := 13) (n := 708) (Nat.le_of_ble_eq_true rfl) (Nat.le_of_ble_eq_true rfl) ?_
  refine lv_dup hx hb d_Bd_init_63 rfl ?_
  have hPc := hP.sub (ws' := [(q11, .inr (6, [.null, .null, .null, .int 0, .int 0, .int 0, .int 0, .int 0]))]) [13] rfl
  have hDc := hD.sub (ws' := [(q11, .inr (6, [.null, .null, .null, .int 0, .int 0, .int 0, .int 0, .int 0]))]) [13] (by decide) rfl
  have hKc := hK.sub (tys' := []) [] rfl
  have hFc := va_free (wc := [(q11, .inr (6, [.null, .null, .null, .int 0, .int 0, .int 0, .int 0, .int 0]))]) hD hS hA [13] rfl
  refine va_callv (va_runIN (As := []) (rest := [.ref q11, .ref h0]) ⟨hx, hb, hml, hown, hts⟩ (c_Pr_init l D q11 H.size) ⟨va_cnB 0 hts (tb_gi tb_cd_Pr_init) rfl rfl rfl (show va_Nw (.methodLinkNest "SlotBoard" 46 y_Pr_init "SlotBoard") s from hNw _ (List.mem_of_getElem? (i := 5) rfl)) (hts _ tb_in_Pr) yd_Pr_init ⟨Nat.le_of_ble_eq_true rfl, Nat.le_of_ble_eq_true rfl⟩, rfl, hts _ tb_im_Pr_init⟩ ⟨fun a U g mk q => by obtain ⟨q0, q1, qP, qK, qD⟩ := q; exact ⟨q0, q1, qP, va_K.moved (u := U) (U := U.calling g mk a) (Vm.Alike.refl U.vm) qK, qD⟩, fun U hU hW => ⟨rfl, by rw [hU], by rw [hU]; exact hPc, va_K.moved hW.alike hKc, hDc.weaken (fun _ _ _ _ => trivial)⟩⟩ rfl rfl hl.1 rfl (lv_room (Nat.le_of_ble_eq_true rfl)) d_Bd_init_64 ⟨Nat.le_of_ble_eq_true rfl, Nat.le_of_ble_eq_true rfl⟩) hS (fun q _ h => hFc q h) hFc (fun u t H1 locs ht hvm h5 hB hz1 hk1 hS => ?_)
  obtain ⟨cB, f12⟩ := u
  obtain ⟨hP1, hK1, hD1⟩ := hB
  rw [ht] at hP1
  have hK1 := va_K.moved hvm.symm hK1
  have e9 := cA_eq hK hK1
  subst e9
  obtain ⟨hP, hD⟩ := va_join (wr := [(h0, .inr (0, [.ref q1, .ref q3, .ref q5, .ref q7, .ref q9, .null, .null, .int 0, .int 0])), (q1, .inr (1, [.ref (f2 0)])), ((f2 0), .inl (cA, 256, .inl (fun _ => 0))), (q3, .inr (2, [.ref (f4 0), .int 0])), ((f4 0), .inl (cA, 28, .inl (fun _ => 0))), (q5, .inr (3, [.ref (f6 0), .ref (f6 1), .ref (f6 2), .ref (f6 3)])), ((f6 0), .inl (cA, 2, .inl (fun _ => 0))), ((f6 1), .inl (cA, 2, .inl (fun _ => 0))), ((f6 2), .inl (cA, 2, .inl (fun _ => 0))), ((f6 3), .inl (cA, 384, .inl (fun _ => 0))), (q7, .inr (4, [.int 0, .int 0, .int 0, .int 0, .int 0, .int 0])), (q9, .inr (5, [.ref (f10 0), .int 0, .int 0, .int 0, .int 0, .int 0, .int 0, .int 0, .int 0, .int 0])), ((f10 0), .inl (cA, 3, .inl (fun _ => 0)))]) (w1 := [(q11, .inr (6, [.ref (f12 0), .ref (f12 1), .ref (f12 2), .int 0, .int 0, .int 0, .int 0, .int 0])), ((f12 0), .inl (cA, 8, .inl (fun _ => 0))), ((f12 1), .inl (cA, 8, .inl (fun _ => 0))), ((f12 2), .inl (cA, 8, .inl (fun _ => 0)))]) hP hD [13] [0, 1, 2, 3, 4, 5, 6, 7, 8, 9, 10, 11, 12] rfl rfl (by decide) (by decide) hk1 hFc hP1 hD1
  generalize H1 = H at hP hS ⊢
  have hP : va_P D vCl [(h0, .inr (0, [.ref q1, .ref q3, .ref q5, .ref q7, .ref q9, .null, .null, .int 0, .int 0])), (q1, .inr (1, [.ref (f2 0)])), ((f2 0), .inl (cA, 256, .inl (fun _ => 0))), (q3, .inr (2, [.ref (f4 0), .int 0])), ((f4 0), .inl (cA, 28, .inl (fun _ => 0))), (q5, .inr (3, [.ref (f6 0), .ref (f6 1), .ref (f6 2), .ref (f6 3)])), ((f6 0), .inl (cA, 2, .inl (fun _ => 0))), ((f6 1), .inl (cA, 2, .inl (fun _ => 0))), ((f6 2), .inl (cA, 2, .inl (fun _ => 0))), ((f6 3), .inl (cA, 384, .inl (fun _ => 0))), (q7, .inr (4, [.int 0, .int 0, .int 0, .int 0, .int 0, .int 0])), (q9, .inr (5, [.ref (f10 0), .int 0, .int 0, .int 0, .int 0, .int 0, .int 0, .int 0, .int 0, .int 0])), ((f10 0), .inl (cA, 3, .inl (fun _ => 0))), (q11, .inr (6, [.ref (f12 0), .ref (f12 1), .ref (f12 2), .int 0, .int 0, .int 0, .int 0, .int 0])), ((f12 0), .inl (cA, 8, .inl (fun _ => 0))), ((f12 1), .inl (cA, 8, .inl (fun _ => 0))), ((f12 2), .inl (cA, 8, .inl (fun _ => 0)))] H := hP
  have hD : va_D A [(h0, .inr (0, [.ref q1, .ref q3, .ref q5, .ref q7, .ref q9, .null, .null, .int 0, .int 0])), (q1, .inr (1, [.ref (f2 0)])), ((f2 0), .inl (cA, 256, .inl (fun _ => 0))), (q3, .inr (2, [.ref (f4 0), .int 0])), ((f4 0), .inl (cA, 28, .inl (fun _ => 0))), (q5, .inr (3, [.ref (f6 0), .ref (f6 1), .ref (f6 2), .ref (f6 3)])), ((f6 0), .inl (cA, 2, .inl (fun _ => 0))), ((f6 1), .inl (cA, 2, .inl (fun _ => 0))), ((f6 2), .inl (cA, 2, .inl (fun _ => 0))), ((f6 3), .inl (cA, 384, .inl (fun _ => 0))), (q7, .inr (4, [.int 0, .int 0, .int 0, .int 0, .int 0, .int 0])), (q9, .inr (5, [.ref (f10 0), .int 0, .int 0, .int 0, .int 0, .int 0, .int 0, .int 0, .int 0, .int 0])), ((f10 0), .inl (cA, 3, .inl (fun _ => 0))), (q11, .inr (6, [.ref (f12 0), .ref (f12 1), .ref (f12 2), .int 0, .int 0, .int 0, .int 0, .int 0])), ((f12 0), .inl (cA, 8, .inl (fun _ => 0))), ((f12 1), .inl (cA, 8, .inl (fun _ => 0))), ((f12 2), .inl (cA, 8, .inl (fun _ => 0)))] := hD
  refine W.widen (k := 16) (n := 732) (Nat.le_of_ble_eq_true rfl) (Nat.le_of_ble_eq_true rfl) ?_
  refine va_putF (D := D) (ci := 0) (v := .ref q11) (ty := .object "SlotBoard$Processor") (C := R_Bd) (T := T_Bd) (N := 9) hx hb hts iBd ty_Bd tyok_Bd nm_Bd hown hK hP hD hS 0 rfl rfl 5 (by decide) (hts _ tb_fl_Bd_47) (fun _ h9 => h9) rfl hin rfl (by decide +kernel) rfl rfl (Nat.le_of_ble_eq_true rfl) d_Bd_init_67 (fun H locs hP hD hS => ?_)
  have hP : va_P D vCl [(h0, .inr (0, [.ref q1, .ref q3, .ref q5, .ref q7, .ref q9, .ref q11, .null, .int 0, .int 0])), (q1, .inr (1, [.ref (f2 0)])), ((f2 0), .inl (cA, 256, .inl (fun _ => 0))), (q3, .inr (2, [.ref (f4 0), .int 0])), ((f4 0), .inl (cA, 28, .inl (fun _ => 0))), (q5, .inr (3, [.ref (f6 0), .ref (f6 1), .ref (f6 2), .ref (f6 3)])), ((f6 0), .inl (cA, 2, .inl (fun _ => 0))), ((f6 1), .inl (cA, 2, .inl (fun _ => 0))), ((f6 2), .inl (cA, 2, .inl (fun _ => 0))), ((f6 3), .inl (cA, 384, .inl (fun _ => 0))), (q7, .inr (4, [.int 0, .int 0, .int 0, .int 0, .int 0, .int 0])), (q9, .inr (5, [.ref (f10 0), .int 0, .int 0, .int 0, .int 0, .int 0, .int 0, .int 0, .int 0, .int 0])), ((f10 0), .inl (cA, 3, .inl (fun _ => 0))), (q11, .inr (6, [.ref (f12 0), .ref (f12 1), .ref (f12 2), .int 0, .int 0, .int 0, .int 0, .int 0])), ((f12 0), .inl (cA, 8, .inl (fun _ => 0))), ((f12 1), .inl (cA, 8, .inl (fun _ => 0))), ((f12 2), .inl (cA, 8, .inl (fun _ => 0)))] H := hP
  have hD : va_D A [(h0, .inr (0, [.ref q1, .ref q3, .ref q5, .ref q7, .ref q9, .ref q11, .null, .int 0, .int 0])), (q1, .inr (1, [.ref (f2 0)])), ((f2 0), .inl (cA, 256, .inl (fun _ => 0))), (q3, .inr (2, [.ref (f4 0), .int 0])), ((f4 0), .inl (cA, 28, .inl (fun _ => 0))), (q5, .inr (3, [.ref (f6 0), .ref (f6 1), .ref (f6 2), .ref (f6 3)])), ((f6 0), .inl (cA, 2, .inl (fun _ => 0))), ((f6 1), .inl (cA, 2, .inl (fun _ => 0))), ((f6 2), .inl (cA, 2, .inl (fun _ => 0))), ((f6 3), .inl (cA, 384, .inl (fun _ => 0))), (q7, .inr (4, [.int 0, .int 0, .int 0, .int 0, .int 0, .int 0])), (q9, .inr (5, [.ref (f10 0), .int 0, .int 0, .int 0, .int 0, .int 0, .int 0, .int 0, .int 0, .int 0])), ((f10 0), .inl (cA, 3, .inl (fun _ => 0))), (q11, .inr (6, [.ref (f12 0), .ref (f12 1), .ref (f12 2), .int 0, .int 0, .int 0, .int 0, .int 0])), ((f12 0), .inl (cA, 8, .inl (fun _ => 0))), ((f12 1), .inl (cA, 8, .inl (fun _ => 0))), ((f12 2), .inl (cA, 8, .inl (fun _ => 0)))] := hD
  refine lv_aload_n hx hb d_Bd_init_70 rfl (lv_at hl 0 rfl) ?_
  refine lv_bipush (v := (6 : Int32)) hx hb d_Bd_init_71 (by decide) ?_
  refine va_newa (atype := .int) (ty := .int) (a0 := (6, .inl (fun _ => 0))) hx hb (hts _ tb_arr) rfl hK hP hD hS hA (fun _ => rfl) (by decide) (by decide) (by decide) (Nat.le_of_ble_eq_true rfl) (Nat.le_of_ble_eq_true rfl) d_Bd_init_73 (fun q13 cB H hK2 hP hD hS => ?_)
  have hK2 : va_K D vCl [(cB, .int)] s := hK2.sub (tys' := [(cB, .int)]) [1] rfl
  have e9 := cA_eq hK hK2
  subst e9
  have hP : va_P D vCl [(h0, .inr (0, [.ref q1, .ref q3, .ref q5, .ref q7, .ref q9, .ref q11, .null, .int 0, .int 0])), (q1, .inr (1, [.ref (f2 0)])), ((f2 0), .inl (cA, 256, .inl (fun _ => 0))), (q3, .inr (2, [.ref (f4 0), .int 0])), ((f4 0), .inl (cA, 28, .inl (fun _ => 0))), (q5, .inr (3, [.ref (f6 0), .ref (f6 1), .ref (f6 2), .ref (f6 3)])), ((f6 0), .inl (cA, 2, .inl (fun _ => 0))), ((f6 1), .inl (cA, 2, .inl (fun _ => 0))), ((f6 2), .inl (cA, 2, .inl (fun _ => 0))), ((f6 3), .inl (cA, 384, .inl (fun _ => 0))), (q7, .inr (4, [.int 0, .int 0, .int 0, .int 0, .int 0, .int 0])), (q9, .inr (5, [.ref (f10 0), .int 0, .int 0, .int 0, .int 0, .int 0, .int 0, .int 0, .int 0, .int 0])), ((f10 0), .inl (cA, 3, .inl (fun _ => 0))), (q11, .inr (6, [.ref (f12 0), .ref (f12 1), .ref (f12 2), .int 0, .int 0, .int 0, .int 0, .int 0])), ((f12 0), .inl (cA, 8, .inl (fun _ => 0))), ((f12 1), .inl (cA, 8, .inl (fun _ => 0))), ((f12 2), .inl (cA, 8, .inl (fun _ => 0))), (q13, .inl (cA, 6, .inl (fun _ => 0)))] H := hP
  have hD : va_D A [(h0, .inr (0, [.ref q1, .ref q3, .ref q5, .ref q7, .ref q9, .ref q11, .null, .int 0, .int 0])), (q1, .inr (1, [.ref (f2 0)])), ((f2 0), .inl (cA, 256, .inl (fun _ => 0))), (q3, .inr (2, [.ref (f4 0), .int 0])), ((f4 0), .inl (cA, 28, .inl (fun _ => 0))), (q5, .inr (3, [.ref (f6 0), .ref (f6 1), .ref (f6 2), .ref (f6 3)])), ((f6 0), .inl (cA, 2, .inl (fun _ => 0))), ((f6 1), .inl (cA, 2, .inl (fun _ => 0))), ((f6 2), .inl (cA, 2, .inl (fun _ => 0))), ((f6 3), .inl (cA, 384, .inl (fun _ => 0))), (q7, .inr (4, [.int 0, .int 0, .int 0, .int 0, .int 0, .int 0])), (q9, .inr (5, [.ref (f10 0), .int 0, .int 0, .int 0, .int 0, .int 0, .int 0, .int 0, .int 0, .int 0])), ((f10 0), .inl (cA, 3, .inl (fun _ => 0))), (q11, .inr (6, [.ref (f12 0), .ref (f12 1), .ref (f12 2), .int 0, .int 0, .int 0, .int 0, .int 0])), ((f12 0), .inl (cA, 8, .inl (fun _ => 0))), ((f12 1), .inl (cA, 8, .inl (fun _ => 0))), ((f12 2), .inl (cA, 8, .inl (fun _ => 0))), (q13, .inl (cA, 6, .inl (fun _ => 0)))] := hD
  refine W.widen (k := 17) (n := 738) (Nat.le_of_ble_eq_true rfl) (Nat.le_of_ble_eq_true rfl) ?_
  refine va_putF (D := D) (ci := 0) (v := .ref q13) (ty := .array .int) (C := R_Bd) (T := T_Bd) (N := 9) hx hb hts iBd ty_Bd tyok_Bd nm_Bd hown hK hP hD hS 0 rfl rfl 6 (by decide) (hts _ tb_fl_Bd_51) (fun _ h9 => h9) rfl hin rfl (by decide +kernel) rfl rfl (Nat.le_of_ble_eq_true rfl) d_Bd_init_75 (fun H locs hP hD hS => ?_)
  have hP : va_P D vCl [(h0, .inr (0, [.ref q1, .ref q3, .ref q5, .ref q7, .ref q9, .ref q11, .ref q13, .int 0, .int 0])), (q1, .inr (1, [.ref (f2 0)])), ((f2 0), .inl (cA, 256, .inl (fun _ => 0))), (q3, .inr (2, [.ref (f4 0), .int 0])), ((f4 0), .inl (cA, 28, .inl (fun _ => 0))), (q5, .inr (3, [.ref (f6 0), .ref (f6 1), .ref (f6 2), .ref (f6 3)])), ((f6 0), .inl (cA, 2, .inl (fun _ => 0))), ((f6 1), .inl (cA, 2, .inl (fun _ => 0))), ((f6 2), .inl (cA, 2, .inl (fun _ => 0))), ((f6 3), .inl (cA, 384, .inl (fun _ => 0))), (q7, .inr (4, [.int 0, .int 0, .int 0, .int 0, .int 0, .int 0])), (q9, .inr (5, [.ref (f10 0), .int 0, .int 0, .int 0, .int 0, .int 0, .int 0, .int 0, .int 0, .int 0])), ((f10 0), .inl (cA, 3, .inl (fun _ => 0))), (q11, .inr (6, [.ref (f12 0), .ref (f12 1), .ref (f12 2), .int 0, .int 0, .int 0, .int 0, .int 0])), ((f12 0), .inl (cA, 8, .inl (fun _ => 0))), ((f12 1), .inl (cA, 8, .inl (fun _ => 0))), ((f12 2), .inl (cA, 8, .inl (fun _ => 0))), (q13, .inl (cA, 6, .inl (fun _ => 0)))] H := hP
  have hD : va_D A [(h0, .inr (0, [.ref q1, .ref q3, .ref q5, .ref q7, .ref q9, .ref q11, .ref q13, .int 0, .int 0])), (q1, .inr (1, [.ref (f2 0)])), ((f2 0), .inl (cA, 256, .inl (fun _ => 0))), (q3, .inr (2, [.ref (f4 0), .int 0])), ((f4 0), .inl (cA, 28, .inl (fun _ => 0))), (q5, .inr (3, [.ref (f6 0), .ref (f6 1), .ref (f6 2), .ref (f6 3)])), ((f6 0), .inl (cA, 2, .inl (fun _ => 0))), ((f6 1), .inl (cA, 2, .inl (fun _ => 0))), ((f6 2), .inl (cA, 2, .inl (fun _ => 0))), ((f6 3), .inl (cA, 384, .inl (fun _ => 0))), (q7, .inr (4, [.int 0, .int 0, .int 0, .int 0, .int 0, .int 0])), (q9, .inr (5, [.ref (f10 0), .int 0, .int 0, .int 0, .int 0, .int 0, .int 0, .int 0, .int 0, .int 0])), ((f10 0), .inl (cA, 3, .inl (fun _ => 0))), (q11, .inr (6, [.ref (f12 0), .ref (f12 1), .ref (f12 2), .int 0, .int 0, .int 0, .int 0, .int 0])), ((f12 0), .inl (cA, 8, .inl (fun _ => 0))), ((f12 1), .inl (cA, 8, .inl (fun _ => 0))), ((f12 2), .inl (cA, 8, .inl (fun _ => 0))), (q13, .inl (cA, 6, .inl (fun _ => 0)))] := hD
  have hP9 := hP.sub (ws' := wB cA (ad [h0, q1, q3, q5, q7, q9, q11, q13, (f2 0), (f4 0), (f6 0), (f6 1), (f6 2), (f6 3), (f10 0), (f12 0), (f12 1), (f12 2)]) (fun _ => 0) (fun _ _ => 0)) [0, 1, 3, 5, 10, 11, 13, 17, 2, 4, 6, 7, 8, 9, 12, 14, 15, 16] rfl
  have hD9 := hD.sub (ws' := wB cA (ad [h0, q1, q3, q5, q7, q9, q11, q13, (f2 0), (f4 0), (f6 0), (f6 1), (f6 2), (f6 3), (f10 0), (f12 0), (f12 1), (f12 2)]) (fun _ => 0) (fun _ _ => 0)) [0, 1, 3, 5, 10, 11, 13, 17, 2, 4, 6, 7, 8, 9, 12, 14, 15, 16] (by decide) rfl
  exact W.vret hx hb hr (fun t ht hW => ⟨⟨(cA, ad [h0, q1, q3, q5, q7, q9, q11, q13, (f2 0), (f4 0), (f6 0), (f6 1), (f6 2), (f6 3), (f10 0), (f12 0), (f12 1), (f12 2)]), rfl, trivial, by rw [ht]; exact hP9, va_K.moved hW.alike hK, hD9, rfl⟩, hS.F ht⟩) hS.2.2 d_Bd_init_78
set_option maxHeartbeats 4000000 in
set_option maxRecDepth 100000 in
theorem c_Md_init (l : Launch) (D : va_G) (h0 sz : Nat) : Met l y_Md_init w_Md_init { frames := 1, cells := 9, slots := 708, locals := 20 } (va_Pc [.ref h0] (fun U => U.heap.size = sz ∧ va_P D vCl [(h0, .inr (7, [.null, .null, .null, .int 0, .int 0, .int 0, .null, .null, .null, .null, .int 0, .int 0, .int 0, .int 0, .int 0, .int 0, .int 0, .int 0, .int 0, .int 0, .int 0, .int 0, .int 0, .int 0, .int 0, .null, .int 0, .int 0, .null, .int 0, .int 0]))] U.heap ∧ va_K D vCl [] U ∧ va_D (fun _ => True) [(h0, .inr (7, [.null, .null, .null, .int 0, .int 0, .int 0, .null, .null, .null, .null, .int 0, .int 0, .int 0, .int 0, .int 0, .int 0, .int 0, .int 0, .int 0, .int 0, .int 0, .int 0, .int 0, .int 0, .int 0, .null, .int 0, .int 0, .null, .int 0, .int 0]))])) (va_Qv (fun (_ : ClassId × (Nat → Nat)) => True) (fun u t => va_P D vCl (wM u.1 u.2 (fun _ => 0) (fun _ _ => 0)) t.heap ∧ va_K D vCl [(u.1, .int)] t ∧ va_D (va_A [(h0, .inr (7, [.null, .null, .null, .int 0, .int 0, .int 0, .null, .null, .null, .null, .int 0, .int 0, .int 0, .int 0, .int 0, .int 0, .int 0, .int 0, .int 0, .int 0, .int 0, .int 0, .int 0, .int 0, .int 0, .null, .int 0, .int 0, .null, .int 0, .int 0]))] sz) (wM u.1 u.2 (fun _ => 0) (fun _ _ => 0)) ∧ u.2 0 = h0) (va_A [(h0, .inr (7, [.null, .null, .null, .int 0, .int 0, .int 0, .null, .null, .null, .null, .int 0, .int 0, .int 0, .int 0, .int 0, .int 0, .int 0, .int 0, .int 0, .int 0, .int 0, .int 0, .int 0, .int 0, .int 0, .null, .int 0, .int 0, .null, .int 0, .int 0]))] sz)) 9 708 (va_A [(h0, .inr (7, [.null, .null, .null, .int 0, .int 0, .int 0, .null, .null, .null, .null, .int 0, .int 0, .int 0, .int 0, .int 0, .int 0, .int 0, .int 0, .int 0, .int 0, .int 0, .int 0, .int 0, .int 0, .int 0, .null, .int 0, .int 0, .null, .int 0, .int 0]))] sz) := by
  refine Met.ofW (cc := prog_9_method_1_code) (maxL := 1) (ret := none) (by decide) rfl ?_
  intro p e s m args below meth c s₁ B hml hv
  obtain ⟨rfl, hsz, hP, hK, hD0⟩ := hv
  have hx := B.exec
  have hb := B.bytes
  have hr := B.returns
  have hts0 := atoms_spec (ws := w_Md_init) B.pre
  have hts : ∀ w ∈ TB, w.before (#[.ref h0] : Array Value) s = true := fun w h => hts0 w (List.mem_cons_of_mem _ h)
  have hown : s.vm.findClass R_Md = some m.cls := findClass_of_methodNamed B.named
  have hlocks := B.notSynchronized
  have hin : meth.name = "<init>" := (name_of_methodNamed B.named B.method).1
  subst hsz
  have hD := hD0.self (sz := s.heap.size)
  generalize hAe : va_A [(h0, .inr (7, [.null, .null, .null, .int 0, .int 0, .int 0, .null, .null, .null, .null, .int 0, .int 0, .int 0, .int 0, .int 0, .int 0, .int 0, .int 0, .int 0, .int 0, .int 0, .int 0, .int 0, .int 0, .int 0, .null, .int 0, .int 0, .null, .int 0, .int 0]))] s.heap.size = A at hD ⊢
  have hA : ∀ q : Nat, s.heap.size ≤ q → A q := fun q h => by rw [← hAe]; exact Or.inr h
  have hS : va_S A s.heap s.heap [] := va_S.rf
  obtain ⟨H, hH⟩ : ∃ z, z = s.heap := ⟨_, rfl⟩
  rw [← hH] at hP
  have hS : va_S A s.heap H [] := by rw [hH]; exact va_S.rf
  have hl := lv_entry ([.ref h0]) (n := 1) (Nat.le_of_ble_eq_true rfl)
  rw [lg_entry_eq]
  generalize (lg_sl ([.ref h0]) ++ List.replicate (1 - (lg_sl ([.ref h0])).length) Slot.unset).toArray = ls at hl ⊢
  have hl : lv_has ls 1 [(0, .ref h0)] := hl
  rw [← hH]
  refine lv_aload_n hx hb d_Md_init_0 rfl (lv_at hl 0 rfl) ?_
  refine W.objInit hx hb hown (hts _ tb_ml_Md_1) (hts _ tb_oi_im) (hts _ tb_oi_cd) rfl (by rw [hml]; exact hl.1) rfl d_Md_init_1 (Nat.le_of_ble_eq_true rfl) (Nat.le_of_ble_eq_true rfl) ?_
  refine W.eq (g2 := F0 m 4 ls []) rfl ?_
  refine lv_aload_n hx hb d_Md_init_4 rfl (lv_at hl 0 rfl) ?_
  refine lv_sipush (v := (256 : Int32)) hx hb d_Md_init_5 (by decide) ?_
  refine va_newa (atype := .int) (ty := .int) (a0 := (256, .inl (fun _ => 0))) hx hb (hts _ tb_arr) rfl hK hP hD hS hA (fun _ => rfl) (by decide) (by decide) (by decide) (Nat.le_of_ble_eq_true rfl) (Nat.le_of_ble_eq_true rfl) d_Md_init_8 (fun q1 cA H hK2 hP hD hS => ?_)
  have hK : va_K D vCl [(cA, .int)] s := hK2
  have hP : va_P D vCl [(h0, .inr (7, [.null, .null, .null, .int 0, .int 0, .int 0, .null, .null, .null, .null, .int 0, .int 0, .int 0, .int 0, .int 0, .int 0, .int 0, .int 0, .int 0, .int 0, .int 0, .int 0, .int 0, .int 0, .int 0, .null, .int 0, .int 0, .null, .int 0, .int 0])), (q1, .inl (cA, 256, .inl (fun _ => 0)))] H := hP
  have hD : va_D A [(h0, .inr (7, [.null, .null, .null, .int 0, .int 0, .int 0, .null, .null, .null, .null, .int 0, .int 0, .int 0, .int 0, .int 0, .int 0, .int 0, .int 0, .int 0, .int 0, .int 0, .int 0, .int 0, .int 0, .int 0, .null, .int 0, .int 0, .null, .int 0, .int 0])), (q1, .inl (cA, 256, .inl (fun _ => 0)))] := hD
  refine W.widen (k := 1) (n := 256) (Nat.le_of_ble_eq_true rfl) (Nat.le_of_ble_eq_true rfl) ?_
  refine va_putF (D := D) (ci := 7) (v := .ref q1) (ty := .array .int) (C := R_Md) (T := T_Md) (N := 31) hx hb hts iMd ty_Md tyok_Md nm_Md hown hK hP hD hS 0 rfl rfl 0 (by decide) (hts _ tb_fl_Md_7) (fun _ h9 => h9) rfl hin rfl (by decide +kernel) rfl rfl (Nat.le_of_ble_eq_true rfl) d_Md_init_10 (fun H locs hP hD hS => ?_)
  have hP : va_P D vCl [(h0, .inr (7, [.ref q1, .null, .null, .int 0, .int 0, .int 0, .null, .null, .null, .null, .int 0, .int 0, .int 0, .int 0, .int 0, .int 0, .int 0, .int 0, .int 0, .int 0, .int 0, .int 0, .int 0, .int 0, .int 0, .null, .int 0, .int 0, .null, .int 0, .int 0])), (q1, .inl (cA, 256, .inl (fun _ => 0)))] H := hP
  have hD : va_D A [(h0, .inr (7, [.ref q1, .null, .null, .int 0, .int 0, .int 0, .null, .null, .null, .null, .int 0, .int 0, .int 0, .int 0, .int 0, .int 0, .int 0, .int 0, .int 0, .int 0, .int 0, .int 0, .int 0, .int 0, .int 0, .null, .int 0, .int 0, .null, .int 0, .int 0])), (q1, .inl (cA, 256, .inl (fun _ => 0)))] := hD
  refine lv_aload_n hx hb d_Md_init_13 rfl (lv_at hl 0 rfl) ?_
  refine lv_bipush (v := (28 : Int32)) hx hb d_Md_init_14 (by decide) ?_
  refine va_newa (atype := .int) (ty := .int) (a0 := (28, .inl (fun _ => 0))) hx hb (hts _ tb_arr) rfl hK hP hD hS hA (fun _ => rfl) (by decide) (by decide) (by decide) (Nat.le_of_ble_eq_true rfl) (Nat.le_of_ble_eq_true rfl) d_Md_init_16 (fun q2 cB H hK2 hP hD hS => ?_)
  have hK2 : va_K D vCl [(cB, .int)] s := hK2.sub (tys' := [(cB, .int)]) [1] rfl
  have e9 := cA_eq hK hK2
  subst e9
  have hP : va_P D vCl [(h0, .inr (7, [.ref q1, .null, .null, .int 0, .int 0, .int 0, .null, .null, .null, .null, .int 0, .int 0, .int 0, .int 0, .int 0, .int 0, .int 0, .int 0, .int 0, .int 0, .int 0, .int 0, .int 0, .int 0, .int 0, .null, .int 0, .int 0, .null, .int 0, .int 0])), (q1, .inl (cA, 256, .inl (fun _ => 0))), (q2, .inl (cA, 28, .inl (fun _ => 0)))] H := hP
  have hD : va_D A [(h0, .inr (7, [.ref q1, .null, .null, .int 0, .int 0, .int 0, .null, .null, .null, .null, .int 0, .int 0, .int 0, .int 0, .int 0, .int 0, .int 0, .int 0, .int 0, .int 0, .int 0, .int 0, .int 0, .int 0, .int 0, .null, .int 0, .int 0, .null, .int 0, .int 0])), (q1, .inl (cA, 256, .inl (fun _ => 0))), (q2, .inl (cA, 28, .inl (fun _ => 0)))] := hD
  refine W.widen (k := 2) (n := 284) (Nat.le_of_ble_eq_true rfl) (Nat.le_of_ble_eq_true rfl) ?_
  refine va_putF (D := D) (ci := 7) (v := .ref q2) (ty := .array .int) (C := R_Md) (T := T_Md) (N := 31) hx hb hts iMd ty_Md tyok_Md nm_Md hown hK hP hD hS 0 rfl rfl 1 (by decide) (hts _ tb_fl_Md_13) (fun _ h9 => h9) rfl hin rfl (by decide +kernel) rfl rfl (Nat.le_of_ble_eq_true rfl) d_Md_init_18 (fun H locs hP hD hS => ?_)
  have hP : va_P D vCl [(h0, .inr (7, [.ref q1, .ref q2, .null, .int 0, .int 0, .int 0, .null, .null, .null, .null, .int 0, .int 0, .int 0, .int 0, .int 0, .int 0, .int 0, .int 0, .int 0, .int 0, .int 0, .int 0, .int 0, .int 0, .int 0, .null, .int 0, .int 0, .null, .int 0, .int 0])), (q1, .inl (cA, 256, .inl (fun _ => 0))), (q2, .inl (cA, 28, .inl (fun _ => 0)))] H := hP
  have hD : va_D A [(h0, .inr (7, [.ref q1, .ref q2, .null, .int 0, .int 0, .int 0, .null, .null, .null, .null, .int 0, .int 0, .int 0, .int 0, .int 0, .int 0, .int 0, .int 0, .int 0, .int 0, .int 0, .int 0, .int 0, .int 0, .int 0, .null, .int 0, .int 0, .null, .int 0, .int 0])), (q1, .inl (cA, 256, .inl (fun _ => 0))), (q2, .inl (cA, 28, .inl (fun _ => 0)))] := hD
  refine lv_aload_n hx hb d_Md_init_21 rfl (lv_at hl 0 rfl) ?_
  refine lv_sipush (v := (384 : Int32)) hx hb d_Md_init_22 (by decide) ?_
  refine va_newa (atype := .int) (ty := .int) (a0 := (384, .inl (fun _ => 0))) hx hb (hts _ tb_arr) rfl hK hP hD hS hA (fun _ => rfl) (by decide) (by decide) (by decide) (Nat.le_of_ble_eq_true rfl) (Nat.le_of_ble_eq_true rfl) d_Md_init_25 (fun q3 cB H hK2 hP hD hS => ?_)
  have hK2 : va_K D vCl [(cB, .int)] s := hK2.sub (tys' := [(cB, .int)]) [1] rfl
  have e9 := cA_eq hK hK2
  subst e9
  have hP : va_P D vCl [(h0, .inr (7, [.ref q1, .ref q2, .null, .int 0, .int 0, .int 0, .null, .null, .null, .null, .int 0, .int 0, .int 0, .int 0, .int 0, .int 0, .int 0, .int 0, .int 0, .int 0, .int 0, .int 0, .int 0, .int 0, .int 0, .null, .int 0, .int 0, .null, .int 0, .int 0])), (q1, .inl (cA, 256, .inl (fun _ => 0))), (q2, .inl (cA, 28, .inl (fun _ => 0))), (q3, .inl (cA, 384, .inl (fun _ => 0)))] H := hP
  have hD : va_D A [(h0, .inr (7, [.ref q1, .ref q2, .null, .int 0, .int 0, .int 0, .null, .null, .null, .null, .int 0, .int 0, .int 0, .int 0, .int 0, .int 0, .int 0, .int 0, .int 0, .int 0, .int 0, .int 0, .int 0, .int 0, .int 0, .null, .int 0, .int 0, .null, .int 0, .int 0])), (q1, .inl (cA, 256, .inl (fun _ => 0))), (q2, .inl (cA, 28, .inl (fun _ => 0))), (q3, .inl (cA, 384, .inl (fun _ => 0)))] := hD
  refine W.widen (k := 3) (n := 668) (Nat.le_of_ble_eq_true rfl) (Nat.le_of_ble_eq_true rfl) ?_
  refine va_putF (D := D) (ci := 7) (v := .ref q3) (ty := .array .int) (C := R_Md) (T := T_Md) (N := 31) hx hb hts iMd ty_Md tyok_Md nm_Md hown hK hP hD hS 0 rfl rfl 2 (by decide) (hts _ tb_fl_Md_16) (fun _ h9 => h9) rfl hin rfl (by decide +kernel) rfl rfl (Nat.le_of_ble_eq_true rfl) d_Md_init_27 (fun H locs hP hD hS => ?_)
  have hP : va_P D vCl [(h0, .inr (7, [.ref q1, .ref q2, .ref q3, .int 0, .int 0, .int 0, .null, .null, .null, .null, .int 0, .int 0, .int 0, .int 0, .int 0, .int 0, .int 0, .int 0, .int 0, .int 0, .int 0, .int 0, .int 0, .int 0, .int 0, .null, .int 0, .int 0, .null, .int 0, .int 0])), (q1, .inl (cA, 256, .inl (fun _ => 0))), (q2, .inl (cA, 28, .inl (fun _ => 0))), (q3, .inl (cA, 384, .inl (fun _ => 0)))] H := hP
  have hD : va_D A [(h0, .inr (7, [.ref q1, .ref q2, .ref q3, .int 0, .int 0, .int 0, .null, .null, .null, .null, .int 0, .int 0, .int 0, .int 0, .int 0, .int 0, .int 0, .int 0, .int 0, .int 0, .int 0, .int 0, .int 0, .int 0, .int 0, .null, .int 0, .int 0, .null, .int 0, .int 0])), (q1, .inl (cA, 256, .inl (fun _ => 0))), (q2, .inl (cA, 28, .inl (fun _ => 0))), (q3, .inl (cA, 384, .inl (fun _ => 0)))] := hD
  refine lv_aload_n hx hb d_Md_init_30 rfl (lv_at hl 0 rfl) ?_
  refine lv_bipush (v := (6 : Int32)) hx hb d_Md_init_31 (by decide) ?_
  refine va_newa (atype := .int) (ty := .int) (a0 := (6, .inl (fun _ => 0))) hx hb (hts _ tb_arr) rfl hK hP hD hS hA (fun _ => rfl) (by decide) (by decide) (by decide) (Nat.le_of_ble_eq_true rfl) (Nat.le_of_ble_eq_true rfl) d_Md_init_33 (fun q4 cB H hK2 hP hD hS => ?_)
  have hK2 : va_K D vCl [(cB, .int)] s := hK2.sub (tys' := [(cB, .int)]) [1] rfl
  have e9 := cA_eq hK hK2
  subst e9
  have hP : va_P D vCl [(h0, .inr (7, [.ref q1, .ref q2, .ref q3, .int 0, .int 0, .int 0, .null, .null, .null, .null, .int 0, .int 0, .int 0, .int 0, .int 0, .int 0, .int 0, .int 0, .int 0, .int 0, .int 0, .int 0, .int 0, .int 0, .int 0, .null, .int 0, .int 0, .null, .int 0, .int 0])), (q1, .inl (cA, 256, .inl (fun _ => 0))), (q2, .inl (cA, 28, .inl (fun _ => 0))), (q3, .inl (cA, 384, .inl (fun _ => 0))), (q4, .inl (cA, 6, .inl (fun _ => 0)))] H := hP
  have hD : va_D A [(h0, .inr (7, [.ref q1, .ref q2, .ref q3, .int 0, .int 0, .int 0, .null, .null, .null, .null, .int 0, .int 0, .int 0, .int 0, .int 0, .int 0, .int 0, .int 0, .int 0, .int 0, .int 0, .int 0, .int 0, .int 0, .int 0, .null, .int 0, .int 0, .null, .int 0, .int 0])), (q1, .inl (cA, 256, .inl (fun _ => 0))), (q2, .inl (cA, 28, .inl (fun _ => 0))), (q3, .inl (cA, 384, .inl (fun _ => 0))), (q4, .inl (cA, 6, .inl (fun _ => 0)))] := hD
  refine W.widen (k := 4) (n := 674) (Nat.le_of_ble_eq_true rfl) (Nat.le_of_ble_eq_true rfl) ?_
  refine va_putF (D := D) (ci := 7) (v := .ref q4) (ty := .array .int) (C := R_Md) (T := T_Md) (N := 31) hx hb hts iMd ty_Md tyok_Md nm_Md hown hK hP hD hS 0 rfl rfl 6 (by decide) (hts _ tb_fl_Md_19) (fun _ h9 => h9) rfl hin rfl (by decide +kernel) rfl rfl (Nat.le_of_ble_eq_true rfl) d_Md_init_35 (fun H locs hP hD hS => ?_)
  have hP : va_P D vCl [(h0, .inr (7, [.ref q1, .ref q2, .ref q3, .int 0, .int 0, .int 0, .ref q4, .null, .null, .null, .int 0, .int 0, .int 0, .int 0, .int 0, .int 0, .int 0, .int 0, .int 0, .int 0, .int 0, .int 0, .int 0, .int 0, .int 0, .null, .int 0, .int 0, .null, .int 0, .int 0])), (q1, .inl (cA, 256, .inl (fun _ => 0))), (q2, .inl (cA, 28, .inl (fun _ => 0))), (q3, .inl (cA, 384, .inl (fun _ => 0))), (q4, .inl (cA, 6, .inl (fun _ => 0)))] H := hP
  have hD : va_D A [(h0, .inr (7, [.ref q1, .ref q2, .ref q3, .int 0, .int 0, .int 0, .ref q4, .null, .null, .null, .int 0, .int 0, .int 0, .int 0, .int 0, .int 0, .int 0, .int 0, .int 0, .int 0, .int 0, .int 0, .int 0, .int 0, .int 0, .null, .int 0, .int 0, .null, .int 0, .int 0])), (q1, .inl (cA, 256, .inl (fun _ => 0))), (q2, .inl (cA, 28, .inl (fun _ => 0))), (q3, .inl (cA, 384, .inl (fun _ => 0))), (q4, .inl (cA, 6, .inl (fun _ => 0)))] := hD
  refine lv_aload_n hx hb d_Md_init_38 rfl (lv_at hl 0 rfl) ?_
  refine lv_iconst (v := (2 : Int32)) hx hb d_Md_init_39 (by decide) ?_
  refine va_newa (atype := .int) (ty := .int) (a0 := (2, .inl (fun _ => 0))) hx hb (hts _ tb_arr) rfl hK hP hD hS hA (fun _ => rfl) (by decide) (by decide) (by decide) (Nat.le_of_ble_eq_true rfl) (Nat.le_of_ble_eq_true rfl) d_Md_init_40 (fun q5 cB H hK2 hP hD hS => ?_)
  have hK2 : va_K D vCl [(cB, .int)] s := hK2.sub (tys' := [(cB, .int)]) [1] rfl
  have e9 := cA_eq hK hK2
  subst e9
  have hP : va_P D vCl [(h0, .inr (7, [.ref q1, .ref q2, .ref q3, .int 0, .int 0, .int 0, .ref q4, .null, .null, .null, .int 0, .int 0, .int 0, .int 0, .int 0, .int 0, .int 0, .int 0, .int 0, .int 0, .int 0, .int 0, .int 0, .int 0, .int 0, .null, .int 0, .int 0, .null, .int 0, .int 0])), (q1, .inl (cA, 256, .inl (fun _ => 0))), (q2, .inl (cA, 28, .inl (fun _ => 0))), (q3, .inl (cA, 384, .inl (fun _ => 0))), (q4, .inl (cA, 6, .inl (fun _ => 0))), (q5, .inl (cA, 2, .inl (fun _ => 0)))] H := hP
  have hD : va_D A [(h0, .inr (7, [.ref q1, .ref q2, .ref q3, .int 0, .int 0, .int 0, .ref q4, .null, .null, .null, .int 0, .int 0, .int 0, .int 0, .int 0, .int 0, .int 0, .int 0, .int 0, .int 0, .int 0, .int 0, .int 0, .int 0, .int 0, .null, .int 0, .int 0, .null, .int 0, .int 0])), (q1, .inl (cA, 256, .inl (fun _ => 0))), (q2, .inl (cA, 28, .inl (fun _ => 0))), (q3, .inl (cA, 384, .inl (fun _ => 0))), (q4, .inl (cA, 6, .inl (fun _ => 0))), (q5, .inl (cA, 2, .inl (fun _ => 0)))] := hD
  refine W.widen (k := 5) (n := 676) (Nat.le_of_ble_eq_true rfl) (Nat.le_of_ble_eq_true rfl) ?_
  refine va_putF (D := D) (ci := 7) (v := .ref q5) (ty := .array .int) (C := R_Md) (T := T_Md) (N := 31) hx hb hts iMd ty_Md tyok_Md nm_Md hown hK hP hD hS 0 rfl rfl 7 (by decide) (hts _ tb_fl_Md_22) (fun _ h9 => h9) rfl hin rfl (by decide +kernel) rfl rfl (Nat.le_of_ble_eq_true rfl) d_Md_init_42 (fun H locs hP hD hS => ?_)
  have hP : va_P D vCl [(h0, .inr (7, [.ref q1, .ref q2, .ref q3, .int 0, .int 0, .int 0, .ref q4, .ref q5, .null, .null, .int 0, .int 0, .int 0, .int 0, .int 0, .int 0, .int 0, .int 0, .int 0, .int 0, .int 0, .int 0, .int 0, .int 0, .int 0, .null, .int 0, .int 0, .null, .int 0, .int 0])), (q1, .inl (cA, 256, .inl (fun _ => 0))), (q2, .inl (cA, 28, .inl (fun _ => 0))), (q3, .inl (cA, 384, .inl (fun _ => 0))), (q4, .inl (cA, 6, .inl (fun _ => 0))), (q5, .inl (cA, 2, .inl (fun _ => 0)))] H := hP
  have hD : va_D A [(h0, .inr (7, [.ref q1, .ref q2, .ref q3, .int 0, .int 0, .int 0, .ref q4, .ref q5, .null, .null, .int 0, .int 0, .int 0, .int 0, .int 0, .int 0, .int 0, .int 0, .int 0, .int 0, .int 0, .int 0, .int 0, .int 0, .int 0, .null, .int 0, .int 0, .null, .int 0, .int 0])), (q1, .inl (cA, 256, .inl (fun _ => 0))), (q2, .inl (cA, 28, .inl (fun _ => 0))), (q3, .inl (cA, 384, .inl (fun _ => 0))), (q4, .inl (cA, 6, .inl (fun _ => 0))), (q5, .inl (cA, 2, .inl (fun _ => 0)))] := hD
  refine lv_aload_n hx hb d_Md_init_45 rfl (lv_at hl 0 rfl) ?_
  refine lv_iconst (v := (2 : Int32)) hx hb d_Md_init_46 (by decide) ?_
  refine va_newa (atype := .int) (ty := .int) (a0 := (2, .inl (fun _ => 0))) hx hb (hts _ tb_arr) rfl hK hP hD hS hA (fun _ => rfl) (by decide) (by decide) (by decide) (Nat.le_of_ble_eq_true rfl) (Nat.le_of_ble_eq_true rfl) d_Md_init_47 (fun q6 cB H hK2 hP hD hS => ?_)
  have hK2 : va_K D vCl [(cB, .int)] s := hK2.sub (tys' := [(cB, .int)]) [1] rfl
  have e9 := cA_eq hK hK2
  subst e9
  have hP : va_P D vCl [(h0, .inr (7, [.ref q1, .ref q2, .ref q3, .int 0, .int 0, .int 0, .ref q4, .ref q5, .null, .null, .int 0, .int 0, .int 0, .int 0, .int 0, .int 0, .int 0, .int 0, .int 0, .int 0, .int 0, .int 0, .int 0, .int 0, .int 0, .null, .int 0, .int 0, .null, .int 0, .int 0])), (q1, .inl (cA, 256, .inl (fun _ => 0))), (q2, .inl (cA, 28, .inl (fun _ => 0))), (q3, .inl (cA, 384, .inl (fun _ => 0))), (q4, .inl (cA, 6, .inl (fun _ => 0))), (q5, .inl (cA, 2, .inl (fun _ => 0))), (q6, .inl (cA, 2, .inl (fun _ => 0)))] H := hP
  have hD : va_D A [(h0, .inr (7, [.ref q1, .ref q2, .ref q3, .int 0, .int 0, .int 0, .ref q4, .ref q5, .null, .null, .int 0, .int 0, .int 0, .int 0, .int 0, .int 0, .int 0, .int 0, .int 0, .int 0, .int 0, .int 0, .int 0, .int 0, .int 0, .null, .int 0, .int 0, .null, .int 0, .int 0])), (q1, .inl (cA, 256, .inl (fun _ => 0))), (q2, .inl (cA, 28, .inl (fun _ => 0))), (q3, .inl (cA, 384, .inl (fun _ => 0))), (q4, .inl (cA, 6, .inl (fun _ => 0))), (q5, .inl (cA, 2, .inl (fun _ => 0))), (q6, .inl (cA, 2, .inl (fun _ => 0)))] := hD
  refine W.widen (k := 6) (n := 678) (Nat.le_of_ble_eq_true rfl) (Nat.le_of_ble_eq_true rfl) ?_
  refine va_putF (D := D) (ci := 7) (v := .ref q6) (ty := .array .int) (C := R_Md) (T := T_Md) (N := 31) hx hb hts iMd ty_Md tyok_Md nm_Md hown hK hP hD hS 0 rfl rfl 8 (by decide) (hts _ tb_fl_Md_25) (fun _ h9 => h9) rfl hin rfl (by decide +kernel) rfl rfl (Nat.le_of_ble_eq_true rfl) d_Md_init_49 (fun H locs hP hD hS => ?_)
  have hP : va_P D vCl [(h0, .inr (7, [.ref q1, .ref q2, .ref q3, .int 0, .int 0, .int 0, .ref q4, .ref q5, .ref q6, .null, .int 0, .int 0, .int 0, .int 0, .int 0, .int 0, .int 0, .int 0, .int 0, .int 0, .int 0, .int 0, .int 0, .int 0, .int 0, .null, .int 0, .int 0, .null, .int 0, .int 0])), (q1, .inl (cA, 256, .inl (fun _ => 0))), (q2, .inl (cA, 28, .inl (fun _ => 0))), (q3, .inl (cA, 384, .inl (fun _ => 0))), (q4, .inl (cA, 6, .inl (fun _ => 0))), (q5, .inl (cA, 2, .inl (fun _ => 0))), (q6, .inl (cA, 2, .inl (fun _ => 0)))] H := hP
  have hD : va_D A [(h0, .inr (7, [.ref q1, .ref q2, .ref q3, .int 0, .int 0, .int 0, .ref q4, .ref q5, .ref q6, .null, .int 0, .int 0, .int 0, .int 0, .int 0, .int 0, .int 0, .int 0, .int 0, .int 0, .int 0, .int 0, .int 0, .int 0, .int 0, .null, .int 0, .int 0, .null, .int 0, .int 0])), (q1, .inl (cA, 256, .inl (fun _ => 0))), (q2, .inl (cA, 28, .inl (fun _ => 0))), (q3, .inl (cA, 384, .inl (fun _ => 0))), (q4, .inl (cA, 6, .inl (fun _ => 0))), (q5, .inl (cA, 2, .inl (fun _ => 0))), (q6, .inl (cA, 2, .inl (fun _ => 0)))] := hD
  refine lv_aload_n hx hb d_Md_init_52 rfl (lv_at hl 0 rfl) ?_
  refine lv_iconst (v := (2 : Int32)) hx hb d_Md_init_53 (by decide) ?_
  refine va_newa (atype := .int) (ty := .int) (a0 := (2, .inl (fun _ => 0))) hx hb (hts _ tb_arr) rfl hK hP hD hS hA (fun _ => rfl) (by decide) (by decide) (by decide) (Nat.le_of_ble_eq_true rfl) (Nat.le_of_ble_eq_true rfl) d_Md_init_54 (fun q7 cB H hK2 hP hD hS => ?_)
  have hK2 : va_K D vCl [(cB, .int)] s := hK2.sub (tys' := [(cB, .int)]) [1] rfl
  have e9 := cA_eq hK hK2
  subst e9
  have hP : va_P D vCl [(h0, .inr (7, [.ref q1, .ref q2, .ref q3, .int 0, .int 0, .int 0, .ref q4, .ref q5, .ref q6, .null, .int 0, .int 0, .int 0, .int 0, .int 0, .int 0, .int 0, .int 0, .int 0, .int 0, .int 0, .int 0, .int 0, .int 0, .int 0, .null, .int 0, .int 0, .null, .int 0, .int 0])), (q1, .inl (cA, 256, .inl (fun _ => 0))), (q2, .inl (cA, 28, .inl (fun _ => 0))), (q3, .inl (cA, 384, .inl (fun _ => 0))), (q4, .inl (cA, 6, .inl (fun _ => 0))), (q5, .inl (cA, 2, .inl (fun _ => 0))), (q6, .inl (cA, 2, .inl (fun _ => 0))), (q7, .inl (cA, 2, .inl (fun _ => 0)))] H := hP
  have hD : va_D A [(h0, .inr (7, [.ref q1, .ref q2, .ref q3, .int 0, .int 0, .int 0, .ref q4, .ref q5, .ref q6, .null, .int 0, .int 0, .int 0, .int 0, .int 0, .int 0, .int 0, .int 0, .int 0, .int 0, .int 0, .int 0, .int 0, .int 0, .int 0, .null, .int 0, .int 0, .null, .int 0, .int 0])), (q1, .inl (cA, 256, .inl (fun _ => 0))), (q2, .inl (cA, 28, .inl (fun _ => 0))), (q3, .inl (cA, 384, .inl (fun _ => 0))), (q4, .inl (cA, 6, .inl (fun _ => 0))), (q5, .inl (cA, 2, .inl (fun _ => 0))), (q6, .inl (cA, 2, .inl (fun _ => 0))), (q7, .inl (cA, 2, .inl (fun _ => 0)))] := hD
  refine W.widen (k := 7) (n := 680) (Nat.le_of_ble_eq_true rfl) (Nat.le_of_ble_eq_true rfl) ?_
  refine va_putF (D := D) (ci := 7) (v := .ref q7) (ty := .array .int) (C := R_Md) (T := T_Md) (N := 31) hx hb hts iMd ty_Md tyok_Md nm_Md hown hK hP hD hS 0 rfl rfl 9 (by decide) (hts _ tb_fl_Md_28) (fun _ h9 => h9) rfl hin rfl (by decide +kernel) rfl rfl (Nat.le_of_ble_eq_true rfl) d_Md_init_56 (fun H locs hP hD hS => ?_)
  have hP : va_P D vCl [(h0, .inr (7, [.ref q1, .ref q2, .ref q3, .int 0, .int 0, .int 0, .ref q4, .ref q5, .ref q6, .ref q7, .int 0, .int 0, .int 0, .int 0, .int 0, .int 0, .int 0, .int 0, .int 0, .int 0, .int 0, .int 0, .int 0, .int 0, .int 0, .null, .int 0, .int 0, .null, .int 0, .int 0])), (q1, .inl (cA, 256, .inl (fun _ => 0))), (q2, .inl (cA, 28, .inl (fun _ => 0))), (q3, .inl (cA, 384, .inl (fun _ => 0))), (q4, .inl (cA, 6, .inl (fun _ => 0))), (q5, .inl (cA, 2, .inl (fun _ => 0))), (q6, .inl (cA, 2, .inl (fun _ => 0))), (q7, .inl (cA, 2, .inl (fun _ => 0)))] H := hP
  have hD : va_D A [(h0, .inr (7, [.ref q1, .ref q2, .ref q3, .int 0, .int 0, .int 0, .ref q4, .ref q5, .ref q6, .ref q7, .int 0, .int 0, .int 0, .int 0, .int 0, .int 0, .int 0, .int 0, .int 0, .int 0, .int 0, .int 0, .int 0, .int 0, .int 0, .null, .int 0, .int 0, .null, .int 0, .int 0])), (q1, .inl (cA, 256, .inl (fun _ => 0))), (q2, .inl (cA, 28, .inl (fun _ => 0))), (q3, .inl (cA, 384, .inl (fun _ => 0))), (q4, .inl (cA, 6, .inl (fun _ => 0))), (q5, .inl (cA, 2, .inl (fun _ => 0))), (q6, .inl (cA, 2, .inl (fun _ => 0))), (q7, .inl (cA, 2, .inl (fun _ => 0)))] := hD
  refine lv_aload_n hx hb d_Md_init_59 rfl (lv_at hl 0 rfl) ?_
  refine lv_iconst (v := (4 : Int32)) hx hb d_Md_init_60 (by decide) ?_
  refine va_newa (atype := .int) (ty := .int) (a0 := (4, .inl (fun _ => 0))) hx hb (hts _ tb_arr) rfl hK hP hD hS hA (fun _ => rfl) (by decide) (by decide) (by decide) (Nat.le_of_ble_eq_true rfl) (Nat.le_of_ble_eq_true rfl) d_Md_init_61 (fun q8 cB H hK2 hP hD hS => ?_)
  have hK2 : va_K D vCl [(cB, .int)] s := hK2.sub (tys' := [(cB, .int)]) [1] rfl
  have e9 := cA_eq hK hK2
  subst e9
  have hP : va_P D vCl [(h0, .inr (7, [.ref q1, .ref q2, .ref q3, .int 0, .int 0, .int 0, .ref q4, .ref q5, .ref q6, .ref q7, .int 0, .int 0, .int 0, .int 0, .int 0, .int 0, .int 0, .int 0, .int 0, .int 0, .int 0, .int 0, .int 0, .int 0, .int 0, .null, .int 0, .int 0, .null, .int 0, .int 0])), (q1, .inl (cA, 256, .inl (fun _ => 0))), (q2, .inl (cA, 28, .inl (fun _ => 0))), (q3, .inl (cA, 384, .inl (fun _ => 0))), (q4, .inl (cA, 6, .inl (fun _ => 0))), (q5, .inl (cA, 2, .inl (fun _ => 0))), (q6, .inl (cA, 2, .inl (fun _ => 0))), (q7, .inl (cA, 2, .inl (fun _ => 0))), (q8, .inl (cA, 4, .inl (fun _ => 0)))] H := hP
  have hD : va_D A [(h0, .inr (7, [.ref q1, .ref q2, .ref q3, .int 0, .int 0, .int 0, .ref q4, .ref q5, .ref q6, .ref q7, .int 0, .int 0, .int 0, .int 0, .int 0, .int 0, .int 0, .int 0, .int 0, .int 0, .int 0, .int 0, .int 0, .int 0, .int 0, .null, .int 0, .int 0, .null, .int 0, .int 0])), (q1, .inl (cA, 256, .inl (fun _ => 0))), (q2, .inl (cA, 28, .inl (fun _ => 0))), (q3, .inl (cA, 384, .inl (fun _ => 0))), (q4, .inl (cA, 6, .inl (fun _ => 0))), (q5, .inl (cA, 2, .inl (fun _ => 0))), (q6, .inl (cA, 2, .inl (fun _ => 0))), (q7, .inl (cA, 2, .inl (fun _ => 0))), (q8, .inl (cA, 4, .inl (fun _ => 0)))] := hD
  refine W.widen (k := 8) (n := 684) (Nat.le_of_ble_eq_true rfl) (Nat.le_of_ble_eq_true rfl) ?_
  refine va_putF (D := D) (ci := 7) (v := .ref q8) (ty := .array .int) (C := R_Md) (T := T_Md) (N := 31) hx hb hts iMd ty_Md tyok_Md nm_Md hown hK hP hD hS 0 rfl rfl 25 (by decide) (hts _ tb_fl_Md_31) (fun _ h9 => h9) rfl hin rfl (by decide +kernel) rfl rfl (Nat.le_of_ble_eq_true rfl) d_Md_init_63 (fun H locs hP hD hS => ?_)
  have hP : va_P D vCl [(h0, .inr (7, [.ref q1, .ref q2, .ref q3, .int 0, .int 0, .int 0, .ref q4, .ref q5, .ref q6, .ref q7, .int 0, .int 0, .int 0, .int 0, .int 0, .int 0, .int 0, .int 0, .int 0, .int 0, .int 0, .int 0, .int 0, .int 0, .int 0, .ref q8, .int 0, .int 0, .null, .int 0, .int 0])), (q1, .inl (cA, 256, .inl (fun _ => 0))), (q2, .inl (cA, 28, .inl (fun _ => 0))), (q3, .inl (cA, 384, .inl (fun _ => 0))), (q4, .inl (cA, 6, .inl (fun _ => 0))), (q5, .inl (cA, 2, .inl (fun _ => 0))), (q6, .inl (cA, 2, .inl (fun _ => 0))), (q7, .inl (cA, 2, .inl (fun _ => 0))), (q8, .inl (cA, 4, .inl (fun _ => 0)))] H := hP
  have hD : va_D A [(h0, .inr (7, [.ref q1, .ref q2, .ref q3, .int 0, .int 0, .int 0, .ref q4, .ref q5, .ref q6, .ref q7, .int 0, .int 0, .int 0, .int 0, .int 0, .int 0, .int 0, .int 0, .int 0, .int 0, .int 0, .int 0, .int 0, .int 0, .int 0, .ref q8, .int 0, .int 0, .null, .int 0, .int 0])), (q1, .inl (cA, 256, .inl (fun _ => 0))), (q2, .inl (cA, 28, .inl (fun _ => 0))), (q3, .inl (cA, 384, .inl (fun _ => 0))), (q4, .inl (cA, 6, .inl (fun _ => 0))), (q5, .inl (cA, 2, .inl (fun _ => 0))), (q6, .inl (cA, 2, .inl (fun _ => 0))), (q7, .inl (cA, 2, .inl (fun _ => 0))), (q8, .inl (cA, 4, .inl (fun _ => 0)))] := hD
  refine lv_aload_n hx hb d_Md_init_66 rfl (lv_at hl 0 rfl) ?_
  refine lv_bipush (v := (24 : Int32)) hx hb d_Md_init_67 (by decide) ?_
  refine va_newa (atype := .int) (ty := .int) (a0 := (24, .inl (fun _ => 0))) hx hb (hts _ tb_arr) rfl hK hP hD hS hA (fun _ => rfl) (by decide) (by decide) (by decide) (Nat.le_of_ble_eq_true rfl) (Nat.le_of_ble_eq_true rfl) d_Md_init_69 (fun q9 cB H hK2 hP hD hS => ?_)
  have hK2 : va_K D vCl [(cB, .int)] s := hK2.sub (tys' := [(cB, .int)]) [1] rfl
  have e9 := cA_eq hK hK2
  subst e9
  have hP : va_P D vCl [(h0, .inr (7, [.ref q1, .ref q2, .ref q3, .int 0, .int 0, .int 0, .ref q4, .ref q5, .ref q6, .ref q7, .int 0, .int 0, .int 0, .int 0, .int 0, .int 0, .int 0, .int 0, .int 0, .int 0, .int 0, .int 0, .int 0, .int 0, .int 0, .ref q8, .int 0, .int 0, .null, .int 0, .int 0])), (q1, .inl (cA, 256, .inl (fun _ => 0))), (q2, .inl (cA, 28, .inl (fun _ => 0))), (q3, .inl (cA, 384, .inl (fun _ => 0))), (q4, .inl (cA, 6, .inl (fun _ => 0))), (q5, .inl (cA, 2, .inl (fun _ => 0))), (q6, .inl (cA, 2, .inl (fun _ => 0))), (q7, .inl (cA, 2, .inl (fun _ => 0))), (q8, .inl (cA, 4, .inl (fun _ => 0))), (q9, .inl (cA, 24, .inl (fun _ => 0)))] H := hP
  have hD : va_D A [(h0, .inr (7, [.ref q1, .ref q2, .ref q3, .int 0, .int 0, .int 0, .ref q4, .ref q5, .ref q6, .ref q7, .int 0, .int 0, .int 0, .int 0, .int 0, .int 0, .int 0, .int 0, .int 0, .int 0, .int 0, .int 0, .int 0, .int 0, .int 0, .ref q8, .int 0, .int 0, .null, .int 0, .int 0])), (q1, .inl (cA, 256, .inl (fun _ => 0))), (q2, .inl (cA, 28, .inl (fun _ => 0))), (q3, .inl (cA, 384, .inl (fun _ => 0))), (q4, .inl (cA, 6, .inl (fun _ => 0))), (q5, .inl (cA, 2, .inl (fun _ => 0))), (q6, .inl (cA, 2, .inl (fun _ => 0))), (q7, .inl (cA, 2, .inl (fun _ => 0))), (q8, .inl (cA, 4, .inl (fun _ => 0))), (q9, .inl (cA, 24, .inl (fun _ => 0)))] := hD
  refine W.widen (k := 9) (n := 708) (Nat.le_of_ble_eq_true rfl) (Nat.le_of_ble_eq_true rfl) ?_
  refine va_putF (D := D) (ci := 7) (v := .ref q9) (ty := .array .int) (C := R_Md) (T := T_Md) (N := 31) hx hb hts iMd ty_Md tyok_Md nm_Md hown hK hP hD hS 0 rfl rfl 28 (by decide) (hts _ tb_fl_Md_34) (fun _ h9 => h9) rfl hin rfl (by decide +kernel) rfl rfl (Nat.le_of_ble_eq_true rfl) d_Md_init_71 (fun H locs hP hD hS => ?_)
  have hP : va_P D vCl [(h0, .inr (7, [.ref q1, .ref q2, .ref q3, .int 0, .int 0, .int 0, .ref q4, .ref q5, .ref q6, .ref q7, .int 0, .int 0, .int 0, .int 0, .int 0, .int 0, .int 0, .int 0, .int 0, .int 0, .int 0, .int 0, .int 0, .int 0, .int 0, .ref q8, .int 0, .int 0, .ref q9, .int 0, .int 0])), (q1, .inl (cA, 256, .inl (fun _ => 0))), (q2, .inl (cA, 28, .inl (fun _ => 0))), (q3, .inl (cA, 384, .inl (fun _ => 0))), (q4, .inl (cA, 6, .inl (fun _ => 0))), (q5, .inl (cA, 2, .inl (fun _ => 0))), (q6, .inl (cA, 2, .inl (fun _ => 0))), (q7, .inl (cA, 2, .inl (fun _ => 0))), (q8, .inl (cA, 4, .inl (fun _ => 0))), (q9, .inl (cA, 24, .inl (fun _ => 0)))] H := hP
  have hD : va_D A [(h0, .inr (7, [.ref q1, .ref q2, .ref q3, .int 0, .int 0, .int 0, .ref q4, .ref q5, .ref q6, .ref q7, .int 0, .int 0, .int 0, .int 0, .int 0, .int 0, .int 0, .int 0, .int 0, .int 0, .int 0, .int 0, .int 0, .int 0, .int 0, .ref q8, .int 0, .int 0, .ref q9, .int 0, .int 0])), (q1, .inl (cA, 256, .inl (fun _ => 0))), (q2, .inl (cA, 28, .inl (fun _ => 0))), (q3, .inl (cA, 384, .inl (fun _ => 0))), (q4, .inl (cA, 6, .inl (fun _ => 0))), (q5, .inl (cA, 2, .inl (fun _ => 0))), (q6, .inl (cA, 2, .inl (fun _ => 0))), (q7, .inl (cA, 2, .inl (fun _ => 0))), (q8, .inl (cA, 4, .inl (fun _ => 0))), (q9, .inl (cA, 24, .inl (fun _ => 0)))] := hD
  have hP9 := hP.sub (ws' := wM cA (ad [h0, q1, q2, q3, q4, q5, q6, q7, q8, q9]) (fun _ => 0) (fun _ _ => 0)) [0, 1, 2, 3, 4, 5, 6, 7, 8, 9] rfl
  have hD9 := hD.sub (ws' := wM cA (ad [h0, q1, q2, q3, q4, q5, q6, q7, q8, q9]) (fun _ => 0) (fun _ _ => 0)) [0, 1, 2, 3, 4, 5, 6, 7, 8, 9] (by decide) rfl
  exact W.vret hx hb hr (fun t ht hW => ⟨⟨(cA, ad [h0, q1, q2, q3, q4, q5, q6, q7, q8, q9]), rfl, trivial, by rw [ht]; exact hP9, va_K.moved hW.alike hK, hD9, rfl⟩, hS.F ht⟩) hS.2.2 d_Md_init_74
