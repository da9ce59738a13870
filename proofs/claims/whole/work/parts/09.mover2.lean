def w_Mo_finishWord : List Cond := Cond.code y_Mo_finishWord prog_4_method_6_code 9 (some .int) :: TB
def rm_Mo_finishWord : Room := { frames := 2, cells := 0, slots := 0, locals := 44 }
theorem d_Mo_finishWord_0 : decode prog_4_method_6_code 0 = .ok (.aload_n 0, 1) := by decide +kernel
theorem d_Mo_finishWord_1 : decode prog_4_method_6_code 1 = .ok (.aload_n 0, 1) := by decide +kernel
theorem d_Mo_finishWord_2 : decode prog_4_method_6_code 2 = .ok (.iconst 0, 1) := by decide +kernel
theorem d_Mo_finishWord_3 : decode prog_4_method_6_code 3 = .ok (.iload_n 1, 1) := by decide +kernel
theorem d_Mo_finishWord_4 : decode prog_4_method_6_code 4 = .ok (.aload_n 2, 1) := by decide +kernel
theorem d_Mo_finishWord_5 : decode prog_4_method_6_code 5 = .ok (.invokevirtual 76, 3) := by decide +kernel
theorem d_Mo_finishWord_8 : decode prog_4_method_6_code 8 = .ok (.aload_n 2, 1) := by decide +kernel
theorem d_Mo_finishWord_9 : decode prog_4_method_6_code 9 = .ok (.invokevirtual 80, 3) := by decide +kernel
theorem d_Mo_finishWord_12 : decode prog_4_method_6_code 12 = .ok (.istore_n 3, 1) := by decide +kernel
theorem d_Mo_finishWord_13 : decode prog_4_method_6_code 13 = .ok (.aload_n 0, 1) := by decide +kernel
theorem d_Mo_finishWord_14 : decode prog_4_method_6_code 14 = .ok (.iconst 1, 1) := by decide +kernel
theorem d_Mo_finishWord_15 : decode prog_4_method_6_code 15 = .ok (.iload_n 1, 1) := by decide +kernel
theorem d_Mo_finishWord_16 : decode prog_4_method_6_code 16 = .ok (.aload_n 2, 1) := by decide +kernel
theorem d_Mo_finishWord_17 : decode prog_4_method_6_code 17 = .ok (.invokevirtual 76, 3) := by decide +kernel
theorem d_Mo_finishWord_20 : decode prog_4_method_6_code 20 = .ok (.istore 4, 2) := by decide +kernel
theorem d_Mo_finishWord_22 : decode prog_4_method_6_code 22 = .ok (.aload_n 0, 1) := by decide +kernel
theorem d_Mo_finishWord_23 : decode prog_4_method_6_code 23 = .ok (.iconst 2, 1) := by decide +kernel
theorem d_Mo_finishWord_24 : decode prog_4_method_6_code 24 = .ok (.iload_n 1, 1) := by decide +kernel
theorem d_Mo_finishWord_25 : decode prog_4_method_6_code 25 = .ok (.aload_n 2, 1) := by decide +kernel
theorem d_Mo_finishWord_26 : decode prog_4_method_6_code 26 = .ok (.invokevirtual 76, 3) := by decide +kernel
theorem d_Mo_finishWord_29 : decode prog_4_method_6_code 29 = .ok (.istore 5, 2) := by decide +kernel
theorem d_Mo_finishWord_31 : decode prog_4_method_6_code 31 = .ok (.aload_n 0, 1) := by decide +kernel
theorem d_Mo_finishWord_32 : decode prog_4_method_6_code 32 = .ok (.getfield 31, 3) := by decide +kernel
theorem d_Mo_finishWord_35 : decode prog_4_method_6_code 35 = .ok (.iload_n 3, 1) := by decide +kernel
theorem d_Mo_finishWord_36 : decode prog_4_method_6_code 36 = .ok (.iload_n 1, 1) := by decide +kernel
theorem d_Mo_finishWord_37 : decode prog_4_method_6_code 37 = .ok (.bipush 12, 2) := by decide +kernel
theorem d_Mo_finishWord_39 : decode prog_4_method_6_code 39 = .ok (.ishr, 1) := by decide +kernel
theorem d_Mo_finishWord_40 : decode prog_4_method_6_code 40 = .ok (.invokestatic 83, 3) := by decide +kernel
theorem d_Mo_finishWord_43 : decode prog_4_method_6_code 43 = .ok (.istore 6, 2) := by decide +kernel
theorem d_Mo_finishWord_45 : decode prog_4_method_6_code 45 = .ok (.aload_n 0, 1) := by decide +kernel
theorem d_Mo_finishWord_46 : decode prog_4_method_6_code 46 = .ok (.getfield 34, 3) := by decide +kernel
theorem d_Mo_finishWord_49 : decode prog_4_method_6_code 49 = .ok (.iload 4, 2) := by decide +kernel
theorem d_Mo_finishWord_51 : decode prog_4_method_6_code 51 = .ok (.aload_n 2, 1) := by decide +kernel
theorem d_Mo_finishWord_52 : decode prog_4_method_6_code 52 = .ok (.bipush 11, 2) := by decide +kernel
theorem d_Mo_finishWord_54 : decode prog_4_method_6_code 54 = .ok (.invokevirtual 46, 3) := by decide +kernel
theorem d_Mo_finishWord_57 : decode prog_4_method_6_code 57 = .ok (.invokestatic 83, 3) := by decide +kernel
theorem d_Mo_finishWord_60 : decode prog_4_method_6_code 60 = .ok (.istore 7, 2) := by decide +kernel
theorem d_Mo_finishWord_62 : decode prog_4_method_6_code 62 = .ok (.iload_n 1, 1) := by decide +kernel
theorem d_Mo_finishWord_63 : decode prog_4_method_6_code 63 = .ok (.iload 6, 2) := by decide +kernel
theorem d_Mo_finishWord_65 : decode prog_4_method_6_code 65 = .ok (.iload 7, 2) := by decide +kernel
theorem d_Mo_finishWord_67 : decode prog_4_method_6_code 67 = .ok (.iload 5, 2) := by decide +kernel
theorem d_Mo_finishWord_69 : decode prog_4_method_6_code 69 = .ok (.invokestatic 87, 3) := by decide +kernel
theorem d_Mo_finishWord_72 : decode prog_4_method_6_code 72 = .ok (.istore 8, 2) := by decide +kernel
theorem d_Mo_finishWord_74 : decode prog_4_method_6_code 74 = .ok (.aload_n 0, 1) := by decide +kernel
theorem d_Mo_finishWord_75 : decode prog_4_method_6_code 75 = .ok (.iload_n 3, 1) := by decide +kernel
theorem d_Mo_finishWord_76 : decode prog_4_method_6_code 76 = .ok (.putfield 31, 3) := by decide +kernel
theorem d_Mo_finishWord_79 : decode prog_4_method_6_code 79 = .ok (.aload_n 0, 1) := by decide +kernel
theorem d_Mo_finishWord_80 : decode prog_4_method_6_code 80 = .ok (.iload 4, 2) := by decide +kernel
theorem d_Mo_finishWord_82 : decode prog_4_method_6_code 82 = .ok (.putfield 34, 3) := by decide +kernel
theorem d_Mo_finishWord_85 : decode prog_4_method_6_code 85 = .ok (.iload 8, 2) := by decide +kernel
theorem d_Mo_finishWord_87 : decode prog_4_method_6_code 87 = .ok (.ifCond .eq 8, 3) := by decide +kernel
theorem d_Mo_finishWord_90 : decode prog_4_method_6_code 90 = .ok (.aload_n 0, 1) := by decide +kernel
theorem d_Mo_finishWord_91 : decode prog_4_method_6_code 91 = .ok (.iconst 0, 1) := by decide +kernel
theorem d_Mo_finishWord_92 : decode prog_4_method_6_code 92 = .ok (.putfield 37, 3) := by decide +kernel
theorem d_Mo_finishWord_95 : decode prog_4_method_6_code 95 = .ok (.iload 8, 2) := by decide +kernel
theorem d_Mo_finishWord_97 : decode prog_4_method_6_code 97 = .ok (.ireturn, 1) := by decide +kernel
theorem yd_Mo_finishWord : y_Mo_finishWord.cls ≠ "java/lang/invoke/MethodHandle" ∧ y_Mo_finishWord.cls ≠ "java/lang/invoke/VarHandle" ∧ (parseMethodDescriptor y_Mo_finishWord.desc).map (fun d => d.parameters.length) = some 2 := by decide +kernel
def w_Mo_takeSlot : List Cond := Cond.code y_Mo_takeSlot prog_4_method_3_code 6 none :: TB
def rm_Mo_takeSlot : Room := { frames := 3, cells := 0, slots := 0, locals := 72 }
theorem d_Mo_takeSlot_0 : decode prog_4_method_3_code 0 = .ok (.aload_n 2, 1) := by decide +kernel
theorem d_Mo_takeSlot_1 : decode prog_4_method_3_code 1 = .ok (.bipush 10, 2) := by decide +kernel
theorem d_Mo_takeSlot_3 : decode prog_4_method_3_code 3 = .ok (.invokevirtual 46, 3) := by decide +kernel
theorem d_Mo_takeSlot_6 : decode prog_4_method_3_code 6 = .ok (.istore_n 3, 1) := by decide +kernel
theorem d_Mo_takeSlot_7 : decode prog_4_method_3_code 7 = .ok (.iload_n 3, 1) := by decide +kernel
theorem d_Mo_takeSlot_8 : decode prog_4_method_3_code 8 = .ok (.aload_n 0, 1) := by decide +kernel
theorem d_Mo_takeSlot_9 : decode prog_4_method_3_code 9 = .ok (.getfield 28, 3) := by decide +kernel
theorem d_Mo_takeSlot_12 : decode prog_4_method_3_code 12 = .ok (.invokestatic 50, 3) := by decide +kernel
theorem d_Mo_takeSlot_15 : decode prog_4_method_3_code 15 = .ok (.istore 4, 2) := by decide +kernel
theorem d_Mo_takeSlot_17 : decode prog_4_method_3_code 17 = .ok (.iload 4, 2) := by decide +kernel
theorem d_Mo_takeSlot_19 : decode prog_4_method_3_code 19 = .ok (.iconst 3, 1) := by decide +kernel
theorem d_Mo_takeSlot_20 : decode prog_4_method_3_code 20 = .ok (.if_icmp .ge 33, 3) := by decide +kernel
theorem d_Mo_takeSlot_23 : decode prog_4_method_3_code 23 = .ok (.aload_n 0, 1) := by decide +kernel
theorem d_Mo_takeSlot_24 : decode prog_4_method_3_code 24 = .ok (.getfield 11, 3) := by decide +kernel
theorem d_Mo_takeSlot_27 : decode prog_4_method_3_code 27 = .ok (.iload 4, 2) := by decide +kernel
theorem d_Mo_takeSlot_29 : decode prog_4_method_3_code 29 = .ok (.aload_n 1, 1) := by decide +kernel
theorem d_Mo_takeSlot_30 : decode prog_4_method_3_code 30 = .ok (.aload_n 2, 1) := by decide +kernel
theorem d_Mo_takeSlot_31 : decode prog_4_method_3_code 31 = .ok (.bipush 12, 2) := by decide +kernel
theorem d_Mo_takeSlot_33 : decode prog_4_method_3_code 33 = .ok (.iload 4, 2) := by decide +kernel
theorem d_Mo_takeSlot_35 : decode prog_4_method_3_code 35 = .ok (.iadd, 1) := by decide +kernel
theorem d_Mo_takeSlot_36 : decode prog_4_method_3_code 36 = .ok (.invokevirtual 46, 3) := by decide +kernel
theorem d_Mo_takeSlot_39 : decode prog_4_method_3_code 39 = .ok (.invokevirtual 54, 3) := by decide +kernel
theorem d_Mo_takeSlot_42 : decode prog_4_method_3_code 42 = .ok (.iastore, 1) := by decide +kernel
theorem d_Mo_takeSlot_43 : decode prog_4_method_3_code 43 = .ok (.aload_n 2, 1) := by decide +kernel
theorem d_Mo_takeSlot_44 : decode prog_4_method_3_code 44 = .ok (.bipush 12, 2) := by decide +kernel
theorem d_Mo_takeSlot_46 : decode prog_4_method_3_code 46 = .ok (.iload 4, 2) := by decide +kernel
theorem d_Mo_takeSlot_48 : decode prog_4_method_3_code 48 = .ok (.iadd, 1) := by decide +kernel
theorem d_Mo_takeSlot_49 : decode prog_4_method_3_code 49 = .ok (.iconst 1, 1) := by decide +kernel
theorem d_Mo_takeSlot_50 : decode prog_4_method_3_code 50 = .ok (.invokevirtual 57, 3) := by decide +kernel
theorem d_Mo_takeSlot_53 : decode prog_4_method_3_code 53 = .ok (.iload_n 3, 1) := by decide +kernel
theorem d_Mo_takeSlot_54 : decode prog_4_method_3_code 54 = .ok (.iload 4, 2) := by decide +kernel
theorem d_Mo_takeSlot_56 : decode prog_4_method_3_code 56 = .ok (.iconst 1, 1) := by decide +kernel
theorem d_Mo_takeSlot_57 : decode prog_4_method_3_code 57 = .ok (.iadd, 1) := by decide +kernel
theorem d_Mo_takeSlot_58 : decode prog_4_method_3_code 58 = .ok (.invokestatic 50, 3) := by decide +kernel
theorem d_Mo_takeSlot_61 : decode prog_4_method_3_code 61 = .ok (.iconst 4, 1) := by decide +kernel
theorem d_Mo_takeSlot_62 : decode prog_4_method_3_code 62 = .ok (.if_icmp .ge 12, 3) := by decide +kernel
theorem d_Mo_takeSlot_65 : decode prog_4_method_3_code 65 = .ok (.aload_n 0, 1) := by decide +kernel
theorem d_Mo_takeSlot_66 : decode prog_4_method_3_code 66 = .ok (.iload 4, 2) := by decide +kernel
theorem d_Mo_takeSlot_68 : decode prog_4_method_3_code 68 = .ok (.iconst 1, 1) := by decide +kernel
theorem d_Mo_takeSlot_69 : decode prog_4_method_3_code 69 = .ok (.iadd, 1) := by decide +kernel
theorem d_Mo_takeSlot_70 : decode prog_4_method_3_code 70 = .ok (.putfield 28, 3) := by decide +kernel
theorem d_Mo_takeSlot_73 : decode prog_4_method_3_code 73 = .ok (.return_, 1) := by decide +kernel
theorem d_Mo_takeSlot_74 : decode prog_4_method_3_code 74 = .ok (.aload_n 0, 1) := by decide +kernel
theorem d_Mo_takeSlot_75 : decode prog_4_method_3_code 75 = .ok (.iload_n 3, 1) := by decide +kernel
theorem d_Mo_takeSlot_76 : decode prog_4_method_3_code 76 = .ok (.aload_n 2, 1) := by decide +kernel
theorem d_Mo_takeSlot_77 : decode prog_4_method_3_code 77 = .ok (.invokevirtual 61, 3) := by decide +kernel
theorem d_Mo_takeSlot_80 : decode prog_4_method_3_code 80 = .ok (.istore 5, 2) := by decide +kernel
theorem d_Mo_takeSlot_82 : decode prog_4_method_3_code 82 = .ok (.iload 4, 2) := by decide +kernel
theorem d_Mo_takeSlot_84 : decode prog_4_method_3_code 84 = .ok (.iconst 3, 1) := by decide +kernel
theorem d_Mo_takeSlot_85 : decode prog_4_method_3_code 85 = .ok (.if_icmp .ne 22, 3) := by decide +kernel
theorem d_Mo_takeSlot_88 : decode prog_4_method_3_code 88 = .ok (.aload_n 1, 1) := by decide +kernel
theorem d_Mo_takeSlot_89 : decode prog_4_method_3_code 89 = .ok (.aload_n 2, 1) := by decide +kernel
theorem d_Mo_takeSlot_90 : decode prog_4_method_3_code 90 = .ok (.bipush 15, 2) := by decide +kernel
theorem d_Mo_takeSlot_92 : decode prog_4_method_3_code 92 = .ok (.invokevirtual 46, 3) := by decide +kernel
theorem d_Mo_takeSlot_95 : decode prog_4_method_3_code 95 = .ok (.iload 5, 2) := by decide +kernel
theorem d_Mo_takeSlot_97 : decode prog_4_method_3_code 97 = .ok (.invokevirtual 65, 3) := by decide +kernel
theorem d_Mo_takeSlot_100 : decode prog_4_method_3_code 100 = .ok (.aload_n 2, 1) := by decide +kernel
theorem d_Mo_takeSlot_101 : decode prog_4_method_3_code 101 = .ok (.bipush 15, 2) := by decide +kernel
theorem d_Mo_takeSlot_103 : decode prog_4_method_3_code 103 = .ok (.iconst 1, 1) := by decide +kernel
theorem d_Mo_takeSlot_104 : decode prog_4_method_3_code 104 = .ok (.invokevirtual 57, 3) := by decide +kernel
theorem d_Mo_takeSlot_107 : decode prog_4_method_3_code 107 = .ok (.aload_n 0, 1) := by decide +kernel
theorem d_Mo_takeSlot_108 : decode prog_4_method_3_code 108 = .ok (.iload_n 3, 1) := by decide +kernel
theorem d_Mo_takeSlot_109 : decode prog_4_method_3_code 109 = .ok (.aload_n 2, 1) := by decide +kernel
theorem d_Mo_takeSlot_110 : decode prog_4_method_3_code 110 = .ok (.invokevirtual 68, 3) := by decide +kernel
theorem d_Mo_takeSlot_113 : decode prog_4_method_3_code 113 = .ok (.return_, 1) := by decide +kernel
theorem yd_Mo_takeSlot : y_Mo_takeSlot.cls ≠ "java/lang/invoke/MethodHandle" ∧ y_Mo_takeSlot.cls ≠ "java/lang/invoke/VarHandle" ∧ (parseMethodDescriptor y_Mo_takeSlot.desc).map (fun d => d.parameters.length) = some 2 := by decide +kernel
theorem tb_cd_Mo_finishWord : Cond.code y_Mo_finishWord prog_4_method_6_code 9 (some .int) ∈ TB := tb_in 361 (by decide +kernel) (by decide +kernel)
theorem tb_im_Mo_finishWord : Cond.instanceMethod y_Mo_finishWord ∈ TB := tb_in 360 (by decide +kernel) (by decide +kernel)
theorem tb_se_Mo_finishWord : Cond.selects "SlotBoard$Mover" y_Mo_finishWord y_Mo_finishWord ∈ TB := tb_inS 10 (by decide +kernel) (by decide +kernel)
theorem tb_ml_Mo_76 : Cond.methodLink "SlotBoard$Mover" 76 y_Mo_wordOf ∈ TB := tb_in 362 (by decide +kernel) (by decide +kernel)
theorem tb_ml_Mo_80 : Cond.methodLink "SlotBoard$Mover" 80 y_Mo_masked ∈ TB := tb_in 366 (by decide +kernel) (by decide +kernel)
theorem tb_ml_Mo_83 : Cond.methodLink "SlotBoard$Mover" 83 y_Mo_shifted ∈ TB := tb_in 370 (by decide +kernel) (by decide +kernel)
theorem tb_ml_Mo_87 : Cond.methodLink "SlotBoard$Mover" 87 y_Mo_combined ∈ TB := tb_in 374 (by decide +kernel) (by decide +kernel)
theorem tb_cd_Mo_takeSlot : Cond.code y_Mo_takeSlot prog_4_method_3_code 6 none ∈ TB := tb_in 345 (by decide +kernel) (by decide +kernel)
theorem tb_im_Mo_takeSlot : Cond.instanceMethod y_Mo_takeSlot ∈ TB := tb_in 343 (by decide +kernel) (by decide +kernel)
theorem tb_se_Mo_takeSlot : Cond.selects "SlotBoard$Mover" y_Mo_takeSlot y_Mo_takeSlot ∈ TB := tb_in 344 (by decide +kernel) (by decide +kernel)
theorem tb_ml_Mo_50 : Cond.methodLink "SlotBoard$Mover" 50 y_Mo_usedFrom ∈ TB := tb_in 347 (by decide +kernel) (by decide +kernel)
theorem tb_ml_Mo_54 : Cond.methodLink "SlotBoard$Mover" 54 y_Me_at ∈ TB := tb_in 353 (by decide +kernel) (by decide +kernel)
theorem tb_ml_Mo_61 : Cond.methodLink "SlotBoard$Mover" 61 y_Mo_finishWord ∈ TB := tb_in 358 (by decide +kernel) (by decide +kernel)
theorem tb_ml_Mo_65 : Cond.methodLink "SlotBoard$Mover" 65 y_Me_put ∈ TB := tb_in 377 (by decide +kernel) (by decide +kernel)
theorem tb_ml_Mo_68 : Cond.methodLink "SlotBoard$Mover" 68 y_Mo_goOn ∈ TB := tb_in 378 (by decide +kernel) (by decide +kernel)
def f_Mo_finishWord_95 (S : SS) (M : MM) (x1 : Int32) (x3 : Int32) (x4 : Int32) (x5 : Int32) (x6 : Int32) (x7 : Int32) (x8 : Int32) : Option RR := some (x8, S, M)
def f_Mo_finishWord (S : SS) (M : MM) (x1 : Int32) : Option RR := (f_Mo_wordOf S M (0 : Int32) x1).bind (fun q1 => (f_Mo_masked q1.2.1 q1.2.2 q1.1).bind (fun q2 => (f_Mo_wordOf q2.2.1 q2.2.2 (1 : Int32) x1).bind (fun q3 => (f_Mo_wordOf q3.2.1 q3.2.2 (2 : Int32) x1).bind (fun q4 => (f_Mo_shifted q4.2.1 q4.2.2 (q4.2.1 16) q2.1 (x1 >>> ((12 : Int32) &&& 31))).bind (fun q5 => (f_Re_at q5.2.1 q5.2.2 (11 : Int32)).bind (fun q6 => (f_Mo_shifted q6.2.1 q6.2.2 (q5.2.1 17) q3.1 q6.1).bind (fun q7 => (f_Mo_combined q7.2.1 q7.2.2 x1 q5.1 q7.1 q4.1).bind (fun q8 => if q8.1 = 0 then f_Mo_finishWord_95 (upd (upd q8.2.1 16 q2.1) 17 q3.1) q8.2.2 x1 q2.1 q3.1 q4.1 q5.1 q7.1 q8.1 else f_Mo_finishWord_95 (upd (upd (upd q8.2.1 16 q2.1) 17 q3.1) 10 (0 : Int32)) q8.2.2 x1 q2.1 q3.1 q4.1 q5.1 q7.1 q8.1))))))))
set_option maxHeartbeats 4000000 in
set_option maxRecDepth 100000 in
theorem c_Mo_finishWord (l : Launch) (D : va_G) (cA : ClassId) (a : Nat → Nat) (S : SS) (M : MM) (x1 : Int32) (q : RR) (h0 : f_Mo_finishWord S M x1 = some q) : Ci l y_Mo_finishWord w_Mo_finishWord rm_Mo_finishWord D vCl [(cA, .int)] (AB a) (ZB a) (wB cA a) [.ref (a 5), .int x1, .ref (a 2)] S M q := by
  refine Ci.of (cc := prog_4_method_6_code) (maxL := 9) (ty := .int) (by decide) rfl (Nat.le_of_ble_eq_true rfl) ?_
  intro p e s m args below meth c Q hx hb hml hown hts hK hZ ret
  have hown : s.vm.findClass R_Mo = some m.cls := hown
  have hts : ∀ w ∈ TB, w.before args s = true := fun w h => hts w (List.mem_cons_of_mem _ h)
  have hZK := ZB_k a
  have k31 := hts _ tb_fl_Mo_31
  have k34 := hts _ tb_fl_Mo_34
  have k37 := hts _ tb_fl_Mo_37
  have b95 : ∀ (S : SS) (M : MM) (x1 : Int32) (x3 : Int32) (x4 : Int32) (x5 : Int32) (x6 : Int32) (x7 : Int32) (x8 : Int32), f_Mo_finishWord_95 S M x1 x3 x4 x5 x6 x7 x8 = some q → BK p l e rm_Mo_finishWord s m args below meth c Q D vCl (AB a) (wB cA a) 9 95 [(0, .ref (a 5)), (1, .int x1), (2, .ref (a 2)), (3, .int x3), (4, .int x4), (5, .int x5), (6, .int x6), (7, .int x7), (8, .int x8)] [] S M := by
    intro S M x1 x3 x4 x5 x6 x7 x8 h H locs ls hl hP hD hS
    unfold f_Mo_finishWord_95 at h
    refine lv_iload hx hb d_Mo_finishWord_95 (lv_at hl 8 rfl) ?_
    exact ret _ _ _ _ _ _ _ h rfl hP hD hS d_Mo_finishWord_97
  intro H locs ls hl hP hD hS
  have hl : lv_has ls 9 [(0, .ref (a 5)), (1, .int x1), (2, .ref (a 2))] := hl
  have h := h0
  unfold f_Mo_finishWord at h
  refine lv_aload_n hx hb d_Mo_finishWord_0 rfl (lv_at hl 0 rfl) ?_
  refine lv_aload_n hx hb d_Mo_finishWord_1 rfl (lv_at hl 0 rfl) ?_
  refine lv_iconst (v := (0 : Int32)) hx hb d_Mo_finishWord_2 (by decide) ?_
  refine lv_iload_n hx hb d_Mo_finishWord_3 rfl (lv_at hl 1 rfl) ?_
  refine lv_aload_n hx hb d_Mo_finishWord_4 rfl (lv_at hl 2 rfl) ?_
  obtain ⟨⟨r1, S1, M1⟩, hc1, h⟩ := sg_b h
  dsimp only at h
  refine cvi (As := [.int (0 : Int32), .int x1, .ref (a 2)]) (rest := [.ref (a 5)]) ⟨hx, hb, hml, hown, hts⟩ (c_Mo_wordOf l D cA a S M (0 : Int32) x1 _ hc1) ⟨callB_of 3 hts (tb_gi tb_cd_Mo_wordOf) rfl rfl rfl (hts _ tb_in_Mo) (hts _ tb_ml_Mo_76) yd_Mo_wordOf ⟨Nat.le_of_ble_eq_true rfl, Nat.le_of_ble_eq_true rfl⟩, hts _ tb_im_Mo_wordOf, hts _ tb_se_Mo_wordOf⟩ hZK hK hZ hP hD hS 5 (wB_at5 _ _ _ _) rfl rfl hl.1 rfl (Nat.le_of_ble_eq_true rfl) d_Mo_finishWord_5 (fun H locs hP hD hS => ?_)
  refine lv_aload_n hx hb d_Mo_finishWord_8 rfl (lv_at hl 2 rfl) ?_
  obtain ⟨⟨r2, S2, M2⟩, hc2, h⟩ := sg_b h
  dsimp only at h
  refine cvi (As := [.int r1, .ref (a 2)]) (rest := []) ⟨hx, hb, hml, hown, hts⟩ (c_Mo_masked l D cA a S1 M1 r1 _ hc2) ⟨callB_of 2 hts (tb_gi tb_cd_Mo_masked) rfl rfl rfl (hts _ tb_in_Mo) (hts _ tb_ml_Mo_80) yd_Mo_masked ⟨Nat.le_of_ble_eq_true rfl, Nat.le_of_ble_eq_true rfl⟩, hts _ tb_im_Mo_masked, hts _ tb_se_Mo_masked⟩ hZK hK hZ hP hD hS 5 (wB_at5 _ _ _ _) rfl rfl hl.1 rfl (Nat.le_of_ble_eq_true rfl) d_Mo_finishWord_9 (fun H locs hP hD hS => ?_)
  refine lv_istore_n (lv' := [(3, .int r2), (0, .ref (a 5)), (1, .int x1), (2, .ref (a 2))]) hx hb d_Mo_finishWord_12 rfl hl (by decide) rfl (fun ls hl => ?_)
  refine lv_aload_n hx hb d_Mo_finishWord_13 rfl (lv_at hl 1 rfl) ?_
  refine lv_iconst (v := (1 : Int32)) hx hb d_Mo_finishWord_14 (by decide) ?_
  refine lv_iload_n hx hb d_Mo_finishWord_15 rfl (lv_at hl 2 rfl) ?_
  refine lv_aload_n hx hb d_Mo_finishWord_16 rfl (lv_at hl 3 rfl) ?_
  obtain ⟨⟨r3, S3, M3⟩, hc3, h⟩ := sg_b h
  dsimp only at h
  refine cvi (As := [.int (1 : Int32), .int x1, .ref (a 2)]) (rest := []) ⟨hx, hb, hml, hown, hts⟩ (c_Mo_wordOf l D cA a S2 M2 (1 : Int32) x1 _ hc3) ⟨callB_of 3 hts (tb_gi tb_cd_Mo_wordOf) rfl rfl rfl (hts _ tb_in_Mo) (hts _ tb_ml_Mo_76) yd_Mo_wordOf ⟨Nat.le_of_ble_eq_true rfl, Nat.le_of_ble_eq_true rfl⟩, hts _ tb_im_Mo_wordOf, hts _ tb_se_Mo_wordOf⟩ hZK hK hZ hP hD hS 5 (wB_at5 _ _ _ _) rfl rfl hl.1 rfl (Nat.le_of_ble_eq_true rfl) d_Mo_finishWord_17 (fun H locs hP hD hS => ?_)
  refine lv_istore (lv' := [(4, .int r3), (3, .int r2), (0, .ref (a 5)), (1, .int x1), (2, .ref (a 2))]) hx hb d_Mo_finishWord_20 hl (by decide) rfl (fun ls hl => ?_)
  refine lv_aload_n hx hb d_Mo_finishWord_22 rfl (lv_at hl 2 rfl) ?_
  refine lv_iconst (v := (2 : Int32)) hx hb d_Mo_finishWord_23 (by decide) ?_
  refine lv_iload_n hx hb d_Mo_finishWord_24 rfl (lv_at hl 3 rfl) ?_
  refine lv_aload_n hx hb d_Mo_finishWord_25 rfl (lv_at hl 4 rfl) ?_
  obtain ⟨⟨r4, S4, M4⟩, hc4, h⟩ := sg_b h
  dsimp only at h
  refine cvi (As := [.int (2 : Int32), .int x1, .ref (a 2)]) (rest := []) ⟨hx, hb, hml, hown, hts⟩ (c_Mo_wordOf l D cA a S3 M3 (2 : Int32) x1 _ hc4) ⟨callB_of 3 hts (tb_gi tb_cd_Mo_wordOf) rfl rfl rfl (hts _ tb_in_Mo) (hts _ tb_ml_Mo_76) yd_Mo_wordOf ⟨Nat.le_of_ble_eq_true rfl, Nat.le_of_ble_eq_true rfl⟩, hts _ tb_im_Mo_wordOf, hts _ tb_se_Mo_wordOf⟩ hZK hK hZ hP hD hS 5 (wB_at5 _ _ _ _) rfl rfl hl.1 rfl (Nat.le_of_ble_eq_true rfl) d_Mo_finishWord_26 (fun H locs hP hD hS => ?_)
  refine lv_istore (lv' := [(5, .int r4), (4, .int r3), (3, .int r2), (0, .ref (a 5)), (1, .int x1), (2, .ref (a 2))]) hx hb d_Mo_finishWord_29 hl (by decide) rfl (fun ls hl => ?_)
  refine lv_aload_n hx hb d_Mo_finishWord_31 rfl (lv_at hl 3 rfl) ?_
  refine va_get (D := D) (ci := 5) (v := .int (S4 16)) (C := R_Mo) (T := T_Mo) (N := 10) hx hb hts iMo hown hK hP 5 (wB_at5 _ _ _ _) rfl 8 (by decide) k31 (fun _ h9 => h9) rfl d_Mo_finishWord_32 ?_
  refine lv_iload_n hx hb d_Mo_finishWord_35 rfl (lv_at hl 2 rfl) ?_
  refine lv_iload_n hx hb d_Mo_finishWord_36 rfl (lv_at hl 4 rfl) ?_
  refine lv_bipush (v := (12 : Int32)) hx hb d_Mo_finishWord_37 (by decide) ?_
  refine lv_ishr hx hb d_Mo_finishWord_39 ?_
  obtain ⟨⟨r5, S5, M5⟩, hc5, h⟩ := sg_b h
  dsimp only at h
  refine csi (As := [.int (S4 16), .int r2, .int (x1 >>> ((12 : Int32) &&& 31))]) (rest := []) ⟨hx, hb, hml, hown, hts⟩ (c_Mo_shifted l D cA a S4 M4 (S4 16) r2 (x1 >>> ((12 : Int32) &&& 31)) _ hc5) ⟨callB_of 3 hts (tb_gi tb_cd_Mo_shifted) rfl rfl rfl (hts _ tb_in_Mo) (hts _ tb_ml_Mo_83) yd_Mo_shifted ⟨Nat.le_of_ble_eq_true rfl, Nat.le_of_ble_eq_true rfl⟩, hts _ tb_st_Mo_shifted⟩ hZK hK hZ hP hD hS rfl hl.1 rfl (Nat.le_of_ble_eq_true rfl) d_Mo_finishWord_40 (fun H locs hP hD hS => ?_)
  refine lv_istore (lv' := [(6, .int r5), (5, .int r4), (4, .int r3), (3, .int r2), (0, .ref (a 5)), (1, .int x1), (2, .ref (a 2))]) hx hb d_Mo_finishWord_43 hl (by decide) rfl (fun ls hl => ?_)
  refine lv_aload_n hx hb d_Mo_finishWord_45 rfl (lv_at hl 4 rfl) ?_
  refine va_get (D := D) (ci := 5) (v := .int (S5 17)) (C := R_Mo) (T := T_Mo) (N := 10) hx hb hts iMo hown hK hP 5 (wB_at5 _ _ _ _) rfl 9 (by decide) k34 (fun _ h9 => h9) rfl d_Mo_finishWord_46 ?_
  refine lv_iload hx hb d_Mo_finishWord_49 (lv_at hl 2 rfl) ?_
  refine lv_aload_n hx hb d_Mo_finishWord_51 rfl (lv_at hl 6 rfl) ?_
  refine lv_bipush (v := (11 : Int32)) hx hb d_Mo_finishWord_52 (by decide) ?_
  obtain ⟨⟨r6, S6, M6⟩, hc6, h⟩ := sg_b h
  dsimp only at h
  refine cvi (As := [.int (11 : Int32)]) (rest := [.int r3, .int (S5 17)]) ⟨hx, hb, hml, hown, hts⟩ (c_Re_at l D cA a S5 M5 (11 : Int32) _ hc6) ⟨callB_of 1 hts (tb_gi tb_cd_Re_at) rfl rfl rfl (hts _ tb_in_Re) (hts _ tb_ml_Mo_46) yd_Re_at ⟨Nat.le_of_ble_eq_true rfl, Nat.le_of_ble_eq_true rfl⟩, hts _ tb_im_Re_at, hts _ tb_se_Re_at⟩ hZK hK hZ hP hD hS 2 (wB_at2 _ _ _ _) rfl rfl hl.1 rfl (Nat.le_of_ble_eq_true rfl) d_Mo_finishWord_54 (fun H locs hP hD hS => ?_)
  obtain ⟨⟨r7, S7, M7⟩, hc7, h⟩ := sg_b h
  dsimp only at h
  refine csi (As := [.int (S5 17), .int r3, .int r6]) (rest := []) ⟨hx, hb, hml, hown, hts⟩ (c_Mo_shifted l D cA a S6 M6 (S5 17) r3 r6 _ hc7) ⟨callB_of 3 hts (tb_gi tb_cd_Mo_shifted) rfl rfl rfl (hts _ tb_in_Mo) (hts _ tb_ml_Mo_83) yd_Mo_shifted ⟨Nat.le_of_ble_eq_true rfl, Nat.le_of_ble_eq_true rfl⟩, hts _ tb_st_Mo_shifted⟩ hZK hK hZ hP hD hS rfl hl.1 rfl (Nat.le_of_ble_eq_true rfl) d_Mo_finishWord_57 (fun H locs hP hD hS => ?_)
  refine lv_istore (lv' := [(7, .int r7), (6, .int r5), (5, .int r4), (4, .int r3), (3, .int r2), (0, .ref (a 5)), (1, .int x1), (2, .ref (a 2))]) hx hb d_Mo_finishWord_60 hl (by decide) rfl (fun ls hl => ?_)
  refine lv_iload_n hx hb d_Mo_finishWord_62 rfl (lv_at hl 6 rfl) ?_
  refine lv_iload hx hb d_Mo_finishWord_63 (lv_at hl 1 rfl) ?_
  refine lv_iload hx hb d_Mo_finishWord_65 (lv_at hl 0 rfl) ?_
  refine lv_iload hx hb d_Mo_finishWord_67 (lv_at hl 2 rfl) ?_
  obtain ⟨⟨r8, S8, M8⟩, hc8, h⟩ := sg_b h
  dsimp only at h
  refine csi (As := [.int x1, .int r5, .int r7, .int r4]) (rest := []) ⟨hx, hb, hml, hown, hts⟩ (c_Mo_combined l D cA a S7 M7 x1 r5 r7 r4 _ hc8) ⟨callB_of 4 hts (tb_gi tb_cd_Mo_combined) rfl rfl rfl (hts _ tb_in_Mo) (hts _ tb_ml_Mo_87) yd_Mo_combined ⟨Nat.le_of_ble_eq_true rfl, Nat.le_of_ble_eq_true rfl⟩, hts _ tb_st_Mo_combined⟩ hZK hK hZ hP hD hS rfl hl.1 rfl (Nat.le_of_ble_eq_true rfl) d_Mo_finishWord_69 (fun H locs hP hD hS => ?_)
  refine lv_istore (lv' := [(8, .int r8), (7, .int r7), (6, .int r5), (5, .int r4), (4, .int r3), (3, .int r2), (0, .ref (a 5)), (1, .int x1), (2, .ref (a 2))]) hx hb d_Mo_finishWord_72 hl (by decide) rfl (fun ls hl => ?_)
  refine lv_aload_n hx hb d_Mo_finishWord_74 rfl (lv_at hl 6 rfl) ?_
  refine lv_iload_n hx hb d_Mo_finishWord_75 rfl (lv_at hl 5 rfl) ?_
  refine puwB_16 (D := D) (x := r2) hx hb hts iMo hown hK hP hD hS k31 rfl rfl d_Mo_finishWord_76 (fun H locs hP hD hS => ?_)
  refine lv_aload_n hx hb d_Mo_finishWord_79 rfl (lv_at hl 6 rfl) ?_
  refine lv_iload hx hb d_Mo_finishWord_80 (lv_at hl 4 rfl) ?_
  refine puwB_17 (D := D) (x := r3) hx hb hts iMo hown hK hP hD hS k34 rfl rfl d_Mo_finishWord_82 (fun H locs hP hD hS => ?_)
  refine lv_iload hx hb d_Mo_finishWord_85 (lv_at hl 0 rfl) ?_
  refine lv_if_eq (tgt := 95) hx hb d_Mo_finishWord_87 (by decide) (fun hc => ?_) (fun hc => ?_)
  · have h := sg_p hc h
    exact b95 _ _ _ _ _ _ _ _ _ h _ _ _ (lv_sub hl [6, 7, 8, 5, 4, 3, 2, 1, 0] rfl) hP hD hS
  · have h := sg_n hc h
    refine lv_aload_n hx hb d_Mo_finishWord_90 rfl (lv_at hl 6 rfl) ?_
    refine lv_iconst (v := (0 : Int32)) hx hb d_Mo_finishWord_91 (by decide) ?_
    refine puwB_10 (D := D) (x := (0 : Int32)) hx hb hts iMo hown hK hP hD hS k37 (by decide +kernel) (by decide +kernel) d_Mo_finishWord_92 (fun H locs hP hD hS => ?_)
    exact b95 _ _ _ _ _ _ _ _ _ h _ _ _ (lv_sub hl [6, 7, 8, 5, 4, 3, 2, 1, 0] rfl) hP hD hS
def f_Mo_takeSlot_107 (S : SS) (M : MM) (x3 : Int32) (x4 : Int32) (x5 : Int32) : Option RR := (f_Mo_goOn S M x3).bind (fun q1 => some (0, q1.2.1, q1.2.2))
def f_Mo_takeSlot_53 (S : SS) (M : MM) (x3 : Int32) (x4 : Int32) : Option RR := (f_Mo_usedFrom S M x3 (x4 + (1 : Int32))).bind (fun q2 => if (4 : Int32) ≤ q2.1 then (f_Mo_finishWord q2.2.1 q2.2.2 x3).bind (fun q3 => if x4 = (3 : Int32) then (f_Re_at q3.2.1 q3.2.2 (15 : Int32)).bind (fun q4 => (f_Me_put q4.2.1 q4.2.2 q4.1 q3.1).bind (fun q5 => (f_Re_grow q5.2.1 q5.2.2 (15 : Int32) (1 : Int32)).bind (fun q6 => f_Mo_takeSlot_107 q6.2.1 q6.2.2 x3 x4 q3.1))) else f_Mo_takeSlot_107 q3.2.1 q3.2.2 x3 x4 q3.1) else some (0, (upd q2.2.1 15 (x4 + (1 : Int32))), q2.2.2))
def f_Mo_takeSlot (S : SS) (M : MM) : Option RR := (f_Re_at S M (10 : Int32)).bind (fun q7 => (f_Mo_usedFrom q7.2.1 q7.2.2 q7.1 (q7.2.1 15)).bind (fun q8 => if (3 : Int32) ≤ q8.1 then f_Mo_takeSlot_53 q8.2.1 q8.2.2 q7.1 q8.1 else (f_Re_at q8.2.1 q8.2.2 ((12 : Int32) + q8.1)).bind (fun q9 => (f_Me_at q9.2.1 q9.2.2 q9.1).bind (fun q10 => if q8.1 < 0 ∨ 3 ≤ q8.1.toNatClampNeg then none else (f_Re_grow q10.2.1 (upM q10.2.2 7 (upd (q10.2.2 7) q8.1.toNatClampNeg q10.1)) ((12 : Int32) + q8.1) (1 : Int32)).bind (fun q12 => f_Mo_takeSlot_53 q12.2.1 q12.2.2 q7.1 q8.1)))))
set_option maxHeartbeats 4000000 in
set_option maxRecDepth 100000 in
theorem c_Mo_takeSlot (l : Launch) (D : va_G) (cA : ClassId) (a : Nat → Nat) (S : SS) (M : MM) (q : RR) (h0 : f_Mo_takeSlot S M = some q) : Cv l y_Mo_takeSlot w_Mo_takeSlot rm_Mo_takeSlot D vCl [(cA, .int)] (AB a) (ZB a) (wB cA a) [.ref (a 5), .ref (a 1), .ref (a 2)] S M q := by
  refine Cv.of (cc := prog_4_method_3_code) (maxL := 6) (by decide) rfl (Nat.le_of_ble_eq_true rfl) ?_
  intro p e s m args below meth c Q hx hb hml hown hts hK hZ ret
  have hown : s.vm.findClass R_Mo = some m.cls := hown
  have hts : ∀ w ∈ TB, w.before args s = true := fun w h => hts w (List.mem_cons_of_mem _ h)
  have hZK := ZB_k a
  have k28 := hts _ tb_fl_Mo_28
  have k11 := hts _ tb_fl_Mo_11
  have b107 : ∀ (S : SS) (M : MM) (x3 : Int32) (x4 : Int32) (x5 : Int32), f_Mo_takeSlot_107 S M x3 x4 x5 = some q → BK p l e rm_Mo_takeSlot s m args below meth c Q D vCl (AB a) (wB cA a) 6 107 [(0, .ref (a 5)), (1, .ref (a 1)), (2, .ref (a 2)), (3, .int x3), (4, .int x4), (5, .int x5)] [] S M := by
    intro S M x3 x4 x5 h H locs ls hl hP hD hS
    unfold f_Mo_takeSlot_107 at h
    refine lv_aload_n hx hb d_Mo_takeSlot_107 rfl (lv_at hl 0 rfl) ?_
    refine lv_iload_n hx hb d_Mo_takeSlot_108 rfl (lv_at hl 3 rfl) ?_
    refine lv_aload_n hx hb d_Mo_takeSlot_109 rfl (lv_at hl 2 rfl) ?_
    obtain ⟨⟨r1, S1, M1⟩, hc1, h⟩ := sg_b h
    dsimp only at h
    refine cvv (As := [.int x3, .ref (a 2)]) (rest := []) ⟨hx, hb, hml, hown, hts⟩ (c_Mo_goOn l D cA a S M x3 _ hc1) ⟨callB_of 2 hts (tb_gi tb_cd_Mo_goOn) rfl rfl rfl (hts _ tb_in_Mo) (hts _ tb_ml_Mo_68) yd_Mo_goOn ⟨Nat.le_of_ble_eq_true rfl, Nat.le_of_ble_eq_true rfl⟩, hts _ tb_im_Mo_goOn, hts _ tb_se_Mo_goOn⟩ hZK hK hZ hP hD hS 5 (wB_at5 _ _ _ _) rfl rfl hl.1 rfl (Nat.le_of_ble_eq_true rfl) d_Mo_takeSlot_110 (fun H locs hP hD hS => ?_)
    exact ret _ _ _ _ _ _ _ h hP hD hS d_Mo_takeSlot_113
  have b53 : ∀ (S : SS) (M : MM) (x3 : Int32) (x4 : Int32), f_Mo_takeSlot_53 S M x3 x4 = some q → BK p l e rm_Mo_takeSlot s m args below meth c Q D vCl (AB a) (wB cA a) 6 53 [(0, .ref (a 5)), (1, .ref (a 1)), (2, .ref (a 2)), (3, .int x3), (4, .int x4)] [] S M := by
    intro S M x3 x4 h H locs ls hl hP hD hS
    unfold f_Mo_takeSlot_53 at h
    refine lv_iload_n hx hb d_Mo_takeSlot_53 rfl (lv_at hl 3 rfl) ?_
    refine lv_iload hx hb d_Mo_takeSlot_54 (lv_at hl 4 rfl) ?_
    refine lv_iconst (v := (1 : Int32)) hx hb d_Mo_takeSlot_56 (by decide) ?_
    refine lv_iadd hx hb d_Mo_takeSlot_57 ?_
    obtain ⟨⟨r2, S2, M2⟩, hc2, h⟩ := sg_b h
    dsimp only at h
    refine csi (As := [.int x3, .int (x4 + (1 : Int32))]) (rest := []) ⟨hx, hb, hml, hown, hts⟩ (c_Mo_usedFrom l D cA a S M x3 (x4 + (1 : Int32)) _ hc2) ⟨callB_of 2 hts (tb_gi tb_cd_Mo_usedFrom) rfl rfl rfl (hts _ tb_in_Mo) (hts _ tb_ml_Mo_50) yd_Mo_usedFrom ⟨Nat.le_of_ble_eq_true rfl, Nat.le_of_ble_eq_true rfl⟩, hts _ tb_st_Mo_usedFrom⟩ hZK hK hZ hP hD hS rfl hl.1 rfl (Nat.le_of_ble_eq_true rfl) d_Mo_takeSlot_58 (fun H locs hP hD hS => ?_)
    refine lv_iconst (v := (4 : Int32)) hx hb d_Mo_takeSlot_61 (by decide) ?_
    refine lv_icmp_ge (tgt := 74) hx hb d_Mo_takeSlot_62 (by decide) (fun hc => ?_) (fun hc => ?_)
    · have h := sg_p hc h
      refine lv_aload_n hx hb d_Mo_takeSlot_74 rfl (lv_at hl 0 rfl) ?_
      refine lv_iload_n hx hb d_Mo_takeSlot_75 rfl (lv_at hl 3 rfl) ?_
      refine lv_aload_n hx hb d_Mo_takeSlot_76 rfl (lv_at hl 2 rfl) ?_
      obtain ⟨⟨r3, S3, M3⟩, hc3, h⟩ := sg_b h
      dsimp only at h
      refine cvi (As := [.int x3, .ref (a 2)]) (rest := []) ⟨hx, hb, hml, hown, hts⟩ (c_Mo_finishWord l D cA a S2 M2 x3 _ hc3) ⟨callB_of 2 hts (tb_gi tb_cd_Mo_finishWord) rfl rfl rfl (hts _ tb_in_Mo) (hts _ tb_ml_Mo_61) yd_Mo_finishWord ⟨Nat.le_of_ble_eq_true rfl, Nat.le_of_ble_eq_true rfl⟩, hts _ tb_im_Mo_finishWord, hts _ tb_se_Mo_finishWord⟩ hZK hK hZ hP hD hS 5 (wB_at5 _ _ _ _) rfl rfl hl.1 rfl (Nat.le_of_ble_eq_true rfl) d_Mo_takeSlot_77 (fun H locs hP hD hS => ?_)
      refine lv_istore (lv' := [(5, .int r3), (0, .ref (a 5)), (1, .ref (a 1)), (2, .ref (a 2)), (3, .int x3), (4, .int x4)]) hx hb d_Mo_takeSlot_80 hl (by decide) rfl (fun ls hl => ?_)
      refine lv_iload hx hb d_Mo_takeSlot_82 (lv_at hl 5 rfl) ?_
      refine lv_iconst (v := (3 : Int32)) hx hb d_Mo_takeSlot_84 (by decide) ?_
      refine lv_icmp_ne (tgt := 107) hx hb d_Mo_takeSlot_85 (by decide) (fun hc => ?_) (fun hc => ?_)
      · have h := sg_n hc h
        exact b107 _ _ _ _ _ h _ _ _ (lv_sub hl [1, 2, 3, 4, 5, 0] rfl) hP hD hS
      · have h := sg_p hc h
        refine lv_aload_n hx hb d_Mo_takeSlot_88 rfl (lv_at hl 2 rfl) ?_
        refine lv_aload_n hx hb d_Mo_takeSlot_89 rfl (lv_at hl 3 rfl) ?_
        refine lv_bipush (v := (15 : Int32)) hx hb d_Mo_takeSlot_90 (by decide) ?_
        obtain ⟨⟨r4, S4, M4⟩, hc4, h⟩ := sg_b h
        dsimp only at h
        refine cvi (As := [.int (15 : Int32)]) (rest := [.ref (a 1)]) ⟨hx, hb, hml, hown, hts⟩ (c_Re_at l D cA a S3 M3 (15 : Int32) _ hc4) ⟨callB_of 1 hts (tb_gi tb_cd_Re_at) rfl rfl rfl (hts _ tb_in_Re) (hts _ tb_ml_Mo_46) yd_Re_at ⟨Nat.le_of_ble_eq_true rfl, Nat.le_of_ble_eq_true rfl⟩, hts _ tb_im_Re_at, hts _ tb_se_Re_at⟩ hZK hK hZ hP hD hS 2 (wB_at2 _ _ _ _) rfl rfl hl.1 rfl (Nat.le_of_ble_eq_true rfl) d_Mo_takeSlot_92 (fun H locs hP hD hS => ?_)
        refine lv_iload hx hb d_Mo_takeSlot_95 (lv_at hl 0 rfl) ?_
        obtain ⟨⟨r5, S5, M5⟩, hc5, h⟩ := sg_b h
        dsimp only at h
        refine cvv (As := [.int r4, .int r3]) (rest := []) ⟨hx, hb, hml, hown, hts⟩ (c_Me_put l D cA a S4 M4 r4 r3 _ hc5) ⟨callB_of 2 hts (tb_gi tb_cd_Me_put) rfl rfl rfl (hts _ tb_in_Me) (hts _ tb_ml_Mo_65) yd_Me_put ⟨Nat.le_of_ble_eq_true rfl, Nat.le_of_ble_eq_true rfl⟩, hts _ tb_im_Me_put, hts _ tb_se_Me_put⟩ hZK hK hZ hP hD hS 1 (wB_at1 _ _ _ _) rfl rfl hl.1 rfl (Nat.le_of_ble_eq_true rfl) d_Mo_takeSlot_97 (fun H locs hP hD hS => ?_)
        refine lv_aload_n hx hb d_Mo_takeSlot_100 rfl (lv_at hl 3 rfl) ?_
        refine lv_bipush (v := (15 : Int32)) hx hb d_Mo_takeSlot_101 (by decide) ?_
        refine lv_iconst (v := (1 : Int32)) hx hb d_Mo_takeSlot_103 (by decide) ?_
        obtain ⟨⟨r6, S6, M6⟩, hc6, h⟩ := sg_b h
        dsimp only at h
        refine cvv (As := [.int (15 : Int32), .int (1 : Int32)]) (rest := []) ⟨hx, hb, hml, hown, hts⟩ (c_Re_grow l D cA a S5 M5 (15 : Int32) (1 : Int32) _ hc6) ⟨callB_of 2 hts (tb_gi tb_cd_Re_grow) rfl rfl rfl (hts _ tb_in_Re) (hts _ tb_ml_Mo_57) yd_Re_grow ⟨Nat.le_of_ble_eq_true rfl, Nat.le_of_ble_eq_true rfl⟩, hts _ tb_im_Re_grow, hts _ tb_se_Re_grow⟩ hZK hK hZ hP hD hS 2 (wB_at2 _ _ _ _) rfl rfl hl.1 rfl (Nat.le_of_ble_eq_true rfl) d_Mo_takeSlot_104 (fun H locs hP hD hS => ?_)
        exact b107 _ _ _ _ _ h _ _ _ (lv_sub hl [1, 2, 3, 4, 5, 0] rfl) hP hD hS
    · have h := sg_n hc h
      refine lv_aload_n hx hb d_Mo_takeSlot_65 rfl (lv_at hl 0 rfl) ?_
      refine lv_iload hx hb d_Mo_takeSlot_66 (lv_at hl 4 rfl) ?_
      refine lv_iconst (v := (1 : Int32)) hx hb d_Mo_takeSlot_68 (by decide) ?_
      refine lv_iadd hx hb d_Mo_takeSlot_69 ?_
      refine puwB_15 (D := D) (x := x4 + (1 : Int32)) hx hb hts iMo hown hK hP hD hS k28 rfl rfl d_Mo_takeSlot_70 (fun H locs hP hD hS => ?_)
      exact ret _ _ _ _ _ _ _ h hP hD hS d_Mo_takeSlot_73
  intro H locs ls hl hP hD hS
  have hl : lv_has ls 6 [(0, .ref (a 5)), (1, .ref (a 1)), (2, .ref (a 2))] := hl
  have h := h0
  unfold f_Mo_takeSlot at h
  refine lv_aload_n hx hb d_Mo_takeSlot_0 rfl (lv_at hl 2 rfl) ?_
  refine lv_bipush (v := (10 : Int32)) hx hb d_Mo_takeSlot_1 (by decide) ?_
  obtain ⟨⟨r7, S7, M7⟩, hc7, h⟩ := sg_b h
  dsimp only at h
  refine cvi (As := [.int (10 : Int32)]) (rest := []) ⟨hx, hb, hml, hown, hts⟩ (c_Re_at l D cA a S M (10 : Int32) _ hc7) ⟨callB_of 1 hts (tb_gi tb_cd_Re_at) rfl rfl rfl (hts _ tb_in_Re) (hts _ tb_ml_Mo_46) yd_Re_at ⟨Nat.le_of_ble_eq_true rfl, Nat.le_of_ble_eq_true rfl⟩, hts _ tb_im_Re_at, hts _ tb_se_Re_at⟩ hZK hK hZ hP hD hS 2 (wB_at2 _ _ _ _) rfl rfl hl.1 rfl (Nat.le_of_ble_eq_true rfl) d_Mo_takeSlot_3 (fun H locs hP hD hS => ?_)
  refine lv_istore_n (lv' := [(3, .int r7), (0, .ref (a 5)), (1, .ref (a 1)), (2, .ref (a 2))]) hx hb d_Mo_takeSlot_6 rfl hl (by decide) rfl (fun ls hl => ?_)
  refine lv_iload_n hx hb d_Mo_takeSlot_7 rfl (lv_at hl 0 rfl) ?_
  refine lv_aload_n hx hb d_Mo_takeSlot_8 rfl (lv_at hl 1 rfl) ?_
  refine va_get (D := D) (ci := 5) (v := .int (S7 15)) (C := R_Mo) (T := T_Mo) (N := 10) hx hb hts iMo hown hK hP 5 (wB_at5 _ _ _ _) rfl 7 (by decide) k28 (fun _ h9 => h9) rfl d_Mo_takeSlot_9 ?_
  obtain ⟨⟨r8, S8, M8⟩, hc8, h⟩ := sg_b h
  dsimp only at h
  refine csi (As := [.int r7, .int (S7 15)]) (rest := []) ⟨hx, hb, hml, hown, hts⟩ (c_Mo_usedFrom l D cA a S7 M7 r7 (S7 15) _ hc8) ⟨callB_of 2 hts (tb_gi tb_cd_Mo_usedFrom) rfl rfl rfl (hts _ tb_in_Mo) (hts _ tb_ml_Mo_50) yd_Mo_usedFrom ⟨Nat.le_of_ble_eq_true rfl, Nat.le_of_ble_eq_true rfl⟩, hts _ tb_st_Mo_usedFrom⟩ hZK hK hZ hP hD hS rfl hl.1 rfl (Nat.le_of_ble_eq_true rfl) d_Mo_takeSlot_12 (fun H locs hP hD hS => ?_)
  refine lv_istore (lv' := [(4, .int r8), (3, .int r7), (0, .ref (a 5)), (1, .ref (a 1)), (2, .ref (a 2))]) hx hb d_Mo_takeSlot_15 hl (by decide) rfl (fun ls hl => ?_)
  refine lv_iload hx hb d_Mo_takeSlot_17 (lv_at hl 0 rfl) ?_
  refine lv_iconst (v := (3 : Int32)) hx hb d_Mo_takeSlot_19 (by decide) ?_
  refine lv_icmp_ge (tgt := 53) hx hb d_Mo_takeSlot_20 (by decide) (fun hc => ?_) (fun hc => ?_)
  · have h := sg_p hc h
    exact b53 _ _ _ _ h _ _ _ (lv_sub hl [2, 3, 4, 1, 0] rfl) hP hD hS
  · have h := sg_n hc h
    refine lv_aload_n hx hb d_Mo_takeSlot_23 rfl (lv_at hl 2 rfl) ?_
    refine va_get (D := D) (ci := 5) (v := .ref (a 14)) (C := R_Mo) (T := T_Mo) (N := 10) hx hb hts iMo hown hK hP 5 (wB_at5 _ _ _ _) rfl 0 (by decide) k11 (fun _ h9 => h9) rfl d_Mo_takeSlot_24 ?_
    refine lv_iload hx hb d_Mo_takeSlot_27 (lv_at hl 0 rfl) ?_
    refine lv_aload_n hx hb d_Mo_takeSlot_29 rfl (lv_at hl 3 rfl) ?_
    refine lv_aload_n hx hb d_Mo_takeSlot_30 rfl (lv_at hl 4 rfl) ?_
    refine lv_bipush (v := (12 : Int32)) hx hb d_Mo_takeSlot_31 (by decide) ?_
    refine lv_iload hx hb d_Mo_takeSlot_33 (lv_at hl 0 rfl) ?_
    refine lv_iadd hx hb d_Mo_takeSlot_35 ?_
    obtain ⟨⟨r9, S9, M9⟩, hc9, h⟩ := sg_b h
    dsimp only at h
    refine cvi (As := [.int ((12 : Int32) + r8)]) (rest := [.ref (a 1), .int r8, .ref (a 14)]) ⟨hx, hb, hml, hown, hts⟩ (c_Re_at l D cA a S8 M8 ((12 : Int32) + r8) _ hc9) ⟨callB_of 1 hts (tb_gi tb_cd_Re_at) rfl rfl rfl (hts _ tb_in_Re) (hts _ tb_ml_Mo_46) yd_Re_at ⟨Nat.le_of_ble_eq_true rfl, Nat.le_of_ble_eq_true rfl⟩, hts _ tb_im_Re_at, hts _ tb_se_Re_at⟩ hZK hK hZ hP hD hS 2 (wB_at2 _ _ _ _) rfl rfl hl.1 rfl (Nat.le_of_ble_eq_true rfl) d_Mo_takeSlot_36 (fun H locs hP hD hS => ?_)
    obtain ⟨⟨r10, S10, M10⟩, hc10, h⟩ := sg_b h
    dsimp only at h
    refine cvi (As := [.int r9]) (rest := [.int r8, .ref (a 14)]) ⟨hx, hb, hml, hown, hts⟩ (c_Me_at l D cA a S9 M9 r9 _ hc10) ⟨callB_of 1 hts (tb_gi tb_cd_Me_at) rfl rfl rfl (hts _ tb_in_Me) (hts _ tb_ml_Mo_54) yd_Me_at ⟨Nat.le_of_ble_eq_true rfl, Nat.le_of_ble_eq_true rfl⟩, hts _ tb_im_Me_at, hts _ tb_se_Me_at⟩ hZK hK hZ hP hD hS 1 (wB_at1 _ _ _ _) rfl rfl hl.1 rfl (Nat.le_of_ble_eq_true rfl) d_Mo_takeSlot_39 (fun H locs hP hD hS => ?_)
    obtain ⟨hg11, h⟩ := sg_g h
    refine va_iast (x := r10) hx hb hK hP hD hS 14 0 (wB_at14 _ _ _ _) rfl hg11 d_Mo_takeSlot_42 (fun H locs hP hD hS => ?_)
    have hP := wB_set14 hP
    have hD := wB_dset14 hD
    refine lv_aload_n hx hb d_Mo_takeSlot_43 rfl (lv_at hl 4 rfl) ?_
    refine lv_bipush (v := (12 : Int32)) hx hb d_Mo_takeSlot_44 (by decide) ?_
    refine lv_iload hx hb d_Mo_takeSlot_46 (lv_at hl 0 rfl) ?_
    refine lv_iadd hx hb d_Mo_takeSlot_48 ?_
    refine lv_iconst (v := (1 : Int32)) hx hb d_Mo_takeSlot_49 (by decide) ?_
    obtain ⟨⟨r12, S12, M12⟩, hc12, h⟩ := sg_b h
    dsimp only at h
    refine cvv (As := [.int ((12 : Int32) + r8), .int (1 : Int32)]) (rest := []) ⟨hx, hb, hml, hown, hts⟩ (c_Re_grow l D cA a S10 (upM M10 7 (upd (M10 7) r8.toNatClampNeg r10)) ((12 : Int32) + r8) (1 : Int32) _ hc12) ⟨callB_of 2 hts (tb_gi tb_cd_Re_grow) rfl rfl rfl (hts _ tb_in_Re) (hts _ tb_ml_Mo_57) yd_Re_grow ⟨Nat.le_of_ble_eq_true rfl, Nat.le_of_ble_eq_true rfl⟩, hts _ tb_im_Re_grow, hts _ tb_se_Re_grow⟩ hZK hK hZ hP hD hS 2 (wB_at2 _ _ _ _) rfl rfl hl.1 rfl (Nat.le_of_ble_eq_true rfl) d_Mo_takeSlot_50 (fun H locs hP hD hS => ?_)
    exact b53 _ _ _ _ h _ _ _ (lv_sub hl [2, 3, 4, 1, 0] rfl) hP hD hS
