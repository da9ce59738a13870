theorem tb_it_Bd : Cond.instantiable "SlotBoard" 9 ∈ TB := tb_in 11 (by decide +kernel) (by decide +kernel)
theorem tb_it_Md : Cond.instantiable "SlotBoardModel" 31 ∈ TB := tb_in 450 (by decide +kernel) (by decide +kernel)
theorem tb_cl_La_7 : Cond.classLink "SlotBoardLaw" 7 "SlotBoard" ∈ TB := tb_in 10 (by decide +kernel) (by decide +kernel)
theorem tb_cl_La_10 : Cond.classLink "SlotBoardLaw" 10 "SlotBoardModel" ∈ TB := tb_in 449 (by decide +kernel) (by decide +kernel)
theorem tb_ml_La_9 : Cond.methodLink "SlotBoardLaw" 9 y_Bd_init ∈ TB := tb_in 12 (by decide +kernel) (by decide +kernel)
theorem tb_ml_La_12 : Cond.methodLink "SlotBoardLaw" 12 y_Md_init ∈ TB := tb_in 451 (by decide +kernel) (by decide +kernel)
theorem lw_ls : Cond.laysStatic "SlotBoard$Registers" "COUNTING_BITS" "[I" ∈ lw_tbl := List.mem_append_right _ (List.mem_of_getElem? (i := 336) (by decide +kernel))
theorem lw_nf0 : Cond.fieldLinkNest "SlotBoard" 86 "SlotBoard$Registers" "requests" "I" "SlotBoard" ∈ lw_tbl := List.mem_append_right _ (List.mem_of_getElem? (i := 37) (by decide +kernel))
theorem lw_nf1 : Cond.fieldLinkNest "SlotBoard" 113 "SlotBoard$BeamList" "state" "I" "SlotBoard" ∈ lw_tbl := List.mem_append_right _ (List.mem_of_getElem? (i := 69) (by decide +kernel))
theorem lw_nf2 : Cond.fieldLinkNest "SlotBoard" 116 "SlotBoard$BeamList" "address" "I" "SlotBoard" ∈ lw_tbl := List.mem_append_right _ (List.mem_of_getElem? (i := 71) (by decide +kernel))
theorem lw_nf3 : Cond.fieldLinkNest "SlotBoard" 97 "SlotBoard$Mover" "busy" "Z" "SlotBoard" ∈ lw_tbl := List.mem_append_right _ (List.mem_of_getElem? (i := 97) (by decide +kernel))
theorem lw_nf4 : Cond.fieldLinkNest "SlotBoard" 101 "SlotBoard$Mover" "zero" "Z" "SlotBoard" ∈ lw_tbl := List.mem_append_right _ (List.mem_of_getElem? (i := 99) (by decide +kernel))
theorem lw_nf5 : Cond.fieldLinkNest "SlotBoard" 104 "SlotBoard$Processor" "waiting" "I" "SlotBoard" ∈ lw_tbl := List.mem_append_right _ (List.mem_of_getElem? (i := 139) (by decide +kernel))
theorem lw_nf6 : Cond.fieldLinkNest "SlotBoard" 107 "SlotBoard$Processor" "loaded" "I" "SlotBoard" ∈ lw_tbl := List.mem_append_right _ (List.mem_of_getElem? (i := 142) (by decide +kernel))
theorem lw_nf7 : Cond.fieldLinkNest "SlotBoard" 110 "SlotBoard$Processor" "loads" "I" "SlotBoard" ∈ lw_tbl := List.mem_append_right _ (List.mem_of_getElem? (i := 144) (by decide +kernel))
theorem lw_nm0 : Cond.methodLinkNest "SlotBoard" 9 y_Me_init "SlotBoard" ∈ lw_tbl := List.mem_append_right _ (List.mem_of_getElem? (i := 20) (by decide +kernel))
theorem lw_nm1 : Cond.methodLinkNest "SlotBoard" 18 y_Re_init "SlotBoard" ∈ lw_tbl := List.mem_append_right _ (List.mem_of_getElem? (i := 31) (by decide +kernel))
theorem lw_nm2 : Cond.methodLinkNest "SlotBoard" 25 y_Pi_init "SlotBoard" ∈ lw_tbl := List.mem_append_right _ (List.mem_of_getElem? (i := 45) (by decide +kernel))
theorem lw_nm3 : Cond.methodLinkNest "SlotBoard" 32 y_Li_init "SlotBoard" ∈ lw_tbl := List.mem_append_right _ (List.mem_of_getElem? (i := 64) (by decide +kernel))
theorem lw_nm4 : Cond.methodLinkNest "SlotBoard" 39 y_Mo_init "SlotBoard" ∈ lw_tbl := List.mem_append_right _ (List.mem_of_getElem? (i := 91) (by decide +kernel))
theorem lw_nm5 : Cond.methodLinkNest "SlotBoard" 46 y_Pr_init "SlotBoard" ∈ lw_tbl := List.mem_append_right _ (List.mem_of_getElem? (i := 130) (by decide +kernel))
theorem lw_nestF : ∀ w ∈ nestW, w ∈ lw_tbl := by
  intro w hw
  have hw : w ∈ [Cond.fieldLinkNest "SlotBoard" 86 "SlotBoard$Registers" "requests" "I" "SlotBoard", Cond.fieldLinkNest "SlotBoard" 113 "SlotBoard$BeamList" "state" "I" "SlotBoard", Cond.fieldLinkNest "SlotBoard" 116 "SlotBoard$BeamList" "address" "I" "SlotBoard", Cond.fieldLinkNest "SlotBoard" 97 "SlotBoard$Mover" "busy" "Z" "SlotBoard", Cond.fieldLinkNest "SlotBoard" 101 "SlotBoard$Mover" "zero" "Z" "SlotBoard", Cond.fieldLinkNest "SlotBoard" 104 "SlotBoard$Processor" "waiting" "I" "SlotBoard", Cond.fieldLinkNest "SlotBoard" 107 "SlotBoard$Processor" "loaded" "I" "SlotBoard", Cond.fieldLinkNest "SlotBoard" 110 "SlotBoard$Processor" "loads" "I" "SlotBoard"] := hw
  simp only [List.mem_cons, List.not_mem_nil, or_false] at hw
  rcases hw with  rfl | rfl | rfl | rfl | rfl | rfl | rfl | rfl 
  · exact lw_nf0
  · exact lw_nf1
  · exact lw_nf2
  · exact lw_nf3
  · exact lw_nf4
  · exact lw_nf5
  · exact lw_nf6
  · exact lw_nf7
theorem lw_nestM : ∀ w ∈ nestMW, w ∈ lw_tbl := by
  intro w hw
  have hw : w ∈ [Cond.methodLinkNest "SlotBoard" 9 y_Me_init "SlotBoard", Cond.methodLinkNest "SlotBoard" 18 y_Re_init "SlotBoard", Cond.methodLinkNest "SlotBoard" 25 y_Pi_init "SlotBoard", Cond.methodLinkNest "SlotBoard" 32 y_Li_init "SlotBoard", Cond.methodLinkNest "SlotBoard" 39 y_Mo_init "SlotBoard", Cond.methodLinkNest "SlotBoard" 46 y_Pr_init "SlotBoard"] := hw
  simp only [List.mem_cons, List.not_mem_nil, or_false] at hw
  rcases hw with  rfl | rfl | rfl | rfl | rfl | rfl 
  · exact lw_nm0
  · exact lw_nm1
  · exact lw_nm2
  · exact lw_nm3
  · exact lw_nm4
  · exact lw_nm5
theorem nestF_s {b : Nat} {s : State} (h : ∀ w ∈ lw_tbl, w.before #[Value.ref b] s = true) : ∀ w ∈ nestW, va_Nw w s := by
  intro w hw
  have h1 := h w (lw_nestF w hw)
  obtain ⟨q, -, rfl⟩ := List.mem_map.mp hw
  exact va_Nw.of rfl h1
theorem nestM_s {b : Nat} {s : State} (h : ∀ w ∈ lw_tbl, w.before #[Value.ref b] s = true) : ∀ w ∈ nestMW, va_Nw w s := by
  intro w hw
  have h1 := h w (lw_nestM w hw)
  obtain ⟨q, -, rfl⟩ := List.mem_map.mp hw
  exact va_Nw.of rfl h1
theorem nestM_same {u U : State} (h : u.vm = U.vm) (hN : ∀ w ∈ nestMW, va_Nw w u) : ∀ w ∈ nestMW, va_Nw w U := by
  intro w hw
  have h1 := hN w hw
  obtain ⟨q, -, rfl⟩ := List.mem_map.mp hw
  exact va_Nw.same rfl h h1
theorem nestM_warm {u U : State} (h : u.WarmedH U.vm) (hN : ∀ w ∈ nestMW, va_Nw w u) : ∀ w ∈ nestMW, va_Nw w U := by
  intro w hw
  have h1 := hN w hw
  obtain ⟨q, -, rfl⟩ := List.mem_map.mp hw
  exact va_Nw.warmM h h1
abbrev cb_tm : Term := .static "SlotBoard$Registers" "COUNTING_BITS" "[I"
set_option maxRecDepth 100000 in
theorem nar_el : ∀ j, j < 28 → Cond.eq (.elem cb_tm (.int (Int32.ofNat j))) (.int (cbits j)) ∈ flatC (Jvm.Cond.and given_1 narrow_1) := by decide +kernel
set_option maxRecDepth 100000 in
theorem nar_ar : Cond.arrayOf cb_tm .int ∈ flatC (Jvm.Cond.and given_1 narrow_1) := by decide +kernel
set_option maxRecDepth 100000 in
theorem nar_ln : Cond.eq (.length cb_tm) (.int (Int32.ofNat 28)) ∈ flatC (Jvm.Cond.and given_1 narrow_1) := by decide +kernel
theorem wB_some {cA : ClassId} {a : Nat → Nat} {S : SS} {M : MM} {i : Nat} (h : i < 18) : ∃ q, (wB cA a S M)[i]? = some q ∧ q.1 = a i := by
  have hl : i < (wB cA a S M).length := h
  exact ⟨_, List.getElem?_eq_getElem hl, (wB_adr (List.getElem?_eq_getElem hl)).2⟩
theorem wM_some {cA : ClassId} {b : Nat → Nat} {S : SS} {M : MM} {i : Nat} (h : i < 10) : ∃ q, (wM cA b S M)[i]? = some q ∧ q.1 = b i := by
  have hl : i < (wM cA b S M).length := h
  exact ⟨_, List.getElem?_eq_getElem hl, (wM_adr (List.getElem?_eq_getElem hl)).2⟩
theorem two_apart {A : Nat → Prop} {cA : ClassId} {a g : Nat → Nat} {S T : SS} {M N : MM} (hD : va_D A (wB cA a S M ++ wM cA g T N)) : Inj 18 a ∧ Inj 10 g ∧ (∀ i, i < 18 → A (a i)) ∧ (∀ i, i < 10 → A (g i)) ∧ ∀ i j, i < 18 → j < 10 → a i ≠ g j := by
  have l1 : ∀ i, i < 18 → ∃ q, (wB cA a S M ++ wM cA g T N)[i]? = some q ∧ q.1 = a i := fun i hi => by
    obtain ⟨q, h1, h2⟩ := wB_some (cA := cA) (a := a) (S := S) (M := M) hi
    exact ⟨q, by rw [List.getElem?_append_left (show i < (wB cA a S M).length from hi)]; exact h1, h2⟩
  have l2 : ∀ i, i < 10 → ∃ q, (wB cA a S M ++ wM cA g T N)[18 + i]? = some q ∧ q.1 = g i := fun i hi => by
    obtain ⟨q, h1, h2⟩ := wM_some (cA := cA) (b := g) (S := T) (M := N) hi
    refine ⟨q, ?_, h2⟩
    rw [List.getElem?_append_right (show (wB cA a S M).length ≤ 18 + i from Nat.le_add_right 18 i), show 18 + i - (wB cA a S M).length = i from Nat.add_sub_cancel_left 18 i]
    exact h1
  refine ⟨fun i j hi hj e9 => ?_, fun i j hi hj e9 => ?_, fun i hi => ?_, fun i hi => ?_, fun i j hi hj e9 => ?_⟩
  · obtain ⟨p, p1, p2⟩ := l1 i hi
    obtain ⟨q, q1, q2⟩ := l1 j hj
    exact hD.1 i j p q p1 q1 (by rw [p2, q2, e9])
  · obtain ⟨p, p1, p2⟩ := l2 i hi
    obtain ⟨q, q1, q2⟩ := l2 j hj
    have := hD.1 (18 + i) (18 + j) p q p1 q1 (by rw [p2, q2, e9])
    omega
  · obtain ⟨p, p1, p2⟩ := l1 i hi
    rw [← p2]; exact hD.2 i p p1
  · obtain ⟨p, p1, p2⟩ := l2 i hi
    rw [← p2]; exact hD.2 (18 + i) p p1
  · obtain ⟨p, p1, p2⟩ := l1 i hi
    obtain ⟨q, q1, q2⟩ := l2 j hj
    have := hD.1 i (18 + j) p q p1 q1 (by rw [p2, q2, e9])
    omega
set_option maxHeartbeats 8000000 in
set_option maxRecDepth 100000 in
theorem whole_start {p : Program} {e : Env} {s : State} {m : MethodId} {below : List Frame} {meth : Method} {c : Code} (l : Launch) {b L : Nat} {xs : Nat → Int32} (hL : L ≤ 2048) (C0 : lw_At p s m meth c b L xs) : W p l e room_1 s m #[Value.ref b] below meth c s.heap [] 0 0 (lw_Z below #[Value.ref b] s) (entryFrame m ([Value.ref b] : List Value).toArray 4) := by
  obtain ⟨hx, hb, hr, hml, hown, hts0, hX, hbl, hlocks, hgv⟩ := C0
  have hown : s.vm.findClass "SlotBoardLaw" = some m.cls := hown
  have hts : ∀ w ∈ TB, w.before #[Value.ref b] s = true := fun w h => hts0 w (List.mem_filter.mp h).1
  obtain ⟨c0, i0, k0⟩ := u_known (C := R_Bd) (T := T_Bd) (N := 9) (n := 9) hts iBd (hts _ tb_it_Bd)
  obtain ⟨c1, i1, k1⟩ := u_known (C := R_Me) (T := T_Me) (N := 1) (n := 1) hts iMe (hts _ tb_it_Me)
  obtain ⟨c2, i2, k2⟩ := u_known (C := R_Re) (T := T_Re) (N := 2) (n := 2) hts iRe (hts _ tb_it_Re)
  obtain ⟨c3, i3, k3⟩ := u_known (C := R_Pi) (T := T_Pi) (N := 4) (n := 4) hts iPi (hts _ tb_it_Pi)
  obtain ⟨c4, i4, k4⟩ := u_known (C := R_Li) (T := T_Li) (N := 6) (n := 6) hts iLi (hts _ tb_it_Li)
  obtain ⟨c5, i5, k5⟩ := u_known (C := R_Mo) (T := T_Mo) (N := 10) (n := 10) hts iMo (hts _ tb_it_Mo)
  obtain ⟨c6, i6, k6⟩ := u_known (C := R_Pr) (T := T_Pr) (N := 8) (n := 8) hts iPr (hts _ tb_it_Pr)
  obtain ⟨c7, i7, k7⟩ := u_known (C := R_Md) (T := T_Md) (N := 31) (n := 31) hts iMd (hts _ tb_it_Md)
  obtain ⟨D, hK⟩ : ∃ D, va_K D vCl [] s := by
    refine ⟨(fun c => [c0, c1, c2, c3, c4, c5, c6, c7].getD c 0, fun c => [i0, i1, i2, i3, i4, i5, i6, i7].getD c (fun _ => 0)), fun c q hq => ?_, fun k q hq => by cases hq⟩
    have h8 : c < 8 := (List.getElem?_eq_some_iff.mp hq).1
    have hc : c = 0 ∨ c = 1 ∨ c = 2 ∨ c = 3 ∨ c = 4 ∨ c = 5 ∨ c = 6 ∨ c = 7 := by omega
    rcases hc with rfl | rfl | rfl | rfl | rfl | rfl | rfl | rfl
    · cases hq; exact k0
    · cases hq; exact k1
    · cases hq; exact k2
    · cases hq; exact k3
    · cases hq; exact k4
    · cases hq; exact k5
    · cases hq; exact k6
    · cases hq; exact k7
  have hlt : ∀ q : Nat, q < s.heap.size → ¬ (fun q => s.heap.size ≤ q) q := fun q h z => absurd (show s.heap.size ≤ q from z) (by omega)
  have hs := flat_of_before _ hgv
  obtain ⟨t0, ht, hT⟩ := va_Tof (tm := cb_tm) (ty := .int) (N := 28) (f := fun j => .int (cbits j)) (A := fun q => s.heap.size ≤ q) (by decide) (hs _ nar_ar) (va_eqt (hs _ nar_ln)) (fun j hj => va_eqt (hs _ (nar_el j hj))) hlt
  have hZ := va_Zref (hts0 _ lw_ls) (hts _ tb_in_Re) ht hlt
  have hNM := nestM_s hts0
  have hNF := nestF_s hts0
  have hl := lv_entry ([Value.ref b]) (n := 4) (Nat.le_of_ble_eq_true rfl)
  rw [lg_entry_eq]
  generalize (lg_sl ([Value.ref b]) ++ List.replicate (4 - (lg_sl ([Value.ref b])).length) Slot.unset).toArray = ls at hl ⊢
  have hl : lv_has ls 4 [(0, .ref b)] := hl
  obtain ⟨A, hAe⟩ : ∃ A : Nat → Prop, A = fun q => s.heap.size ≤ q := ⟨_, rfl⟩
  have hA : ∀ q : Nat, s.heap.size ≤ q → A q := fun q h => by rw [hAe]; exact h
  have hP : va_P D vCl [] s.heap := fun k q h => by cases h
  have hD : va_D A [] := ⟨fun i j p q h => by (cases h), fun k q h => by cases h⟩
  have hS : va_S A s.heap s.heap [] := va_S.rf
  obtain ⟨H, hH⟩ : ∃ z, z = s.heap := ⟨_, rfl⟩
  rw [← hH] at hP
  have hS : va_S A s.heap H [] := by rw [hH]; exact va_S.rf
  rw [← hH]
  refine va_new (ci := 0) (fs := [.null, .null, .null, .null, .null, .null, .null, .int 0, .int 0]) (C := R_Bd) (T := T_Bd) (N := 9) hx hb hts iBd ty_Bd tyok_Bd hown (hts _ tb_cl_La_7) (hts _ tb_it_Bd) (hts _ tb_in_Bd) hK hP hD hS hA rfl (by decide) (Nat.le_of_ble_eq_true rfl) (Nat.le_of_ble_eq_true rfl) d_La_0 (fun qBd H hPq hDq hS => ?_)
  have hPq : va_P D vCl [(qBd, .inr (0, [.null, .null, .null, .null, .null, .null, .null, .int 0, .int 0]))] H := hPq
  have hDq : va_D A [(qBd, .inr (0, [.null, .null, .null, .null, .null, .null, .null, .int 0, .int 0]))] := hDq
  refine W.widen (k := 1) (n := 9) (Nat.le_of_ble_eq_true rfl) (Nat.le_of_ble_eq_true rfl) ?_
  refine lv_dup hx hb d_La_3 rfl ?_
  have hFc := va_free (wc := [(qBd, .inr (0, [.null, .null, .null, .null, .null, .null, .null, .int 0, .int 0]))]) hDq hS hA [0] rfl
  refine va_callv (va_runI (As := []) (rest := [.ref qBd]) ⟨hx, hb, hml, hown, hts⟩ (c_Bd_init l D qBd H.size) (cwI 0 hts (tb_gi tb_cd_Bd_init) rfl rfl rfl (hts _ tb_in_Bd) (hts _ tb_ml_La_9) (hts _ tb_im_Bd_init) rfl yd_Bd_init ⟨Nat.le_of_ble_eq_true rfl, Nat.le_of_ble_eq_true rfl⟩) ⟨fun a U g mk q => by obtain ⟨q0, q1, qP, qK, qD, qN⟩ := q; exact ⟨q0, q1, qP, va_K.moved (u := U) (U := U.calling g mk a) (Vm.Alike.refl U.vm) qK, qD, nestM_same (u := U) (U := U.calling g mk a) rfl qN⟩, fun U hU hW => ⟨rfl, by rw [hU], by rw [hU]; exact hPq, va_K.moved hW.alike hK, hDq.weaken (fun _ _ _ _ => trivial), nestM_warm hW hNM⟩⟩ rfl rfl hl.1 rfl (lv_room (Nat.le_of_ble_eq_true rfl)) d_La_4 ⟨Nat.le_of_ble_eq_true rfl, Nat.le_of_ble_eq_true rfl⟩) hS (fun q _ h => hFc q h) hFc (fun u t H1 locs ht9 hvm h5 hB hz1 hk1 hS => ?_)
  obtain ⟨cA, a⟩ := u
  obtain ⟨hP1, hK1, hD1, ha0⟩ := hB
  rw [ht9] at hP1
  have hK := va_K.moved hvm.symm hK1
  have hP1 : va_P D vCl (wB cA a (fun _ => 0) (fun _ _ => 0)) H1 := hP1
  have hK : va_K D vCl [(cA, .int)] s := hK
  have ha0 : a 0 = qBd := ha0
  obtain ⟨hP, hD⟩ := va_join (wr := []) (w1 := wB cA a (fun _ => 0) (fun _ _ => 0)) hPq hDq [0] [] rfl rfl (by decide) (by decide) hk1 hFc hP1 hD1
  have hP : va_P D vCl (wB cA a (fun _ => 0) (fun _ _ => 0)) H1 := hP
  have hD : va_D A (wB cA a (fun _ => 0) (fun _ _ => 0)) := hD
  clear hP1 hD1 hFc hk1 hz1 hPq hDq
  subst ha0
  generalize H1 = H at hP hS ⊢
  refine W.widen (k := 18) (n := 747) (Nat.le_of_ble_eq_true rfl) (Nat.le_of_ble_eq_true rfl) ?_
  refine lv_astore_n (lv' := [(1, .ref (a 0)), (0, .ref b)]) hx hb d_La_7 rfl hl (by decide) rfl (fun ls hl => ?_)
  refine va_new (ci := 7) (fs := [.null, .null, .null, .int 0, .int 0, .int 0, .null, .null, .null, .null, .int 0, .int 0, .int 0, .int 0, .int 0, .int 0, .int 0, .int 0, .int 0, .int 0, .int 0, .int 0, .int 0, .int 0, .int 0, .null, .int 0, .int 0, .null, .int 0, .int 0]) (C := R_Md) (T := T_Md) (N := 31) hx hb hts iMd ty_Md tyok_Md hown (hts _ tb_cl_La_10) (hts _ tb_it_Md) (hts _ tb_in_Md) hK hP hD hS hA rfl (by decide) (Nat.le_of_ble_eq_true rfl) (Nat.le_of_ble_eq_true rfl) d_La_8 (fun qMd H hPq hDq hS => ?_)
  have hPm : va_P D vCl (wB cA a (fun _ => 0) (fun _ _ => 0) ++ [(qMd, .inr (7, [.null, .null, .null, .int 0, .int 0, .int 0, .null, .null, .null, .null, .int 0, .int 0, .int 0, .int 0, .int 0, .int 0, .int 0, .int 0, .int 0, .int 0, .int 0, .int 0, .int 0, .int 0, .int 0, .null, .int 0, .int 0, .null, .int 0, .int 0]))]) H := hPq
  have hDm : va_D A (wB cA a (fun _ => 0) (fun _ _ => 0) ++ [(qMd, .inr (7, [.null, .null, .null, .int 0, .int 0, .int 0, .null, .null, .null, .null, .int 0, .int 0, .int 0, .int 0, .int 0, .int 0, .int 0, .int 0, .int 0, .int 0, .int 0, .int 0, .int 0, .int 0, .int 0, .null, .int 0, .int 0, .null, .int 0, .int 0]))]) := hDq
  clear hPq hDq
  refine W.widen (k := 19) (n := 778) (Nat.le_of_ble_eq_true rfl) (Nat.le_of_ble_eq_true rfl) ?_
  refine lv_dup hx hb d_La_11 rfl ?_
  have hPc := hPm.sub (ws' := [(qMd, .inr (7, [.null, .null, .null, .int 0, .int 0, .int 0, .null, .null, .null, .null, .int 0, .int 0, .int 0, .int 0, .int 0, .int 0, .int 0, .int 0, .int 0, .int 0, .int 0, .int 0, .int 0, .int 0, .int 0, .null, .int 0, .int 0, .null, .int 0, .int 0]))]) [18] rfl
  have hDc := hDm.sub (ws' := [(qMd, .inr (7, [.null, .null, .null, .int 0, .int 0, .int 0, .null, .null, .null, .null, .int 0, .int 0, .int 0, .int 0, .int 0, .int 0, .int 0, .int 0, .int 0, .int 0, .int 0, .int 0, .int 0, .int 0, .int 0, .null, .int 0, .int 0, .null, .int 0, .int 0]))]) [18] (by decide) rfl
  have hKc := hK.sub (tys' := []) [] rfl
  have hFc := va_free (wc := [(qMd, .inr (7, [.null, .null, .null, .int 0, .int 0, .int 0, .null, .null, .null, .null, .int 0, .int 0, .int 0, .int 0, .int 0, .int 0, .int 0, .int 0, .int 0, .int 0, .int 0, .int 0, .int 0, .int 0, .int 0, .null, .int 0, .int 0, .null, .int 0, .int 0]))]) hDm hS hA [18] rfl
  refine va_callv (va_runI (As := []) (rest := [.ref qMd]) ⟨hx, hb, hml, hown, hts⟩ (c_Md_init l D qMd H.size) (cwI 0 hts (tb_gi tb_cd_Md_init) rfl rfl rfl (hts _ tb_in_Md) (hts _ tb_ml_La_12) (hts _ tb_im_Md_init) rfl yd_Md_init ⟨Nat.le_of_ble_eq_true rfl, Nat.le_of_ble_eq_true rfl⟩) ⟨fun a U g mk q => by obtain ⟨q0, q1, qP, qK, qD⟩ := q; exact ⟨q0, q1, qP, va_K.moved (u := U) (U := U.calling g mk a) (Vm.Alike.refl U.vm) qK, qD⟩, fun U hU hW => ⟨rfl, by rw [hU], by rw [hU]; exact hPc, va_K.moved hW.alike hKc, hDc.weaken (fun _ _ _ _ => trivial)⟩⟩ rfl rfl hl.1 rfl (lv_room (Nat.le_of_ble_eq_true rfl)) d_La_12 ⟨Nat.le_of_ble_eq_true rfl, Nat.le_of_ble_eq_true rfl⟩) hS (fun q _ h => hFc q h) hFc (fun u t H1 locs ht9 hvm h5 hB hz1 hk1 hS => ?_)
  obtain ⟨cB, g⟩ := u
  obtain ⟨hP1, hK1, hD1, hg0⟩ := hB
  rw [ht9] at hP1
  have e9 := cA_eq hK (show va_K D vCl [(cB, .int)] s from va_K.moved hvm.symm hK1)
  subst e9
  have hg0 : g 0 = qMd := hg0
  obtain ⟨hP, hD⟩ := va_join (wr := wB cA a (fun _ => 0) (fun _ _ => 0)) (w1 := wM cA g (fun _ => 0) (fun _ _ => 0)) hPm hDm [18] [0, 1, 2, 3, 4, 5, 6, 7, 8, 9, 10, 11, 12, 13, 14, 15, 16, 17] rfl rfl (by decide) (by decide) hk1 hFc hP1 hD1
  have hP : va_P D vCl (wB cA a (fun _ => 0) (fun _ _ => 0) ++ wM cA g (fun _ => 0) (fun _ _ => 0)) H1 := hP
  have hD : va_D A (wB cA a (fun _ => 0) (fun _ _ => 0) ++ wM cA g (fun _ => 0) (fun _ _ => 0)) := hD
  clear hP1 hD1 hFc hk1 hz1 hPc hDc hPm hDm
  subst hg0
  generalize H1 = H at hP hS ⊢
  refine W.widen (k := 28) (n := 1486) (Nat.le_of_ble_eq_true rfl) (Nat.le_of_ble_eq_true rfl) ?_
  refine lv_astore_n (lv' := [(2, .ref (g 0)), (1, .ref (a 0)), (0, .ref b)]) hx hb d_La_15 rfl hl (by decide) rfl (fun ls hl => ?_)
  refine lv_iconst (v := nI 0) hx hb d_La_16 (by decide) ?_
  refine lv_istore_n (lv' := [(3, .int (nI 0)), (2, .ref (g 0)), (1, .ref (a 0)), (0, .ref b)]) hx hb d_La_17 rfl hl (by decide) rfl (fun ls hl => ?_)
  obtain ⟨iA, iG, gA, gG, ap⟩ := two_apart hD
  subst hAe
  have hZB : ZB a s s.heap := ⟨⟨t0, hZ.narrow (fun q h => by obtain ⟨i, hi, rfl⟩ := h; exact gA i hi), hT.narrow (fun q h => by obtain ⟨i, hi, rfl⟩ := h; exact gA i hi)⟩, hNF⟩
  exact law_loop l hL hx hb hr hml hown hts hX hbl hlocks hK hZB iA iG gA gG ap (L + 4) 0 _ _ _ _ (by omega) (by omega) rel_0 H locs ls (lv_sub hl [3, 2, 1, 0] rfl) (hP.sub (ws' := wB cA a (fun _ => 0) (fun _ _ => 0)) [0, 1, 2, 3, 4, 5, 6, 7, 8, 9, 10, 11, 12, 13, 14, 15, 16, 17] rfl) (hP.sub (ws' := wM cA g (fun _ => 0) (fun _ _ => 0)) [18, 19, 20, 21, 22, 23, 24, 25, 26, 27] rfl) hS
