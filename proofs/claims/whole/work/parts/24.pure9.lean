/-! The mover's word, and its slot. -/
def mk (s13 s11 r20 r21 x : Int32) : Int32 := if s13 = s11 - 1 then (if s13 = 0 then x &&& r20 else x) &&& r21 else (if s13 = 0 then x &&& r20 else x)
theorem mk_lt {s13 s11 r20 r21 : Int32} {w : Nat} (h : w < 65536) : lt32 (mk s13 s11 r20 r21 (nI w)) 65536 := by
  have a1 : lt32 (if s13 = 0 then nI w &&& r20 else nI w) 65536 := by
    by_cases q : s13 = 0
    · rw [if_pos q]; exact and_lt h
    · rw [if_neg q]; exact ⟨w, h, rfl⟩
  unfold mk
  by_cases q : s13 = s11 - 1
  · rw [if_pos q]
    obtain ⟨k, hk, e⟩ := a1
    rw [e]; exact and_lt hk
  · rw [if_neg q]; exact a1
theorem e_masked {S : SS} {M : MM} {x : Int32} : f_Mo_masked S M x = some (mk (S 13) (S 11) (M 2 20) (M 2 21) x, S, M) := by
  have e20 : f_Re_at S M (20 : Int32) = some (M 2 20, S, M) := e_Re_at (k := 20) (by decide)
  have e21 : f_Re_at S M (21 : Int32) = some (M 2 21, S, M) := e_Re_at (k := 21) (by decide)
  unfold f_Mo_masked f_Mo_masked_18 f_Mo_masked_40 mk
  rw [e20]
  simp only [Option.bind_some, e21]
  by_cases q : S 13 = 0
  · rw [if_pos q]
    by_cases p : S 13 = S 11 - 1
    · rw [if_pos p, if_pos p, if_pos q]
    · rw [if_neg p, if_neg p, if_pos q]
  · rw [if_neg q]
    by_cases p : S 13 = S 11 - 1
    · rw [if_pos p, if_pos p, if_neg q]
    · rw [if_neg p, if_neg p, if_neg q]
theorem e_m82 {T : SS} {N : MM} {x1 x : Int32} (hw : f_Md_wordOf T N (0 : Int32) = some (x, T, N)) : f_Md_move_82 T N x1 = f_Md_move_128 T N x1 (mk (T 13) (T 11) (N 1 20) (N 1 21) x) := by
  unfold f_Md_move_82 f_Md_move_105 mk
  rw [hw]
  simp only [Option.bind_some]
  by_cases q : T 13 = 0
  · rw [if_pos q]
    by_cases p : T 13 = T 11 - 1
    · rw [if_pos p, if_pos p, if_pos q]
    · rw [if_neg p, if_neg p, if_pos q]
  · rw [if_neg q]
    by_cases p : T 13 = T 11 - 1
    · rw [if_pos p, if_pos p, if_neg q]
    · rw [if_neg p, if_neg p, if_neg q]
def fin (S : SS) (a b res : Int32) : SS := if res = 0 then upd (upd S 16 a) 17 b else upd (upd (upd S 16 a) 17 b) 10 0
theorem cb_m0 {T : SS} {N : MM} {x1 x2 x3 x y z i0 : Int32} (hi : i0 = nI (16 - 16)) : f_Md_move_210 20 T N x1 x2 x3 x y z 0 i0 = (if CB (N 1 10) x y z 16 0 = 0 then f_Md_move_282 T N x1 x2 x3 x y z (CB (N 1 10) x y z 16 0) (nI 16) else f_Md_move_282 (upd T 10 0) N x1 x2 x3 x y z (CB (N 1 10) x y z 16 0) (nI 16)) := by
  rw [hi]
  exact cb_m 16 20 0 (by decide) (by decide)
theorem bb {α β : Type} {o : Option α} {x : α} {k : α → Option β} {r : Option β} (h : o = some x) (hk : k x = r) : o.bind k = r := by
  rw [h]; exact hk
theorem fin_c {S : SS} {M : MM} {w0 w1 w2 a p p2 fv sb : Nat} {F A B : Int32} (c0 : f_Mo_wordOf S M (0 : Int32) F = some (nI w0, S, M)) (c1 : f_Mo_wordOf S M (1 : Int32) F = some (nI w1, S, M)) (c2 : f_Mo_wordOf S M (2 : Int32) F = some (nI w2, S, M)) (ea : mk (S 13) (S 11) (M 2 20) (M 2 21) (nI w0) = nI a) (hF : F >>> ((12 : Int32) &&& 31) = nI fv) (hfv : fv < 16) (esb : M 2 11 = nI sb) (hsb : sb < 16) (ep : S 16 = nI p) (hp : p < 65536) (ep2 : S 17 = nI p2) (hp2 : p2 < 65536) (ha : a < 65536) (hw1 : w1 < 65536)
    (eA : A = nI ((p * 65536 + a) / 2 ^ fv % 65536)) (eB : B = nI ((p2 * 65536 + w1) / 2 ^ sb % 65536)) {res : Int32} (eR : res = CB F A B (nI w2) 16 0) : f_Mo_finishWord S M F = some (res, fin S (nI a) (nI w1) res, M) := by
  have e11 : f_Re_at S M (11 : Int32) = some (M 2 11, S, M) := e_Re_at (k := 11) (by decide)
  have s1 : f_Mo_shifted S M (S 16) (nI a) (F >>> ((12 : Int32) &&& 31)) = some (A, S, M) := by
    unfold f_Mo_shifted
    rw [ep, hF, shC hp ha hfv, eA]
  have s2 : f_Mo_shifted S M (S 17) (nI w1) (M 2 11) = some (B, S, M) := by
    unfold f_Mo_shifted
    rw [ep2, esb, shC hp2 hw1 hsb, eB]
  have s3 : f_Mo_combined S M F A B (nI w2) = some (res, S, M) := by rw [e_combined, ← eR]
  unfold f_Mo_finishWord
  refine bb c0 ?_
  refine bb (x := (nI a, S, M)) (by rw [← ea]; exact e_masked) ?_
  refine bb c1 ?_
  refine bb c2 ?_
  refine bb s1 ?_
  refine bb e11 ?_
  refine bb s2 ?_
  refine bb s3 ?_
  show (if res = 0 then f_Mo_finishWord_95 (upd (upd S 16 (nI a)) 17 (nI w1)) M F (nI a) (nI w1) (nI w2) A B res else f_Mo_finishWord_95 (upd (upd (upd S 16 (nI a)) 17 (nI w1)) 10 0) M F (nI a) (nI w1) (nI w2) A B res) = _
  unfold f_Mo_finishWord_95 fin
  by_cases q : res = 0
  · rw [if_pos q, if_pos q]
  · rw [if_neg q, if_neg q]
theorem fin_m {T : SS} {N : MM} {x1 : Int32} {w0 w1 w2 a p p2 fv sb : Nat} {A B : Int32} (d0 : f_Md_wordOf T N (0 : Int32) = some (nI w0, T, N)) (d1 : f_Md_wordOf T N (1 : Int32) = some (nI w1, T, N)) (d2 : f_Md_wordOf T N (2 : Int32) = some (nI w2, T, N)) (ea : mk (T 13) (T 11) (N 1 20) (N 1 21) (nI w0) = nI a) (hF : N 1 10 >>> ((12 : Int32) &&& 31) = nI fv) (hfv : fv < 16) (esb : N 1 11 = nI sb) (hsb : sb < 16) (ep : T 16 = nI p) (hp : p < 65536) (ep2 : T 17 = nI p2) (hp2 : p2 < 65536) (ha : a < 65536) (hw1 : w1 < 65536)
    (eA : A = nI ((p * 65536 + a) / 2 ^ fv % 65536)) (eB : B = nI ((p2 * 65536 + w1) / 2 ^ sb % 65536)) {res : Int32} (eR : res = CB (N 1 10) A B (nI w2) 16 0) : f_Md_move_82 T N x1 = f_Md_move_282 (fin T (nI a) (nI w1) res) N x1 (nI a) (nI w1) A B (nI w2) res (nI 16) := by
  rw [e_m82 d0, ea]
  unfold f_Md_move_128
  rw [d1]
  simp only [Option.bind_some]
  rw [d2]
  simp only [Option.bind_some]
  rw [ep, ep2, hF, esb, shM hp ha hfv, shM hp2 hw1 hsb, ← eA, ← eB, cb_m0 (i0 := 0) rfl, ← eR]
  unfold fin
  by_cases q : res = 0
  · rw [if_pos q, if_pos q]
  · rw [if_neg q, if_neg q]
theorem finish_both {S T : SS} {M N : MM} {x1 : Int32} (hr : RRegs (M 2) (N 1)) (hf : ∀ j, j < 3 → M 7 j = N 7 j ∧ lt32 (M 7 j) 65536) (t11 : T 11 = S 11) (t13 : T 13 = S 13) (t16 : T 16 = S 16) (t17 : T 17 = S 17) (l16 : lt32 (S 16) 65536) (l17 : lt32 (S 17) 65536) :
    ∃ a b res, lt32 a 65536 ∧ lt32 b 65536 ∧ lt32 res 65536 ∧ f_Mo_finishWord S M (M 2 10) = some (res, fin S a b res, M) ∧ ∃ X Y z, f_Md_move_82 T N x1 = f_Md_move_282 (fin T a b res) N x1 a b X Y z res (nI 16) := by
  obtain ⟨w0, hw0, c0, d0⟩ := wordOf_both (S := S) (T := T) (k := 0) (by decide) hr hf
  obtain ⟨w1, hw1, c1, d1⟩ := wordOf_both (S := S) (T := T) (k := 1) (by decide) hr hf
  obtain ⟨w2, hw2, c2, d2⟩ := wordOf_both (S := S) (T := T) (k := 2) (by decide) hr hf
  obtain ⟨eF, fv, hfv, efv⟩ := hr 10 (by decide)
  have hfv : fv < 65536 := hfv
  obtain ⟨eB, sb, hsb, esb⟩ := hr 11 (by decide)
  have hsb : sb < 16 := hsb
  obtain ⟨a, ha, ea⟩ := mk_lt (s13 := S 13) (s11 := S 11) (r20 := M 2 20) (r21 := M 2 21) hw0
  obtain ⟨p, hp, ep⟩ := l16
  obtain ⟨p2, hp2, ep2⟩ := l17
  have eS : nI fv >>> ((12 : Int32) &&& 31) = nI (fv / 4096) := pk_shrN (by omega) _ 12 (by decide)
  obtain ⟨A, eA⟩ : ∃ A, A = nI ((p * 65536 + a) / 2 ^ (fv / 4096) % 65536) := ⟨_, rfl⟩
  obtain ⟨B, eB2⟩ : ∃ B, B = nI ((p2 * 65536 + w1) / 2 ^ sb % 65536) := ⟨_, rfl⟩
  obtain ⟨res, eR⟩ : ∃ res, res = CB (M 2 10) A B (nI w2) 16 0 := ⟨_, rfl⟩
  have lr : lt32 res 65536 := by
    rw [eR]
    exact CB_lt 16 0 (by decide) ⟨0, by decide, rfl⟩
  refine ⟨nI a, nI w1, res, ⟨a, ha, rfl⟩, ⟨w1, hw1, rfl⟩, lr, fin_c c0 c1 c2 ea (by rw [efv]; exact eS) (by omega) esb hsb ep hp ep2 hp2 ha hw1 eA eB2 eR, A, B, nI w2, ?_⟩
  exact fin_m d0 d1 d2 (by rw [t13, t11, ← (hr 20 (by decide)).1, ← (hr 21 (by decide)).1]; exact ea) (by rw [← eF, efv]; exact eS) (by omega) (eB.symm.trans esb) hsb (t16.trans ep) hp (t17.trans ep2) hp2 ha hw1 eA eB2 (by rw [← eF]; exact eR)
theorem memrel_put {m n : Nat → Int32} {p : Nat} {x : Int32} (hx : lt32 x 65536) (h : RMem m n) : RMem (upd m p x) (upd n p x) := by
  intro j hj
  by_cases q : j = p
  · subst q
    rw [upd_s, upd_s]
    exact ⟨rfl, hx⟩
  · rw [upd_n q, upd_n q]
    exact h j hj
theorem kp_trans {S1 S2 S3 T1 T2 T3 : SS} {M1 M2 M3 N1 N2 N3 : MM} (a : Kp S1 S2 M1 M2 T1 T2 N1 N2) (b : Kp S2 S3 M2 M3 T2 T3 N2 N3) : Kp S1 S3 M1 M3 T1 T3 N1 N3 :=
  ⟨fun k hk => (b.1 k hk).trans (a.1 k hk), ⟨b.2.1.1.trans a.2.1.1, b.2.1.2.1.trans a.2.1.2.1, b.2.1.2.2.trans a.2.1.2.2⟩, fun k hk => (b.2.2.1 k hk).trans (a.2.2.1 k hk), b.2.2.2.trans a.2.2.2⟩
theorem fin_rel {c : Gh} {S T : SS} {M N : MM} {a b res : Int32} (la : lt32 a 65536) (lb : lt32 b 65536) (h : RelB c S M T N) : RelB c (fin S a b res) M (fin T a b res) N ∧ (fin S a b res) 9 = S 9 := by
  unfold RelB at h ⊢
  obtain ⟨h1, h2, h3, h4, h5, h6⟩ := h
  obtain ⟨m9, m10, m11, m12, m13, m14, m15, m16, m17, b9, b10, l15, l16, l17, f7, hrow⟩ := h6
  unfold fin
  by_cases q : res = 0
  · rw [if_pos q, if_pos q]
    exact ⟨⟨h1, h2, h3, h4, h5, m9, m10, m11, m12, m13, m14, rfl, rfl, rfl, b9, b10, l15, la, lb, f7, hrow⟩, rfl⟩
  · rw [if_neg q, if_neg q]
    exact ⟨⟨h1, h2, h3, h4, h5, m9, rfl, m11, m12, m13, m14, rfl, rfl, rfl, b9, Or.inl rfl, l15, la, lb, f7, hrow⟩, rfl⟩
theorem fin_kp {S T : SS} {M N : MM} {a b res : Int32} : Kp S (fin S a b res) M M T (fin T a b res) N N := by
  unfold fin
  by_cases q : res = 0
  · rw [if_pos q, if_pos q]
    exact ⟨fun k hk => by rw [u18 (by decide) hk, u18 (by decide) hk], ⟨rfl, rfl, rfl⟩, fun k hk => by rw [u18 (by decide) hk, u18 (by decide) hk], rfl⟩
  · rw [if_neg q, if_neg q]
    exact ⟨fun k hk => by rw [u18 (by decide) hk, u18 (by decide) hk, u18 (by decide) hk], ⟨rfl, rfl, rfl⟩, fun k hk => by rw [u18 (by decide) hk, u18 (by decide) hk, u18 (by decide) hk], rfl⟩
/-- the word's last slot -/
theorem last_slot {c : Gh} {S T : SS} {M N : MM} {u : Nat} (hu : u ≤ 4) (hb : S 9 = 1) (h : RelB c S M T N) : ∃ S' M' T' N', ((f_Mo_finishWord S M (M 2 10)).bind (fun q3 => if nI u = (3 : Int32) then (f_Re_at q3.2.1 q3.2.2 (15 : Int32)).bind (fun q4 => (f_Me_put q4.2.1 q4.2.2 q4.1 q3.1).bind (fun q5 => (f_Re_grow q5.2.1 q5.2.2 (15 : Int32) (1 : Int32)).bind (fun q6 => f_Mo_takeSlot_107 q6.2.1 q6.2.2 (M 2 10) (nI u) q3.1))) else f_Mo_takeSlot_107 q3.2.1 q3.2.2 (M 2 10) (nI u) q3.1)) = some (0, S', M') ∧ f_Md_move_82 T N (nI u) = some (0, T', N') ∧ RelA c S' M' T' N' ∧ Kp S S' M M' T T' N N' := by
  have h' := h
  unfold RelB at h'
  obtain ⟨h1, h2, h3, h4, h5, h6⟩ := h'
  obtain ⟨m9, m10, m11, m12, m13, m14, m15, m16, m17, b9, b10, l15, l16, l17, f7, hrow⟩ := h6
  have m11 : S 11 = T 11 := m11
  have m13 : S 13 = T 13 := m13
  have m16 : S 16 = T 16 := m16
  have m17 : S 17 = T 17 := m17
  obtain ⟨a, b, res, la, lb, lres, e1, X, Y, z, e2⟩ := finish_both (S := S) (T := T) (x1 := nI u) h2 f7 m11.symm m13.symm m16.symm m17.symm l16 l17
  obtain ⟨hB, h9⟩ := fin_rel (res := res) la lb h
  rw [e1, e2]
  simp only [Option.bind_some]
  unfold f_Mo_takeSlot_107 f_Md_move_282 f_Md_move_321
  by_cases hu3 : u = 3
  · have e3 : nI u = (3 : Int32) := by rw [hu3]; rfl
    rw [if_pos e3, if_pos e3]
    obtain ⟨e15, p, hp, ep⟩ := h2 15 (by decide)
    have hp : p < 256 := hp
    have e15' : f_Re_at (fin S a b res) M (15 : Int32) = some (M 2 15, fin S a b res, M) := e_Re_at (k := 15) (by decide)
    rw [e15']
    simp only [Option.bind_some]
    rw [ep, e_Me_put hp]
    simp only [Option.bind_some]
    have eg : f_Re_grow (fin S a b res) (upM M 1 (upd (M 1) p (res &&& 65535))) (15 : Int32) 1 = some (0, fin S a b res, upM (upM M 1 (upd (M 1) p (res &&& 65535))) 2 (upd (M 2) 15 ((M 2 15 + 1) &&& 255))) := e_Re_grow (k := 15) (by decide)
    rw [eg]
    simp only [Option.bind_some]
    have n15 : N 1 15 = nI p := e15.symm.trans ep
    rw [n15, if_neg (gd hp (by decide)), nI_clamp (by omega)]
    obtain ⟨rv, hrv, erv⟩ := lres
    have er : res &&& 65535 = res := by rw [erv]; exact an_65535 hrv
    rw [er]
    have hB2 : RelB c (fin S a b res) (upM (upM M 1 (upd (M 1) p res)) 2 (upd (M 2) 15 ((M 2 15 + 1) &&& 255))) (fin T a b res) (upM (upM N 0 (upd (N 0) p res)) 1 (upd (N 1) 15 ((N 1 15 + 1) &&& 255))) := by
      unfold RelB at hB ⊢
      obtain ⟨g1, g2, g3, g4, g5, g6⟩ := hB
      refine ⟨g1, ?_, memrel_put ⟨rv, hrv, erv⟩ g3, g4, g5, g6⟩
      show RRegs (upd (M 2) 15 ((M 2 15 + 1) &&& 255)) (upd (N 1) 15 ((N 1 15 + 1) &&& 255))
      rw [← e15]
      exact ru_255 rfl g2
    obtain ⟨S', M', T', N', w1, w2, w3, w4⟩ := word_end (h9.trans hb) hB2
    have w1 : f_Mo_goOn (fin S a b res) (upM (upM M 1 (upd (M 1) p res)) 2 (upd (M 2) 15 ((M 2 15 + 1) &&& 255))) (M 2 10) = some (0, S', M') := w1
    have w2 : f_Md_nextWord (fin T a b res) (upM (upM N 0 (upd (N 0) p res)) 1 (upd ((upM N 0 (upd (N 0) p res)) 1) 15 (((upM N 0 (upd (N 0) p res)) 1 15 + 1) &&& 255))) = some (0, T', N') := w2
    rw [w1, w2]
    exact ⟨S', M', T', N', rfl, rfl, w3, kp_trans (fin_kp (a := a) (b := b) (res := res)) (show Kp (fin S a b res) S' M M' (fin T a b res) T' N N' from ⟨w4.1, w4.2.1, w4.2.2.1, w4.2.2.2⟩)⟩
  · have e3 : ¬ nI u = (3 : Int32) := fun z => hu3 ((nI_eq (a := u) (b := 3) (by omega) (by decide)).mp z)
    rw [if_neg e3, if_neg e3]
    obtain ⟨S', M', T', N', w1, w2, w3, w4⟩ := word_end (h9.trans hb) hB
    rw [w1, w2]
    exact ⟨S', M', T', N', rfl, rfl, w3, kp_trans fin_kp w4⟩
/-- the second half of a slot: which channel is behind -/
theorem slot_end {c : Gh} {S T : SS} {M N : MM} {u : Nat} (hu : u ≤ 4) (hb : S 9 = 1) (h : RelA c S M T N) : ∃ S' M' T' N', f_Mo_takeSlot_53 S M (M 2 10) (nI u) = some (0, S', M') ∧ f_Md_move_58 T N (nI u) = some (0, T', N') ∧ RelA c S' M' T' N' ∧ Kp S S' M M' T T' N N' := by
  have hF : M 2 10 = N 1 10 := (h.2.1 10 (by decide)).1
  have hB : RelB c S M (upd T 15 (nI (u + 1))) N := by
    obtain ⟨h1, h2, h3, h4, h5, m9, m10, m11, m12, m13, m14, m15, hrest⟩ := h
    exact ⟨h1, h2, h3, h4, h5, m9, m10, m11, m12, m13, m14, rfl, hrest⟩
  have kT : ∀ {T' : SS} {S' : SS} {M' N' : MM}, Kp S S' M M' (upd T 15 (nI (u + 1))) T' N N' → Kp S S' M M' T T' N N' := fun k => ⟨k.1, k.2.1, fun j hj => (k.2.2.1 j hj).trans (u18 (by decide) hj), k.2.2.2⟩
  unfold f_Mo_takeSlot_53 f_Md_move_58
  rw [show nI u + (1 : Int32) = nI (u + 1) from nI_1 u, e_usedFrom (by omega)]
  simp only [Option.bind_some]
  by_cases h4 : 4 ≤ u
  · rw [nu_4 (show 4 ≤ u + 1 by omega), if_pos (show (4 : Int32) ≤ nI 4 from nI_le (a := 4) (Nat.le_refl _) (by decide)), if_pos (show (4 : Int32) ≤ nI u from nI_le (a := 4) h4 (by omega))]
    obtain ⟨S', M', T', N', w1, w2, w3, w4⟩ := last_slot hu hb hB
    exact ⟨S', M', T', N', w1, w2, w3, kT w4⟩
  · rw [if_neg (show ¬ (4 : Int32) ≤ nI u from nI_ge (b := 4) (by omega) (by decide)), e_nextUsed (by omega), ← hF]
    simp only [Option.bind_some]
    have hle : nu (M 2 10) 6 (u + 1) ≤ 4 := nu_le 5 _ (by omega) (by omega)
    have hge : u + 1 ≤ nu (M 2 10) 6 (u + 1) := nu_ge 5 _ (by omega)
    by_cases h5 : 4 ≤ nu (M 2 10) 6 (u + 1)
    · rw [if_pos (show (4 : Int32) ≤ nI (nu (M 2 10) 6 (u + 1)) from nI_le (a := 4) h5 (by omega)), if_pos (show (4 : Int32) ≤ nI (nu (M 2 10) 6 (u + 1)) from nI_le (a := 4) h5 (by omega))]
      obtain ⟨S', M', T', N', w1, w2, w3, w4⟩ := last_slot hu hb hB
      exact ⟨S', M', T', N', w1, w2, w3, kT w4⟩
    · rw [if_neg (show ¬ (4 : Int32) ≤ nI (nu (M 2 10) 6 (u + 1)) from nI_ge (b := 4) (by omega) (by decide)), if_neg (show ¬ (4 : Int32) ≤ nI (nu (M 2 10) 6 (u + 1)) from nI_ge (b := 4) (by omega) (by decide))]
      obtain ⟨h1, h2, h3, h4', h5', m9, m10, m11, m12, m13, m14, m15, m16, m17, b9, b10, l15, hrest⟩ := h
      refine ⟨_, _, _, _, rfl, rfl, ⟨h1, h2, h3, h4', h5', m9, m10, m11, m12, m13, m14, rfl, m16, m17, b9, b10, ⟨u + 1, by omega, rfl⟩, hrest⟩, ?_⟩
      exact ⟨fun k hk => u18 (by decide) hk, ⟨rfl, rfl, rfl⟩, fun k hk => u18 (by decide) hk, rfl⟩
theorem move_rel {c : Gh} {S T : SS} {M N : MM} (hb : S 9 = 1) (h : RelA c S M T N) : ∃ S' M' T' N', f_Mo_takeSlot S M = some (0, S', M') ∧ f_Md_move T N = some (0, T', N') ∧ RelA c S' M' T' N' ∧ Kp S S' M M' T T' N N' := by
  have h' := h
  obtain ⟨h1, h2, h3, h4, h5, m9, m10, m11, m12, m13, m14, m15, m16, m17, b9, b10, ⟨ch, hch, ech⟩, l16, l17, f7, hrow⟩ := h'
  have hF : M 2 10 = N 1 10 := (h2 10 (by decide)).1
  have e10 : f_Re_at S M (10 : Int32) = some (M 2 10, S, M) := e_Re_at (k := 10) (by decide)
  have hle : nu (M 2 10) 6 ch ≤ 4 := nu_le 5 _ (by omega) (by omega)
  unfold f_Mo_takeSlot f_Md_move
  rw [e10]
  simp only [Option.bind_some]
  rw [← m15, ech, e_usedFrom (by omega), e_nextUsed (by omega), ← hF]
  simp only [Option.bind_some]
  generalize hu : nu (M 2 10) 6 ch = u at hle ⊢
  by_cases h3u : 3 ≤ u
  · rw [if_pos (show (3 : Int32) ≤ nI u from nI_le (a := 3) h3u (by omega)), if_pos (show (3 : Int32) ≤ nI u from nI_le (a := 3) h3u (by omega))]
    exact slot_end hle hb h
  · rw [if_neg (show ¬ (3 : Int32) ≤ nI u from nI_ge (b := 3) (by omega) (by decide)), if_neg (show ¬ (3 : Int32) ≤ nI u from nI_ge (b := 3) (by omega) (by decide))]
    have e12 : (12 : Int32) + nI u = nI (12 + u) := nI_add 12 u
    obtain ⟨ep0, p, hp, ep⟩ := h2 (12 + u) (by omega)
    have hr12 : rlim (12 + u) = 256 ∧ cbits (12 + u) = 255 := by
      have : u = 0 ∨ u = 1 ∨ u = 2 := by omega
      rcases this with rfl | rfl | rfl <;> exact ⟨rfl, rfl⟩
    rw [hr12.1] at hp
    have g12 := gd (show 12 + u < 28 by omega) (show 28 < 2 ^ 31 by decide)
    have hcl : (nI (12 + u)).toNatClampNeg = 12 + u := nI_clamp (by omega)
    have hcu : (nI u).toNatClampNeg = u := nI_clamp (by omega)
    rw [hcl] at g12
    rw [e12, e_Re_at (by omega)]
    simp only [Option.bind_some]
    rw [ep, e_Me_at hp]
    simp only [Option.bind_some]
    rw [if_neg (gd (show u < 3 by omega) (by decide)), hcu, e_Re_grow (by omega), hr12.2]
    simp only [Option.bind_some]
    rw [hcl, if_neg g12, ← ep0, ep, if_neg (gd hp (by decide)), if_neg (show ¬ (nI u < 0 ∨ 4 ≤ u) from fun z => z.elim (nI_pos (by omega)) (by omega)), if_neg g12, if_neg g12, nI_clamp (show p < 2 ^ 31 by omega)]
    have hA : RelA c S (upM (upM M 7 (upd (M 7) u (M 1 p))) 2 (upd (M 2) (12 + u) ((M 2 (12 + u) + 1) &&& 255))) T (upM (upM N 7 (upd (N 7) u (N 0 p))) 1 (upd (N 1) (12 + u) ((N 1 (12 + u) + 1) &&& 255))) := by
      refine ⟨h1, ?_, h3, h4, h5, m9, m10, m11, m12, m13, m14, m15, m16, m17, b9, b10, ⟨ch, hch, ech⟩, l16, l17, ?_, hrow⟩
      · show RRegs (upd (M 2) (12 + u) ((M 2 (12 + u) + 1) &&& 255)) (upd (N 1) (12 + u) ((N 1 (12 + u) + 1) &&& 255))
        rw [← ep0]
        exact ru_255 hr12.1 h2
      · show ∀ j, j < 3 → upd (M 7) u (M 1 p) j = upd (N 7) u (N 0 p) j ∧ lt32 (upd (M 7) u (M 1 p) j) 65536
        intro j hj
        obtain ⟨em, lm⟩ := h3 p hp
        by_cases q : j = u
        · subst q; rw [upd_s, upd_s]; exact ⟨em, lm⟩
        · rw [upd_n q, upd_n q]; exact f7 j hj
    have e10' : (upM (upM M 7 (upd (M 7) u (M 1 p))) 2 (upd (M 2) (12 + u) ((M 2 (12 + u) + 1) &&& 255))) 2 10 = M 2 10 := upd_n (by omega)
    obtain ⟨S', M', T', N', w1, w2, w3, w4⟩ := slot_end hle hb hA
    rw [e10'] at w1
    refine ⟨S', M', T', N', ?_, ?_, w3, ?_⟩
    · rw [← w1]; rfl
    · rw [← w2]; rfl
    · exact ⟨w4.1, w4.2.1, w4.2.2.1, w4.2.2.2⟩
