/-! The slot is given, its owner works; a whole clock. -/
abbrev Rl (c : Int32) (S : SS) (M : MM) (T : SS) (N : MM) : Prop := Rel (c, fun _ => 0) S M T N
def cn (M : MM) (k o : Nat) : MM := upM M k (upd (M k) o (M k o + 1))
def gh (c : Int32) (o : Nat) : Gh := (if o = 0 then c + 1 else c, fun j => if j = o then 1 else 0)
theorem cnt_in {c : Int32} {S T : SS} {M N : MM} {o : Nat} (ho : o < 6) (h : Rl c S M T N) : Rel (gh c o) S (cn M 0 o) T N := by
  obtain ⟨⟨a0, a1, a2, a3, a4, a5⟩, hrest⟩ := h
  refine ⟨⟨a0, a1, a2, a3, ?_, ?_⟩, hrest⟩
  · intro j hj
    have e := a4 j hj
    have e : M 0 j = N 3 j + 0 := e
    rw [Int32.add_zero] at e
    show upd (M 0) o (M 0 o + 1) j = N 3 j + (if j = o then 1 else 0)
    by_cases q : j = o
    · subst q; rw [upd_s, if_pos rfl, e]
    · rw [upd_n q, if_neg q, Int32.add_zero, e]
  · have a5 : M 0 0 = c := a5
    show upd (M 0) o (M 0 o + 1) 0 = if o = 0 then c + 1 else c
    by_cases q : o = 0
    · subst q; rw [upd_s, if_pos rfl, a5]
    · rw [upd_n (fun z => q z.symm), if_neg q, a5]
theorem cnt_out {c : Int32} {S T : SS} {M N : MM} {o : Nat} (h : Rel (gh c o) S M T N) : Rl (if o = 0 then c + 1 else c) S M T (cn N 3 o) := by
  obtain ⟨⟨a0, a1, a2, a3, a4, a5⟩, hrest⟩ := h
  refine ⟨⟨a0, a1, a2, a3, ?_, a5⟩, hrest⟩
  intro j hj
  have e : M 0 j = N 3 j + (if j = o then 1 else 0) := a4 j hj
  show M 0 j = upd (N 3) o (N 3 o + 1) j + 0
  rw [Int32.add_zero, e]
  by_cases q : j = o
  · subst q; rw [upd_s, if_pos rfl]
  · rw [upd_n q, if_neg q, Int32.add_zero]
theorem ow_62 {S : SS} {M : MM} {x y : Int32} : f_Bd_ownerOfSlot_62 S M x y = some (nI (mop S M), S, M) := by
  unfold f_Bd_ownerOfSlot_62
  exact bb e_mop rfl
theorem mop_or (S : SS) (M : MM) : mop S M = 4 ∨ (¬ mop S M = 4 ∧ (S 19 ≤ 0 ∧ mop S M = 0 ∨ ¬ S 19 ≤ 0 ∧ mop S M = 5)) := by
  by_cases h : (¬ S 9 = 0 ∧ ¬ on M 4 = 0) ∧ ((¬ on M 8 = 0 ∨ S 20 < 3) ∨ S 19 ≤ 0)
  · exact Or.inl (mop_4 h.1 h.2)
  · have e := mop_n (S := S) (M := M) (fun a b => h ⟨a, b⟩)
    by_cases q : S 19 ≤ 0
    · rw [if_pos q] at e
      exact Or.inr ⟨by rw [e]; decide, Or.inl ⟨q, e⟩⟩
    · rw [if_neg q] at e
      exact Or.inr ⟨by rw [e]; decide, Or.inr ⟨q, e⟩⟩
theorem mop_9 {S : SS} {M : MM} (h : mop S M = 4) : ¬ S 9 = 0 := by
  intro z
  have e := mop_n (S := S) (M := M) (fun a _ => a.1 z)
  rw [h] at e
  by_cases q : S 19 ≤ 0
  · rw [if_pos q] at e; omega
  · rw [if_neg q] at e; omega
theorem dw_none {S : SS} {M : MM} {x : Int32} {o : Nat} (h : o = 0 ∨ o = 1) : f_Bd_doWorkOf S M (nI o) x = some (0, S, M) := by
  unfold f_Bd_doWorkOf f_Bd_doWorkOf_94
  rcases h with rfl | rfl
  · rw [if_neg (show ¬ nI 0 = (2 : Int32) by decide), if_neg (show ¬ nI 0 = (3 : Int32) by decide), if_neg (show ¬ nI 0 = (4 : Int32) by decide), if_neg (show ¬ nI 0 = (5 : Int32) by decide)]
  · rw [if_neg (show ¬ nI 1 = (2 : Int32) by decide), if_neg (show ¬ nI 1 = (3 : Int32) by decide), if_neg (show ¬ nI 1 = (4 : Int32) by decide), if_neg (show ¬ nI 1 = (5 : Int32) by decide)]
theorem dw_2 {S S' : SS} {M M' : MM} {k : Nat} {o : Int32} (ho : o = 2) (hk : k < 32) (h : f_Pi_fetchAt_12 S M (nI k) (M 2 5) (nI (plOf k)) = some (0, S', M')) : f_Bd_doWorkOf S M o (nI k) = some (0, S', M') := by
  have e5 : f_Re_at S M (5 : Int32) = some (M 2 5, S, M) := e_Re_at (k := 5) (by decide)
  unfold f_Bd_doWorkOf
  rw [if_pos ho]
  refine bb e5 ?_
  exact bb ((e_fetchAt hk).trans h) rfl
theorem dw_3 {S S' : SS} {M M' : MM} {x o : Int32} (ho : o = 3) (h : f_Bd_fetchForList S M = some (0, S', M')) : f_Bd_doWorkOf S M o x = some (0, S', M') := by
  unfold f_Bd_doWorkOf
  rw [if_neg (show ¬ o = 2 by rw [ho]; decide), if_pos ho]
  exact bb h rfl
theorem dw_4 {S S' : SS} {M M' : MM} {x o : Int32} (ho : o = 4) (h : f_Mo_takeSlot (upd S 20 (if S 19 ≤ 0 then 0 else S 20 + 1)) M = some (0, S', M')) : f_Bd_doWorkOf S M o x = some (0, S', M') := by
  unfold f_Bd_doWorkOf
  rw [if_neg (show ¬ o = 2 by rw [ho]; decide), if_neg (show ¬ o = 3 by rw [ho]; decide), if_pos ho]
  refine bb e_seeMover ?_
  exact bb h rfl
theorem dw_5 {S S' : SS} {M M' : MM} {x o : Int32} (ho : o = 5) (h : f_Bd_doFirstAccess S M = some (0, S', M')) : f_Bd_doWorkOf S M o x = some (0, S', M') := by
  unfold f_Bd_doWorkOf
  rw [if_neg (show ¬ o = 2 by rw [ho]; decide), if_neg (show ¬ o = 3 by rw [ho]; decide), if_neg (show ¬ o = 4 by rw [ho]; decide), if_pos ho]
  exact bb h rfl
/-- what a slot does -/
def SlotDone (c : Int32) (S T : SS) (M N : MM) (i k : Nat) : Prop := ∃ o S' M' T' N', o < 6 ∧ f_Bd_ownerOfSlot S M (nI i) (nI k) = some (nI o, S, M) ∧ f_Bd_doWorkOf S (cn M 0 o) (nI o) (nI k) = some (0, S', M') ∧ f_Md_give T N (nI i) (nI k) = some (nI o, T', N') ∧ Rel (gh c o) S' M' T' N'
theorem slot_mp {c : Int32} {S T : SS} {M N : MM} {i k : Nat} {x3 : Int32} (h : Rl c S M T N) (ho : f_Bd_ownerOfSlot S M (nI i) (nI k) = some (nI (mop S M), S, M)) (hg : f_Md_give T N (nI i) (nI k) = f_Md_give_58 T N (nI i) (nI k) x3) : SlotDone c S T M N i k := by
  have h' := h
  obtain ⟨h1, h2, h3, h4, h5, h6, h7⟩ := h'
  obtain ⟨m9, hm6⟩ := h6
  obtain ⟨s20, s21, s22, hd, w, hh, hw, e18, e19, t19, hq⟩ := h7
  have e58 := mg58 (T := T) (M := M) (N := N) (S := S) (x1 := nI i) (x2 := nI k) (x3 := x3) h2 m9 (e19.trans t19.symm) s20
  rcases mop_or S M with q | ⟨q, ⟨q1, q2⟩ | ⟨q1, q2⟩⟩
  · have h9 : S 9 = 1 := by
      rcases hm6.2.2.2.2.2.2.2.2.1 with z | z
      · exact absurd z (mop_9 q)
      · exact z
    have hr := cnt_in (o := 4) (by decide) h
    have hA : RelA (gh c 4) (upd S 20 (if S 19 ≤ 0 then 0 else S 20 + 1)) (cn M 0 4) (upd T 18 (if S 19 ≤ 0 then 0 else S 20 + 1)) N := ⟨hr.1, hr.2.1, hr.2.2.1, hr.2.2.2.1, hr.2.2.2.2.1, hr.2.2.2.2.2.1⟩
    obtain ⟨S', M', T', N', w1, w2, w3, w4⟩ := move_rel (S := upd S 20 (if S 19 ≤ 0 then 0 else S 20 + 1)) (T := upd T 18 (if S 19 ≤ 0 then 0 else S 20 + 1)) h9 hA
    refine ⟨4, S', M', T', N', by decide, by rw [ho, q], dw_4 rfl w1, ?_, Rel_m w3 (proc_kp w4 ⟨rfl, s21, s22, hd, w, hh, hw, e18, e19, t19, hq⟩)⟩
    rw [hg, e58, if_pos q, w2]
    rfl
  · refine ⟨0, S, cn M 0 0, T, N, by decide, by rw [ho, q2], dw_none (Or.inl rfl), ?_, cnt_in (o := 0) (by decide) h⟩
    rw [hg, e58, if_neg q, if_pos q1]
    rfl
  · have hr := cnt_in (o := 5) (by decide) h
    obtain ⟨S', M', T', N', w1, w2, w3⟩ := process_rel q1 hr
    refine ⟨5, S', M', T', N', by decide, by rw [ho, q2], dw_5 rfl w1, ?_, w3⟩
    rw [hg, e58, if_neg q, if_neg q1, w2]
    rfl
theorem e_isFetchT {S : SS} {M : MM} {i k : Nat} (hi : i < 20) (hk : k < 32) (h : isF i k) : f_Pi_isFetchClock S M (nI i) (nI k) = some (1, S, M) := by
  rw [e_isFetch hi hk]
  unfold isF at h
  rw [if_pos h]
theorem e_isFetchN {S : SS} {M : MM} {i k : Nat} (hi : i < 20) (hk : k < 32) (h : ¬ isF i k) : f_Pi_isFetchClock S M (nI i) (nI k) = some (0, S, M) := by
  rw [e_isFetch hi hk]
  unfold isF at h
  rw [if_neg h]
theorem slot_rel {c : Int32} {S T : SS} {M N : MM} {i k : Nat} (hi : i < 20) (hk : k < 32) (h : Rl c S M T N) : SlotDone c S T M N i k := by
  have h2 := h.2.1
  have hk' : k < 2 ^ 31 := by omega
  have k0 : (nI k = 0) = (k = 0) := iq hk' (show 0 < 2 ^ 31 by decide) rfl
  have k2 : (nI k = 2) = (k = 2) := iq hk' (show 2 < 2 ^ 31 by decide) rfl
  by_cases hA : k = 0 ∨ k = 2
  · refine ⟨1, S, cn M 0 1, T, N, by decide, ?_, dw_none (Or.inr rfl), ?_, cnt_in (o := 1) (by decide) h⟩
    · unfold f_Bd_ownerOfSlot f_Bd_ownerOfSlot_9
      simp only [k0, k2]
      rcases hA with q | q
      · rw [if_pos q]; rfl
      · by_cases q0 : k = 0
        · rw [if_pos q0]; rfl
        · rw [if_neg q0, if_pos q]; rfl
    · unfold f_Md_give f_Md_give_9
      simp only [k0, k2]
      rcases hA with q | q
      · rw [if_pos q]; rfl
      · by_cases q0 : k = 0
        · rw [if_pos q0]; rfl
        · rw [if_neg q0, if_pos q]; rfl
  · have n0 : ¬ nI k = 0 := by rw [k0]; exact fun z => hA (Or.inl z)
    have n2 : ¬ nI k = 2 := by rw [k2]; exact fun z => hA (Or.inr z)
    by_cases hB : ¬ on M 1 = 0 ∧ isF i k
    · have hr := cnt_in (o := 2) (by decide) h
      obtain ⟨M', N', w1, w2, w3⟩ := fetch_rel (x := nI k) (plOf_lt k) hr
      refine ⟨2, S, M', T, N', by decide, ?_, dw_2 rfl hk w1, ?_, w3⟩
      · unfold f_Bd_ownerOfSlot
        rw [if_neg n0, if_neg n2]
        refine bb (e_on 1) ?_
        show (if on M 1 = 0 then _ else _) = _
        rw [if_neg hB.1]
        refine bb (e_isFetchT hi hk hB.2) ?_
        exact if_neg (show ¬ (1 : Int32) = 0 by decide)
      · unfold f_Md_give
        rw [if_neg n0, if_neg n2]
        refine bb (e_planeF hi hk h2 hB.1 hB.2) ?_
        have hp := plOf_lt k
        show (if nI (plOf k) < 0 then _ else _) = _
        rw [if_neg (nI_pos (by omega))]
        exact bb w2 rfl
    · have hB' : on M 1 = 0 ∨ ¬ isF i k := by
        by_cases q : on M 1 = 0
        · exact Or.inl q
        · exact Or.inr (fun z => hB ⟨q, z⟩)
      have o32 : f_Bd_ownerOfSlot S M (nI i) (nI k) = f_Bd_ownerOfSlot_32 S M (nI i) (nI k) := by
        unfold f_Bd_ownerOfSlot
        rw [if_neg n0, if_neg n2]
        refine bb (e_on 1) ?_
        show (if on M 1 = 0 then _ else _) = _
        by_cases q : on M 1 = 0
        · rw [if_pos q]
        · rw [if_neg q]
          refine bb (e_isFetchN hi hk (hB'.resolve_left q)) ?_
          exact if_pos rfl
      have g32 : f_Md_give T N (nI i) (nI k) = (if nI (k % 2) = 0 then (if on M 2 = 0 then f_Md_give_58 T N (nI i) (nI k) (-1) else if T 3 = 1 then (f_Md_fetchList T N).bind (fun q7 => some (3, q7.2.1, q7.2.2)) else f_Md_give_58 T N (nI i) (nI k) (-1)) else f_Md_give_58 T N (nI i) (nI k) (-1)) := by
        unfold f_Md_give
        rw [if_neg n0, if_neg n2]
        refine bb (e_planeN hi hk h2 hB') ?_
        show (if (-1 : Int32) < 0 then _ else _) = _
        rw [if_pos (by decide), rem2 hk']
        by_cases q : nI (k % 2) = 0
        · rw [if_pos q, if_pos q]
          exact bb (e_c1 h2) rfl
        · rw [if_neg q, if_neg q]
      have c32 : f_Bd_ownerOfSlot_32 S M (nI i) (nI k) = (if nI (k % 2) = 0 then (if on M 2 = 0 then some (nI (mop S M), S, M) else if S 3 = 1 then some (3, S, M) else some (nI (mop S M), S, M)) else some (nI (mop S M), S, M)) := by
        unfold f_Bd_ownerOfSlot_32
        rw [and1 (by omega)]
        by_cases q : nI (k % 2) = 0
        · rw [if_pos q, if_pos q]
          refine bb (e_on 2) ?_
          show (if on M 2 = 0 then f_Bd_ownerOfSlot_62 S M (nI i) (nI k) else if S 3 = 1 then some (3, S, M) else f_Bd_ownerOfSlot_62 S M (nI i) (nI k)) = _
          rw [ow_62]
        · rw [if_neg q, if_neg q, ow_62]
      have t3 : S 3 = T 3 := h.2.2.2.2.1.1
      rw [← t3] at g32
      by_cases q : nI (k % 2) = 0
      · rw [if_pos q] at g32 c32
        by_cases q2 : on M 2 = 0
        · rw [if_pos q2] at g32 c32
          exact slot_mp h (o32.trans c32) g32
        · rw [if_neg q2] at g32 c32
          by_cases q3 : S 3 = 1
          · rw [if_pos q3] at g32 c32
            have hr := cnt_in (o := 3) (by decide) h
            obtain ⟨S', M', T', N', w1, w2, w3⟩ := list_rel q3 hr
            refine ⟨3, S', M', T', N', by decide, o32.trans c32, dw_3 rfl w1, ?_, w3⟩
            rw [g32, w2]
            rfl
          · rw [if_neg q3] at g32 c32
            exact slot_mp h (o32.trans c32) g32
      · rw [if_neg q] at g32 c32
        exact slot_mp h (o32.trans c32) g32
theorem wake_rel {c : Gh} {S T : SS} {M N : MM} (h : Rel c S M T N) : Rel c (if S 3 = 2 then (if S 0 < S 6 then S else if on M 2 = 0 then S else upd S 3 1) else S) M (if S 3 = 2 then (if S 0 < S 6 then T else if on M 2 = 0 then T else upd T 3 1) else T) N := by
  by_cases h3 : S 3 = 2
  · rw [if_pos h3, if_pos h3]
    by_cases hb : S 0 < S 6
    · rw [if_pos hb, if_pos hb]; exact h
    · rw [if_neg hb, if_neg hb]
      by_cases ho : on M 2 = 0
      · rw [if_pos ho, if_pos ho]; exact h
      · rw [if_neg ho, if_neg ho]
        obtain ⟨h1, h2, h3, h4, h5, h6, h7⟩ := h
        obtain ⟨l3, l4, l4b, l5, l5b, l6, l7⟩ := h5
        exact ⟨h1, h2, h3, h4, ⟨rfl, l4, l4b, l5, l5b, fun z => absurd z (show ¬ (1 : Int32) = 2 by decide), l7⟩, h6, h7⟩
  · rw [if_neg h3, if_neg h3]; exact h
/-- the clock's second half, the picture and the slot -/
theorem clock2 {c : Int32} {S T : SS} {M N : MM} {i k : Nat} (hi : i < 20) (hk : k < 32) (h : Rl c S M T N) : ∃ o S' M' T' N', o < 6 ∧ f_Bd_oneClock_26 S M (nI i) (nI k) = some (0, S', M') ∧ f_Md_clock_79 T N (nI i) (nI k) = some (nI o, T', N') ∧ Rl (if o = 0 then c + 1 else c) S' M' T' N' := by
  obtain ⟨M1, N1, a1, a2, a3⟩ := show_rel hi hk h
  have h2 := a3.2.1
  have t3 : S 3 = T 3 := a3.2.2.2.2.1.1
  have t0 : S 0 = T 0 := a3.1.1
  have t6 : S 3 = 2 → S 6 = T 8 := a3.2.2.2.2.1.2.2.2.2.2.1
  have hw := wake_rel a3
  generalize hS2 : (if S 3 = 2 then (if S 0 < S 6 then S else if on M1 2 = 0 then S else upd S 3 1) else S) = S2 at hw
  generalize hT2 : (if S 3 = 2 then (if S 0 < S 6 then T else if on M1 2 = 0 then T else upd T 3 1) else T) = T2 at hw
  have c1 : f_Bd_oneClock_26 S M (nI i) (nI k) = f_Bd_oneClock_61 S2 M1 (nI i) (nI k) := by
    unfold f_Bd_oneClock_26
    refine bb a1 ?_
    refine bb (e_on 2) ?_
    show (if on M1 2 = 0 then f_Bd_oneClock_61 S M1 (nI i) (nI k) else (f_Li_wakeAt S M1 (S 0)).bind (fun q7 => f_Bd_oneClock_61 q7.2.1 q7.2.2 (nI i) (nI k))) = _
    rw [← hS2]
    by_cases ho : on M1 2 = 0
    · rw [if_pos ho, if_pos ho]
      by_cases h3 : S 3 = 2
      · rw [if_pos h3]
        by_cases hb : S 0 < S 6
        · rw [if_pos hb]
        · rw [if_neg hb]
      · rw [if_neg h3]
    · rw [if_neg ho, if_neg ho]
      unfold f_Li_wakeAt f_Li_wakeAt_21
      by_cases h3 : S 3 = 2
      · rw [if_pos h3, if_pos h3]
        by_cases hb : S 0 < S 6
        · rw [if_pos hb, if_pos hb]; rfl
        · rw [if_neg hb, if_neg hb]; rfl
      · rw [if_neg h3, if_neg h3]; rfl
  have c2 : f_Md_clock_79 T N (nI i) (nI k) = f_Md_clock_117 T2 N1 (nI i) (nI k) := by
    unfold f_Md_clock_79
    refine bb a2 ?_
    show (if T 3 = 2 then (if T 0 < T 8 then f_Md_clock_117 T N1 (nI i) (nI k) else (f_Md_control T N1 1).bind (fun q5 => if q5.1 = 0 then f_Md_clock_117 q5.2.1 q5.2.2 (nI i) (nI k) else f_Md_clock_117 (upd q5.2.1 3 1) q5.2.2 (nI i) (nI k))) else f_Md_clock_117 T N1 (nI i) (nI k)) = _
    rw [← hT2, ← t3, ← t0]
    by_cases h3 : S 3 = 2
    · rw [if_pos h3, if_pos h3, ← t6 h3]
      by_cases hb : S 0 < S 6
      · rw [if_pos hb, if_pos hb]
      · rw [if_neg hb, if_neg hb]
        refine bb (e_c1 h2) ?_
        show (if on M1 2 = 0 then _ else _) = _
        by_cases ho : on M1 2 = 0
        · rw [if_pos ho, if_pos ho]
        · rw [if_neg ho, if_neg ho]
    · rw [if_neg h3, if_neg h3]
  obtain ⟨o, S', M', T', N', ho, d1, d2, d3, d4⟩ := slot_rel hi hk hw
  have hc := cnt_out d4
  have hm := hc.1
  obtain ⟨e0, e1, e2, ⟨b, hb, eb⟩, er⟩ := hm
  have g6 := gd ho (show 6 < 2 ^ 31 by decide)
  have hcl : (nI o).toNatClampNeg = o := nI_clamp (by omega)
  have e1' : nI b + (1 : Int32) = nI (b + 1) := nI_1 b
  refine ⟨o, upd S' 0 (nI ((b + 1) % 640)), M', upd T' 0 (nI ((b + 1) % 640)), cn N' 3 o, ho, ?_, ?_, ?_⟩
  · rw [c1]
    unfold f_Bd_oneClock_61
    refine bb d1 ?_
    show (if nI o < 0 ∨ 6 ≤ (nI o).toNatClampNeg then none else if nI o < 0 ∨ 6 ≤ (nI o).toNatClampNeg then none else (f_Bd_doWorkOf S2 (upM M1 0 (upd (M1 0) (nI o).toNatClampNeg (M1 0 (nI o).toNatClampNeg + 1))) (nI o) (nI k)).bind _) = _
    rw [if_neg g6, if_neg g6, hcl]
    refine bb d2 ?_
    show (if (640 : Int32) ≤ S' 0 + 1 then f_Bd_oneClock_107 S' M' (nI i) (nI k) (nI o) 0 else f_Bd_oneClock_107 S' M' (nI i) (nI k) (nI o) (S' 0 + 1)) = _
    unfold f_Bd_oneClock_107
    rw [eb, e1']
    by_cases q : 640 ≤ b + 1
    · rw [if_pos (show (640 : Int32) ≤ nI (b + 1) from nI_le (a := 640) q (by omega)), show (b + 1) % 640 = 0 by omega]
      rfl
    · rw [if_neg (show ¬ (640 : Int32) ≤ nI (b + 1) from nI_ge (b := 640) (by omega) (by decide)), Nat.mod_eq_of_lt (by omega)]
  · rw [c2]
    unfold f_Md_clock_117
    refine bb d3 ?_
    show (if nI o < 0 ∨ 6 ≤ (nI o).toNatClampNeg then none else if nI o < 0 ∨ 6 ≤ (nI o).toNatClampNeg then none else some (nI o, upd T' 0 ((T' 0 + 1) - (T' 0 + 1) / 640 * 640), upM N' 3 (upd (N' 3) (nI o).toNatClampNeg (N' 3 (nI o).toNatClampNeg + 1)))) = _
    rw [if_neg g6, if_neg g6, hcl, ← e0, eb, e1', show nI (b + 1) - nI (b + 1) / (640 : Int32) * (640 : Int32) = nI ((b + 1) % 640) from pk_rem (d := 640) (by omega) (by decide) (by decide)]
    rfl
  · obtain ⟨g1, g2⟩ := hc
    exact ⟨⟨rfl, g1.2.1, g1.2.2.1, ⟨(b + 1) % 640, Nat.mod_lt _ (by decide), rfl⟩, g1.2.2.2.2⟩, g2⟩
theorem clock_rel {c : Int32} {S T : SS} {M N : MM} (h : Rl c S M T N) : ∃ o S' M' T' N', o < 6 ∧ f_Bd_oneClock S M = some (0, S', M') ∧ f_Md_clock T N = some (nI o, T', N') ∧ Rl (if o = 0 then c + 1 else c) S' M' T' N' := by
  have h' := h
  obtain ⟨⟨e0, e1, e2, ⟨b, hb, eb⟩, er⟩, h2, hrest⟩ := h'
  have s1 : nI b >>> ((5 : Int32) &&& 31) = nI (b / 32) := pk_shrN (by omega) _ 5 (by decide)
  have s2 : nI b &&& (31 : Int32) = nI (b % 32) := pk_andN (by omega) 5 (by decide)
  have s3 : nI b / (32 : Int32) = nI (b / 32) := pk_div (d := 32) (by omega) (by decide) (by decide)
  have s4 : nI b - nI b / (32 : Int32) * (32 : Int32) = nI (b % 32) := pk_rem (d := 32) (by omega) (by decide) (by decide)
  have hi : b / 32 < 20 := by omega
  have hk : b % 32 < 32 := Nat.mod_lt _ (by decide)
  unfold f_Bd_oneClock f_Md_clock
  rw [← e0, eb, s1, s2, s4, s3]
  by_cases q : nI b = 0
  · rw [if_pos q, if_pos q]
    have hf := frame_rel h
    have hb1 : f_Bd_beginFrame S M = some (0, if on M 2 = 0 then upd (upd S 1 (S 1 + 1)) 2 (S 2 ||| 2) else upd (upd (upd (upd (upd (upd S 1 (S 1 + 1)) 2 (S 2 ||| 2)) 3 1) 4 (M 2 1)) 7 0) 8 0, upM M 3 (upd (upd (M 3) 0 (M 2 3)) 1 (M 2 4))) := by
      unfold f_Bd_beginFrame f_Bd_beginFrame_55
      refine bb (e_Re_request 2) ?_
      refine bb e_bases ?_
      refine bb (e_on 2) ?_
      show (if on M 2 = 0 then _ else _) = _
      by_cases ho : on M 2 = 0
      · rw [if_pos ho, if_pos ho]
        rfl
      · rw [if_neg ho, if_neg ho]
        refine bb (x := (M 2 1, upd (upd S 1 (S 1 + 1)) 2 (S 2 ||| 2), upM M 3 (upd (upd (M 3) 0 (M 2 3)) 1 (M 2 4)))) (e_Re_at (k := 1) (by decide)) ?_
        rfl
    have key : ∃ S1 T1, f_Bd_beginFrame S M = some (0, S1, upM M 3 (upd (upd (M 3) 0 (M 2 3)) 1 (M 2 4))) ∧ ((f_Md_control (upd (upd T 1 (T 1 + 1)) 2 (T 2 ||| 2)) (upM (upM N 4 (upd (N 4) 0 (N 1 3))) 4 (upd ((upM N 4 (upd (N 4) 0 (N 1 3))) 4) 1 ((upM N 4 (upd (N 4) 0 (N 1 3))) 1 4))) 1).bind (fun q6 => if q6.1 = 0 then f_Md_clock_79 q6.2.1 q6.2.2 (nI (b / 32)) (nI (b % 32)) else (f_Md_startList q6.2.1 q6.2.2).bind (fun q7 => f_Md_clock_79 q7.2.1 q7.2.2 (nI (b / 32)) (nI (b % 32))))) = f_Md_clock_79 T1 (upM (upM N 4 (upd (N 4) 0 (N 1 3))) 4 (upd ((upM N 4 (upd (N 4) 0 (N 1 3))) 4) 1 ((upM N 4 (upd (N 4) 0 (N 1 3))) 1 4))) (nI (b / 32)) (nI (b % 32)) ∧ Rl c S1 (upM M 3 (upd (upd (M 3) 0 (M 2 3)) 1 (M 2 4))) T1 (upM (upM N 4 (upd (N 4) 0 (N 1 3))) 4 (upd ((upM N 4 (upd (N 4) 0 (N 1 3))) 4) 1 ((upM N 4 (upd (N 4) 0 (N 1 3))) 1 4))) := by
      by_cases ho : on M 2 = 0
      · refine ⟨_, _, by rw [hb1, if_pos ho], bb (e_c1 (M := M) h2) ?_, hf⟩
        show (if on M 2 = 0 then _ else _) = _
        rw [if_pos ho]
      · refine ⟨_, _, by rw [hb1, if_neg ho]; rfl, bb (e_c1 (M := M) h2) ?_, Rel_m (goOn_rel (Rel_a hf)) hf.2.2.2.2.2.2⟩
        show (if on M 2 = 0 then _ else _) = _
        rw [if_neg ho]
        exact bb e_start rfl
    obtain ⟨S1, T1, k1, k2, k3⟩ := key
    obtain ⟨o, S', M', T', N', w1, w2, w3, w4⟩ := clock2 hi hk k3
    refine ⟨o, S', M', T', N', w1, bb k1 w2, ?_, w4⟩
    exact k2.trans w3
  · rw [if_neg q, if_neg q]
    exact clock2 hi hk h
