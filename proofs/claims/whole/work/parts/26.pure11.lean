/-! A slot, and a clock. -/
def isF (i k : Nat) : Prop := (4 ≤ i ∧ i < 16) ∧ (k = 11 ∨ k = 19 ∨ k = 15 ∨ k = 23)
theorem e_planeN {T : SS} {M N : MM} {i k : Nat} (hi : i < 20) (hk : k < 32) (hr : RRegs (M 2) (N 1)) (h : on M 1 = 0 ∨ ¬ isF i k) : f_Md_planeAt T N (nI i) (nI k) = some (-1, T, N) := by
  have hi' : i < 2 ^ 31 := by omega
  have hk' : k < 2 ^ 31 := by omega
  unfold f_Md_planeAt
  refine bb (e_c0 hr) ?_
  show (if on M 1 = 0 then _ else _) = _
  unfold f_Md_planeAt_19 f_Md_planeAt_33 f_Md_planeAt_49 f_Md_planeAt_54
  by_cases h0 : on M 1 = 0
  · rw [if_pos h0]
  · rw [if_neg h0]
    have hn := h.resolve_left h0
    simp only [il hi' (show 4 < 2 ^ 31 by decide) (show (4 : Int32) = nI 4 from rfl), ile hi' (show 15 < 2 ^ 31 by decide) (show (15 : Int32) = nI 15 from rfl), iq hk' (show 11 < 2 ^ 31 by decide) (show (11 : Int32) = nI 11 from rfl), iq hk' (show 19 < 2 ^ 31 by decide) (show (19 : Int32) = nI 19 from rfl), iq hk' (show 15 < 2 ^ 31 by decide) (show (15 : Int32) = nI 15 from rfl), iq hk' (show 23 < 2 ^ 31 by decide) (show (23 : Int32) = nI 23 from rfl)]
    by_cases a : i < 4
    · rw [if_pos a]
    · rw [if_neg a]
      by_cases b : i ≤ 15
      · rw [if_pos b]
        have z : ¬ (k = 11 ∨ k = 19 ∨ k = 15 ∨ k = 23) := fun z => hn ⟨⟨by omega, by omega⟩, z⟩
        rw [if_neg (show ¬ k = 11 from fun q => z (Or.inl q)), if_neg (show ¬ k = 19 from fun q => z (Or.inr (Or.inl q))), if_neg (show ¬ k = 15 from fun q => z (Or.inr (Or.inr (Or.inl q)))), if_neg (show ¬ k = 23 from fun q => z (Or.inr (Or.inr (Or.inr q))))]
      · rw [if_neg b]
def plOf (k : Nat) : Nat := if k = 11 ∨ k = 19 then 1 else 0
theorem plOf_lt (k : Nat) : plOf k < 2 := by
  unfold plOf
  by_cases h : k = 11 ∨ k = 19
  · rw [if_pos h]; decide
  · rw [if_neg h]; decide
theorem e_planeF {T : SS} {M N : MM} {i k : Nat} (hi : i < 20) (hk : k < 32) (hr : RRegs (M 2) (N 1)) (h0 : ¬ on M 1 = 0) (h : isF i k) : f_Md_planeAt T N (nI i) (nI k) = some (nI (plOf k), T, N) := by
  have hi' : i < 2 ^ 31 := by omega
  have hk' : k < 2 ^ 31 := by omega
  obtain ⟨⟨a, b⟩, hz⟩ := h
  unfold f_Md_planeAt
  refine bb (e_c0 hr) ?_
  show (if on M 1 = 0 then _ else _) = _
  unfold f_Md_planeAt_19 f_Md_planeAt_33 f_Md_planeAt_49 f_Md_planeAt_54 plOf
  rw [if_neg h0]
  simp only [il hi' (show 4 < 2 ^ 31 by decide) (show (4 : Int32) = nI 4 from rfl), ile hi' (show 15 < 2 ^ 31 by decide) (show (15 : Int32) = nI 15 from rfl), iq hk' (show 11 < 2 ^ 31 by decide) (show (11 : Int32) = nI 11 from rfl), iq hk' (show 19 < 2 ^ 31 by decide) (show (19 : Int32) = nI 19 from rfl), iq hk' (show 15 < 2 ^ 31 by decide) (show (15 : Int32) = nI 15 from rfl), iq hk' (show 23 < 2 ^ 31 by decide) (show (23 : Int32) = nI 23 from rfl)]
  rw [if_neg (show ¬ i < 4 by omega), if_pos (show i ≤ 15 by omega)]
  by_cases k1 : k = 11
  · rw [if_pos k1, if_pos (Or.inl k1)]; rfl
  · rw [if_neg k1]
    by_cases k2 : k = 19
    · rw [if_pos k2, if_pos (Or.inr k2)]; rfl
    · rw [if_neg k2, if_neg (show ¬ (k = 11 ∨ k = 19) from fun z => z.elim k1 k2)]
      by_cases k3 : k = 15
      · rw [if_pos k3]; rfl
      · rw [if_neg k3, if_pos (show k = 23 by omega)]; rfl
theorem e_fetchAt {S : SS} {M : MM} {k : Nat} {x : Int32} (hk : k < 32) : f_Pi_fetchAt S M (nI k) x = f_Pi_fetchAt_12 S M (nI k) x (nI (plOf k)) := by
  unfold f_Pi_fetchAt
  refine bb (e_of1 hk) ?_
  show (if (if k = 11 ∨ k = 19 then (1 : Int32) else 0) = 0 then _ else _) = _
  unfold plOf
  by_cases h : k = 11 ∨ k = 19
  · rw [if_pos h, if_pos h, if_neg (show ¬ (1 : Int32) = 0 by decide)]; rfl
  · rw [if_neg h, if_neg h, if_pos rfl]; rfl
-- who has it, of mover and processor
noncomputable def mop (S : SS) (M : MM) : Nat := @ite _ ((¬ S 9 = 0 ∧ ¬ on M 4 = 0) ∧ ((¬ on M 8 = 0 ∨ S 20 < 3) ∨ S 19 ≤ 0)) (Classical.propDecidable _) 4 (if S 19 ≤ 0 then 0 else 5)
theorem mop_4 {S : SS} {M : MM} (h1 : ¬ S 9 = 0 ∧ ¬ on M 4 = 0) (h2 : (¬ on M 8 = 0 ∨ S 20 < 3) ∨ S 19 ≤ 0) : mop S M = 4 := if_pos ⟨h1, h2⟩
theorem mop_n {S : SS} {M : MM} (h : (¬ S 9 = 0 ∧ ¬ on M 4 = 0) → ((¬ on M 8 = 0 ∨ S 20 < 3) ∨ S 19 ≤ 0) → False) : mop S M = if S 19 ≤ 0 then 0 else 5 := if_neg (fun z => h z.1 z.2)
theorem e_wants0 {S : SS} {M : MM} (h : S 19 ≤ 0) : f_Pr_wantsSlot S M = some (0, S, M) := by rw [e_wants, if_pos h]
theorem e_wants1 {S : SS} {M : MM} (h : ¬ S 19 ≤ 0) : f_Pr_wantsSlot S M = some (1, S, M) := by rw [e_wants, if_neg h]
theorem mop54 {S : SS} {M : MM} {x y : Int32} (hx : (x = 0 ↔ ¬ (¬ S 9 = 0 ∧ ¬ on M 4 = 0))) (hy : (y = 0 ↔ ¬ (¬ on M 8 = 0 ∨ S 20 < 3))) : f_Bd_moverOrProcessor_54 S M x y = some (nI (mop S M), S, M) := by
  have h75 : f_Bd_moverOrProcessor_75 S M x y = some (nI (if S 19 ≤ 0 then 0 else 5), S, M) := by
    unfold f_Bd_moverOrProcessor_75 f_Bd_moverOrProcessor_90
    by_cases h : S 19 ≤ 0
    · rw [e_wants0 h, if_pos h]; rfl
    · rw [e_wants1 h, if_neg h]; rfl
  unfold f_Bd_moverOrProcessor_54 f_Bd_moverOrProcessor_73
  by_cases h1 : x = 0
  · rw [if_pos h1, h75, mop_n (fun z _ => (hx.mp h1) z)]
  · have m1 : ¬ S 9 = 0 ∧ ¬ on M 4 = 0 := Classical.not_not.mp (fun z => h1 (hx.mpr z))
    rw [if_neg h1]
    by_cases h2 : y = 0
    · rw [if_pos h2]
      by_cases h : S 19 ≤ 0
      · rw [e_wants0 h, mop_4 m1 (Or.inr h)]; rfl
      · rw [e_wants1 h, mop_n (fun _ z => z.elim (hy.mp h2) h)]
        exact h75
    · have m2 : ¬ on M 8 = 0 ∨ S 20 < 3 := Classical.not_not.mp (fun z => h2 (hy.mpr z))
      rw [if_neg h2, mop_4 m1 (Or.inl m2)]
      rfl
theorem mop26 {S : SS} {M : MM} {x : Int32} (hx : (x = 0 ↔ ¬ (¬ S 9 = 0 ∧ ¬ on M 4 = 0))) : f_Bd_moverOrProcessor_26 S M x = some (nI (mop S M), S, M) := by
  unfold f_Bd_moverOrProcessor_26 f_Bd_moverOrProcessor_49
  refine bb (e_on 8) ?_
  show (if on M 8 = 0 then _ else _) = _
  by_cases h8 : on M 8 = 0
  · rw [if_pos h8]
    refine bb e_lostE ?_
    show (if (if S 20 < 3 then (0 : Int32) else 1) = 0 then _ else _) = _
    by_cases hl : S 20 < 3
    · rw [if_pos hl, if_pos rfl]
      exact mop54 hx ⟨fun z => absurd z (by decide), fun z => absurd (Or.inr hl) z⟩
    · rw [if_neg hl, if_neg (show ¬ (1 : Int32) = 0 by decide)]
      exact mop54 hx ⟨fun _ z => z.elim (fun q => q h8) hl, fun _ => rfl⟩
  · rw [if_neg h8]
    exact mop54 hx ⟨fun z => absurd z (by decide), fun z => absurd (Or.inl h8) z⟩
theorem e_mop {S : SS} {M : MM} : f_Bd_moverOrProcessor S M = some (nI (mop S M), S, M) := by
  unfold f_Bd_moverOrProcessor f_Bd_moverOrProcessor_25
  by_cases h9 : S 9 = 0
  · rw [if_pos h9]
    exact mop26 ⟨fun _ z => z.1 h9, fun _ => rfl⟩
  · rw [if_neg h9]
    refine bb (e_on 4) ?_
    show (if on M 4 = 0 then _ else _) = _
    by_cases h4 : on M 4 = 0
    · rw [if_pos h4]
      exact mop26 ⟨fun _ z => z.2 h4, fun _ => rfl⟩
    · rw [if_neg h4]
      exact mop26 ⟨fun z => absurd z (by decide), fun z => absurd ⟨h9, h4⟩ z⟩
-- the reference gives it
theorem mg92 {T : SS} {M N : MM} {S : SS} {x1 x2 x3 x y : Int32} (hr : RRegs (M 2) (N 1)) (t9 : S 9 = T 9) (t19 : S 19 = T 19) (t18 : S 20 = T 18) (hx : (x = 0 ↔ ¬ (¬ S 9 = 0 ∧ ¬ on M 4 = 0))) (hy : (y = 0 ↔ S 19 ≤ 0)) :
    f_Md_give_92 T N x1 x2 x3 x y = if mop S M = 4 then (f_Md_move (upd T 18 (if S 19 ≤ 0 then 0 else S 20 + 1)) N).bind (fun q => some (4, q.2.1, q.2.2)) else if S 19 ≤ 0 then some (0, T, N) else (f_Md_process (upd T 18 0) N).bind (fun q => some (5, q.2.1, q.2.2)) := by
  have n5 : ¬ (if S 19 ≤ 0 then 0 else 5) = 4 := by
    by_cases h : S 19 ≤ 0
    · rw [if_pos h]; decide
    · rw [if_neg h]; decide
  have h145 : f_Md_give_145 T N x1 x2 x3 x y = if S 19 ≤ 0 then some (0, T, N) else (f_Md_process (upd T 18 0) N).bind (fun q => some (5, q.2.1, q.2.2)) := by
    unfold f_Md_give_145
    by_cases h : S 19 ≤ 0
    · rw [if_pos (hy.mpr h), if_pos h]
    · rw [if_neg (fun z => h (hy.mp z)), if_neg h]
  have h120 : f_Md_give_120 T N x1 x2 x3 x y = (f_Md_move (upd T 18 (if S 19 ≤ 0 then 0 else S 20 + 1)) N).bind (fun q => some (4, q.2.1, q.2.2)) := by
    unfold f_Md_give_120 f_Md_give_136
    by_cases h : S 19 ≤ 0
    · rw [if_pos (hy.mpr h), if_pos h]
    · rw [if_neg (fun z => h (hy.mp z)), if_neg h, t18]
  unfold f_Md_give_92
  by_cases h1 : x = 0
  · rw [if_pos h1, h145, mop_n (fun z _ => (hx.mp h1) z), if_neg n5]
  · have m1 : ¬ S 9 = 0 ∧ ¬ on M 4 = 0 := Classical.not_not.mp (fun z => h1 (hx.mpr z))
    rw [if_neg h1]
    by_cases h2 : y = 0
    · rw [if_pos h2, mop_4 m1 (Or.inr (hy.mp h2)), if_pos (show 4 = 4 from rfl), h120]
    · have ny : ¬ S 19 ≤ 0 := fun z => h2 (hy.mpr z)
      rw [if_neg h2]
      refine bb (e_c3 hr) ?_
      show (if on M 8 = 0 then (if (3 : Int32) ≤ T 18 then f_Md_give_145 T N x1 x2 x3 x y else f_Md_give_120 T N x1 x2 x3 x y) else f_Md_give_120 T N x1 x2 x3 x y) = _
      by_cases h8 : on M 8 = 0
      · rw [if_pos h8]
        by_cases hl : S 20 < 3
        · rw [if_neg (show ¬ (3 : Int32) ≤ T 18 by rw [← t18]; exact Int32.not_le.mpr hl), mop_4 m1 (Or.inl (Or.inr hl)), if_pos (show 4 = 4 from rfl), h120]
        · rw [if_pos (show (3 : Int32) ≤ T 18 by rw [← t18]; exact Int32.not_lt.mp hl), mop_n (fun _ z => z.elim (fun q => q.elim (fun q => q h8) hl) ny), if_neg n5, h145]
      · rw [if_neg h8, mop_4 m1 (Or.inl (Or.inl h8)), if_pos (show 4 = 4 from rfl), h120]
theorem mg58 {T : SS} {M N : MM} {S : SS} {x1 x2 x3 : Int32} (hr : RRegs (M 2) (N 1)) (t9 : S 9 = T 9) (t19 : S 19 = T 19) (t18 : S 20 = T 18) :
    f_Md_give_58 T N x1 x2 x3 = if mop S M = 4 then (f_Md_move (upd T 18 (if S 19 ≤ 0 then 0 else S 20 + 1)) N).bind (fun q => some (4, q.2.1, q.2.2)) else if S 19 ≤ 0 then some (0, T, N) else (f_Md_process (upd T 18 0) N).bind (fun q => some (5, q.2.1, q.2.2)) := by
  have h78 : ∀ x : Int32, (x = 0 ↔ ¬ (¬ S 9 = 0 ∧ ¬ on M 4 = 0)) → f_Md_give_78 T N x1 x2 x3 x = if mop S M = 4 then (f_Md_move (upd T 18 (if S 19 ≤ 0 then 0 else S 20 + 1)) N).bind (fun q => some (4, q.2.1, q.2.2)) else if S 19 ≤ 0 then some (0, T, N) else (f_Md_process (upd T 18 0) N).bind (fun q => some (5, q.2.1, q.2.2)) := by
    intro x hx
    unfold f_Md_give_78
    rw [← t19]
    by_cases h : S 19 ≤ 0
    · rw [if_pos h]
      exact mg92 hr t9 t19 t18 hx ⟨fun _ => h, fun _ => rfl⟩
    · rw [if_neg h]
      exact mg92 hr t9 t19 t18 hx ⟨fun z => absurd z (by decide), fun z => absurd z h⟩
  unfold f_Md_give_58 f_Md_give_77
  rw [← t9]
  by_cases h9 : S 9 = 0
  · rw [if_pos h9]
    exact h78 0 ⟨fun _ z => z.1 h9, fun _ => rfl⟩
  · rw [if_neg h9]
    refine bb (e_c2 hr) ?_
    show (if on M 4 = 0 then f_Md_give_78 T N x1 x2 x3 0 else f_Md_give_78 T N x1 x2 x3 1) = _
    by_cases h4 : on M 4 = 0
    · rw [if_pos h4]
      exact h78 0 ⟨fun _ z => z.2 h4, fun _ => rfl⟩
    · rw [if_neg h4]
      exact h78 1 ⟨fun z => absurd z (by decide), fun z => absurd ⟨h9, h4⟩ z⟩
