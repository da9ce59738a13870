/-! The calls: both sides answer alike, and stay related. -/
def Rg (S : SS) (M : MM) (T : SS) (N : MM) : Prop := ∃ c, Rl c S M T N
def Op2 (fc fm : Option RR) : Prop := ∃ r S' M' T' N', fc = some (r, S', M') ∧ fm = some (r, T', N') ∧ Rg S' M' T' N'
theorem i32_a (c x : Int32) : c + 1 - x = c - x + 1 := by
  rw [Int32.sub_eq_add_neg, Int32.sub_eq_add_neg, Int32.add_assoc, Int32.add_assoc, Int32.add_comm 1]
theorem run_loop {n : Nat} (hn : n ≤ 700) {x2 : Int32} : ∀ (m f k : Nat) (c : Int32) (S : SS) (M : MM) (T : SS) (N : MM) (fr : Int32), k + m = n → m < f → Rl c S M T N → fr = c - x2 → ∃ r S' M' T' N', f_Bd_run_23 f S M (nI n) x2 (nI k) = some (r, S', M') ∧ f_Md_run_17 f T N (nI n) fr (nI k) = some (r, T', N') ∧ Rg S' M' T' N' := by
  intro m
  induction m with
  | zero =>
    intro f k c S M T N fr hk hf h hfr
    obtain ⟨f, rfl⟩ : ∃ q, f = q + 1 := ⟨f - 1, by omega⟩
    have hk : k = n := by omega
    subst hk
    have e0 : M 0 0 = c := h.1.2.2.2.2.2
    refine ⟨c - x2, S, M, T, N, ?_, ?_, c, h⟩
    · show f_Bd_run_23_b _ S M (nI k) x2 (nI k) = _
      unfold f_Bd_run_23_b
      rw [if_pos (nI_le (Nat.le_refl _) (by omega)), e0]
    · show f_Md_run_17_b _ T N (nI k) fr (nI k) = _
      unfold f_Md_run_17_b
      rw [if_pos (nI_le (Nat.le_refl _) (by omega)), hfr]
  | succ m ih =>
    intro f k c S M T N fr hk hf h hfr
    obtain ⟨f, rfl⟩ : ∃ q, f = q + 1 := ⟨f - 1, by omega⟩
    obtain ⟨o, S', M', T', N', ho, w1, w2, w3⟩ := clock_rel h
    have e1 : nI k + (1 : Int32) = nI (k + 1) := nI_1 k
    obtain ⟨r, S2, M2, T2, N2, a1, a2, a3⟩ := ih f (k + 1) (if o = 0 then c + 1 else c) S' M' T' N' (if o = 0 then fr + 1 else fr + 0) (by omega) (by omega) w3 (by
      by_cases q : o = 0
      · rw [if_pos q, if_pos q, hfr, i32_a]
      · rw [if_neg q, if_neg q, hfr, Int32.add_zero])
    refine ⟨r, S2, M2, T2, N2, ?_, ?_, a3⟩
    · show f_Bd_run_23_b (f_Bd_run_23 f) S M (nI n) x2 (nI k) = _
      unfold f_Bd_run_23_b
      rw [if_neg (nI_ge (by omega) (by omega)), e1]
      exact bb w1 a1
    · show f_Md_run_17_b (f_Md_run_17 f) T N (nI n) fr (nI k) = _
      unfold f_Md_run_17_b f_Md_run_35
      rw [if_neg (nI_ge (by omega) (by omega)), e1]
      refine bb w2 ?_
      show (if nI o = 0 then f_Md_run_17 f T' N' (nI n) (fr + 1) (nI (k + 1)) else f_Md_run_17 f T' N' (nI n) (fr + 0) (nI (k + 1))) = _
      by_cases q : o = 0
      · rw [if_pos q] at a2
        rw [if_pos (show nI o = 0 by rw [q]; rfl)]
        exact a2
      · rw [if_neg q] at a2
        rw [if_neg (show ¬ nI o = 0 from fun z => q ((nI_eq (a := o) (b := 0) (by omega) (by decide)).mp z))]
        exact a2
theorem op_run {S T : SS} {M N : MM} {x : Int32} (h : Rg S M T N) : Op2 (f_Bd_run S M x) (f_Md_run T N x) := by
  obtain ⟨c, hc⟩ := h
  have em : f_Md_run T N x = if x < 1 ∨ ¬ x ≤ 700 then some (-1, T, N) else f_Md_run_17 710 T N x 0 0 := by
    unfold f_Md_run
    refine bb e_outside ?_
    show (if (if x < 1 ∨ ¬ x ≤ 700 then (1 : Int32) else 0) = 0 then f_Md_run_17 710 T N x 0 0 else some (-1, T, N)) = _
    by_cases q : x < 1 ∨ ¬ x ≤ 700
    · rw [if_pos q, if_pos q, if_neg (show ¬ (1 : Int32) = 0 by decide)]
    · rw [if_neg q, if_neg q, if_pos rfl]
  unfold f_Bd_run f_Bd_run_12
  rw [em]
  by_cases q1 : x < 1
  · rw [if_pos q1, if_pos (Or.inl q1)]
    exact ⟨_, _, _, _, _, rfl, rfl, c, hc⟩
  · rw [if_neg q1]
    by_cases q2 : x ≤ 700
    · rw [if_pos q2, if_neg (fun z => z.elim q1 (fun w => w q2))]
      have q0 : ¬ x < 0 := by
        intro z
        apply q1
        rw [Int32.lt_iff_toInt_lt] at z ⊢
        have e1 : (1 : Int32).toInt = 1 := by decide
        have e0 : (0 : Int32).toInt = 0 := by decide
        omega
      obtain ⟨n, hn, rfl⟩ := nI_of2 (M := 700) (n := 700) (by decide) q0 q2
      obtain ⟨r, S', M', T', N', a1, a2, a3⟩ := run_loop hn (x2 := M 0 0) n 710 0 c S M T N 0 (by omega) (by omega) hc (by rw [show M 0 0 = c from hc.1.2.2.2.2.2, Int32.sub_self])
      exact ⟨r, S', M', T', N', a1, a2, a3⟩
    · rw [if_neg q2, if_pos (Or.inr q2)]
      exact ⟨_, _, _, _, _, rfl, rfl, c, hc⟩
-- small ranges
theorem in_of {x b : Int32} {n : Nat} (hb : b.toInt = n) (h0 : ¬ x < 0) (h1 : x ≤ b) : lt32 x (n + 1) := by
  obtain ⟨j, hj, e⟩ := nI_of2 hb h0 h1
  exact ⟨j, by omega, e⟩
theorem nle_lt {x b : Int32} : ¬ x ≤ b ↔ b < x := Int32.not_le
theorem e_isAddr {S : SS} {M : MM} {x : Int32} : f_Bd_isAddress S M x = some (if x < 0 ∨ ¬ x ≤ 255 then 0 else 1, S, M) := by
  unfold f_Bd_isAddress f_Bd_isAddress_15 f_Bd_isAddress_16
  by_cases h1 : x < 0
  · rw [if_pos h1, if_pos (Or.inl h1)]; rfl
  · rw [if_neg h1]
    by_cases h2 : x ≤ 255
    · rw [if_neg (Int32.not_lt.mpr h2), if_neg (show ¬ (x < 0 ∨ ¬ x ≤ 255) from fun z => z.elim h1 (fun w => w h2))]; rfl
    · rw [if_pos (nle_lt.mp h2), if_pos (Or.inr h2)]; rfl
theorem op_set {S T : SS} {M N : MM} {x y : Int32} (h : Rg S M T N) : Op2 (f_Bd_set S M x y) (f_Md_set T N x y) := by
  obtain ⟨c, hc⟩ := h
  unfold f_Bd_set f_Md_set
  rw [e_isAddr, e_outside]
  simp only [Option.bind_some]
  by_cases q : x < 0 ∨ ¬ x ≤ 255
  · rw [if_pos q, if_pos q, if_pos rfl, if_neg (show ¬ (1 : Int32) = 0 by decide)]
    exact ⟨_, _, _, _, _, rfl, rfl, c, hc⟩
  · obtain ⟨k, hk, rfl⟩ := in_of (b := 255) (n := 255) (by decide) (fun z => q (Or.inl z)) (Classical.not_not.mp (fun z => q (Or.inr z)))
    rw [if_neg q, if_neg q, if_neg (show ¬ (1 : Int32) = 0 by decide), if_pos rfl, if_neg (gd hk (by decide)), e_Me_put hk, nI_clamp (by omega)]
    refine ⟨_, _, _, _, _, rfl, rfl, c, ?_⟩
    obtain ⟨h1, h2, h3, hrest⟩ := hc
    exact ⟨h1, h2, memrel_put (lt_65535 y) h3, hrest⟩
theorem op_word {S T : SS} {M N : MM} {x : Int32} (h : Rg S M T N) : Op2 (f_Bd_word S M x) (f_Md_word T N x) := by
  obtain ⟨c, hc⟩ := h
  unfold f_Bd_word f_Md_word f_Bd_word_19 f_Md_word_21
  rw [e_isAddr, e_outside]
  simp only [Option.bind_some]
  by_cases q : x < 0 ∨ ¬ x ≤ 255
  · rw [if_pos q, if_pos q, if_pos rfl, if_neg (show ¬ (1 : Int32) = 0 by decide)]
    exact ⟨_, _, _, _, _, rfl, rfl, c, hc⟩
  · obtain ⟨k, hk, rfl⟩ := in_of (b := 255) (n := 255) (by decide) (fun z => q (Or.inl z)) (Classical.not_not.mp (fun z => q (Or.inr z)))
    rw [if_neg q, if_neg q, if_neg (show ¬ (1 : Int32) = 0 by decide), if_pos rfl, if_neg (gd hk (by decide)), e_Me_at hk, nI_clamp (by omega), ← (hc.2.2.1 k hk).1]
    exact ⟨_, _, _, _, _, rfl, rfl, c, hc⟩
theorem op_place {S T : SS} {M N : MM} (h : Rg S M T N) : Op2 (f_Bd_place S M) (f_Md_place T N) := by
  obtain ⟨c, hc⟩ := h
  exact ⟨_, _, _, _, _, rfl, by unfold f_Md_place; rw [← hc.1.1], c, hc⟩
theorem op_frames {S T : SS} {M N : MM} (h : Rg S M T N) : Op2 (f_Bd_frames S M) (f_Md_frames T N) := by
  obtain ⟨c, hc⟩ := h
  exact ⟨_, _, _, _, _, rfl, by unfold f_Md_frames; rw [← hc.1.2.1], c, hc⟩
theorem op_slots {S T : SS} {M N : MM} {x : Int32} (h : Rg S M T N) : Op2 (f_Bd_slots S M x) (f_Md_slots T N x) := by
  obtain ⟨c, hc⟩ := h
  unfold f_Bd_slots f_Md_slots f_Bd_slots_10 f_Bd_slots_20 f_Md_slots_19
  rw [e_outside]
  simp only [Option.bind_some]
  by_cases q1 : x < 0
  · rw [if_pos q1, if_pos (Or.inl q1), if_neg (show ¬ (1 : Int32) = 0 by decide)]
    exact ⟨_, _, _, _, _, rfl, rfl, c, hc⟩
  · rw [if_neg q1]
    by_cases q2 : x ≤ 5
    · obtain ⟨k, hk, rfl⟩ := in_of (b := 5) (n := 5) (by decide) q1 q2
      have e := hc.1.2.2.2.2.1 k hk
      have e : M 0 k = N 3 k + 0 := e
      rw [Int32.add_zero] at e
      rw [if_pos (show nI k < (6 : Int32) from nI_lt (b := 6) hk (by decide)), if_neg (show ¬ (nI k < 0 ∨ ¬ nI k ≤ 5) from fun z => z.elim q1 (fun w => w q2)), if_pos rfl, if_neg (gd hk (by decide)), if_neg (gd hk (by decide)), nI_clamp (by omega), e]
      exact ⟨_, _, _, _, _, rfl, rfl, c, hc⟩
    · have q3 : ¬ x < 6 := by
        intro z
        apply q2
        rw [Int32.lt_iff_toInt_lt] at z
        rw [Int32.le_iff_toInt_le]
        have e1 : (6 : Int32).toInt = 6 := by decide
        have e0 : (5 : Int32).toInt = 5 := by decide
        omega
      rw [if_neg q3, if_pos (Or.inr q2), if_neg (show ¬ (1 : Int32) = 0 by decide)]
      exact ⟨_, _, _, _, _, rfl, rfl, c, hc⟩
theorem op_register {S T : SS} {M N : MM} {x : Int32} (h : Rg S M T N) : Op2 (f_Bd_register S M x) (f_Md_register T N x) := by
  obtain ⟨c, hc⟩ := h
  unfold f_Bd_register f_Md_register f_Bd_register_10 f_Bd_register_22 f_Md_register_20
  rw [e_outside]
  simp only [Option.bind_some]
  by_cases q1 : x < 0
  · rw [if_pos q1, if_pos (Or.inl q1), if_neg (show ¬ (1 : Int32) = 0 by decide)]
    exact ⟨_, _, _, _, _, rfl, rfl, c, hc⟩
  · rw [if_neg q1]
    by_cases q2 : x ≤ 27
    · obtain ⟨k, hk, rfl⟩ := in_of (b := 27) (n := 27) (by decide) q1 q2
      rw [if_pos (show nI k < (28 : Int32) from nI_lt (b := 28) hk (by decide)), if_neg (show ¬ (nI k < 0 ∨ ¬ nI k ≤ 27) from fun z => z.elim q1 (fun w => w q2)), if_pos rfl, if_neg (gd hk (by decide)), e_Re_at hk, nI_clamp (by omega), ← (hc.2.1 k hk).1]
      exact ⟨_, _, _, _, _, rfl, rfl, c, hc⟩
    · have q3 : ¬ x < 28 := by
        intro z
        apply q2
        rw [Int32.lt_iff_toInt_lt] at z
        rw [Int32.le_iff_toInt_le]
        have e1 : (28 : Int32).toInt = 28 := by decide
        have e0 : (27 : Int32).toInt = 27 := by decide
        omega
      rw [if_neg q3, if_pos (Or.inr q2), if_neg (show ¬ (1 : Int32) = 0 by decide)]
      exact ⟨_, _, _, _, _, rfl, rfl, c, hc⟩
theorem op_point {S T : SS} {M N : MM} {x y : Int32} (h : Rg S M T N) : Op2 (f_Bd_point S M x y) (f_Md_point T N x y) := by
  obtain ⟨c, hc⟩ := h
  have g31 : ¬ x ≤ 31 ↔ 32 ≤ x := by
    rw [Int32.le_iff_toInt_le, Int32.le_iff_toInt_le]
    have e1 : (31 : Int32).toInt = 31 := by decide
    have e0 : (32 : Int32).toInt = 32 := by decide
    omega
  have g11 : ¬ y ≤ 11 ↔ ¬ y < 12 := by
    rw [Int32.le_iff_toInt_le, Int32.lt_iff_toInt_lt]
    have e1 : (11 : Int32).toInt = 11 := by decide
    have e0 : (12 : Int32).toInt = 12 := by decide
    omega
  have em : f_Md_point T N x y = if x < 0 ∨ ¬ x ≤ 31 then some (-1, T, N) else if y < 0 ∨ ¬ y ≤ 11 then some (-1, T, N) else if ((32 : Int32) * y) + x < 0 ∨ 384 ≤ (((32 : Int32) * y) + x).toNatClampNeg then none else some (N 2 (((32 : Int32) * y) + x).toNatClampNeg, T, N) := by
    unfold f_Md_point f_Md_point_20 f_Md_point_35
    rw [e_outside]
    simp only [Option.bind_some]
    by_cases q : x < 0 ∨ ¬ x ≤ 31
    · rw [if_pos q, if_pos q, if_neg (show ¬ (1 : Int32) = 0 by decide)]
    · rw [if_neg q, if_neg q, if_pos rfl, e_outside]
      simp only [Option.bind_some]
      by_cases p : y < 0 ∨ ¬ y ≤ 11
      · rw [if_pos p, if_pos p, if_neg (show ¬ (1 : Int32) = 0 by decide)]
      · rw [if_neg p, if_neg p, if_pos rfl]
  have ec : f_Bd_point S M x y = f_Pi_shownAt S M x y := by
    unfold f_Bd_point
    cases f_Pi_shownAt S M x y with
    | none => rfl
    | some q => rfl
  rw [em, ec]
  unfold f_Pi_shownAt f_Pi_shownAt_20
  by_cases a : x < 0
  · rw [if_pos a, if_pos (Or.inl a)]
    exact ⟨_, _, _, _, _, rfl, rfl, c, hc⟩
  · rw [if_neg a]
    by_cases b : x ≤ 31
    · rw [if_neg (fun z => (g31.mpr z) b), if_neg (show ¬ (x < 0 ∨ ¬ x ≤ 31) from fun z => z.elim a (fun w => w b))]
      by_cases a2 : y < 0
      · rw [if_pos a2, if_pos (Or.inl a2)]
        exact ⟨_, _, _, _, _, rfl, rfl, c, hc⟩
      · rw [if_neg a2]
        by_cases b2 : y ≤ 11
        · obtain ⟨i, hi, rfl⟩ := in_of (b := 31) (n := 31) (by decide) a b
          obtain ⟨j, hj, rfl⟩ := in_of (b := 11) (n := 11) (by decide) a2 b2
          have i1 : (nI j * (32 : Int32)) + nI i = nI (j * 32 + i) := by rw [show nI j * (32 : Int32) = nI (j * 32) from pk_mul j 32, nI_add]
          have i2 : ((32 : Int32) * nI j) + nI i = nI (j * 32 + i) := by rw [show (32 : Int32) * nI j = nI (32 * j) from pk_mul 32 j, nI_add, Nat.mul_comm]
          rw [if_pos (Classical.not_not.mp (fun z => (g11.mpr z) b2)), if_neg (show ¬ (nI j < 0 ∨ ¬ nI j ≤ 11) from fun z => z.elim a2 (fun w => w b2)), i1, i2, if_neg (gd (by omega) (by decide)), if_neg (gd (by omega) (by decide)), nI_clamp (by omega), hc.2.2.2.1.2.2.2 (j * 32 + i) (by omega)]
          exact ⟨_, _, _, _, _, rfl, rfl, c, hc⟩
        · rw [if_neg (g11.mp b2), if_pos (Or.inr b2)]
          exact ⟨_, _, _, _, _, rfl, rfl, c, hc⟩
    · rw [if_pos (g31.mp b), if_pos (Or.inr b)]
      exact ⟨_, _, _, _, _, rfl, rfl, c, hc⟩
theorem e_oneIf {S : SS} {M : MM} {x : Int32} : f_Bd_oneIf S M x = some (if x = 0 then 0 else 1, S, M) := by
  unfold f_Bd_oneIf f_Bd_oneIf_9
  by_cases h : x = 0
  · rw [if_pos h, if_pos h]
  · rw [if_neg h, if_neg h]
theorem op_look {S T : SS} {M N : MM} {x : Int32} (h : Rg S M T N) : Op2 (f_Bd_look S M x) (f_Md_look T N x) := by
  obtain ⟨c, hc⟩ := h
  have h' := hc
  obtain ⟨h1, h2, h3, h4, h5, h6, s20, s21, s22, hd, w, hh, hw, e18, e19, t19, hq⟩ := h'
  have e26 : M 2 26 = N 1 26 := (h2 26 (by decide)).1
  unfold f_Bd_look f_Md_look f_Md_look_77 f_Md_look_90 f_Md_look_103
  rw [← h1.2.2.1, ← e26, ← h6.1, ← h6.2.1, show T 19 = S 19 from t19.trans e19.symm, ← s21, ← s22, ← h5.1, ← h5.2.1, e_Re_enr]
  simp only [Option.bind_some, e_oneIf]
  by_cases q0 : x = 0
  · rw [if_pos q0, if_pos q0]; exact ⟨_, _, _, _, _, rfl, rfl, c, hc⟩
  rw [if_neg q0, if_neg q0]
  by_cases q1 : x = 1
  · rw [if_pos q1, if_pos q1]
    by_cases p : S 2 &&& M 2 26 = 0
    · rw [if_pos p, if_pos p, if_pos rfl]; exact ⟨_, _, _, _, _, rfl, rfl, c, hc⟩
    · rw [if_neg p, if_neg p, if_neg (show ¬ (1 : Int32) = 0 by decide)]; exact ⟨_, _, _, _, _, rfl, rfl, c, hc⟩
  rw [if_neg q1, if_neg q1]
  by_cases q2 : x = 2
  · rw [if_pos q2, if_pos q2]
    by_cases p : S 9 = 0
    · rw [if_pos p, if_pos p]; exact ⟨_, _, _, _, _, rfl, rfl, c, hc⟩
    · rw [if_neg p, if_neg p]; exact ⟨_, _, _, _, _, rfl, rfl, c, hc⟩
  rw [if_neg q2, if_neg q2]
  by_cases q3 : x = 3
  · rw [if_pos q3, if_pos q3]
    by_cases p : S 10 = 0
    · rw [if_pos p, if_pos p]; exact ⟨_, _, _, _, _, rfl, rfl, c, hc⟩
    · rw [if_neg p, if_neg p]; exact ⟨_, _, _, _, _, rfl, rfl, c, hc⟩
  rw [if_neg q3, if_neg q3]
  by_cases q4 : x = 4
  · rw [if_pos q4, if_pos q4]; exact ⟨_, _, _, _, _, rfl, rfl, c, hc⟩
  rw [if_neg q4, if_neg q4]
  by_cases q5 : x = 5
  · rw [if_pos q5, if_pos q5]; exact ⟨_, _, _, _, _, rfl, rfl, c, hc⟩
  rw [if_neg q5, if_neg q5]
  by_cases q6 : x = 6
  · rw [if_pos q6, if_pos q6]; exact ⟨_, _, _, _, _, rfl, rfl, c, hc⟩
  rw [if_neg q6, if_neg q6]
  by_cases q7 : x = 7
  · rw [if_pos q7, if_pos q7]; exact ⟨_, _, _, _, _, rfl, rfl, c, hc⟩
  rw [if_neg q7, if_neg q7]
  by_cases q8 : x = 8
  · rw [if_pos q8, if_pos q8]; exact ⟨_, _, _, _, _, rfl, rfl, c, hc⟩
  rw [if_neg q8, if_neg q8]
  exact ⟨_, _, _, _, _, rfl, rfl, c, hc⟩
-- an access
theorem enq_q {h w : Nat} {m8 m9 m10 n8 : Nat → Int32} {x1 x2 v : Int32} (hh : h < 8) (hw : w < 8) (hq : RQ h w m8 m9 m10 n8) (l1 : lt32 x1 3) (l2 : lt32 x2 256) (l3 : x1 = 2 → lt32 x2 32) (l4 : lt32 v 65536) : RQ h (w + 1) (upd m8 ((h + w) % 8) x1) (upd m9 ((h + w) % 8) x2) (upd m10 ((h + w) % 8) v) (upd (upd (upd n8 (3 * w) x1) (3 * w + 1) x2) (3 * w + 2) v) := by
  intro j hj
  by_cases q : j = w
  · subst q
    rw [upd_s, upd_s, upd_s, upd_n (show 3 * j ≠ 3 * j + 2 by omega), upd_n (show 3 * j ≠ 3 * j + 1 by omega), upd_s, upd_n (show 3 * j + 1 ≠ 3 * j + 2 by omega), upd_s, upd_s]
    exact ⟨rfl, rfl, rfl, l1, l2, l3, l4⟩
  · have n : (h + j) % 8 ≠ (h + w) % 8 := by omega
    rw [upd_n n, upd_n n, upd_n n, upd_n (show 3 * j ≠ 3 * w + 2 by omega), upd_n (show 3 * j ≠ 3 * w + 1 by omega), upd_n (show 3 * j ≠ 3 * w by omega), upd_n (show 3 * j + 1 ≠ 3 * w + 2 by omega), upd_n (show 3 * j + 1 ≠ 3 * w + 1 by omega), upd_n (show 3 * j + 1 ≠ 3 * w by omega), upd_n (show 3 * j + 2 ≠ 3 * w + 2 by omega), upd_n (show 3 * j + 2 ≠ 3 * w + 1 by omega), upd_n (show 3 * j + 2 ≠ 3 * w by omega)]
    exact hq j (by omega)
def hi1 (x : Int32) : Int32 := if x = 2 then 31 else 255
theorem e_access {S : SS} {M : MM} {x1 x2 x3 : Int32} : f_Bd_access S M x1 x2 x3 = if (x1 < 0 ∨ ¬ x1 ≤ 2) ∨ (x2 < 0 ∨ ¬ x2 ≤ hi1 x1) then some (0, S, M) else (f_Pr_enqueue S M x1 x2 (x3 &&& 65535)).bind (fun q1 => if ¬ (q1.1 = 0 ∨ q1.1 = 1) then none else some (q1.1, q1.2.1, q1.2.2)) := by
  unfold f_Bd_access f_Bd_access_9 f_Bd_access_24 f_Bd_access_36 hi1
  by_cases a : x1 < 0
  · rw [if_pos a, if_pos (Or.inl (Or.inl a))]
  rw [if_neg a]
  by_cases b : x1 ≤ 2
  · rw [if_pos b]
    by_cases e : x1 = 2
    · rw [if_pos e, if_pos e]
      by_cases p : x2 < 0
      · rw [if_pos p, if_pos (Or.inr (Or.inl p))]
      · rw [if_neg p]
        by_cases q : x2 ≤ 31
        · rw [if_pos q, if_neg (show ¬ ((x1 < 0 ∨ ¬ x1 ≤ 2) ∨ (x2 < 0 ∨ ¬ x2 ≤ 31)) from fun z => z.elim (fun z => z.elim a (fun w => w b)) (fun z => z.elim p (fun w => w q)))]
        · rw [if_neg q, if_pos (Or.inr (Or.inr q))]
    · rw [if_neg e, if_neg e]
      by_cases p : x2 < 0
      · rw [if_pos p, if_pos (Or.inr (Or.inl p))]
      · rw [if_neg p]
        by_cases q : x2 ≤ 255
        · rw [if_pos q, if_neg (show ¬ ((x1 < 0 ∨ ¬ x1 ≤ 2) ∨ (x2 < 0 ∨ ¬ x2 ≤ 255)) from fun z => z.elim (fun z => z.elim a (fun w => w b)) (fun z => z.elim p (fun w => w q)))]
        · rw [if_neg q, if_pos (Or.inr (Or.inr q))]
  · rw [if_neg b, if_pos (Or.inl (Or.inr b))]
def menq (T : SS) (N : MM) (x1 x2 v : Int32) (w : Nat) : RR := (1, upd T 19 (nI (w + 1)), upM N 8 (upd (upd (upd (N 8) (3 * w) x1) (3 * w + 1) x2) (3 * w + 2) v))
theorem e_maccess {T : SS} {N : MM} {x1 x2 x3 : Int32} {w : Nat} (hw : w < 8) (t19 : T 19 = nI w) : f_Md_access T N x1 x2 x3 = if (x1 < 0 ∨ ¬ x1 ≤ 2) ∨ (x2 < 0 ∨ ¬ x2 ≤ hi1 x1) then some (0, T, N) else some (menq T N x1 x2 (x3 &&& 65535) w) := by
  have e3 : (3 : Int32) * nI w = nI (3 * w) := pk_mul 3 w
  have e31 : nI (3 * w) + (1 : Int32) = nI (3 * w + 1) := nI_1 _
  have e32 : nI (3 * w) + (2 : Int32) = nI (3 * w + 2) := nI_add _ 2
  have h33 : ∀ hi : Int32, f_Md_access_33 T N x1 x2 x3 x2 0 hi = if x2 < 0 ∨ ¬ x2 ≤ hi then some (0, T, N) else some (menq T N x1 x2 (x3 &&& 65535) w) := by
    intro hi
    unfold f_Md_access_33 f_Md_access_39
    rw [e_outside]
    simp only [Option.bind_some]
    by_cases q : x2 < 0 ∨ ¬ x2 ≤ hi
    · rw [if_pos q, if_pos q, if_neg (show ¬ (1 : Int32) = 0 by decide)]
    · rw [if_neg q, if_neg q, if_pos rfl, t19, e3, e31, e32, if_neg (gd (by omega) (by decide)), if_neg (gd (by omega) (by decide)), if_neg (gd (by omega) (by decide)), nI_clamp (by omega), nI_clamp (by omega), nI_clamp (by omega), upM_upM, upM_upM, upM_s, upM_s, show nI w + (1 : Int32) = nI (w + 1) from nI_1 w]
      rfl
  have n8 : ¬ T 19 = 8 := by
    rw [t19]
    exact fun z => (show w ≠ 8 by omega) ((nI_eq (a := w) (b := 8) (by omega) (by decide)).mp z)
  unfold f_Md_access f_Md_access_39
  rw [if_neg n8, e_outside]
  simp only [Option.bind_some, h33]
  unfold hi1
  by_cases a : x1 < 0 ∨ ¬ x1 ≤ 2
  · rw [if_pos a, if_neg (show ¬ (1 : Int32) = 0 by decide), if_pos (Or.inl a)]
  · rw [if_neg a, if_pos rfl]
    by_cases e : x1 = 2
    · rw [if_pos e, if_pos e]
      by_cases q : x2 < 0 ∨ ¬ x2 ≤ 31
      · rw [if_pos q, if_pos (Or.inr q)]
      · rw [if_neg q, if_neg (show ¬ ((x1 < 0 ∨ ¬ x1 ≤ 2) ∨ (x2 < 0 ∨ ¬ x2 ≤ 31)) from fun z => z.elim a q)]
    · rw [if_neg e, if_neg e]
      by_cases q : x2 < 0 ∨ ¬ x2 ≤ 255
      · rw [if_pos q, if_pos (Or.inr q)]
      · rw [if_neg q, if_neg (show ¬ ((x1 < 0 ∨ ¬ x1 ≤ 2) ∨ (x2 < 0 ∨ ¬ x2 ≤ 255)) from fun z => z.elim a q)]
theorem op_access {S T : SS} {M N : MM} {x1 x2 x3 : Int32} (h : Rg S M T N) : Op2 (f_Bd_access S M x1 x2 x3) (f_Md_access T N x1 x2 x3) := by
  obtain ⟨c, hc⟩ := h
  have h' := hc
  obtain ⟨h1, h2, h3, h4, h5, h6, s20, s21, s22, hd, w, hh, hw, e18, e19, t19, hq⟩ := h'
  rw [e_access]
  by_cases hw8 : w < 8
  · rw [e_maccess hw8 t19]
    by_cases q : (x1 < 0 ∨ ¬ x1 ≤ 2) ∨ (x2 < 0 ∨ ¬ x2 ≤ hi1 x1)
    · rw [if_pos q, if_pos q]
      exact ⟨_, _, _, _, _, rfl, rfl, c, hc⟩
    · rw [if_neg q, if_neg q]
      have l1 : lt32 x1 3 := in_of (b := 2) (n := 2) (by decide) (fun z => q (Or.inl (Or.inl z))) (Classical.not_not.mp (fun z => q (Or.inl (Or.inr z))))
      have p0 : ¬ x2 < 0 := fun z => q (Or.inr (Or.inl z))
      have p1 : x2 ≤ hi1 x1 := Classical.not_not.mp (fun z => q (Or.inr (Or.inr z)))
      have l3 : x1 = 2 → lt32 x2 32 := by
        intro e
        unfold hi1 at p1
        rw [if_pos e] at p1
        exact in_of (b := 31) (n := 31) (by decide) p0 p1
      have l2 : lt32 x2 256 := by
        by_cases e : x1 = 2
        · obtain ⟨j, hj, ej⟩ := l3 e
          exact ⟨j, by omega, ej⟩
        · unfold hi1 at p1
          rw [if_neg e] at p1
          exact in_of (b := 255) (n := 255) (by decide) p0 p1
      have et : (nI hd + nI w) &&& (7 : Int32) = nI ((hd + w) % 8) := by
        rw [nI_add, pk_andN (by omega) 3 (by decide)]
      have g := gd (show (hd + w) % 8 < 8 from Nat.mod_lt _ (by decide)) (show 8 < 2 ^ 31 by decide)
      have hcl : (nI ((hd + w) % 8)).toNatClampNeg = (hd + w) % 8 := nI_clamp (by omega)
      have eq : f_Pr_enqueue S M x1 x2 (x3 &&& 65535) = some (1, upd S 19 (nI (w + 1)), upM (upM (upM M 8 (upd (M 8) ((hd + w) % 8) x1)) 9 (upd (M 9) ((hd + w) % 8) x2)) 10 (upd (M 10) ((hd + w) % 8) (x3 &&& 65535))) := by
        unfold f_Pr_enqueue
        rw [e18, e19, et, if_pos (show nI w < (8 : Int32) from nI_lt (b := 8) hw8 (by decide)), if_neg g, if_neg g, if_neg g, hcl, show nI w + (1 : Int32) = nI (w + 1) from nI_1 w]
        rfl
      rw [eq]
      refine ⟨1, _, _, _, _, rfl, rfl, c, h1, h2, h3, h4, h5, h6, s20, s21, s22, hd, w + 1, hh, by omega, e18, rfl, rfl, ?_⟩
      exact enq_q hh hw8 hq l1 l2 l3 (lt_65535 _)
  · have hw9 : w = 8 := by omega
    subst hw9
    have em : f_Md_access T N x1 x2 x3 = some (0, T, N) := by
      unfold f_Md_access f_Md_access_39
      rw [if_pos (show T 19 = 8 from t19)]
    have ee : f_Pr_enqueue S M x1 x2 (x3 &&& 65535) = some (0, S, M) := by
      unfold f_Pr_enqueue
      rw [if_neg (show ¬ S 19 < 8 by rw [e19]; exact nI_nlt (a := 8) (b := 8) (Nat.le_refl _) (by decide))]
    rw [em, ee]
    by_cases q : (x1 < 0 ∨ ¬ x1 ≤ 2) ∨ (x2 < 0 ∨ ¬ x2 ≤ hi1 x1)
    · rw [if_pos q]
      exact ⟨_, _, _, _, _, rfl, rfl, c, hc⟩
    · rw [if_neg q]
      exact ⟨_, _, _, _, _, rfl, rfl, c, hc⟩
/-- the beginning -/
theorem rel_0 : Rg (fun _ => 0) (fun _ _ => 0) (fun _ => 0) (fun _ _ => 0) := by
  have z : ∀ n, 0 < n → lt32 0 n := fun n h => ⟨0, h, rfl⟩
  have rl : ∀ j, j < 28 → 0 < rlim j := by decide
  refine ⟨0, ⟨rfl, rfl, rfl, z _ (by decide), fun _ _ => rfl, rfl⟩, fun j hj => ⟨rfl, z _ (rl j hj)⟩, fun _ _ => ⟨rfl, z _ (by decide)⟩, ⟨fun _ _ => ⟨rfl, z _ (by decide)⟩, fun _ _ => ⟨rfl, z _ (by decide)⟩, fun _ _ => ⟨rfl, z _ (by decide)⟩, fun _ _ => rfl⟩, ⟨rfl, rfl, z _ (by decide), rfl, z _ (by decide), fun _ => rfl, rfl, rfl, Or.inl rfl, Or.inl rfl⟩, ⟨rfl, rfl, rfl, rfl, rfl, rfl, rfl, rfl, rfl, Or.inl rfl, Or.inl rfl, z _ (by decide), z _ (by decide), z _ (by decide), fun _ _ => ⟨rfl, z _ (by decide)⟩, fun q => absurd q (show ¬ (0 : Int32) = 1 by decide)⟩, rfl, rfl, rfl, 0, 0, by decide, by decide, rfl, rfl, rfl, fun j hj => absurd hj (Nat.not_lt_zero j)⟩
