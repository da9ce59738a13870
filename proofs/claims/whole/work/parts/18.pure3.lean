/-! The picture at a clock. -/
theorem upM_comm {M : MM} {i j : Nat} {f g : Nat → Int32} (h : i ≠ j) : upM (upM M i f) j g = upM (upM M j g) i f := by
  funext k
  by_cases h1 : k = i
  · subst h1; rw [upM_n h, upM_s, upM_s]
  · by_cases h2 : k = j
    · subst h2; rw [upM_s, upM_n h1, upM_s]
    · rw [upM_n h2, upM_n h1, upM_n h1, upM_n h2]
theorem rel_pic {c : Gh} {S T : SS} {M N M' N' : MM} (h : Rel c S M T N) (hp : RPic (M' 3) (M' 4) (M' 5) (M' 6) (N' 4) (N' 5) (N' 6) (N' 2)) (e0 : M' 0 = M 0) (e1 : M' 1 = M 1) (e2 : M' 2 = M 2) (e7 : M' 7 = M 7) (e8 : M' 8 = M 8) (e9 : M' 9 = M 9) (e10 : M' 10 = M 10) (n0 : N' 0 = N 0) (n1 : N' 1 = N 1) (n3 : N' 3 = N 3) (n7 : N' 7 = N 7) (n8 : N' 8 = N 8) : Rel c S M' T N' := by
  unfold Rel at h ⊢
  rw [e0, e1, e2, e7, e8, e9, e10, n0, n1, n3, n7, n8]
  exact ⟨h.1, h.2.1, h.2.2.1, hp, h.2.2.2.2⟩
theorem e_show38 {S : SS} {M : MM} {i k a b : Nat} (hi : i < 20) (hk : k < 32) (ha : a < 65536) (hb : b < 65536) (h0 : M 5 0 = nI a) (h1 : M 5 1 = nI b) : f_Pi_showClock_38 S M (nI i) (nI k) = some (0, S, if (4 ≤ i ∧ i < 16) ∧ 16 ≤ k then dr (dr M 5 6 2 ((i - 4) * 32 + 2 * (k - 16)) a b) 5 6 2 ((i - 4) * 32 + 2 * (k - 16) + 1) (2 * a % 65536) (2 * b % 65536) else M) := by
  unfold f_Pi_showClock_38 f_Pi_showClock_104
  rw [e_isLine hi]
  simp only [Option.bind_some]
  by_cases hl : 4 ≤ i ∧ i < 16
  · rw [if_pos hl, if_neg (show ¬ (1 : Int32) = 0 by decide)]
    by_cases hc : 16 ≤ k
    · rw [if_neg (show ¬ nI k < (16 : Int32) from nI_nlt (b := 16) hc (by omega)), if_pos ⟨hl, hc⟩, e_shiftOut ha hb h0 h1]
      simp only [Option.bind_some]
      rw [show (6 : Int32) + nI (a / 32768 + 2 * (b / 32768)) = nI (6 + (a / 32768 + 2 * (b / 32768))) from nI_add 6 _, e_Re_at (by omega)]
      simp only [Option.bind_some]
      rw [(idx_p hl.1 hl.2 hc hk).1, if_neg (gd (by omega) (by decide)), nI_clamp (by omega)]
      rw [show nI ((i - 4) * 32 + 2 * (k - 16)) + (1 : Int32) = nI ((i - 4) * 32 + 2 * (k - 16) + 1) from nI_1 _]
      have hd := e_shiftOut (S := S) (M := dr M 5 6 2 ((i - 4) * 32 + 2 * (k - 16)) a b) (a := 2 * a % 65536) (b := 2 * b % 65536) (Nat.mod_lt _ (by decide)) (Nat.mod_lt _ (by decide)) rfl rfl
      rw [show upM (upM M 5 (sh2 (M 5) a b)) 6 (upd (upM M 5 (sh2 (M 5) a b) 6) ((i - 4) * 32 + 2 * (k - 16)) (upM M 5 (sh2 (M 5) a b) 2 (6 + (a / 32768 + 2 * (b / 32768))))) = dr M 5 6 2 ((i - 4) * 32 + 2 * (k - 16)) a b from rfl, hd]
      simp only [Option.bind_some]
      rw [show (6 : Int32) + nI (2 * a % 65536 / 32768 + 2 * (2 * b % 65536 / 32768)) = nI (6 + (2 * a % 65536 / 32768 + 2 * (2 * b % 65536 / 32768))) from nI_add 6 _, e_Re_at (by omega)]
      simp only [Option.bind_some]
      rw [if_neg (gd (by omega) (by decide)), nI_clamp (by omega)]
      rfl
    · rw [if_pos (show nI k < (16 : Int32) from nI_lt (b := 16) (by omega) (by decide)), if_neg (fun z => hc z.2)]
  · rw [if_neg hl, if_pos rfl, if_neg (fun z => hl z.1)]
theorem e_mshift0 {T : SS} {N : MM} {X : Nat → Int32} {a b : Nat} {x1 x2 x4 : Int32} (ha : a < 65536) (hb : b < 65536) (h0 : N 6 0 = nI a) (h1 : N 6 1 = nI b) : f_Md_show_141_3_0_5_0 T (upM N 2 X) x1 x2 x4 = f_Md_show_80_3_1_5_2 T (upM (upM N 6 (sh2 (N 6) a b)) 2 X) x1 x2 x4 := by
  unfold f_Md_show_141_3_0_5_0 f_Md_show_141_3_0_5_1 f_Md_show_141_3_0_5_2
  rw [upM_upM, upM_s, upd_n (show (1 : Nat) ≠ 0 by decide), upM_n (show (6 : Nat) ≠ 2 by decide), h0, h1, e_dbl ha, e_dbl hb, upM_comm (show (2 : Nat) ≠ 6 by decide)]
  rfl
theorem e_mshift1 {T : SS} {N : MM} {X : Nat → Int32} {a b : Nat} {x1 x2 x4 : Int32} (ha : a < 65536) (hb : b < 65536) (h0 : N 6 0 = nI a) (h1 : N 6 1 = nI b) : f_Md_show_141_3_1_5_0 T (upM N 2 X) x1 x2 x4 = some (0, T, upM (upM N 6 (sh2 (N 6) a b)) 2 X) := by
  unfold f_Md_show_141_3_1_5_0 f_Md_show_141_3_1_5_1 f_Md_show_141_3_1_5_2 f_Md_show_80_3_2_5_2
  rw [upM_upM, upM_s, upd_n (show (1 : Nat) ≠ 0 by decide), upM_n (show (6 : Nat) ≠ 2 by decide), h0, h1, e_dbl ha, e_dbl hb, upM_comm (show (2 : Nat) ≠ 6 by decide)]
  rfl
theorem e_mshow {T : SS} {N : MM} {i k a b : Nat} (hi : i < 20) (hk : k < 32) (ha : a < 65536) (hb : b < 65536) (h0 : N 6 0 = nI a) (h1 : N 6 1 = nI b) : f_Md_show_2_3_2 T N (nI i) (nI k) = some (0, T, if (4 ≤ i ∧ i < 16) ∧ 16 ≤ k then dr (dr N 6 2 1 ((i - 4) * 32 + 2 * (k - 16)) a b) 6 2 1 ((i - 4) * 32 + 2 * (k - 16) + 1) (2 * a % 65536) (2 * b % 65536) else N) := by
  unfold f_Md_show_2_3_2 f_Md_show_77_3_2
  by_cases hl : 4 ≤ i
  · rw [if_neg (show ¬ nI i < (4 : Int32) from nI_nlt (b := 4) hl (by omega))]
    by_cases hl2 : i < 16
    · rw [if_neg (show ¬ (15 : Int32) < nI i from nI_nlt (a := 15) (by omega) (by decide))]
      by_cases hc : 16 ≤ k
      · rw [if_pos (show (16 : Int32) ≤ nI k from nI_le (a := 16) hc (by omega)), if_pos ⟨⟨hl, hl2⟩, hc⟩]
        unfold f_Md_show_80_3_0
        rw [h0, h1, e_num ha hb, show (6 : Int32) + nI (a / 32768 + 2 * (b / 32768)) = nI (6 + (a / 32768 + 2 * (b / 32768))) from nI_add 6 _, if_neg (gd (by omega) (by decide)), (idx_p hl hl2 hc hk).2,
          show nI ((i - 4) * 32 + 2 * (k - 16)) + (0 : Int32) = nI ((i - 4) * 32 + 2 * (k - 16)) from nI_add _ 0, if_neg (gd (by omega) (by decide)), nI_clamp (by omega), nI_clamp (by omega), e_mshift0 ha hb h0 h1]
        rw [show upM (upM N 6 (sh2 (N 6) a b)) 2 (upd (N 2) ((i - 4) * 32 + 2 * (k - 16)) (N 1 (6 + (a / 32768 + 2 * (b / 32768))))) = dr N 6 2 1 ((i - 4) * 32 + 2 * (k - 16)) a b from rfl]
        generalize hN : dr N 6 2 1 ((i - 4) * 32 + 2 * (k - 16)) a b = N1
        have g0 : N1 6 0 = nI (2 * a % 65536) := by rw [← hN]; rfl
        have g1 : N1 6 1 = nI (2 * b % 65536) := by rw [← hN]; rfl
        have q0 : 2 * a % 65536 < 65536 := Nat.mod_lt _ (by decide)
        have q1 : 2 * b % 65536 < 65536 := Nat.mod_lt _ (by decide)
        unfold f_Md_show_80_3_1_5_2
        rw [g0, g1, e_num q0 q1, show (6 : Int32) + nI (2 * a % 65536 / 32768 + 2 * (2 * b % 65536 / 32768)) = nI (6 + (2 * a % 65536 / 32768 + 2 * (2 * b % 65536 / 32768))) from nI_add 6 _, if_neg (gd (by omega) (by decide)), (idx_p hl hl2 hc hk).2,
          show nI ((i - 4) * 32 + 2 * (k - 16)) + (1 : Int32) = nI ((i - 4) * 32 + 2 * (k - 16) + 1) from nI_1 _, if_neg (gd (by omega) (by decide)), nI_clamp (by omega), nI_clamp (by omega), e_mshift1 q0 q1 g0 g1]
        rfl
      · rw [if_neg (show ¬ (16 : Int32) ≤ nI k from nI_ge (b := 16) (by omega) (by decide)), if_neg (fun z => hc z.2)]
    · rw [if_pos (show (15 : Int32) < nI i from nI_lt (a := 15) (by omega) (by omega)), if_neg (fun z => hl2 z.1.2)]
  · rw [if_pos (show nI i < (4 : Int32) from nI_lt (b := 4) (by omega) (by decide)), if_neg (fun z => hl z.1.1)]
/-- the second half of a clock's picture -/
theorem show2_rel {c : Gh} {S T : SS} {M N : MM} {i k : Nat} (hi : i < 20) (hk : k < 32) (h : Rel c S M T N) : ∃ M' N', f_Pi_showClock_38 S M (nI i) (nI k) = some (0, S, M') ∧ f_Md_show_2_3_2 T N (nI i) (nI k) = some (0, T, N') ∧ Rel c S M' T N' := by
  obtain ⟨hm, hr, hmem, hp, hrest⟩ := h
  obtain ⟨e0, a, ha, ea⟩ := hp.2.2.1 0 (by decide)
  obtain ⟨e1, b, hb, eb⟩ := hp.2.2.1 1 (by decide)
  refine ⟨_, _, e_show38 hi hk ha hb ea eb, e_mshow hi hk ha hb (e0.symm.trans ea) (e1.symm.trans eb), ?_⟩
  by_cases hc : (4 ≤ i ∧ i < 16) ∧ 16 ≤ k
  · rw [if_pos hc, if_pos hc]
    have q0 : 2 * a % 65536 < 65536 := Nat.mod_lt _ (by decide)
    have q1 : 2 * b % 65536 < 65536 := Nat.mod_lt _ (by decide)
    have h1 := dr_rel (p := (i - 4) * 32 + 2 * (k - 16)) hr hp ha hb
    have h2 := dr_rel (M := dr M 5 6 2 ((i - 4) * 32 + 2 * (k - 16)) a b) (N := dr N 6 2 1 ((i - 4) * 32 + 2 * (k - 16)) a b) (p := (i - 4) * 32 + 2 * (k - 16) + 1) hr h1 q0 q1
    exact rel_pic ⟨hm, hr, hmem, hp, hrest⟩ h2 rfl rfl rfl rfl rfl rfl rfl rfl rfl rfl rfl rfl
  · rw [if_neg hc, if_neg hc]
    exact ⟨hm, hr, hmem, hp, hrest⟩
def clr (f : Nat → Int32) : Nat → Int32 := upd (upd f 0 0) 1 0
theorem clr_two {m n : Nat → Int32} : RTwo 65536 (clr m) (clr n) := by
  intro j hj
  have hj : j = 0 ∨ j = 1 := by omega
  rcases hj with rfl | rfl
  · exact ⟨rfl, 0, by decide, rfl⟩
  · exact ⟨rfl, 0, by decide, rfl⟩
theorem e_clear {S : SS} {M : MM} : f_Pi_clearLatches S M = some (0, S, upM M 4 (clr (M 4))) := by
  unfold f_Pi_clearLatches
  rw [upM_upM, upM_s]
  rfl
theorem mpre0 {T : SS} {N : MM} {x : Int32} : ∃ N1, f_Md_show T N x (nI 0) = f_Md_show_2_3_2 T N1 x (nI 0) ∧ (N1 0 = N 0 ∧ N1 1 = N 1 ∧ N1 2 = N 2 ∧ N1 3 = N 3 ∧ N1 4 = N 4 ∧ N1 7 = N 7 ∧ N1 8 = N 8) ∧ N1 5 0 = 0 ∧ N1 5 1 = 0 ∧ N1 6 0 = N 6 0 ∧ N1 6 1 = N 6 1 := by
  apply Exists.intro
  apply And.intro
  case left =>
    unfold f_Md_show f_Md_show_2_3_0 f_Md_show_31_3_0 f_Md_show_47_3_0 f_Md_show_54_3_0 f_Md_show_2_3_1 f_Md_show_31_3_1 f_Md_show_47_3_1 f_Md_show_54_3_1
    rw [if_neg (show ¬ nI 0 = (16 : Int32) by decide), if_neg (show ¬ nI 0 = (24 : Int32) by decide), if_pos (show nI 0 = 0 from rfl), if_neg (show ¬ nI 0 = (16 : Int32) by decide), if_neg (show ¬ nI 0 = (24 : Int32) by decide), if_pos (show nI 0 = 0 from rfl)]
  exact ⟨⟨rfl, rfl, rfl, rfl, rfl, rfl, rfl⟩, rfl, rfl, rfl, rfl⟩
theorem mpre16 {T : SS} {N : MM} {x y : Int32} (n0 : ¬ y = 0) (hy : y = 16 ∨ y = 24) : ∃ N1, f_Md_show T N x y = f_Md_show_2_3_2 T N1 x y ∧ (N1 0 = N 0 ∧ N1 1 = N 1 ∧ N1 2 = N 2 ∧ N1 3 = N 3 ∧ N1 4 = N 4 ∧ N1 7 = N 7 ∧ N1 8 = N 8) ∧ N1 5 0 = 0 ∧ N1 5 1 = 0 ∧ N1 6 0 = N 5 0 ∧ N1 6 1 = N 5 1 := by
  apply Exists.intro
  apply And.intro
  case left =>
    have a1 : ∀ (S : SS) (M : MM), f_Md_show_2_3_0 S M x y = f_Md_show_19_3_0 S M x y := fun S M => by
      unfold f_Md_show_2_3_0
      by_cases q : y = 16
      · rw [if_pos q]
      · rw [if_neg q, if_pos (hy.resolve_left q)]
    have a2 : ∀ (S : SS) (M : MM), f_Md_show_31_3_0 S M x y = f_Md_show_47_3_0 S M x y := fun S M => by
      unfold f_Md_show_31_3_0
      by_cases q : y = 16
      · rw [if_neg n0, if_pos q]
      · rw [if_neg n0, if_neg q, if_pos (hy.resolve_left q)]
    have a3 : ∀ (S : SS) (M : MM), f_Md_show_2_3_1 S M x y = f_Md_show_19_3_1 S M x y := fun S M => by
      unfold f_Md_show_2_3_1
      by_cases q : y = 16
      · rw [if_pos q]
      · rw [if_neg q, if_pos (hy.resolve_left q)]
    have a4 : ∀ (S : SS) (M : MM), f_Md_show_31_3_1 S M x y = f_Md_show_47_3_1 S M x y := fun S M => by
      unfold f_Md_show_31_3_1
      by_cases q : y = 16
      · rw [if_neg n0, if_pos q]
      · rw [if_neg n0, if_neg q, if_pos (hy.resolve_left q)]
    unfold f_Md_show
    rw [a1]
    unfold f_Md_show_19_3_0
    rw [a2]
    unfold f_Md_show_47_3_0 f_Md_show_54_3_0
    rw [a3]
    unfold f_Md_show_19_3_1
    rw [a4]
    unfold f_Md_show_47_3_1 f_Md_show_54_3_1
    exact Eq.refl _
  exact ⟨⟨rfl, rfl, rfl, rfl, rfl, rfl, rfl⟩, rfl, rfl, rfl, rfl⟩
theorem cpre16 {S : SS} {M : MM} {x y : Int32} (n0 : ¬ y = 0) (hy : y = 16 ∨ y = 24) : ∃ M1, f_Pi_showClock S M x y = f_Pi_showClock_38 S M1 x y ∧ (M1 0 = M 0 ∧ M1 1 = M 1 ∧ M1 2 = M 2 ∧ M1 3 = M 3 ∧ M1 6 = M 6 ∧ M1 7 = M 7 ∧ M1 8 = M 8 ∧ M1 9 = M 9 ∧ M1 10 = M 10) ∧ M1 4 0 = 0 ∧ M1 4 1 = 0 ∧ M1 5 0 = M 4 0 ∧ M1 5 1 = M 4 1 := by
  apply Exists.intro
  apply And.intro
  case left =>
    unfold f_Pi_showClock
    rw [if_neg n0]
    have a1 : f_Pi_showClock_8 S M x y = f_Pi_showClock_20 S M x y := by
      unfold f_Pi_showClock_8
      by_cases q : y = 16
      · rw [if_pos q]
      · rw [if_neg q, if_pos (hy.resolve_left q)]
    rw [a1]
    unfold f_Pi_showClock_20
    rw [e_clear]
    exact Eq.refl _
  exact ⟨⟨rfl, rfl, rfl, rfl, rfl, rfl, rfl, rfl, rfl⟩, rfl, rfl, rfl, rfl⟩
theorem mpreN {T : SS} {N : MM} {x y : Int32} (n0 : ¬ y = 0) (n1 : ¬ y = 16) (n2 : ¬ y = 24) : f_Md_show T N x y = f_Md_show_2_3_2 T N x y := by
  have a2 : f_Md_show_31_3_0 T N x y = f_Md_show_54_3_0 T N x y := by
    unfold f_Md_show_31_3_0
    rw [if_neg n0, if_neg n1, if_neg n2]
  have a4 : f_Md_show_31_3_1 T N x y = f_Md_show_54_3_1 T N x y := by
    unfold f_Md_show_31_3_1
    rw [if_neg n0, if_neg n1, if_neg n2]
  unfold f_Md_show f_Md_show_2_3_0
  rw [if_neg n1, if_neg n2, a2]
  unfold f_Md_show_54_3_0 f_Md_show_2_3_1
  rw [if_neg n1, if_neg n2, a4]
  unfold f_Md_show_54_3_1
  exact Eq.refl _
theorem cpreN {S : SS} {M : MM} {x y : Int32} (n0 : ¬ y = 0) (n1 : ¬ y = 16) (n2 : ¬ y = 24) : f_Pi_showClock S M x y = f_Pi_showClock_38 S M x y := by
  unfold f_Pi_showClock f_Pi_showClock_8
  rw [if_neg n0, if_neg n1, if_neg n2]
theorem cpre0 {S : SS} {M : MM} {x y : Int32} (hy : y = 0) (n1 : ¬ y = 16) (n2 : ¬ y = 24) : f_Pi_showClock S M x y = f_Pi_showClock_38 S (upM M 4 (clr (M 4))) x y := by
  have a2 : ∀ (S : SS) (M : MM), f_Pi_showClock_8 S M x y = f_Pi_showClock_38 S M x y := fun S M => by
    unfold f_Pi_showClock_8
    rw [if_neg n1, if_neg n2]
  unfold f_Pi_showClock
  rw [if_pos hy, e_clear]
  exact a2 S (upM M 4 (clr (M 4)))
theorem two_of {L : Nat} {m n : Nat → Int32} {x y : Int32} (a0 : m 0 = x) (a1 : m 1 = y) (b0 : n 0 = x) (b1 : n 1 = y) (hx : lt32 x L) (hy : lt32 y L) : RTwo L m n := by
  intro j hj
  have hj : j = 0 ∨ j = 1 := by omega
  rcases hj with rfl | rfl
  · rw [a0, b0]; exact ⟨rfl, hx⟩
  · rw [a1, b1]; exact ⟨rfl, hy⟩
theorem show_rel0 {c : Gh} {S T : SS} {M N : MM} {i : Nat} (hi : i < 20) (h : Rel c S M T N) : ∃ M' N', f_Pi_showClock S M (nI i) (nI 0) = some (0, S, M') ∧ f_Md_show T N (nI i) (nI 0) = some (0, T, N') ∧ Rel c S M' T N' := by
  have z0 : lt32 0 65536 := ⟨0, by decide, rfl⟩
  have hp := h.2.2.2.1
  obtain ⟨N1, b1, ⟨c0, c1, c2, c3, c4, c7, c8⟩, d0, d1, d2, d3⟩ := mpre0 (T := T) (N := N) (x := nI i)
  have hq : Rel c S (upM M 4 (clr (M 4))) T N1 := by
    refine rel_pic h ⟨by rw [c4]; exact hp.1, two_of (x := 0) (y := 0) rfl rfl d0 d1 z0 z0, ?_, by rw [c2]; exact hp.2.2.2⟩ rfl rfl rfl rfl rfl rfl rfl c0 c1 c3 c7 c8
    exact two_of (x := M 5 0) (y := M 5 1) rfl rfl (d2.trans (hp.2.2.1 0 (by decide)).1.symm) (d3.trans (hp.2.2.1 1 (by decide)).1.symm) (hp.2.2.1 0 (by decide)).2 (hp.2.2.1 1 (by decide)).2
  obtain ⟨M', N', a1, a2, a3⟩ := show2_rel (k := 0) hi (by decide) hq
  exact ⟨M', N', (cpre0 rfl (by decide) (by decide)).trans a1, b1.trans a2, a3⟩
theorem show_rel16 {c : Gh} {S T : SS} {M N : MM} {i k : Nat} (hi : i < 20) (hk : k < 32) (n0 : ¬ nI k = 0) (hk2 : nI k = 16 ∨ nI k = 24) (h : Rel c S M T N) : ∃ M' N', f_Pi_showClock S M (nI i) (nI k) = some (0, S, M') ∧ f_Md_show T N (nI i) (nI k) = some (0, T, N') ∧ Rel c S M' T N' := by
  have z0 : lt32 0 65536 := ⟨0, by decide, rfl⟩
  have hp := h.2.2.2.1
  obtain ⟨N1, b1, ⟨c0, c1, c2, c3, c4, c7, c8⟩, d0, d1, d2, d3⟩ := mpre16 (T := T) (N := N) (x := nI i) n0 hk2
  obtain ⟨M1, g1, ⟨p0, p1, p2, p3, p6, p7, p8, p9, p10⟩, r0, r1, r2, r3⟩ := cpre16 (S := S) (M := M) (x := nI i) n0 hk2
  have hq : Rel c S M1 T N1 := by
    refine rel_pic h ⟨by rw [p3, c4]; exact hp.1, two_of (x := 0) (y := 0) r0 r1 d0 d1 z0 z0, ?_, by rw [p6, c2]; exact hp.2.2.2⟩ p0 p1 p2 p7 p8 p9 p10 c0 c1 c3 c7 c8
    exact two_of (x := M 4 0) (y := M 4 1) r2 r3 (d2.trans (hp.2.1 0 (by decide)).1.symm) (d3.trans (hp.2.1 1 (by decide)).1.symm) (hp.2.1 0 (by decide)).2 (hp.2.1 1 (by decide)).2
  obtain ⟨M', N', a1, a2, a3⟩ := show2_rel hi hk hq
  exact ⟨M', N', g1.trans a1, b1.trans a2, a3⟩
theorem show_rel {c : Gh} {S T : SS} {M N : MM} {i k : Nat} (hi : i < 20) (hk : k < 32) (h : Rel c S M T N) : ∃ M' N', f_Pi_showClock S M (nI i) (nI k) = some (0, S, M') ∧ f_Md_show T N (nI i) (nI k) = some (0, T, N') ∧ Rel c S M' T N' := by
  by_cases k0 : k = 0
  · rw [k0]
    exact show_rel0 hi h
  · have n0 : ¬ nI k = 0 := fun z => k0 ((nI_eq (a := k) (b := 0) (by omega) (by decide)).mp z)
    by_cases k1 : nI k = 16
    · exact show_rel16 hi hk n0 (Or.inl k1) h
    · by_cases k2 : nI k = 24
      · exact show_rel16 hi hk n0 (Or.inr k2) h
      · obtain ⟨M', N', a1, a2, a3⟩ := show2_rel hi hk h
        exact ⟨M', N', (cpreN n0 k1 k2).trans a1, (mpreN n0 k1 k2).trans a2, a3⟩
