/-! A write to a register; a word for the list. -/
theorem iq {r c : Nat} {x : Int32} (hr : r < 2 ^ 31) (hc : c < 2 ^ 31) (hx : x = nI c) : (nI r = x) = (r = c) := by
  subst hx
  exact propext (nI_eq hr hc)
theorem il {r c : Nat} {x : Int32} (hr : r < 2 ^ 31) (hc : c < 2 ^ 31) (hx : x = nI c) : (nI r < x) = (r < c) := by
  subst hx
  exact propext (nI_ltI hr hc)
theorem ig {r c : Nat} {x : Int32} (hr : r < 2 ^ 31) (hc : c < 2 ^ 31) (hx : x = nI c) : (x < nI r) = (c < r) := by
  subst hx
  exact propext (nI_ltI hc hr)
theorem ile {r c : Nat} {x : Int32} (hr : r < 2 ^ 31) (hc : c < 2 ^ 31) (hx : x = nI c) : (nI r ≤ x) = (r ≤ c) := by
  subst hx
  exact propext (nI_leI hr hc)
theorem ige {r c : Nat} {x : Int32} (hr : r < 2 ^ 31) (hc : c < 2 ^ 31) (hx : x = nI c) : (x ≤ nI r) = (c ≤ r) := by
  subst hx
  exact propext (nI_leI hc hr)
def plainR (r : Nat) : Prop := r < 28 ∧ r ≠ 2 ∧ r ≠ 25 ∧ r ≠ 27
/-- the reference's write, up to the three registers that cause something -/
theorem mw_put {T : SS} {N : MM} {r w : Nat} (hr : plainR r) (hw : w < 65536) : f_Md_write T N (nI r) (nI w) = f_Md_write_146 T (upM N 1 (upd (N 1) r (nI w &&& cbits r))) (nI r) (nI w) := by
  obtain ⟨h28, n2, n25, n27⟩ := hr
  have hr : r < 2 ^ 31 := by omega
  have hcl : (nI r).toNatClampNeg = r := nI_clamp hr
  have g := gd h28 (show 28 < 2 ^ 31 by decide)
  rw [hcl] at g
  have e65 : nI w &&& 65535 = nI w := an_65535 hw
  unfold f_Md_write f_Md_write_32 f_Md_write_58 f_Md_write_84 f_Md_write_131 f_Md_write_121 f_Md_write_44
  simp only [hcl, if_neg g, iq hr (show 0 < 2 ^ 31 by decide) (show (0 : Int32) = nI 0 from rfl), iq hr (show 1 < 2 ^ 31 by decide) (show (1 : Int32) = nI 1 from rfl), iq hr (show 11 < 2 ^ 31 by decide) (show (11 : Int32) = nI 11 from rfl), iq hr (show 10 < 2 ^ 31 by decide) (show (10 : Int32) = nI 10 from rfl), iq hr (show 26 < 2 ^ 31 by decide) (show (26 : Int32) = nI 26 from rfl),
    il hr (show 3 < 2 ^ 31 by decide) (show (3 : Int32) = nI 3 from rfl), il hr (show 6 < 2 ^ 31 by decide) (show (6 : Int32) = nI 6 from rfl), il hr (show 12 < 2 ^ 31 by decide) (show (12 : Int32) = nI 12 from rfl), il hr (show 20 < 2 ^ 31 by decide) (show (20 : Int32) = nI 20 from rfl),
    ig hr (show 9 < 2 ^ 31 by decide) (show (9 : Int32) = nI 9 from rfl), ig hr (show 19 < 2 ^ 31 by decide) (show (19 : Int32) = nI 19 from rfl), ig hr (show 24 < 2 ^ 31 by decide) (show (24 : Int32) = nI 24 from rfl), ile hr (show 5 < 2 ^ 31 by decide) (show (5 : Int32) = nI 5 from rfl)]
  have c8 : ∀ k, (k = 1 ∨ (3 ≤ k ∧ k ≤ 5) ∨ (12 ≤ k ∧ k ≤ 19)) → cbits k = 255 := by
    intro k hk
    have : k = 1 ∨ k = 3 ∨ k = 4 ∨ k = 5 ∨ k = 12 ∨ k = 13 ∨ k = 14 ∨ k = 15 ∨ k = 16 ∨ k = 17 ∨ k = 18 ∨ k = 19 := by omega
    rcases this with rfl | rfl | rfl | rfl | rfl | rfl | rfl | rfl | rfl | rfl | rfl | rfl <;> rfl
  have c12 : ∀ k, 6 ≤ k ∧ k ≤ 9 → cbits k = 4095 := by
    intro k hk
    have : k = 6 ∨ k = 7 ∨ k = 8 ∨ k = 9 := by omega
    rcases this with rfl | rfl | rfl | rfl <;> rfl
  have c16 : ∀ k, (k = 10 ∨ (20 ≤ k ∧ k ≤ 24)) → nI w &&& cbits k = nI w := by
    intro k hk
    have : k = 10 ∨ k = 20 ∨ k = 21 ∨ k = 22 ∨ k = 23 ∨ k = 24 := by omega
    rcases this with rfl | rfl | rfl | rfl | rfl | rfl <;> exact e65
  by_cases h0 : r = 0
  · subst h0; rfl
  rw [if_neg h0]
  by_cases h1 : r = 1
  · rw [if_pos h1, c8 r (Or.inl h1)]
  rw [if_neg h1, if_neg (show ¬ r < 3 by omega)]
  by_cases h5 : r ≤ 5
  · rw [if_pos h5, c8 r (by omega)]
  rw [if_neg h5]
  by_cases h12 : r < 12
  · rw [if_pos h12, if_neg (show ¬ r < 6 by omega)]
    by_cases h9 : 9 < r
    · rw [if_pos h9]
      by_cases h11 : r = 11
      · subst h11; rfl
      · rw [if_neg h11, if_pos (show r = 10 by omega), c16 r (by omega)]
    · rw [if_neg h9, c12 r (by omega)]
  rw [if_neg h12]
  by_cases h19 : 19 < r
  · rw [if_pos h19, if_neg (show ¬ r < 6 by omega), if_pos (show 9 < r by omega), if_neg (show ¬ r = 11 by omega), if_neg (show ¬ r = 10 by omega), if_neg (show ¬ r < 20 by omega)]
    by_cases h24 : 24 < r
    · rw [if_pos h24, if_pos (show r = 26 by omega)]
      have : r = 26 := by omega
      subst this; rfl
    · rw [if_neg h24, c16 r (by omega)]
  · rw [if_neg h19, c8 r (by omega)]
theorem mw_no {T : SS} {N : MM} {r w : Nat} (hr : r < 32) (hp : ¬ plainR r) : f_Md_write T N (nI r) (nI w) = f_Md_write_146 T N (nI r) (nI w) := by
  have hp : r = 2 ∨ r = 25 ∨ r = 27 ∨ 28 ≤ r := by
    unfold plainR at hp
    omega
  have hr : r < 2 ^ 31 := by omega
  unfold f_Md_write f_Md_write_32 f_Md_write_58 f_Md_write_84 f_Md_write_131
  simp only [iq hr (show 0 < 2 ^ 31 by decide) (show (0 : Int32) = nI 0 from rfl), iq hr (show 1 < 2 ^ 31 by decide) (show (1 : Int32) = nI 1 from rfl), iq hr (show 11 < 2 ^ 31 by decide) (show (11 : Int32) = nI 11 from rfl), iq hr (show 10 < 2 ^ 31 by decide) (show (10 : Int32) = nI 10 from rfl), iq hr (show 26 < 2 ^ 31 by decide) (show (26 : Int32) = nI 26 from rfl),
    il hr (show 3 < 2 ^ 31 by decide) (show (3 : Int32) = nI 3 from rfl), il hr (show 6 < 2 ^ 31 by decide) (show (6 : Int32) = nI 6 from rfl), il hr (show 12 < 2 ^ 31 by decide) (show (12 : Int32) = nI 12 from rfl), il hr (show 20 < 2 ^ 31 by decide) (show (20 : Int32) = nI 20 from rfl),
    ig hr (show 9 < 2 ^ 31 by decide) (show (9 : Int32) = nI 9 from rfl), ig hr (show 19 < 2 ^ 31 by decide) (show (19 : Int32) = nI 19 from rfl), ig hr (show 24 < 2 ^ 31 by decide) (show (24 : Int32) = nI 24 from rfl), ile hr (show 5 < 2 ^ 31 by decide) (show (5 : Int32) = nI 5 from rfl)]
  by_cases h3 : r < 3
  · rw [if_neg (show ¬ r = 0 by omega), if_neg (show ¬ r = 1 by omega), if_pos h3, if_pos (show r < 12 by omega), if_pos (show r < 6 by omega), if_neg (show ¬ r = 11 by omega), if_neg (show ¬ r = 10 by omega), if_pos (show r < 20 by omega), if_neg (show ¬ r = 26 by omega)]
  · rw [if_neg (show ¬ r = 0 by omega), if_neg (show ¬ r = 1 by omega), if_neg h3, if_neg (show ¬ r ≤ 5 by omega), if_neg (show ¬ r < 12 by omega), if_pos (show 19 < r by omega), if_neg (show ¬ r < 6 by omega), if_pos (show 9 < r by omega), if_neg (show ¬ r = 11 by omega), if_neg (show ¬ r = 10 by omega), if_neg (show ¬ r < 20 by omega), if_pos (show 24 < r by omega), if_neg (show ¬ r = 26 by omega)]
theorem e146 {T : SS} {N : MM} {r : Nat} {v : Int32} (hr : r < 32) : f_Md_write_146 T N (nI r) v = some (0, if r = 2 then upd (upd (upd (upd T 3 1) 4 (N 1 1)) 6 0) 7 0 else if r = 25 then upd (upd (upd (upd (upd (upd (upd (upd (upd T 9 1) 10 1) 11 (mwid v)) 12 (mhei v)) 13 0) 14 0) 15 0) 16 0) 17 0 else if r = 27 then upd T 2 (T 2 &&& (v ^^^ (-1 : Int32))) else T, N) := by
  have hr : r < 2 ^ 31 := by omega
  unfold f_Md_write_146 f_Md_write_155 f_Md_write_166 f_Md_write_184
  rw [e_start]
  simp only [iq hr (show 2 < 2 ^ 31 by decide) (show (2 : Int32) = nI 2 from rfl), iq hr (show 25 < 2 ^ 31 by decide) (show (25 : Int32) = nI 25 from rfl), iq hr (show 27 < 2 ^ 31 by decide) (show (27 : Int32) = nI 27 from rfl), e_mbegin, Option.bind_some]
  by_cases h2 : r = 2
  · rw [if_pos h2, if_pos h2, if_neg (show ¬ r = 25 by omega), if_neg (show ¬ r = 27 by omega)]
  · rw [if_neg h2, if_neg h2]
    by_cases h25 : r = 25
    · rw [if_pos h25, if_pos h25, if_neg (show ¬ r = 27 by omega)]
    · rw [if_neg h25, if_neg h25]
      by_cases h27 : r = 27
      · rw [if_pos h27, if_pos h27]
      · rw [if_neg h27, if_neg h27]
theorem ewr {S : SS} {M : MM} {r : Nat} {v : Int32} (hr : r < 32) : f_Bd_writeRegister S M (nI r) v = some (0, if r = 2 then upd (upd (upd (upd S 3 1) 4 (M 2 1)) 7 0) 8 0 else if r = 25 then upd (upd (upd (upd (upd (upd (upd (upd (upd S 11 (mwid v)) 12 (mhei v)) 13 0) 14 0) 15 0) 16 0) 17 0) 10 1) 9 1 else if r = 27 then upd S 2 (S 2 &&& (v ^^^ (-1 : Int32))) else S, if r = 2 then M else if r = 25 then M else if r = 27 then M else if r < 28 then upM M 2 (upd (M 2) r (v &&& cbits r)) else M) := by
  have hr' : r < 2 ^ 31 := by omega
  unfold f_Bd_writeRegister f_Bd_writeRegister_85
  have e1 : f_Re_at S M (1 : Int32) = some (M 2 1, S, M) := e_Re_at (k := 1) (by decide)
  rw [e1, e_begin]
  simp only [iq hr' (show 2 < 2 ^ 31 by decide) (show (2 : Int32) = nI 2 from rfl), iq hr' (show 25 < 2 ^ 31 by decide) (show (25 : Int32) = nI 25 from rfl), iq hr' (show 27 < 2 ^ 31 by decide) (show (27 : Int32) = nI 27 from rfl), e_goOnAt, Option.bind_some]
  by_cases h2 : r = 2
  · rw [if_pos h2, if_pos h2, if_pos h2]
  · rw [if_neg h2, if_neg h2, if_neg h2]
    by_cases h25 : r = 25
    · rw [if_pos h25, if_pos h25, if_pos h25]
    · rw [if_neg h25, if_neg h25, if_neg h25]
      by_cases h27 : r = 27
      · rw [if_pos h27, if_pos h27, if_pos h27]; rfl
      · rw [if_neg h27, if_neg h27, if_neg h27]
        by_cases h28 : r < 28
        · rw [if_pos h28, e_Re_put h28]; rfl
        · rw [if_neg h28, e_Re_putN (by omega) hr']; rfl
def Kp (S S' : SS) (M M' : MM) (T T' : SS) (N N' : MM) : Prop := (∀ k, 18 ≤ k → S' k = S k) ∧ (M' 8 = M 8 ∧ M' 9 = M 9 ∧ M' 10 = M 10) ∧ (∀ k, 18 ≤ k → T' k = T k) ∧ N' 8 = N 8
theorem cb_lt : ∀ j, j < 28 → ∃ b, (cbits j).toBitVec.toNat = 2 ^ b - 1 ∧ 2 ^ b = rlim j := by
  intro j hj
  have : j = 0 ∨ j = 1 ∨ j = 2 ∨ j = 3 ∨ j = 4 ∨ j = 5 ∨ j = 6 ∨ j = 7 ∨ j = 8 ∨ j = 9 ∨ j = 10 ∨ j = 11 ∨ j = 12 ∨ j = 13 ∨ j = 14 ∨ j = 15 ∨ j = 16 ∨ j = 17 ∨ j = 18 ∨ j = 19 ∨ j = 20 ∨ j = 21 ∨ j = 22 ∨ j = 23 ∨ j = 24 ∨ j = 25 ∨ j = 26 ∨ j = 27 := by omega
  rcases this with rfl | rfl | rfl | rfl | rfl | rfl | rfl | rfl | rfl | rfl | rfl | rfl | rfl | rfl | rfl | rfl | rfl | rfl | rfl | rfl | rfl | rfl | rfl | rfl | rfl | rfl | rfl | rfl
  all_goals first | exact ⟨4, by decide, by decide⟩ | exact ⟨8, by decide, by decide⟩ | exact ⟨0, by decide, by decide⟩ | exact ⟨12, by decide, by decide⟩ | exact ⟨16, by decide, by decide⟩ | exact ⟨2, by decide, by decide⟩
theorem put_lt {x : Int32} {j : Nat} (hj : j < 28) : lt32 (x &&& cbits j) (rlim j) := by
  obtain ⟨b, h1, h2⟩ := cb_lt j hj
  rw [← h2]
  exact an_lt b h1
theorem regs_put {m n : Nat → Int32} {r : Nat} {x : Int32} (h : RRegs m n) : RRegs (upd m r (x &&& cbits r)) (upd n r (x &&& cbits r)) := by
  intro j hj
  by_cases q : j = r
  · subst q
    rw [upd_s, upd_s]
    exact ⟨rfl, put_lt hj⟩
  · rw [upd_n q, upd_n q]
    exact h j hj
theorem write_rel {c : Gh} {S T : SS} {M N : MM} {r w : Nat} (hr : r < 32) (hw : w < 65536) (h : RelA c S M T N) : ∃ S' M' T' N', f_Bd_writeRegister S M (nI r) (nI w) = some (0, S', M') ∧ f_Md_write T N (nI r) (nI w) = some (0, T', N') ∧ RelA c S' M' T' N' ∧ Kp S S' M M' T T' N N' := by
  by_cases hp : plainR r
  · have hp' := hp
    obtain ⟨h28, n2, n25, n27⟩ := hp'
    refine ⟨_, _, _, _, ewr hr, (mw_put hp hw).trans (e146 hr), ?_, ?_⟩
    · rw [if_neg n2, if_neg n25, if_neg n27, if_neg n2, if_neg n25, if_neg n27, if_pos h28, if_neg n2, if_neg n25, if_neg n27]
      obtain ⟨h1, h2, h3, h4, h5, h6⟩ := h
      exact ⟨h1, regs_put h2, h3, h4, h5, h6⟩
    · rw [if_neg n2, if_neg n25, if_neg n27, if_neg n2, if_neg n25, if_neg n27, if_pos h28, if_neg n2, if_neg n25, if_neg n27]
      exact ⟨fun _ _ => rfl, ⟨rfl, rfl, rfl⟩, fun _ _ => rfl, rfl⟩
  · refine ⟨_, _, _, _, ewr hr, (mw_no hr hp).trans (e146 hr), ?_, ?_⟩
    · by_cases h2 : r = 2
      · rw [if_pos h2, if_pos h2, if_pos h2]
        exact goOn_rel h
      · rw [if_neg h2, if_neg h2, if_neg h2]
        by_cases h25 : r = 25
        · rw [if_pos h25, if_pos h25, if_pos h25]
          exact begin_rel h
        · rw [if_neg h25, if_neg h25, if_neg h25]
          by_cases h27 : r = 27
          · rw [if_pos h27, if_pos h27, if_pos h27]
            obtain ⟨h1, h2, h3, h4, h5, h6⟩ := h
            refine ⟨⟨h1.1, h1.2.1, ?_, h1.2.2.2⟩, h2, h3, h4, h5, h6⟩
            show S 2 &&& _ = T 2 &&& _
            rw [h1.2.2.1]
          · rw [if_neg h27, if_neg h27, if_neg h27, if_neg (show ¬ r < 28 from fun z => hp ⟨z, h2, h25, h27⟩)]
            exact h
    · have u : ∀ {f : SS} {k : Nat} {x : Int32} {j : Nat}, k < 18 → 18 ≤ j → upd f k x j = f j := fun hk hj => upd_n (by omega)
      by_cases h2 : r = 2
      · rw [if_pos h2, if_pos h2, if_pos h2]
        exact ⟨fun k hk => by rw [u (by decide) hk, u (by decide) hk, u (by decide) hk, u (by decide) hk], ⟨rfl, rfl, rfl⟩, fun k hk => by rw [u (by decide) hk, u (by decide) hk, u (by decide) hk, u (by decide) hk], rfl⟩
      · rw [if_neg h2, if_neg h2, if_neg h2]
        by_cases h25 : r = 25
        · rw [if_pos h25, if_pos h25, if_pos h25]
          exact ⟨fun k hk => by rw [u (by decide) hk, u (by decide) hk, u (by decide) hk, u (by decide) hk, u (by decide) hk, u (by decide) hk, u (by decide) hk, u (by decide) hk, u (by decide) hk], ⟨rfl, rfl, rfl⟩, fun k hk => by rw [u (by decide) hk, u (by decide) hk, u (by decide) hk, u (by decide) hk, u (by decide) hk, u (by decide) hk, u (by decide) hk, u (by decide) hk, u (by decide) hk], rfl⟩
        · rw [if_neg h25, if_neg h25, if_neg h25]
          by_cases h27 : r = 27
          · rw [if_pos h27, if_pos h27, if_pos h27]
            exact ⟨fun k hk => u (by decide) hk, ⟨rfl, rfl, rfl⟩, fun k hk => u (by decide) hk, rfl⟩
          · rw [if_neg h27, if_neg h27, if_neg h27, if_neg (show ¬ r < 28 from fun z => hp ⟨z, h2, h25, h27⟩)]
            exact ⟨fun _ _ => rfl, ⟨rfl, rfl, rfl⟩, fun _ _ => rfl, rfl⟩
