/-! The pure side: what the functions answer on numbers in range. -/
def lt32 (x : Int32) (n : Nat) : Prop := ∃ k, k < n ∧ x = nI k
theorem an_k {k : Nat} (b : Nat) {m : Int32} (hm : m.toBitVec.toNat = 2 ^ b - 1) (h : k < 2 ^ b) (hb : b ≤ 31) : nI k &&& m = nI k := by
  have h2 : (2 : Nat) ^ b ≤ 2 ^ 31 := Nat.pow_le_pow_right (by omega) hb
  rw [pk_andN (by omega) b hm, Nat.mod_eq_of_lt h]
theorem an_255 {k : Nat} (h : k < 256) : nI k &&& (255 : Int32) = nI k := an_k 8 (by decide) h (by decide)
theorem an_65535 {k : Nat} (h : k < 65536) : nI k &&& (65535 : Int32) = nI k := an_k 16 (by decide) h (by decide)
theorem an_lt {x : Int32} (b : Nat) {m : Int32} (hm : m.toBitVec.toNat = 2 ^ b - 1) : lt32 (x &&& m) (2 ^ b) := by
  obtain ⟨j, h1, h2⟩ := pk_andE x b hm
  exact ⟨j, h1, h2⟩
theorem lt_255 (x : Int32) : lt32 (x &&& 255) 256 := an_lt 8 (by decide)
theorem lt_65535 (x : Int32) : lt32 (x &&& 65535) 65536 := an_lt 16 (by decide)
theorem gd {k n : Nat} (h : k < n) (hn : n < 2 ^ 31) : ¬ (nI k < 0 ∨ n ≤ (nI k).toNatClampNeg) := nI_in h hn
theorem nl (n : Nat) {x : Int32} (h : x = nI n := by rfl) : x = nI n := h
-- memory
theorem e_Me_at {S : SS} {M : MM} {k : Nat} (h : k < 256) : f_Me_at S M (nI k) = some (M 1 k, S, M) := by
  unfold f_Me_at
  rw [an_255 h, if_neg (gd h (by decide)), nI_clamp (by omega)]
theorem e_Me_put {S : SS} {M : MM} {k : Nat} {v : Int32} (h : k < 256) : f_Me_put S M (nI k) v = some (0, S, upM M 1 (upd (M 1) k (v &&& 65535))) := by
  unfold f_Me_put
  rw [an_255 h, if_neg (gd h (by decide)), nI_clamp (by omega)]
-- registers
theorem e_Re_at {S : SS} {M : MM} {k : Nat} (h : k < 28) : f_Re_at S M (nI k) = some (M 2 k, S, M) := by
  unfold f_Re_at f_Re_at_20
  rw [if_neg (nI_pos (by omega)), if_pos (show nI k < (28 : Int32) from nI_lt (b := 28) h (by decide)), if_neg (gd h (by decide)), nI_clamp (by omega)]
theorem e_Re_put {S : SS} {M : MM} {k : Nat} {v : Int32} (h : k < 28) : f_Re_put S M (nI k) v = some (0, S, upM M 2 (upd (M 2) k (v &&& cbits k))) := by
  unfold f_Re_put f_Re_put_23
  rw [if_neg (nI_pos (by omega)), if_neg (show ¬ (28 : Int32) ≤ nI k from nI_ge (b := 28) h (by decide)), if_neg (gd h (by decide)), if_neg (gd h (by decide)), nI_clamp (by omega)]
theorem e_Re_putN {S : SS} {M : MM} {k : Nat} {v : Int32} (h : 28 ≤ k) (hk : k < 2 ^ 31) : f_Re_put S M (nI k) v = some (0, S, M) := by
  unfold f_Re_put f_Re_put_23
  rw [if_neg (nI_pos hk), if_pos (show (28 : Int32) ≤ nI k from nI_le (a := 28) h hk)]
theorem e_Re_grow {S : SS} {M : MM} {k : Nat} {v : Int32} (h : k < 28) : f_Re_grow S M (nI k) v = some (0, S, upM M 2 (upd (M 2) k ((M 2 k + v) &&& cbits k))) := by
  unfold f_Re_grow f_Re_grow_30
  rw [if_neg (nI_pos (by omega)), if_neg (show ¬ (28 : Int32) ≤ nI k from nI_ge (b := 28) h (by decide)), if_neg (gd h (by decide)), if_neg (gd h (by decide)), if_neg (gd h (by decide)), nI_clamp (by omega)]
theorem e_Re_isOn {S : SS} {M : MM} (x : Int32) : f_Re_isOn S M x = some (if M 2 0 &&& x = 0 then 0 else 1, S, M) := by
  unfold f_Re_isOn f_Re_isOn_16
  by_cases h : M 2 0 &&& x = 0
  · rw [if_pos h, if_pos h]; rfl
  · rw [if_neg h, if_neg h]; rfl
theorem e_Re_request {S : SS} {M : MM} (x : Int32) : f_Re_request S M x = some (0, upd S 2 (S 2 ||| x), M) := rfl
theorem e_Re_enr {S : SS} {M : MM} : f_Re_isEnabledRequested S M = some (if S 2 &&& M 2 26 = 0 then 0 else 1, S, M) := by
  unfold f_Re_isEnabledRequested f_Re_isEnabledRequested_20
  by_cases h : S 2 &&& M 2 26 = 0
  · rw [if_pos h, if_pos h]; rfl
  · rw [if_neg h, if_neg h]; rfl
-- the processor
theorem e_wants {S : SS} {M : MM} : f_Pr_wantsSlot S M = some (if S 19 ≤ 0 then 0 else 1, S, M) := by
  unfold f_Pr_wantsSlot f_Pr_wantsSlot_12
  by_cases h : S 19 ≤ 0
  · rw [if_pos h, if_pos h]; rfl
  · rw [if_neg h, if_neg h]; rfl
theorem e_lostE {S : SS} {M : MM} : f_Pr_hasLostEnough S M = some (if S 20 < 3 then 0 else 1, S, M) := by
  unfold f_Pr_hasLostEnough f_Pr_hasLostEnough_13
  by_cases h : S 20 < 3
  · rw [if_pos h, if_pos h]; rfl
  · rw [if_neg h, if_neg h]; rfl
theorem e_seeMover {S : SS} {M : MM} : f_Pr_seeMoverSlot S M = some (0, upd S 20 (if S 19 ≤ 0 then 0 else S 20 + 1), M) := by
  unfold f_Pr_seeMoverSlot f_Pr_seeMoverSlot_18
  rw [e_wants]
  by_cases h : S 19 ≤ 0
  · simp [h]
  · simp [h]
-- the picture's questions
theorem e_isLine {S : SS} {M : MM} {k : Nat} (h : k < 20) : f_Pi_isLine S M (nI k) = some (if 4 ≤ k ∧ k < 16 then 1 else 0, S, M) := by
  unfold f_Pi_isLine f_Pi_isLine_15 f_Pi_isLine_16
  by_cases h1 : k < 4
  · rw [if_pos (show nI k < (4 : Int32) from nI_lt (b := 4) h1 (by decide)), if_neg (by decide), if_neg (by omega)]
  · rw [if_neg (show ¬ nI k < (4 : Int32) from nI_nlt (b := 4) (by omega) (by omega))]
    by_cases h2 : k < 16
    · rw [if_neg (show ¬ (16 : Int32) ≤ nI k from nI_ge (b := 16) h2 (by decide)), if_neg (by decide), if_pos (by omega)]
    · rw [if_pos (show (16 : Int32) ≤ nI k from nI_le (a := 16) (by omega) (by omega)), if_neg (by decide), if_neg (by omega)]
theorem e_of1 {S : SS} {M : MM} {k : Nat} (h : k < 32) : f_Pi_isFetchClockOf1 S M (nI k) = some (if k = 11 ∨ k = 19 then 1 else 0, S, M) := by
  unfold f_Pi_isFetchClockOf1 f_Pi_isFetchClockOf1_12 f_Pi_isFetchClockOf1_17
  have e1 : (nI k = (11 : Int32)) = (k = 11) := propext (nI_eq (a := k) (b := 11) (by omega) (by decide))
  have e2 : (nI k = (19 : Int32)) = (k = 19) := propext (nI_eq (a := k) (b := 19) (by omega) (by decide))
  simp only [e1, e2]
  by_cases h1 : k = 11
  · subst h1; rfl
  · by_cases h2 : k = 19
    · subst h2; rfl
    · rw [if_neg h1, if_neg h2, if_neg (by decide), if_neg (by omega)]
theorem e_isFetch {S : SS} {M : MM} {i k : Nat} (hi : i < 20) (h : k < 32) : f_Pi_isFetchClock S M (nI i) (nI k) = some (if (4 ≤ i ∧ i < 16) ∧ (k = 11 ∨ k = 19 ∨ k = 15 ∨ k = 23) then 1 else 0, S, M) := by
  unfold f_Pi_isFetchClock f_Pi_isFetchClock_26 f_Pi_isFetchClock_30 f_Pi_isFetchClock_31
  have e1 : (nI k = (15 : Int32)) = (k = 15) := propext (nI_eq (a := k) (b := 15) (by omega) (by decide))
  have e2 : (nI k = (23 : Int32)) = (k = 23) := propext (nI_eq (a := k) (b := 23) (by omega) (by decide))
  rw [e_isLine hi]
  simp only [Option.bind_some, e_of1 h, e1, e2]
  by_cases h0 : 4 ≤ i ∧ i < 16
  · by_cases h1 : k = 11 ∨ k = 19
    · simp [h0, h1]; omega
    · by_cases h2 : k = 15
      · subst h2; simp [h0]
      · by_cases h3 : k = 23
        · subst h3; simp [h0]
        · simp [h0, h1, h2, h3]
  · simp [h0]
-- the reference's questions
theorem e_outside {S : SS} {M : MM} {x lo hi : Int32} : f_Md_outside S M x lo hi = some (if x < lo ∨ ¬ x ≤ hi then 1 else 0, S, M) := by
  unfold f_Md_outside f_Md_outside_10 f_Md_outside_15
  by_cases h1 : x < lo
  · simp [h1]
  · by_cases h2 : x ≤ hi
    · simp [h1, h2]
    · simp [h1, h2]
theorem e_control {S : SS} {M : MM} (x : Int32) : f_Md_control S M x = some (if (M 1 0 >>> (x &&& 31)) &&& 1 = 1 then 1 else 0, S, M) := by
  unfold f_Md_control f_Md_control_19
  by_cases h : (M 1 0 >>> (x &&& 31)) &&& 1 = 1
  · rw [if_pos h, if_pos h]; rfl
  · rw [if_neg h, if_neg h]; rfl
theorem e_used {S : SS} {M : MM} (x : Int32) : f_Md_used S M x = some (if (M 1 10 >>> ((8 + x) &&& 31)) &&& 1 = 1 then 1 else 0, S, M) := by
  unfold f_Md_used f_Md_used_23
  by_cases h : (M 1 10 >>> ((8 + x) &&& 31)) &&& 1 = 1
  · rw [if_pos h, if_pos h]; rfl
  · rw [if_neg h, if_neg h]; rfl
theorem e_isUsed {S : SS} {M : MM} (f x : Int32) : f_Mo_isUsed S M f x = some (if (f >>> ((8 + x) &&& 31)) &&& 1 = 0 then 0 else 1, S, M) := by
  unfold f_Mo_isUsed
  by_cases h : (f >>> ((8 + x) &&& 31)) &&& 1 = 0
  · rw [if_pos h, if_pos h]; rfl
  · rw [if_neg h, if_neg h]; rfl
theorem bit01 (y : Int32) : y &&& 1 = 0 ∨ y &&& 1 = 1 := by
  obtain ⟨j, h1, h2⟩ := pk_andE y (m := 1) 1 (by decide)
  have : j = 0 ∨ j = 1 := by omega
  rcases this with rfl | rfl
  · exact Or.inl h2
  · exact Or.inr h2
theorem bit_eq (y : Int32) : (if y &&& 1 = 1 then (1 : Int32) else 0) = if y &&& 1 = 0 then 0 else 1 := by
  rcases bit01 y with h | h <;> rw [h] <;> decide
theorem ctl1 : ∀ c, c < 16 → ((nI c >>> (((0 : Int32)) &&& 31)) &&& 1 = 1 ↔ ¬ nI c &&& 1 = 0) ∧ ((nI c >>> (((1 : Int32)) &&& 31)) &&& 1 = 1 ↔ ¬ nI c &&& 2 = 0) ∧ ((nI c >>> (((2 : Int32)) &&& 31)) &&& 1 = 1 ↔ ¬ nI c &&& 4 = 0) ∧ ((nI c >>> (((3 : Int32)) &&& 31)) &&& 1 = 1 ↔ ¬ nI c &&& 8 = 0) := by decide +kernel
