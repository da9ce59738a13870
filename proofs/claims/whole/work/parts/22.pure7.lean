/-! Bits, for the mover (the first rows are of the kit's laws to paste). -/
theorem nx_and (a b : Nat) : nI a &&& nI b = nI (a &&& b) := by
  apply Int32.toBitVec_inj.1
  show BitVec.ofNat 32 a &&& BitVec.ofNat 32 b = BitVec.ofNat 32 (a &&& b)
  apply BitVec.eq_of_getLsbD_eq
  intro i hi
  simp [hi]
theorem u_tn {n : Nat} (h : n < 2 ^ 64) : (UInt64.ofNat n).toNat = n := Nat.mod_eq_of_lt h
theorem g_or {k p a b : Nat} (hp : 2 ^ k = p) (ha : a < p) (h : b * p + a < 2 ^ 64) : lN (b * p) ||| lN a = lN (b * p + a) := by
  subst hp
  have h1 : b * 2 ^ k ||| a = b * 2 ^ k + a := by rw [← Nat.shiftLeft_eq, Nat.shiftLeft_add_eq_or_of_lt ha]
  have h3 : UInt64.ofNat (b * 2 ^ k) ||| UInt64.ofNat a = UInt64.ofNat (b * 2 ^ k + a) := UInt64.toNat_inj.mp (by rw [UInt64.toNat_or, u_tn (by omega), u_tn (by omega), u_tn h, h1])
  have h2 := congrArg UInt64.toInt64 h3
  exact h2
theorem g_shl {a k p : Nat} {y : Int64} (hy : y.toBitVec.smod 64 = BitVec.ofNat 64 k) (hk : k < 64) (hp : 2 ^ k = p) (ha : a < 2 ^ 64) : lN a <<< y = lN (a * p) := by
  subst hp
  apply Int64.toBitVec_inj.mp
  rw [Int64.toBitVec_shiftLeft, hy]
  apply BitVec.eq_of_toNat_eq
  have hb : (lN a).toBitVec.toNat = a := Nat.mod_eq_of_lt ha
  have hk' : (BitVec.ofNat 64 k).toNat = k := Nat.mod_eq_of_lt (by omega)
  have h : ((lN a).toBitVec <<< BitVec.ofNat 64 k).toNat = (a * 2 ^ k) % 2 ^ 64 := by simp only [BitVec.shiftLeft_eq', BitVec.toNat_shiftLeft, hb, hk', Nat.shiftLeft_eq]
  exact h
theorem pf_lI {a : Nat} (h : a < 2 ^ 63) : (lN a).toInt = (a : Int) := lg_ofNat_toInt h
theorem pf_shr {a d : Nat} {D : Int64} (hD : (D.toBitVec.smod 64).toNat = d) (h : a < 2 ^ 62) : lN a >>> D = lN (a / 2 ^ d) := by
  have hd : a / 2 ^ d ≤ a := Nat.div_le_self _ _
  apply Int64.toInt_inj.mp
  have e : (lN a >>> D).toInt = (lN a).toInt >>> d := by
    rw [← hD]
    exact BitVec.toInt_sshiftRight ..
  rw [e, Int.shiftRight_eq_div_pow, pf_lI (by omega), pf_lI (by omega)]
  rfl
theorem nx_or (a b : Nat) : nI a ||| nI b = nI (a ||| b) := by
  apply Int32.toBitVec_inj.1
  show BitVec.ofNat 32 a ||| BitVec.ofNat 32 b = BitVec.ofNat 32 (a ||| b)
  apply BitVec.eq_of_getLsbD_eq
  intro i hi
  simp [hi]
theorem sl_d : ∀ n, n < 32 → ((nI n &&& 31).toBitVec.smod 32).toNat = n := by decide +kernel
theorem su_d : ∀ n, n < 32 → (((nI n).toUInt32 &&& Int32.toUInt32 31).toBitVec % 32).toNat = n := by decide +kernel
theorem sm_d : ∀ n, n < 32 → (((nI n).toInt64 &&& 63).toBitVec.smod 64).toNat = n := by decide +kernel
theorem or_add {p a : Nat} (ha : a < 65536) : p * 65536 ||| a = p * 65536 + a := by
  have h : p <<< 16 + a = p <<< 16 ||| a := Nat.shiftLeft_add_eq_or_of_lt (i := 16) ha p
  rw [Nat.shiftLeft_eq] at h
  exact h.symm
theorem shC {p a s : Nat} (hp : p < 65536) (ha : a < 65536) (hs : s < 16) : ((((nI p <<< ((16 : Int32) &&& 31)) ||| nI a).toUInt32 >>> ((nI s).toUInt32 &&& Int32.toUInt32 31)).toInt32) &&& (65535 : Int32) = nI ((p * 65536 + a) / 2 ^ s % 65536) := by
  have hd : (p * 65536 + a) / 2 ^ s ≤ p * 65536 + a := Nat.div_le_self _ _
  rw [pk_shlN (n := p) _ 16 (by decide) (by omega), nx_or, show p * 2 ^ 16 ||| a = p * 65536 + a from or_add ha, pk_ushrN (by omega) _ s (su_d s (by omega)), pk_andN (by omega) 16 (by decide)]
theorem shM {p a s : Nat} (hp : p < 65536) (ha : a < 65536) (hs : s < 16) : (((((nI p).toInt64 <<< ((16 : Int32).toInt64 &&& 63)) ||| (nI a).toInt64) >>> ((nI s).toInt64 &&& 63)).toInt32) &&& (65535 : Int32) = nI ((p * 65536 + a) / 2 ^ s % 65536) := by
  have hd : (p * 65536 + a) / 2 ^ s ≤ p * 65536 + a := Nat.div_le_self _ _
  rw [nI_l (by omega), nI_l (by omega), g_shl (k := 16) (p := 65536) (by decide) (by decide) (by decide) (by omega), g_or (k := 16) (by decide) ha (by omega), pf_shr (sm_d s (by omega)) (by omega), lN_i, pk_andN (by omega) 16 (by decide)]
theorem and_lt {a : Nat} {y : Int32} (h : a < 65536) : lt32 (nI a &&& y) 65536 := by
  have e : y = nI y.toBitVec.toNat := by
    apply Int32.toBitVec_inj.1
    show y.toBitVec = BitVec.ofNat 32 y.toBitVec.toNat
    simp
  rw [e, nx_and]
  exact ⟨_, Nat.lt_of_le_of_lt Nat.and_le_left h, rfl⟩
-- which channel is next
def bz (f : Int32) (k : Nat) : Prop := (f >>> (((8 : Int32) + nI k) &&& 31)) &&& 1 = 0
theorem bz_dec (f : Int32) (k : Nat) : bz f k ∨ ¬ bz f k := Classical.em _
noncomputable def nu (f : Int32) : Nat → Nat → Nat
  | 0, k => k
  | n + 1, k => @ite _ (4 ≤ k) (Classical.propDecidable _) 4 (@ite _ (bz f k) (Classical.propDecidable _) (nu f n (k + 1)) k)
theorem nu_4 {f : Int32} {n k : Nat} (h : 4 ≤ k) : nu f (n + 1) k = 4 := by
  unfold nu; exact if_pos h
theorem nu_z {f : Int32} {n k : Nat} (h : ¬ 4 ≤ k) (hz : bz f k) : nu f (n + 1) k = nu f n (k + 1) := by
  rw [nu, if_neg h, if_pos hz]
theorem nu_u {f : Int32} {n k : Nat} (h : ¬ 4 ≤ k) (hz : ¬ bz f k) : nu f (n + 1) k = k := by
  rw [nu, if_neg h, if_neg hz]
theorem nu_le {f : Int32} : ∀ (n k : Nat), k ≤ 5 → 5 ≤ n + k → nu f (n + 1) k ≤ 4 := by
  intro n
  induction n with
  | zero =>
    intro k h1 h2
    rw [nu_4 (by omega)]
    exact Nat.le_refl _
  | succ n ih =>
    intro k h1 h2
    by_cases h : 4 ≤ k
    · rw [nu_4 h]; exact Nat.le_refl _
    · by_cases hz : bz f k
      · rw [nu_z h hz]; exact ih (k + 1) (by omega) (by omega)
      · rw [nu_u h hz]; omega
theorem nu_ge {f : Int32} : ∀ (n k : Nat), k ≤ 4 → k ≤ nu f (n + 1) k := by
  intro n
  induction n with
  | zero =>
    intro k h1
    by_cases h : 4 ≤ k
    · rw [nu_4 h]; exact h1
    · by_cases hz : bz f k
      · rw [nu_z h hz]; unfold nu; omega
      · rw [nu_u h hz]; exact Nat.le_refl _
  | succ n ih =>
    intro k h1
    by_cases h : 4 ≤ k
    · rw [nu_4 h]; exact h1
    · by_cases hz : bz f k
      · rw [nu_z h hz]
        have := ih (k + 1) (by omega)
        omega
      · rw [nu_u h hz]; exact Nat.le_refl _
theorem e_isUsedZ {S : SS} {M : MM} {f : Int32} {k : Nat} (h : bz f k) : f_Mo_isUsed S M f (nI k) = some (0, S, M) := by
  unfold bz at h
  rw [e_isUsed, if_pos h]
theorem e_isUsedN {S : SS} {M : MM} {f : Int32} {k : Nat} (h : ¬ bz f k) : f_Mo_isUsed S M f (nI k) = some (1, S, M) := by
  unfold bz at h
  rw [e_isUsed, if_neg h]
theorem e_usedZ {T : SS} {N : MM} {k : Nat} (h : bz (N 1 10) k) : f_Md_used T N (nI k) = some (0, T, N) := by
  unfold bz at h
  rw [e_used, bit_eq, if_pos h]
theorem e_usedN {T : SS} {N : MM} {k : Nat} (h : ¬ bz (N 1 10) k) : f_Md_used T N (nI k) = some (1, T, N) := by
  unfold bz at h
  rw [e_used, bit_eq, if_neg h]
theorem uf_n {S : SS} {M : MM} {f x1 : Int32} : ∀ (n k : Nat), k ≤ 5 → 5 ≤ n + k → f_Mo_usedFrom_2 (n + 1) S M f x1 (nI k) = some (nI (nu f (n + 1) k), S, M) := by
  intro n
  induction n with
  | zero =>
    intro k h1 h2
    show f_Mo_usedFrom_2_b _ S M f x1 (nI k) = _
    unfold f_Mo_usedFrom_2_b
    rw [if_pos (show (4 : Int32) ≤ nI k from nI_le (a := 4) (by omega) (by omega)), nu_4 (by omega)]
    rfl
  | succ n ih =>
    intro k h1 h2
    show f_Mo_usedFrom_2_b (f_Mo_usedFrom_2 (n + 1)) S M f x1 (nI k) = _
    unfold f_Mo_usedFrom_2_b
    by_cases h : 4 ≤ k
    · rw [if_pos (show (4 : Int32) ≤ nI k from nI_le (a := 4) h (by omega)), nu_4 h]
      rfl
    · rw [if_neg (show ¬ (4 : Int32) ≤ nI k from nI_ge (b := 4) (by omega) (by decide))]
      by_cases hz : bz f k
      · rw [e_isUsedZ hz, nu_z h hz, ← ih (k + 1) (by omega) (by omega)]
        simp only [Option.bind_some, ↓reduceIte]
        rw [show nI k + (1 : Int32) = nI (k + 1) from nI_1 k]
      · rw [e_isUsedN hz, nu_u h hz]
        simp only [Option.bind_some]
        rw [if_neg (show ¬ (1 : Int32) = 0 by decide)]
theorem e_usedFrom {S : SS} {M : MM} {f : Int32} {k : Nat} (h : k ≤ 5) : f_Mo_usedFrom S M f (nI k) = some (nI (nu f 6 k), S, M) := uf_n 5 k h (by omega)
theorem nx_n {T : SS} {N : MM} {x1 : Int32} : ∀ (n k : Nat), k ≤ 4 → 4 ≤ n + k → f_Md_nextUsed_2 (n + 1) T N x1 (nI k) = some (nI (nu (N 1 10) (n + 1) k), T, N) := by
  intro n
  induction n with
  | zero =>
    intro k h1 h2
    show f_Md_nextUsed_2_b _ T N x1 (nI k) = _
    unfold f_Md_nextUsed_2_b f_Md_nextUsed_21
    rw [if_pos (show (4 : Int32) ≤ nI k from nI_le (a := 4) (by omega) (by omega)), nu_4 (by omega), show k = 4 by omega]
  | succ n ih =>
    intro k h1 h2
    show f_Md_nextUsed_2_b (f_Md_nextUsed_2 (n + 1)) T N x1 (nI k) = _
    unfold f_Md_nextUsed_2_b f_Md_nextUsed_21
    by_cases h : 4 ≤ k
    · rw [if_pos (show (4 : Int32) ≤ nI k from nI_le (a := 4) h (by omega)), nu_4 h, show k = 4 by omega]
    · rw [if_neg (show ¬ (4 : Int32) ≤ nI k from nI_ge (b := 4) (by omega) (by decide))]
      by_cases hz : bz (N 1 10) k
      · rw [e_usedZ hz, nu_z h hz, ← ih (k + 1) (by omega) (by omega)]
        simp only [Option.bind_some, ↓reduceIte]
        rw [show nI k + (1 : Int32) = nI (k + 1) from nI_1 k]
      · rw [e_usedN hz, nu_u h hz]
        simp only [Option.bind_some]
        rw [if_neg (show ¬ (1 : Int32) = 0 by decide)]
theorem e_nextUsed {T : SS} {N : MM} {k : Nat} (h : k ≤ 4) : f_Md_nextUsed T N (nI k) = some (nI (nu (N 1 10) 6 k), T, N) := nx_n 5 k h (by omega)
-- the words of a channel
theorem wordOf_both {S T : SS} {M N : MM} {k : Nat} (hk : k < 3) (hr : RRegs (M 2) (N 1)) (hf : ∀ j, j < 3 → M 7 j = N 7 j ∧ lt32 (M 7 j) 65536) : ∃ w, w < 65536 ∧ f_Mo_wordOf S M (nI k) (M 2 10) = some (nI w, S, M) ∧ f_Md_wordOf T N (nI k) = some (nI w, T, N) := by
  have hF : M 2 10 = N 1 10 := (hr 10 (by decide)).1
  have hcl : (nI k).toNatClampNeg = k := nI_clamp (by omega)
  have e22 : (22 : Int32) + nI k = nI (22 + k) := nI_add 22 k
  by_cases hz : bz (M 2 10) k
  · obtain ⟨e, w, hw, ew⟩ := hr (22 + k) (by omega)
    have hw : w < 65536 := by
      have : k = 0 ∨ k = 1 ∨ k = 2 := by omega
      rcases this with rfl | rfl | rfl <;> exact hw
    refine ⟨w, hw, ?_, ?_⟩
    · unfold f_Mo_wordOf f_Mo_wordOf_25
      rw [e_isUsedZ hz]
      simp only [Option.bind_some, ↓reduceIte]
      rw [e22, e_Re_at (by omega)]
      simp only [Option.bind_some]
      rw [ew]
    · unfold f_Md_wordOf f_Md_wordOf_26
      rw [e_usedZ (hF ▸ hz)]
      simp only [Option.bind_some, ↓reduceIte]
      rw [e22, if_neg (gd (by omega) (by decide)), nI_clamp (by omega), ← e, ew]
  · obtain ⟨e, w, hw, ew⟩ := hf k hk
    refine ⟨w, hw, ?_, ?_⟩
    · unfold f_Mo_wordOf f_Mo_wordOf_25
      rw [e_isUsedN hz]
      simp only [Option.bind_some]
      rw [if_neg (show ¬ (1 : Int32) = 0 by decide), if_neg (gd hk (by decide)), hcl, ew]
    · unfold f_Md_wordOf f_Md_wordOf_26
      rw [e_usedN (hF ▸ hz)]
      simp only [Option.bind_some]
      rw [if_neg (show ¬ (1 : Int32) = 0 by decide), if_neg (gd (show k < 4 by omega) (by decide)), hcl, ← e, ew]
-- the combined word
def term1 (F x y z : Int32) (i : Int32) : Int32 := ((F >>> (((((4 : Int32) * ((x >>> (i &&& 31)) &&& (1 : Int32))) + ((2 : Int32) * ((y >>> (i &&& 31)) &&& (1 : Int32)))) + ((z >>> (i &&& 31)) &&& (1 : Int32))) &&& 31)) &&& (1 : Int32)) <<< (i &&& 31)
def CB (F x y z : Int32) : Nat → Int32 → Int32
  | 0, acc => acc
  | m + 1, acc => CB F x y z m (acc ||| term1 F x y z (nI (15 - m)))
theorem term1_lt {F x y z : Int32} {i : Nat} (hi : i < 16) : lt32 (term1 F x y z (nI i)) 65536 := by
  unfold term1
  obtain ⟨b, hb, e⟩ := pk_andE (F >>> (((((4 : Int32) * ((x >>> (nI i &&& 31)) &&& (1 : Int32))) + ((2 : Int32) * ((y >>> (nI i &&& 31)) &&& (1 : Int32)))) + ((z >>> (nI i &&& 31)) &&& (1 : Int32))) &&& 31)) (m := 1) 1 (by decide)
  have hp : (2 : Nat) ^ i ≤ 2 ^ 15 := Nat.pow_le_pow_right (by decide) (by omega)
  have hm : b * 2 ^ i ≤ 1 * 2 ^ 15 := Nat.mul_le_mul (by omega) hp
  rw [e, pk_shlN _ i (sl_d i (by omega)) (by omega)]
  exact ⟨_, by omega, rfl⟩
theorem CB_lt {F x y z : Int32} : ∀ (m : Nat) (acc : Int32), m ≤ 16 → lt32 acc 65536 → lt32 (CB F x y z m acc) 65536 := by
  intro m
  induction m with
  | zero => intro acc _ h; exact h
  | succ m ih =>
    intro acc hm h
    refine ih _ (by omega) ?_
    obtain ⟨a, ha, ea⟩ := h
    obtain ⟨b, hb, eb⟩ := term1_lt (F := F) (x := x) (y := y) (z := z) (i := 15 - m) (by omega)
    rw [ea, eb, nx_or]
    exact ⟨_, Nat.or_lt_two_pow (n := 16) ha hb, rfl⟩
theorem cb_c {S : SS} {M : MM} {F x y z : Int32} : ∀ (m n : Nat) (acc : Int32), m ≤ 16 → m < n → f_Mo_combined_6 n S M F x y z acc (nI (16 - m)) = some (CB F x y z m acc, S, M) := by
  intro m
  induction m with
  | zero =>
    intro n acc _ hn
    obtain ⟨n, rfl⟩ : ∃ q, n = q + 1 := ⟨n - 1, by omega⟩
    show f_Mo_combined_6_b _ S M F x y z acc (nI 16) = _
    unfold f_Mo_combined_6_b
    rw [if_pos (show (16 : Int32) ≤ nI 16 from nI_le (a := 16) (Nat.le_refl _) (by decide))]
    rfl
  | succ m ih =>
    intro n acc hm hn
    obtain ⟨n, rfl⟩ : ∃ q, n = q + 1 := ⟨n - 1, by omega⟩
    show f_Mo_combined_6_b (f_Mo_combined_6 n) S M F x y z acc (nI (16 - (m + 1))) = _
    unfold f_Mo_combined_6_b
    rw [if_neg (show ¬ (16 : Int32) ≤ nI (16 - (m + 1)) from nI_ge (b := 16) (by omega) (by decide)), show nI (16 - (m + 1)) + (1 : Int32) = nI (16 - m) by rw [show nI (16 - (m + 1)) + (1 : Int32) = nI (16 - (m + 1) + 1) from nI_1 _]; congr 1; omega, ih n _ (by omega) (by omega)]
    rw [show 16 - (m + 1) = 15 - m by omega]
    rfl
theorem e_combined {S : SS} {M : MM} {F x y z : Int32} : f_Mo_combined S M F x y z = some (CB F x y z 16 0, S, M) := cb_c 16 20 0 (by decide) (by decide)
theorem cb_m {T : SS} {N : MM} {x1 x2 x3 x y z : Int32} : ∀ (m n : Nat) (acc : Int32), m ≤ 16 → m < n → f_Md_move_210 n T N x1 x2 x3 x y z acc (nI (16 - m)) = (if CB (N 1 10) x y z m acc = 0 then f_Md_move_282 T N x1 x2 x3 x y z (CB (N 1 10) x y z m acc) (nI 16) else f_Md_move_282 (upd T 10 0) N x1 x2 x3 x y z (CB (N 1 10) x y z m acc) (nI 16)) := by
  intro m
  induction m with
  | zero =>
    intro n acc _ hn
    obtain ⟨n, rfl⟩ : ∃ q, n = q + 1 := ⟨n - 1, by omega⟩
    show f_Md_move_210_b _ T N x1 x2 x3 x y z acc (nI 16) = _
    unfold f_Md_move_210_b
    rw [if_pos (show (16 : Int32) ≤ nI 16 from nI_le (a := 16) (Nat.le_refl _) (by decide))]
    rfl
  | succ m ih =>
    intro n acc hm hn
    obtain ⟨n, rfl⟩ : ∃ q, n = q + 1 := ⟨n - 1, by omega⟩
    show f_Md_move_210_b (f_Md_move_210 n) T N x1 x2 x3 x y z acc (nI (16 - (m + 1))) = _
    unfold f_Md_move_210_b
    rw [if_neg (show ¬ (16 : Int32) ≤ nI (16 - (m + 1)) from nI_ge (b := 16) (by omega) (by decide)), show nI (16 - (m + 1)) + (1 : Int32) = nI (16 - m) by rw [show nI (16 - (m + 1)) + (1 : Int32) = nI (16 - (m + 1) + 1) from nI_1 _]; congr 1; omega, ih n _ (by omega) (by omega)]
    rw [show 16 - (m + 1) = 15 - m by omega]
    rfl
