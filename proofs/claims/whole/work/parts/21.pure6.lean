/-! A word for the list. -/
theorem ua {f : Nat → Int32} {k j : Nat} {x : Int32} : upd f k x j = if j = k then x else f j := rfl
theorem rem2 {k : Nat} (h : k < 2 ^ 31) : nI k - nI k / (2 : Int32) * (2 : Int32) = nI (k % 2) := pk_rem (d := 2) h (by decide) (by decide)
theorem and1 {k : Nat} (h : k < 2 ^ 32) : nI k &&& (1 : Int32) = nI (k % 2) := pk_andN h 1 (by decide)
theorem mreg {fw : Nat} (h : fw < 65536) : (nI fw >>> ((1 : Int32) &&& 31)) &&& (31 : Int32) = nI (fw / 2 % 32) := by
  rw [pk_shrN (by omega) _ 1 (by decide), pk_andN (by omega) 5 (by decide)]
theorem proc_kp {S S' T T' : SS} {M M' N N' : MM} (k : Kp S S' M M' T T' N N') (h7 : RProc (S 18) (S 19) (S 20) (S 21) (S 22) (M 8) (M 9) (M 10) (T 18) (T 19) (T 20) (T 21) (N 8)) : RProc (S' 18) (S' 19) (S' 20) (S' 21) (S' 22) (M' 8) (M' 9) (M' 10) (T' 18) (T' 19) (T' 20) (T' 21) (N' 8) := by
  obtain ⟨k1, ⟨k2, k3, k4⟩, k5, k6⟩ := k
  rw [k1 18 (by decide), k1 19 (by decide), k1 20 (by decide), k1 21 (by decide), k1 22 (by decide), k2, k3, k4, k5 18 (by decide), k5 19 (by decide), k5 20 (by decide), k5 21 (by decide), k6]
  exact h7
def l1 (S : SS) (a : Nat) : SS := upd S 4 ((nI a + 1) &&& 255)
theorem ff_A {S : SS} {M : MM} {a : Nat} (ha : a < 256) (h4 : S 4 = nI a) (h7 : S 7 = 0) : f_Bd_fetchForList S M = some (0, upd (upd (l1 S a) 7 1) 5 (M 1 a), M) := by
  unfold f_Bd_fetchForList f_Bd_fetchForList_42
  rw [h4, e_Me_at ha]
  simp only [Option.bind_some]
  unfold f_Li_takeWord f_Li_takeWord_27
  simp only [ua, h4, h7, Nat.reduceEqDiff, ↓reduceIte, or_true, true_or, not_true_eq_false]
  rw [if_neg (show ¬ (1 : Int32) = 0 by decide)]
  rfl
/-- the second word: what the class does with it, the state with halfway and leavesMoveOut put back being S3 -/
theorem ff_B {S : SS} {M : MM} {a : Nat} (ha : a < 256) (h4 : S 4 = nI a) (h7 : S 7 = 1) : f_Bd_fetchForList S M = (if S 5 &&& 1 = 0 then (if S 8 = 0 then (if (S 5 >>> ((1 : Int32) &&& 31)) &&& 31 ≤ 2 then some (0, upd (upd (l1 S a) 7 0) 8 0, M) else (f_Bd_writeRegister (upd (upd (l1 S a) 7 0) 8 0) M ((S 5 >>> ((1 : Int32) &&& 31)) &&& 31) (M 1 a)).bind (fun q4 => some (0, q4.2.1, q4.2.2))) else some (0, upd (upd (l1 S a) 7 0) 8 0, M))
    else if M 1 a &&& 1 = 0 then some (0, upd (upd (upd (upd (l1 S a) 7 0) 8 0) 6 ((S 5 >>> ((3 : Int32) &&& 31)) &&& 1023)) 3 2, M) else some (0, upd (upd (upd (upd (l1 S a) 7 0) 8 0) 6 ((S 5 >>> ((3 : Int32) &&& 31)) &&& 1023)) 8 (if S 0 < (S 5 >>> ((3 : Int32) &&& 31)) &&& 1023 then 0 else 1), M)) := by
  unfold f_Bd_fetchForList f_Bd_fetchForList_42
  rw [h4, e_Me_at ha]
  simp only [Option.bind_some]
  unfold f_Li_takeWord f_Li_takeWord_27
  simp only [ua, h4, h7, Nat.reduceEqDiff, ↓reduceIte, or_true, true_or, not_true_eq_false]
  rw [if_neg (show ¬ (1 : Int32) = 0 by decide)]
  by_cases h5 : S 5 &&& 1 = 0
  · rw [if_pos h5, if_pos h5]
    by_cases h8 : S 8 = 0
    · rw [if_pos h8, if_pos h8]
      unfold f_Li_movedRegister
      simp only [Option.bind_some, ua, Nat.reduceEqDiff, ↓reduceIte]
      by_cases hr : (S 5 >>> ((1 : Int32) &&& 31)) &&& 31 ≤ 2
      · rw [if_pos hr, if_pos hr]
        unfold f_Li_takeWord_79 f_Li_takeWord_80
        rw [if_neg (show ¬ ¬ ((0 : Int32) = 0 ∨ (0 : Int32) = 1) by decide)]
        rfl
      · rw [if_neg hr, if_neg hr]
        unfold f_Li_takeWord_80
        rw [if_neg (show ¬ ¬ ((1 : Int32) = 0 ∨ (1 : Int32) = 1) by decide)]
        simp only [Option.bind_some, ua, Nat.reduceEqDiff, ↓reduceIte]
        rw [if_neg (show ¬ (1 : Int32) = 0 by decide)]
        rfl
    · rw [if_neg h8, if_neg h8]
      unfold f_Li_takeWord_79 f_Li_takeWord_80
      rw [if_neg (show ¬ ¬ ((0 : Int32) = 0 ∨ (0 : Int32) = 1) by decide)]
      rfl
  · rw [if_neg h5, if_neg h5]
    unfold f_Li_waitOrSkip f_Li_waitOrSkip_45 f_Li_waitOrSkip_42 f_Li_waitOrSkip_45
    simp only [ua, Nat.reduceEqDiff, ↓reduceIte, or_true, true_or, not_true_eq_false]
    by_cases hx : M 1 a &&& 1 = 0
    · rw [if_pos hx, if_pos hx]
      rfl
    · rw [if_neg hx, if_neg hx]
      by_cases hb : S 0 < (S 5 >>> ((3 : Int32) &&& 31)) &&& 1023
      · rw [if_pos hb, if_pos hb]
        rfl
      · rw [if_neg hb, if_neg hb]
        rfl
/-- the same of the reference -/
theorem fl_A {T : SS} {N : MM} {a : Nat} (ha : a < 256) (h4 : T 4 = nI a) (h6 : T 6 = 0) : f_Md_fetchList T N = some (0, upd (upd (l1 T a) 5 (N 0 a)) 6 1, N) := by
  have g := gd ha (show 256 < 2 ^ 31 by decide)
  have hcl : (nI a).toNatClampNeg = a := nI_clamp (by omega)
  unfold f_Md_fetchList
  rw [h4, if_neg g, hcl]
  simp only [ua, h6, Nat.reduceEqDiff, ↓reduceIte]
  rfl
theorem fl_B {T : SS} {N : MM} {a : Nat} (ha : a < 256) (h4 : T 4 = nI a) (h6 : T 6 = 1) : f_Md_fetchList T N = (if T 5 - T 5 / 2 * 2 = 0 then (if T 7 = 0 then (if (T 5 >>> ((1 : Int32) &&& 31)) &&& 31 ≤ 2 then some (0, upd (upd (l1 T a) 6 0) 7 0, N) else (f_Md_write (upd (upd (l1 T a) 6 0) 7 0) N ((T 5 >>> ((1 : Int32) &&& 31)) &&& 31) (N 0 a)).bind (fun q4 => some (0, q4.2.1, q4.2.2))) else some (0, upd (upd (l1 T a) 6 0) 7 0, N))
    else if N 0 a - N 0 a / 2 * 2 = 0 then some (0, upd (upd (upd (upd (l1 T a) 6 0) 7 0) 3 2) 8 ((T 5 >>> ((3 : Int32) &&& 31)) &&& 1023), N) else some (0, upd (upd (upd (l1 T a) 6 0) 7 0) 7 (if T 0 < (T 5 >>> ((3 : Int32) &&& 31)) &&& 1023 then 0 else 1), N)) := by
  have g := gd ha (show 256 < 2 ^ 31 by decide)
  have hcl : (nI a).toNatClampNeg = a := nI_clamp (by omega)
  unfold f_Md_fetchList f_Md_fetchList_91 f_Md_fetchList_138 f_Md_fetchList_141
  rw [h4, if_neg g, hcl]
  simp only [ua, h6, Nat.reduceEqDiff, ↓reduceIte, or_true, true_or, not_true_eq_false]
  rw [if_neg (show ¬ (1 : Int32) = 0 by decide)]
  by_cases h5 : T 5 - T 5 / 2 * 2 = 0
  · rw [if_pos h5, if_pos h5]
    by_cases h7 : T 7 = 0
    · rw [if_pos h7, if_pos h7]
      by_cases hr : (T 5 >>> ((1 : Int32) &&& 31)) &&& 31 ≤ 2
      · rw [if_pos hr, if_pos hr]; rfl
      · rw [if_neg hr, if_neg hr]; rfl
    · rw [if_neg h7, if_neg h7]; rfl
  · rw [if_neg h5, if_neg h5]
    by_cases hx : N 0 a - N 0 a / 2 * 2 = 0
    · rw [if_pos hx, if_pos hx]; rfl
    · rw [if_neg hx, if_neg hx]
      by_cases hb : T 0 < (T 5 >>> ((3 : Int32) &&& 31)) &&& 1023
      · rw [if_pos hb, if_pos hb]; rfl
      · rw [if_neg hb, if_neg hb]; rfl
theorem list_rel {c : Gh} {S T : SS} {M N : MM} (hs : S 3 = 1) (h : Rel c S M T N) : ∃ S' M' T' N', f_Bd_fetchForList S M = some (0, S', M') ∧ f_Md_fetchList T N = some (0, T', N') ∧ Rel c S' M' T' N' := by
  have h' := h
  obtain ⟨h1, h2, h3, h4, h5, h6, h7⟩ := h'
  obtain ⟨l3, l4, ⟨a, ha, ea⟩, l5, ⟨fw, hfw, efw⟩, l6, l7, l8, b7, b8⟩ := h5
  obtain ⟨em, wv, hwv, ewv⟩ := h3 a ha
  have la : lt32 ((nI a + 1) &&& 255) 256 := lt_255 _
  rcases b7 with z7 | z7
  · refine ⟨_, _, _, _, ff_A ha ea z7, fl_A ha (l4.symm.trans ea) (l7.symm.trans z7), ?_⟩
    exact ⟨h1, h2, h3, h4, ⟨l3, rfl, la, em, ⟨wv, hwv, ewv⟩, l6, rfl, l8, Or.inr rfl, b8⟩, h6, h7⟩
  · have base : RelA c (upd (upd (l1 S a) 7 0) 8 0) M (upd (upd (l1 T a) 6 0) 7 0) N := ⟨h1, h2, h3, h4, ⟨l3, rfl, la, l5, ⟨fw, hfw, efw⟩, l6, rfl, rfl, Or.inl rfl, Or.inl rfl⟩, h6⟩
    rw [ff_B ha ea z7, fl_B ha (l4.symm.trans ea) (l7.symm.trans z7), ← l5, ← l8, ← em, ← h1.1, efw, ewv, and1 (by omega), rem2 (by omega), and1 (by omega), rem2 (by omega), mreg hfw]
    by_cases q5 : nI (fw % 2) = 0
    · rw [if_pos q5, if_pos q5]
      by_cases q8 : S 8 = 0
      · rw [if_pos q8, if_pos q8]
        by_cases qr : nI (fw / 2 % 32) ≤ 2
        · rw [if_pos qr, if_pos qr]
          exact ⟨_, _, _, _, rfl, rfl, Rel_m base h7⟩
        · rw [if_neg qr, if_neg qr]
          obtain ⟨S', M', T', N', w1, w2, w3, w4⟩ := write_rel (r := fw / 2 % 32) (Nat.mod_lt _ (by decide)) hwv base
          rw [w1, w2]
          exact ⟨S', M', T', N', rfl, rfl, Rel_m w3 (proc_kp w4 h7)⟩
      · rw [if_neg q8, if_neg q8]
        exact ⟨_, _, _, _, rfl, rfl, Rel_m base h7⟩
    · rw [if_neg q5, if_neg q5]
      by_cases qx : nI (wv % 2) = 0
      · rw [if_pos qx, if_pos qx]
        exact ⟨_, _, _, _, rfl, rfl, h1, h2, h3, h4, ⟨rfl, rfl, la, l5, ⟨fw, hfw, efw⟩, fun _ => rfl, rfl, rfl, Or.inl rfl, Or.inl rfl⟩, h6, h7⟩
      · rw [if_neg qx, if_neg qx]
        refine ⟨_, _, _, _, rfl, rfl, h1, h2, h3, h4, ⟨l3, rfl, la, l5, ⟨fw, hfw, efw⟩, ?_, rfl, rfl, Or.inl rfl, ?_⟩, h6, h7⟩
        · exact fun z => absurd (hs.symm.trans z) (show ¬ (1 : Int32) = 2 by decide)
        · by_cases hb : S 0 < (nI fw >>> ((3 : Int32) &&& 31)) &&& 1023
          · exact Or.inl (if_pos hb)
          · exact Or.inr (if_neg hb)
