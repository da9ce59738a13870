/-! The mover's slot. -/
theorem upM_self {M : MM} {k : Nat} : upM M k (M k) = M := by
  funext j
  by_cases h : j = k
  · subst h; rw [upM_s]
  · rw [upM_n h]
def mdr (m : Nat → Int32) (F : Int32) (ch : Nat) : Nat → Int32 := if (F >>> (((8 : Int32) + nI ch) &&& 31)) &&& 1 = 0 then m else upd m (12 + ch) ((m (12 + ch) + m (16 + ch)) &&& 255)
def mdl (m : Nat → Int32) (F : Int32) : Nat → Int32 := mdr (mdr (mdr (mdr m F 0) F 1) F 2) F 3
theorem mdr_z {m : Nat → Int32} {F : Int32} {ch : Nat} (h : bz F ch) : mdr m F ch = m := if_pos h
theorem mdr_u {m : Nat → Int32} {F : Int32} {ch : Nat} (h : ¬ bz F ch) : mdr m F ch = upd m (12 + ch) ((m (12 + ch) + m (16 + ch)) &&& 255) := if_neg h
theorem mdr_10 {m : Nat → Int32} {F : Int32} {ch : Nat} : mdr m F ch 10 = m 10 := by
  by_cases h : bz F ch
  · rw [mdr_z h]
  · rw [mdr_u h, upd_n (by omega)]
theorem ru_255 {m n : Nat → Int32} {p : Nat} {x : Int32} (hp : rlim p = 256) (h : RRegs m n) : RRegs (upd m p (x &&& 255)) (upd n p (x &&& 255)) := by
  intro j hj
  by_cases q : j = p
  · subst q
    rw [upd_s, upd_s, hp]
    exact ⟨rfl, lt_255 _⟩
  · rw [upd_n q, upd_n q]
    exact h j hj
theorem mdr_rel {m n : Nat → Int32} {F : Int32} {ch : Nat} (hc : ch < 4) (h : RRegs m n) : RRegs (mdr m F ch) (mdr n F ch) := by
  by_cases hz : bz F ch
  · rw [mdr_z hz, mdr_z hz]; exact h
  · rw [mdr_u hz, mdr_u hz, ← (h (12 + ch) (by omega)).1, ← (h (16 + ch) (by omega)).1]
    refine ru_255 ?_ h
    have : ch = 0 ∨ ch = 1 ∨ ch = 2 ∨ ch = 3 := by omega
    rcases this with rfl | rfl | rfl | rfl <;> rfl
theorem mdl_rel {m n : Nat → Int32} {F : Int32} (h : RRegs m n) : RRegs (mdl m F) (mdl n F) := mdr_rel (by decide) (mdr_rel (by decide) (mdr_rel (by decide) (mdr_rel (by decide) h)))
-- the class's modulos, channel by channel
theorem am_step {S : SS} {M : MM} {F : Int32} {ch p s : Nat} {x y z : Int32} {k : SS → MM → Int32 → Option RR} (hx : x = nI ch) (hy : y = nI s) (hz : z = nI p) (hc : ch < 4) (hs : s = 16 + ch) (hp : p = 12 + ch) (hcb : cbits p = 255) :
    ((f_Mo_isUsed S M F x).bind (fun q => if q.1 = 0 then k q.2.1 q.2.2 F else (f_Re_at q.2.1 q.2.2 y).bind (fun q2 => (f_Re_grow q2.2.1 q2.2.2 z q2.1).bind (fun q3 => k q3.2.1 q3.2.2 F)))) = k S (upM M 2 (mdr (M 2) F ch)) F := by
  subst hx; subst hy; subst hz; subst hs; subst hp
  by_cases h : bz F ch
  · rw [e_isUsedZ h, mdr_z h, upM_self]
    rfl
  · rw [e_isUsedN h, mdr_u h]
    simp only [Option.bind_some]
    rw [if_neg (show ¬ (1 : Int32) = 0 by decide), e_Re_at (by omega)]
    simp only [Option.bind_some]
    rw [e_Re_grow (by omega), hcb]
    rfl
theorem e_addM {S : SS} {M : MM} {F : Int32} : f_Mo_addModulos S M F = some (0, S, upM M 2 (mdl (M 2) F)) := by
  have a0 : ∀ (S : SS) (M : MM), f_Mo_addModulos_2_2_0 S M F = f_Mo_addModulos_2_2_1 S (upM M 2 (mdr (M 2) F 0)) F := fun S M => am_step (ch := 0) (p := 12) (s := 16) (k := f_Mo_addModulos_31_2_0) rfl rfl rfl (by decide) rfl rfl rfl
  have a1 : ∀ (S : SS) (M : MM), f_Mo_addModulos_2_2_1 S M F = f_Mo_addModulos_2_2_2 S (upM M 2 (mdr (M 2) F 1)) F := fun S M => am_step (ch := 1) (p := 13) (s := 17) (k := f_Mo_addModulos_31_2_1) rfl rfl rfl (by decide) rfl rfl rfl
  have a2 : ∀ (S : SS) (M : MM), f_Mo_addModulos_2_2_2 S M F = f_Mo_addModulos_2_2_3 S (upM M 2 (mdr (M 2) F 2)) F := fun S M => am_step (ch := 2) (p := 14) (s := 18) (k := f_Mo_addModulos_31_2_2) rfl rfl rfl (by decide) rfl rfl rfl
  have a3 : ∀ (S : SS) (M : MM), f_Mo_addModulos_2_2_3 S M F = some (0, S, upM M 2 (mdr (M 2) F 3)) := fun S M => am_step (ch := 3) (p := 15) (s := 19) (k := f_Mo_addModulos_31_2_3) rfl rfl rfl (by decide) rfl rfl rfl
  unfold f_Mo_addModulos mdl
  rw [a0, a1, a2, a3]
  simp only [upM_upM, upM_s]
-- the reference's
theorem mm_step {T : SS} {N : MM} {ch : Nat} {x : Int32} {k : SS → MM → Option RR} (hx : x = nI ch) :
    ((f_Md_used T N x).bind (fun q => if q.1 = 0 then k q.2.1 q.2.2 else k q.2.1 (upM q.2.2 1 (upd (q.2.2 1) (12 + ch) (((q.2.2 1 (12 + ch)) + (q.2.2 1 (16 + ch))) &&& 255))))) = k T (upM N 1 (mdr (N 1) (N 1 10) ch)) := by
  subst hx
  by_cases h : bz (N 1 10) ch
  · rw [e_usedZ h, mdr_z h, upM_self]
    rfl
  · rw [e_usedN h, mdr_u h]
    rfl
theorem e_mmod {T : SS} {N : MM} : f_Md_nextWord_44_1_0 T N = f_Md_nextWord_44_1_4 T (upM N 1 (mdl (N 1) (N 1 10))) := by
  have a0 : ∀ (T : SS) (N : MM), f_Md_nextWord_44_1_0 T N = f_Md_nextWord_44_1_1 T (upM N 1 (mdr (N 1) (N 1 10) 0)) := fun T N => mm_step (ch := 0) (k := f_Md_nextWord_89_1_0) rfl
  have a1 : ∀ (T : SS) (N : MM), f_Md_nextWord_44_1_1 T N = f_Md_nextWord_44_1_2 T (upM N 1 (mdr (N 1) (N 1 10) 1)) := fun T N => mm_step (ch := 1) (k := f_Md_nextWord_89_1_1) rfl
  have a2 : ∀ (T : SS) (N : MM), f_Md_nextWord_44_1_2 T N = f_Md_nextWord_44_1_3 T (upM N 1 (mdr (N 1) (N 1 10) 2)) := fun T N => mm_step (ch := 2) (k := f_Md_nextWord_89_1_2) rfl
  have a3 : ∀ (T : SS) (N : MM), f_Md_nextWord_44_1_3 T N = f_Md_nextWord_44_1_4 T (upM N 1 (mdr (N 1) (N 1 10) 3)) := fun T N => mm_step (ch := 3) (k := f_Md_nextWord_89_1_3) rfl
  unfold mdl
  rw [a0, a1, a2, a3]
  simp only [upM_upM, upM_s, mdr_10]
-- behind a word
def go1 (S : SS) : SS := upd (upd S 15 0) 13 (S 13 + 1)
theorem e_goOn {S : SS} {M : MM} {F : Int32} : f_Mo_goOn S M F = if S 11 ≤ S 13 + 1 then (if S 14 + 1 = S 12 then some (0, upd (upd (upd (upd (go1 S) 13 0) 14 (S 14 + 1)) 9 0) 2 (S 2 ||| 1), upM M 2 (mdl (M 2) F)) else some (0, upd (upd (go1 S) 13 0) 14 (S 14 + 1), upM M 2 (mdl (M 2) F))) else some (0, go1 S, M) := by
  unfold f_Mo_goOn f_Mo_goOn_68
  rw [e_addM]
  simp only [Option.bind_some, ua, Nat.reduceEqDiff, ↓reduceIte, e_Re_request]
  rfl
theorem e_nextWord {T : SS} {N : MM} : f_Md_nextWord T N = if T 11 ≤ T 13 + 1 then (if T 12 ≤ T 14 + 1 then some (0, upd (upd (upd (upd (go1 T) 13 0) 14 (T 14 + 1)) 9 0) 2 (T 2 ||| 1), upM N 1 (mdl (N 1) (N 1 10))) else some (0, upd (upd (go1 T) 13 0) 14 (T 14 + 1), upM N 1 (mdl (N 1) (N 1 10)))) else some (0, go1 T, N) := by
  unfold f_Md_nextWord
  rw [e_mmod]
  unfold f_Md_nextWord_44_1_4
  simp only [ua, Nat.reduceEqDiff, ↓reduceIte]
  rfl
/-- the states but for the channel, which the reference has moved already -/
def RelB (c : Gh) (S : SS) (M : MM) (T : SS) (N : MM) : Prop := RelA c S M (upd T 15 (S 15)) N
theorem u18 {f : SS} {k : Nat} {x : Int32} {j : Nat} (hk : k < 18) (hj : 18 ≤ j) : upd f k x j = f j := upd_n (by omega)
theorem word_end {c : Gh} {S T : SS} {M N : MM} (hb : S 9 = 1) (h : RelB c S M T N) : ∃ S' M' T' N', f_Mo_goOn S M (M 2 10) = some (0, S', M') ∧ f_Md_nextWord T N = some (0, T', N') ∧ RelA c S' M' T' N' ∧ Kp S S' M M' T T' N N' := by
  obtain ⟨h1, h2, h3, h4, h5, h6⟩ := h
  obtain ⟨m9, m10, m11, m12, m13, m14, _, m16, m17, b9, b10, _, l16, l17, f7, hrow⟩ := h6
  have m9 : S 9 = T 9 := m9
  have m10 : S 10 = T 10 := m10
  have m11 : S 11 = T 11 := m11
  have m12 : S 12 = T 12 := m12
  have m13 : S 13 = T 13 := m13
  have m14 : S 14 = T 14 := m14
  have m16 : S 16 = T 16 := m16
  have m17 : S 17 = T 17 := m17
  have z4 : lt32 0 4 := ⟨0, by decide, rfl⟩
  obtain ⟨r, q, e14, e12, hrq, hq⟩ := hrow hb
  have h2' : S 2 = T 2 := h1.2.2.1
  have hF : M 2 10 = N 1 10 := (h2 10 (by decide)).1
  rw [e_goOn, e_nextWord, ← m11, ← m13, ← m12, ← m14, ← h2', ← hF]
  by_cases hc : S 11 ≤ S 13 + 1
  · rw [if_pos hc, if_pos hc, e14, e12, show nI r + (1 : Int32) = nI (r + 1) from nI_1 r]
    by_cases he : r + 1 = q
    · rw [if_pos (show nI (r + 1) = nI q by rw [he]), if_pos (show nI q ≤ nI (r + 1) by rw [he]; exact nI_le (Nat.le_refl _) (by omega))]
      refine ⟨_, _, _, _, rfl, rfl, ⟨⟨h1.1, h1.2.1, rfl, h1.2.2.2⟩, mdl_rel h2, h3, h4, h5, ⟨rfl, m10, m11, m12, rfl, rfl, rfl, m16, m17, Or.inl rfl, b10, z4, l16, l17, f7, fun z => absurd z (show ¬ (0 : Int32) = 1 by decide)⟩⟩, ?_⟩
      exact ⟨fun k hk => by unfold go1; rw [u18 (by decide) hk, u18 (by decide) hk, u18 (by decide) hk, u18 (by decide) hk, u18 (by decide) hk, u18 (by decide) hk], ⟨rfl, rfl, rfl⟩, fun k hk => by unfold go1; rw [u18 (by decide) hk, u18 (by decide) hk, u18 (by decide) hk, u18 (by decide) hk, u18 (by decide) hk, u18 (by decide) hk], rfl⟩
    · rw [if_neg (show ¬ nI (r + 1) = nI q from fun z => he ((nI_eq (by omega) (by omega)).mp z)), if_neg (show ¬ nI q ≤ nI (r + 1) from nI_ge (by omega) (by omega))]
      refine ⟨_, _, _, _, rfl, rfl, ⟨⟨h1.1, h1.2.1, h1.2.2.1, h1.2.2.2⟩, mdl_rel h2, h3, h4, h5, ⟨m9, m10, m11, m12, rfl, rfl, rfl, m16, m17, b9, b10, z4, l16, l17, f7, fun _ => ⟨r + 1, q, rfl, e12, by omega, hq⟩⟩⟩, ?_⟩
      exact ⟨fun k hk => by unfold go1; rw [u18 (by decide) hk, u18 (by decide) hk, u18 (by decide) hk, u18 (by decide) hk], ⟨rfl, rfl, rfl⟩, fun k hk => by unfold go1; rw [u18 (by decide) hk, u18 (by decide) hk, u18 (by decide) hk, u18 (by decide) hk], rfl⟩
  · rw [if_neg hc, if_neg hc]
    refine ⟨_, _, _, _, rfl, rfl, ⟨⟨h1.1, h1.2.1, h1.2.2.1, h1.2.2.2⟩, h2, h3, h4, h5, ⟨m9, m10, m11, m12, by show S 13 + 1 = T 13 + 1; rw [m13], m14, rfl, m16, m17, b9, b10, z4, l16, l17, f7, hrow⟩⟩, ?_⟩
    exact ⟨fun k hk => by unfold go1; rw [u18 (by decide) hk, u18 (by decide) hk], ⟨rfl, rfl, rfl⟩, fun k hk => by unfold go1; rw [u18 (by decide) hk, u18 (by decide) hk], rfl⟩
