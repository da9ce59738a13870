/-! The relation between the class's state (S, M) and the reference's (T, N), in seven parts. -/
def rlim (j : Nat) : Nat := [16, 256, 1, 256, 256, 256, 4096, 4096, 4096, 4096, 65536, 16, 256, 256, 256, 256, 256, 256, 256, 256, 65536, 65536, 65536, 65536, 65536, 1, 4, 1].getD j 0
/-- beside the state: what owned[0] is, and by how much the class's counts are ahead -/
abbrev Gh : Type := Int32 × (Nat → Int32)
def RMisc (c : Gh) (s0 s1 s2 : Int32) (m0 : Nat → Int32) (t0 t1 t2 : Int32) (n3 : Nat → Int32) : Prop := s0 = t0 ∧ s1 = t1 ∧ s2 = t2 ∧ lt32 s0 640 ∧ (∀ j, j < 6 → m0 j = n3 j + c.2 j) ∧ m0 0 = c.1
def RRegs (m2 n1 : Nat → Int32) : Prop := ∀ j, j < 28 → m2 j = n1 j ∧ lt32 (m2 j) (rlim j)
def RMem (m1 n0 : Nat → Int32) : Prop := ∀ j, j < 256 → m1 j = n0 j ∧ lt32 (m1 j) 65536
def RTwo (L : Nat) (m n : Nat → Int32) : Prop := ∀ j, j < 2 → m j = n j ∧ lt32 (m j) L
def RPic (m3 m4 m5 m6 n4 n5 n6 n2 : Nat → Int32) : Prop := RTwo 256 m3 n4 ∧ RTwo 65536 m4 n5 ∧ RTwo 65536 m5 n6 ∧ ∀ j, j < 384 → m6 j = n2 j
def RList (s3 s4 s5 s6 s7 s8 t3 t4 t5 t8 t6 t7 : Int32) : Prop := s3 = t3 ∧ s4 = t4 ∧ lt32 s4 256 ∧ s5 = t5 ∧ lt32 s5 65536 ∧ (s3 = 2 → s6 = t8) ∧ s7 = t6 ∧ s8 = t7 ∧ (s7 = 0 ∨ s7 = 1) ∧ (s8 = 0 ∨ s8 = 1)
def RMov (s9 s10 s11 s12 s13 s14 s15 s16 s17 : Int32) (m7 : Nat → Int32) (t9 t10 t11 t12 t13 t14 t15 t16 t17 : Int32) (n7 : Nat → Int32) : Prop :=
  s9 = t9 ∧ s10 = t10 ∧ s11 = t11 ∧ s12 = t12 ∧ s13 = t13 ∧ s14 = t14 ∧ s15 = t15 ∧ s16 = t16 ∧ s17 = t17 ∧ (s9 = 0 ∨ s9 = 1) ∧ (s10 = 0 ∨ s10 = 1) ∧ lt32 s15 4 ∧ lt32 s16 65536 ∧ lt32 s17 65536 ∧ (∀ j, j < 3 → m7 j = n7 j ∧ lt32 (m7 j) 65536) ∧ (s9 = 1 → ∃ r h, s14 = nI r ∧ s12 = nI h ∧ r < h ∧ h ≤ 16)
def RQ (h w : Nat) (m8 m9 m10 n8 : Nat → Int32) : Prop := ∀ j, j < w → m8 ((h + j) % 8) = n8 (3 * j) ∧ m9 ((h + j) % 8) = n8 (3 * j + 1) ∧ m10 ((h + j) % 8) = n8 (3 * j + 2) ∧ lt32 (n8 (3 * j)) 3 ∧ lt32 (n8 (3 * j + 1)) 256 ∧ (n8 (3 * j) = 2 → lt32 (n8 (3 * j + 1)) 32) ∧ lt32 (n8 (3 * j + 2)) 65536
def RProc (s18 s19 s20 s21 s22 : Int32) (m8 m9 m10 : Nat → Int32) (t18 t19 t20 t21 : Int32) (n8 : Nat → Int32) : Prop :=
  s20 = t18 ∧ s21 = t20 ∧ s22 = t21 ∧ ∃ h w, h < 8 ∧ w ≤ 8 ∧ s18 = nI h ∧ s19 = nI w ∧ t19 = nI w ∧ RQ h w m8 m9 m10 n8
def Rel (c : Gh) (S : SS) (M : MM) (T : SS) (N : MM) : Prop :=
  RMisc c (S 0) (S 1) (S 2) (M 0) (T 0) (T 1) (T 2) (N 3) ∧ RRegs (M 2) (N 1) ∧ RMem (M 1) (N 0) ∧ RPic (M 3) (M 4) (M 5) (M 6) (N 4) (N 5) (N 6) (N 2) ∧
  RList (S 3) (S 4) (S 5) (S 6) (S 7) (S 8) (T 3) (T 4) (T 5) (T 8) (T 6) (T 7) ∧
  RMov (S 9) (S 10) (S 11) (S 12) (S 13) (S 14) (S 15) (S 16) (S 17) (M 7) (T 9) (T 10) (T 11) (T 12) (T 13) (T 14) (T 15) (T 16) (T 17) (N 7) ∧
  RProc (S 18) (S 19) (S 20) (S 21) (S 22) (M 8) (M 9) (M 10) (T 18) (T 19) (T 20) (T 21) (N 8)
def RelA (c : Gh) (S : SS) (M : MM) (T : SS) (N : MM) : Prop :=
  RMisc c (S 0) (S 1) (S 2) (M 0) (T 0) (T 1) (T 2) (N 3) ∧ RRegs (M 2) (N 1) ∧ RMem (M 1) (N 0) ∧ RPic (M 3) (M 4) (M 5) (M 6) (N 4) (N 5) (N 6) (N 2) ∧
  RList (S 3) (S 4) (S 5) (S 6) (S 7) (S 8) (T 3) (T 4) (T 5) (T 8) (T 6) (T 7) ∧
  RMov (S 9) (S 10) (S 11) (S 12) (S 13) (S 14) (S 15) (S 16) (S 17) (M 7) (T 9) (T 10) (T 11) (T 12) (T 13) (T 14) (T 15) (T 16) (T 17) (N 7)
theorem Rel_a {c : Gh} {S T : SS} {M N : MM} (h : Rel c S M T N) : RelA c S M T N := ⟨h.1, h.2.1, h.2.2.1, h.2.2.2.1, h.2.2.2.2.1, h.2.2.2.2.2.1⟩
theorem Rel_m {c : Gh} {S T : SS} {M N : MM} (h : RelA c S M T N) (h7 : RProc (S 18) (S 19) (S 20) (S 21) (S 22) (M 8) (M 9) (M 10) (T 18) (T 19) (T 20) (T 21) (N 8)) : Rel c S M T N := ⟨h.1, h.2.1, h.2.2.1, h.2.2.2.1, h.2.2.2.2.1, h.2.2.2.2.2, h7⟩
theorem upd_s {f : Nat → Int32} {k : Nat} {x : Int32} : upd f k x k = x := if_pos rfl
theorem upd_n {f : Nat → Int32} {k j : Nat} {x : Int32} (h : j ≠ k) : upd f k x j = f j := if_neg h
theorem upM_s {M : MM} {k : Nat} {f : Nat → Int32} : upM M k f k = f := if_pos rfl
theorem upM_n {M : MM} {k j : Nat} {f : Nat → Int32} (h : j ≠ k) : upM M k f j = M j := if_neg h
theorem upM_upM {M : MM} {k : Nat} {f g : Nat → Int32} : upM (upM M k f) k g = upM M k g := by
  funext j
  by_cases h : j = k
  · subst h; rw [upM_s, upM_s]
  · rw [upM_n h, upM_n h, upM_n h]
-- control bits: both sides ask the same
theorem on_c {M N : MM} (h : RRegs (M 2) (N 1)) : ((if (N 1 0 >>> ((0 : Int32) &&& 31)) &&& 1 = 1 then (1 : Int32) else 0) = if M 2 0 &&& 1 = 0 then 0 else 1) ∧ ((if (N 1 0 >>> ((1 : Int32) &&& 31)) &&& 1 = 1 then (1 : Int32) else 0) = if M 2 0 &&& 2 = 0 then 0 else 1) ∧ ((if (N 1 0 >>> ((2 : Int32) &&& 31)) &&& 1 = 1 then (1 : Int32) else 0) = if M 2 0 &&& 4 = 0 then 0 else 1) ∧ ((if (N 1 0 >>> ((3 : Int32) &&& 31)) &&& 1 = 1 then (1 : Int32) else 0) = if M 2 0 &&& 8 = 0 then 0 else 1) := by
  obtain ⟨e, c, hc, hk⟩ := h 0 (by decide)
  have hc : c < 16 := hc
  rw [← e, hk]
  obtain ⟨a0, a1, a2, a3⟩ := ctl1 c hc
  refine ⟨?_, ?_, ?_, ?_⟩
  · by_cases q : nI c &&& 1 = 0
    · rw [if_pos q, if_neg (fun z => (a0.mp z) q)]
    · rw [if_neg q, if_pos (a0.mpr q)]
  · by_cases q : nI c &&& 2 = 0
    · rw [if_pos q, if_neg (fun z => (a1.mp z) q)]
    · rw [if_neg q, if_pos (a1.mpr q)]
  · by_cases q : nI c &&& 4 = 0
    · rw [if_pos q, if_neg (fun z => (a2.mp z) q)]
    · rw [if_neg q, if_pos (a2.mpr q)]
  · by_cases q : nI c &&& 8 = 0
    · rw [if_pos q, if_neg (fun z => (a3.mp z) q)]
    · rw [if_neg q, if_pos (a3.mpr q)]
def on (M : MM) (b : Int32) : Int32 := if M 2 0 &&& b = 0 then 0 else 1
theorem on01 (M : MM) (b : Int32) : on M b = 0 ∨ on M b = 1 := by
  unfold on
  by_cases h : M 2 0 &&& b = 0
  · exact Or.inl (if_pos h)
  · exact Or.inr (if_neg h)
theorem e_on {S : SS} {M : MM} (b : Int32) : f_Re_isOn S M b = some (on M b, S, M) := e_Re_isOn b
theorem e_c0 {T : SS} {M N : MM} (h : RRegs (M 2) (N 1)) : f_Md_control T N 0 = some (on M 1, T, N) := by rw [e_control, (on_c h).1]; rfl
theorem e_c1 {T : SS} {M N : MM} (h : RRegs (M 2) (N 1)) : f_Md_control T N 1 = some (on M 2, T, N) := by rw [e_control, (on_c h).2.1]; rfl
theorem e_c2 {T : SS} {M N : MM} (h : RRegs (M 2) (N 1)) : f_Md_control T N 2 = some (on M 4, T, N) := by rw [e_control, (on_c h).2.2.1]; rfl
theorem e_c3 {T : SS} {M N : MM} (h : RRegs (M 2) (N 1)) : f_Md_control T N 3 = some (on M 8, T, N) := by rw [e_control, (on_c h).2.2.2]; rfl
-- the picture: a point
theorem e_shr15 {a : Nat} (h : a < 65536) : nI a >>> ((15 : Int32) &&& 31) = nI (a / 32768) := pk_shrN (by omega) _ 15 (by decide)
theorem e_shl1 {a : Nat} (h : a < 65536) : (nI a <<< ((1 : Int32) &&& 31)) &&& (65535 : Int32) = nI (2 * a % 65536) := by
  rw [pk_shlN (n := a) _ 1 (by decide) (by omega), pk_andN (by omega) 16 (by decide)]
  congr 1; omega
theorem e_dbl {a : Nat} (h : a < 65536) : ((2 : Int32) * nI a) &&& (65535 : Int32) = nI (2 * a % 65536) := by
  rw [show (2 : Int32) * nI a = nI (2 * a) from pk_mul 2 a, pk_andN (by omega) 16 (by decide)]
theorem e_num {a b : Nat} (ha : a < 65536) (hb : b < 65536) : (nI a >>> ((15 : Int32) &&& 31)) + ((2 : Int32) * (nI b >>> ((15 : Int32) &&& 31))) = nI (a / 32768 + 2 * (b / 32768)) := by
  rw [e_shr15 ha, e_shr15 hb, show (2 : Int32) * nI (b / 32768) = nI (2 * (b / 32768)) from pk_mul 2 _, nI_add]
def sh2 (f : Nat → Int32) (a b : Nat) : Nat → Int32 := upd (upd f 0 (nI (2 * a % 65536))) 1 (nI (2 * b % 65536))
theorem e_shiftOut {S : SS} {M : MM} {a b : Nat} (ha : a < 65536) (hb : b < 65536) (h0 : M 5 0 = nI a) (h1 : M 5 1 = nI b) : f_Pi_shiftOut S M = some (nI (a / 32768 + 2 * (b / 32768)), S, upM M 5 (sh2 (M 5) a b)) := by
  unfold f_Pi_shiftOut sh2
  rw [upM_upM, upM_s, upd_n (show (1 : Nat) ≠ 0 by decide), h0, h1, e_num ha hb, e_shl1 ha, e_shl1 hb]
def dr (M : MM) (k5 k6 k2 p a b : Nat) : MM := upM (upM M k5 (sh2 (M k5) a b)) k6 (upd (M k6) p (M k2 (6 + (a / 32768 + 2 * (b / 32768)))))
theorem sh2_two {m n : Nat → Int32} {a b : Nat} (h : RTwo 65536 m n) : RTwo 65536 (sh2 m a b) (sh2 n a b) := by
  intro j hj
  have hj : j = 0 ∨ j = 1 := by omega
  rcases hj with rfl | rfl
  · exact ⟨rfl, _, Nat.mod_lt _ (by decide), rfl⟩
  · exact ⟨rfl, _, Nat.mod_lt _ (by decide), rfl⟩
theorem upd_eq {m n : Nat → Int32} {L p : Nat} {x y : Int32} (h : ∀ j, j < L → m j = n j) (e : x = y) : ∀ j, j < L → upd m p x j = upd n p y j := by
  intro j hj
  by_cases q : j = p
  · subst q; rw [upd_s, upd_s, e]
  · rw [upd_n q, upd_n q, h j hj]
theorem dr_rel {M N : MM} {p a b : Nat} (hr : RRegs (M 2) (N 1)) (hp : RPic (M 3) (M 4) (M 5) (M 6) (N 4) (N 5) (N 6) (N 2)) (ha : a < 65536) (hb : b < 65536) :
    RPic (dr M 5 6 2 p a b 3) (dr M 5 6 2 p a b 4) (dr M 5 6 2 p a b 5) (dr M 5 6 2 p a b 6) (dr N 6 2 1 p a b 4) (dr N 6 2 1 p a b 5) (dr N 6 2 1 p a b 6) (dr N 6 2 1 p a b 2) :=
  ⟨hp.1, hp.2.1, sh2_two hp.2.2.1, upd_eq hp.2.2.2 (hr _ (by omega)).1⟩
theorem show_step {S : SS} {M : MM} {a b p : Nat} (ha : a < 65536) (hb : b < 65536) (h0 : M 5 0 = nI a) (h1 : M 5 1 = nI b) {α : Type} (k : RR → Option α) :
    ((f_Pi_shiftOut S M).bind (fun q2 => (f_Re_at q2.2.1 q2.2.2 ((6 : Int32) + q2.1)).bind (fun q3 => k (q3.1, q3.2.1, upM q3.2.2 6 (upd (q3.2.2 6) p q3.1))))) = k (M 2 (6 + (a / 32768 + 2 * (b / 32768))), S, dr M 5 6 2 p a b) := by
  rw [e_shiftOut ha hb h0 h1]
  simp only [Option.bind_some]
  rw [show (6 : Int32) + nI (a / 32768 + 2 * (b / 32768)) = nI (6 + (a / 32768 + 2 * (b / 32768))) from nI_add 6 _, e_Re_at (by omega)]
  rfl
theorem idx_p {i k : Nat} (hi : 4 ≤ i) (hi2 : i < 16) (hk : 16 ≤ k) (hk2 : k < 32) : ((nI i - (4 : Int32)) * (32 : Int32)) + ((2 : Int32) * (nI k - (16 : Int32))) = nI ((i - 4) * 32 + 2 * (k - 16)) ∧ ((32 : Int32) * (nI i - (4 : Int32))) + ((2 : Int32) * (nI k - (16 : Int32))) = nI ((i - 4) * 32 + 2 * (k - 16)) := by
  rw [show nI i - (4 : Int32) = nI (i - 4) from pk_sub (b := 4) hi, show nI k - (16 : Int32) = nI (k - 16) from pk_sub (b := 16) hk, show nI (i - 4) * (32 : Int32) = nI ((i - 4) * 32) from pk_mul _ 32, show (32 : Int32) * nI (i - 4) = nI (32 * (i - 4)) from pk_mul 32 _, show (2 : Int32) * nI (k - 16) = nI (2 * (k - 16)) from pk_mul 2 _, nI_add, nI_add]
  exact ⟨rfl, by rw [Nat.mul_comm 32]⟩
