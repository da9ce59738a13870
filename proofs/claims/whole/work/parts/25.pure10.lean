/-! The processor's slot. -/
def shf (f : Nat → Int32) (k : Nat) : Nat → Int32 := fun j => if j < k then f (j + 3) else f j
theorem shf_0 {f : Nat → Int32} : shf f 0 = f := by
  funext j
  exact if_neg (Nat.not_lt_zero j)
theorem shf_step {f : Nat → Int32} {k : Nat} : upd (shf f k) k (shf f k (k + 3)) = shf f (k + 1) := by
  funext j
  by_cases h : j = k
  · subst h
    rw [upd_s]
    show (if j + 3 < j then f (j + 3 + 3) else f (j + 3)) = if j < j + 1 then f (j + 3) else f j
    rw [if_neg (by omega), if_pos (by omega)]
  · rw [upd_n h]
    show (if j < k then f (j + 3) else f j) = if j < k + 1 then f (j + 3) else f j
    by_cases q : j < k
    · rw [if_pos q, if_pos (by omega)]
    · rw [if_neg q, if_neg (by omega)]
def pact (T : SS) (N : MM) (x1 x2 x3 : Int32) : Option RR := if x1 = 0 then (if x2 < 0 ∨ 256 ≤ x2.toNatClampNeg then none else some (0, T, upM N 0 (upd (N 0) x2.toNatClampNeg x3))) else if x1 = 1 then (if x2 < 0 ∨ 256 ≤ x2.toNatClampNeg then none else some (0, upd (upd T 20 (N 0 x2.toNatClampNeg)) 21 (T 21 + 1), N)) else (f_Md_write T N x2 x3).bind (fun q1 => some (0, q1.2.1, q1.2.2))
theorem pr_loop {T : SS} {N : MM} {f : Nat → Int32} {x1 x2 x3 : Int32} {w : Nat} (hT : T 19 = nI w) (hw : w < 8) : ∀ (m n k : Nat), k + m = 3 * w → m < n → f_Md_process_34 n T (upM N 8 (shf f k)) x1 x2 x3 (nI k) = pact T (upM N 8 (shf f (3 * w))) x1 x2 x3 := by
  intro m
  have e3 : (3 : Int32) * T 19 = nI (3 * w) := by rw [hT]; exact pk_mul 3 w
  induction m with
  | zero =>
    intro n k hk hn
    obtain ⟨n, rfl⟩ : ∃ q, n = q + 1 := ⟨n - 1, by omega⟩
    have hk : k = 3 * w := by omega
    subst hk
    show f_Md_process_34_b _ T _ x1 x2 x3 (nI (3 * w)) = _
    unfold f_Md_process_34_b f_Md_process_115 pact
    rw [e3, if_pos (nI_le (Nat.le_refl _) (by omega))]
    rfl
  | succ m ih =>
    intro n k hk hn
    obtain ⟨n, rfl⟩ : ∃ q, n = q + 1 := ⟨n - 1, by omega⟩
    show f_Md_process_34_b (f_Md_process_34 n) T _ x1 x2 x3 (nI k) = _
    unfold f_Md_process_34_b
    rw [e3, if_neg (nI_ge (by omega) (by omega)), show nI k + (3 : Int32) = nI (k + 3) from nI_add k 3, if_neg (gd (by omega) (by decide)), if_neg (gd (by omega) (by decide)), nI_clamp (by omega), nI_clamp (by omega), upM_s, upM_upM, shf_step, show nI k + (1 : Int32) = nI (k + 1) from nI_1 k]
    exact ih n (k + 1) (by omega) (by omega)
theorem e_process {T : SS} {N : MM} {w : Nat} (hT : T 19 = nI (w + 1)) (hw : w < 8) : f_Md_process T N = pact (upd T 19 (nI w)) (upM N 8 (shf (N 8) (3 * w))) (N 8 0) (N 8 1) (N 8 2) := by
  have e : T 19 - 1 = nI w := by
    rw [hT]
    exact nI_pred w
  have hl := pr_loop (T := upd T 19 (nI w)) (N := N) (f := N 8) (x1 := N 8 0) (x2 := N 8 1) (x3 := N 8 2) (w := w) rfl hw (3 * w) 26 0 (by omega) (by omega)
  rw [shf_0, upM_self] at hl
  unfold f_Md_process
  rw [e]
  exact hl
-- the class's
def cact (S : SS) (M : MM) (x1 x2 x3 : Int32) : Option RR := if x1 = 0 then f_Me_put S M x2 x3 else if x1 = 1 then (f_Me_at S M x2).bind (fun q6 => f_Pr_load q6.2.1 q6.2.2 q6.1) else f_Bd_writeRegister S M x2 x3
def drp (S : SS) : SS := upd (upd (upd S 18 ((S 18 + 1) &&& 7)) 19 (S 19 - 1)) 20 0
theorem e_first {S : SS} {M : MM} {h : Nat} (hh : h < 8) (e : S 18 = nI h) : f_Bd_doFirstAccess S M = (cact S M (M 8 h) (M 9 h) (M 10 h)).bind (fun q => some (0, drp q.2.1, q.2.2)) := by
  have g := gd hh (show 8 < 2 ^ 31 by decide)
  have hcl : (nI h).toNatClampNeg = h := nI_clamp (by omega)
  have t1 : f_Pr_firstTarget S M = some (M 9 h, S, M) := by unfold f_Pr_firstTarget; rw [e, if_neg g, hcl]
  have t2 : f_Pr_firstValue S M = some (M 10 h, S, M) := by unfold f_Pr_firstValue; rw [e, if_neg g, hcl]
  have t3 : f_Pr_firstKind S M = some (M 8 h, S, M) := by unfold f_Pr_firstKind; rw [e, if_neg g, hcl]
  have t4 : ∀ (S : SS) (M : MM) (x y : Int32), f_Bd_doFirstAccess_84 S M x y = some (0, drp S, M) := fun S M x y => rfl
  unfold f_Bd_doFirstAccess
  refine bb t1 ?_
  refine bb t2 ?_
  refine bb t3 ?_
  show (if M 8 h = 0 then _ else if M 8 h = 1 then _ else _) = _
  unfold cact
  by_cases h0 : M 8 h = 0
  · rw [if_pos h0, if_pos h0]
    simp only [t4]
  · rw [if_neg h0, if_neg h0]
    by_cases h1 : M 8 h = 1
    · rw [if_pos h1, if_pos h1]
      simp only [t4]
      cases f_Me_at S M (M 9 h) with
      | none => rfl
      | some q => rfl
    · rw [if_neg h1, if_neg h1]
      simp only [t4]
theorem drop_q {h w : Nat} {m8 m9 m10 n8 : Nat → Int32} (hq : RQ h (w + 1) m8 m9 m10 n8) : RQ ((h + 1) % 8) w m8 m9 m10 (shf n8 (3 * w)) := by
  intro j hj
  have e : ((h + 1) % 8 + j) % 8 = (h + (j + 1)) % 8 := by omega
  have s0 : shf n8 (3 * w) (3 * j) = n8 (3 * (j + 1)) := if_pos (by omega)
  have s1 : shf n8 (3 * w) (3 * j + 1) = n8 (3 * (j + 1) + 1) := (if_pos (by omega)).trans (by congr 1)
  have s2 : shf n8 (3 * w) (3 * j + 2) = n8 (3 * (j + 1) + 2) := (if_pos (by omega)).trans (by congr 1)
  rw [e, s0, s1, s2]
  exact hq (j + 1) (by omega)
theorem proc_drop {S S' T T' : SS} {M M' N N' : MM} {h w : Nat} (hh : h < 8) (hw : w < 8) (e18 : S 18 = nI h) (e19 : S 19 = nI (w + 1)) (hq : RQ h (w + 1) (M 8) (M 9) (M 10) (N 8)) (k1 : S' 18 = S 18) (k2 : S' 19 = S 19) (k3 : S' 21 = T' 20) (k4 : S' 22 = T' 21) (k5 : T' 18 = 0) (k6 : T' 19 = nI w) (m8 : M' 8 = M 8) (m9 : M' 9 = M 9) (m10 : M' 10 = M 10) (n8 : N' 8 = shf (N 8) (3 * w)) : RProc (drp S' 18) (drp S' 19) (drp S' 20) (drp S' 21) (drp S' 22) (M' 8) (M' 9) (M' 10) (T' 18) (T' 19) (T' 20) (T' 21) (N' 8) := by
  refine ⟨k5.symm, k3, k4, (h + 1) % 8, w, Nat.mod_lt _ (by decide), by omega, ?_, ?_, k6, ?_⟩
  · show (S' 18 + 1) &&& 7 = _
    rw [k1, e18, show nI h + (1 : Int32) = nI (h + 1) from nI_1 h, pk_andN (by omega) 3 (by decide)]
  · show S' 19 - 1 = _
    rw [k2, e19]
    exact nI_pred w
  · rw [m8, m9, m10, n8]
    exact drop_q hq
theorem process_rel {c : Gh} {S T : SS} {M N : MM} (hp : ¬ S 19 ≤ 0) (h : Rel c S M T N) : ∃ S' M' T' N', f_Bd_doFirstAccess S M = some (0, S', M') ∧ f_Md_process (upd T 18 0) N = some (0, T', N') ∧ Rel c S' M' T' N' := by
  have h' := h
  obtain ⟨h1, h2, h3, h4, h5, h6, s20, s21, s22, hd, w, hh, hw, e18, e19, t19, hq⟩ := h'
  have hw0 : w ≠ 0 := by
    intro z
    rw [e19, z] at hp
    exact hp (by decide)
  obtain ⟨w, rfl⟩ : ∃ q, w = q + 1 := ⟨w - 1, by omega⟩
  have hA : RelA c S M (upd (upd T 18 0) 19 (nI w)) (upM N 8 (shf (N 8) (3 * w))) := ⟨h1, h2, h3, h4, h5, h6⟩
  obtain ⟨q8, q9, q10, ⟨kd, hkd, ekd⟩, ⟨tg, htg, etg⟩, htw, ⟨vl, hvl, evl⟩⟩ := hq 0 (by omega)
  have eh : (hd + 0) % 8 = hd := by omega
  rw [eh] at q8 q9 q10
  have q8 : M 8 hd = N 8 0 := q8
  have q9 : M 9 hd = N 8 1 := q9
  have q10 : M 10 hd = N 8 2 := q10
  have ekd : N 8 0 = nI kd := ekd
  have etg : N 8 1 = nI tg := etg
  have evl : N 8 2 = nI vl := evl
  have htw : N 8 0 = 2 → lt32 (N 8 1) 32 := htw
  rw [e_first hh e18, e_process (T := upd T 18 0) (w := w) t19 (by omega), q8, q9, q10]
  unfold cact pact
  have hw8 : w < 8 := by omega
  by_cases k0 : N 8 0 = 0
  · rw [if_pos k0, if_pos k0, etg, evl, e_Me_put htg, if_neg (gd htg (by decide)), nI_clamp (by omega), an_65535 hvl]
    refine ⟨_, _, _, _, rfl, rfl, Rel_m ?_ (proc_drop (S := S) (S' := S) (T := T) (T' := upd (upd T 18 0) 19 (nI w)) (M := M) (N := N) hh hw8 e18 e19 hq rfl rfl s21 s22 rfl rfl rfl rfl rfl rfl)⟩
    exact ⟨h1, h2, memrel_put ⟨vl, hvl, rfl⟩ h3, h4, h5, h6⟩
  · rw [if_neg k0, if_neg k0]
    by_cases k1 : N 8 0 = 1
    · obtain ⟨em, lm⟩ := h3 tg htg
      rw [if_pos k1, if_pos k1, etg, e_Me_at htg, if_neg (gd htg (by decide)), nI_clamp (by omega)]
      refine ⟨_, _, _, _, rfl, rfl, Rel_m ?_ (proc_drop (S := S) (S' := upd (upd S 21 (M 1 tg)) 22 (S 22 + 1)) (T := T) (T' := upd (upd (upd (upd T 18 0) 19 (nI w)) 20 (N 0 tg)) 21 (T 21 + 1)) (M := M) (N := N) hh hw8 e18 e19 hq rfl rfl em (by show S 22 + 1 = T 21 + 1; rw [s22]) rfl rfl rfl rfl rfl rfl)⟩
      exact ⟨h1, h2, h3, h4, h5, h6⟩
    · rw [if_neg k1, if_neg k1]
      have k2 : N 8 0 = 2 := by
        rw [ekd] at k0 k1 ⊢
        have : kd = 0 ∨ kd = 1 ∨ kd = 2 := by omega
        rcases this with rfl | rfl | rfl
        · exact absurd rfl k0
        · exact absurd rfl k1
        · rfl
      obtain ⟨rg, hrg, erg⟩ := htw k2
      rw [erg, evl]
      obtain ⟨S', M', T', N', w1, w2, w3, ⟨p1, ⟨p2, p3, p4⟩, p5, p6⟩⟩ := write_rel hrg hvl hA
      rw [w1, w2]
      have a18 : T' 18 = 0 := (p5 18 (by decide)).trans rfl
      have a19 : T' 19 = nI w := (p5 19 (by decide)).trans rfl
      have a20 : T' 20 = T 20 := (p5 20 (by decide)).trans rfl
      have a21 : T' 21 = T 21 := (p5 21 (by decide)).trans rfl
      refine ⟨_, _, _, _, rfl, rfl, Rel_m ?_ (proc_drop (S := S) (S' := S') (T := T) (T' := T') (M := M) (N := N) hh hw8 e18 e19 hq (p1 18 (by decide)) (p1 19 (by decide)) ((p1 21 (by decide)).trans (s21.trans a20.symm)) ((p1 22 (by decide)).trans (s22.trans a21.symm)) a18 a19 p2 p3 p4 (p6.trans rfl))⟩
      exact w3
