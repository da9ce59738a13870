/-! Fetches of the planes; the frame's beginning; writes to registers. -/
theorem c_fetch {S : SS} {M : MM} {x1 x3 : Int32} {pl a : Nat} (hpl : pl < 2) (ha : a < 256) (h3 : M 3 pl = nI a) : ∃ M', f_Pi_fetchAt_12 S M x1 x3 (nI pl) = some (0, S, M') ∧ (M' 0 = M 0 ∧ M' 1 = M 1 ∧ M' 2 = M 2 ∧ M' 5 = M 5 ∧ M' 6 = M 6 ∧ M' 7 = M 7 ∧ M' 8 = M 8 ∧ M' 9 = M 9 ∧ M' 10 = M 10) ∧ (∀ j, j < 2 → M' 4 j = if j = pl then M 1 a else M 4 j) ∧ (∀ j, j < 2 → M' 3 j = if x1 = 23 then ((if j = pl then (M 3 j + 1) &&& 255 else M 3 j) + x3) &&& 255 else (if j = pl then (M 3 j + 1) &&& 255 else M 3 j)) := by
  have g := gd hpl (show 2 < 2 ^ 31 by decide)
  have hcl : (nI pl).toNatClampNeg = pl := nI_clamp (by omega)
  rw [hcl] at g
  unfold f_Pi_fetchAt_12 f_Pi_fetchAt_94
  rw [hcl, if_neg g, h3, e_Me_at ha]
  simp only [Option.bind_some]
  rw [if_neg g, if_neg g, if_neg g]
  by_cases h23 : x1 = 23
  · rw [if_pos h23]
    refine ⟨_, rfl, ⟨rfl, rfl, rfl, rfl, rfl, rfl, rfl, rfl, rfl⟩, ?_, ?_⟩
    · intro j hj
      rfl
    · intro j hj
      rw [if_pos h23]
      have hj : j = 0 ∨ j = 1 := by omega
      have hp2 : pl = 0 ∨ pl = 1 := by omega
      rcases hj with rfl | rfl
      · rcases hp2 with rfl | rfl
        · rfl
        · rfl
      · rcases hp2 with rfl | rfl
        · rfl
        · rfl
  · rw [if_neg h23]
    refine ⟨_, rfl, ⟨rfl, rfl, rfl, rfl, rfl, rfl, rfl, rfl, rfl⟩, ?_, ?_⟩
    · intro j hj
      rfl
    · intro j hj
      rw [if_neg h23]
      by_cases q : j = pl
      · subst q; rw [if_pos rfl]; exact upd_s
      · rw [if_neg q]; exact upd_n q
theorem m_fetch {T : SS} {N : MM} {x2 : Int32} {pl a : Nat} (hpl : pl < 2) (ha : a < 256) (h3 : N 4 pl = nI a) : ∃ N', f_Md_fetchPlane T N (nI pl) x2 = some (0, T, N') ∧ (N' 0 = N 0 ∧ N' 1 = N 1 ∧ N' 2 = N 2 ∧ N' 3 = N 3 ∧ N' 6 = N 6 ∧ N' 7 = N 7 ∧ N' 8 = N 8) ∧ (∀ j, j < 2 → N' 5 j = if j = pl then N 0 a else N 5 j) ∧ (∀ j, j < 2 → N' 4 j = if x2 = 23 then ((if j = pl then (N 4 j + 1) &&& 255 else N 4 j) + N 1 5) &&& 255 else (if j = pl then (N 4 j + 1) &&& 255 else N 4 j)) := by
  have g := gd hpl (show 2 < 2 ^ 31 by decide)
  have hcl : (nI pl).toNatClampNeg = pl := nI_clamp (by omega)
  rw [hcl] at g
  have hca : (nI a).toNatClampNeg = a := nI_clamp (by omega)
  unfold f_Md_fetchPlane
  rw [hcl, if_neg g, h3, if_neg (gd ha (by decide)), if_neg g, if_neg g, if_neg g, hca]
  by_cases h23 : x2 = 23
  · rw [if_pos h23]
    unfold f_Md_fetchPlane_44_3_0 f_Md_fetchPlane_44_3_1 f_Md_fetchPlane_44_3_2
    refine ⟨_, rfl, ⟨rfl, rfl, rfl, rfl, rfl, rfl, rfl⟩, ?_, ?_⟩
    · intro j hj
      rfl
    · intro j hj
      rw [if_pos h23]
      have hj : j = 0 ∨ j = 1 := by omega
      have hp2 : pl = 0 ∨ pl = 1 := by omega
      rcases hj with rfl | rfl
      · rcases hp2 with rfl | rfl
        · rfl
        · rfl
      · rcases hp2 with rfl | rfl
        · rfl
        · rfl
  · rw [if_neg h23]
    refine ⟨_, rfl, ⟨rfl, rfl, rfl, rfl, rfl, rfl, rfl⟩, ?_, ?_⟩
    · intro j hj
      rfl
    · intro j hj
      rw [if_neg h23]
      by_cases q : j = pl
      · subst q; rw [if_pos rfl]; exact upd_s
      · rw [if_neg q]; exact upd_n q
theorem fetch_rel {c : Gh} {S T : SS} {M N : MM} {x : Int32} {pl : Nat} (hpl : pl < 2) (h : Rel c S M T N) : ∃ M' N', f_Pi_fetchAt_12 S M x (M 2 5) (nI pl) = some (0, S, M') ∧ f_Md_fetchPlane T N (nI pl) x = some (0, T, N') ∧ Rel c S M' T N' := by
  have hp := h.2.2.2.1
  obtain ⟨ea, a, ha, h3⟩ := hp.1 pl hpl
  obtain ⟨M', c1, ⟨p0, p1, p2, p5, p6, p7, p8, p9, p10⟩, c2, c3⟩ := c_fetch (S := S) (M := M) (x1 := x) (x3 := M 2 5) hpl ha h3
  obtain ⟨N', d1, ⟨q0, q1, q2, q3, q6, q7, q8⟩, d2, d3⟩ := m_fetch (T := T) (N := N) (x2 := x) hpl ha (ea.symm.trans h3)
  refine ⟨M', N', c1, d1, rel_pic h ⟨?_, ?_, by rw [p5, q6]; exact hp.2.2.1, by rw [p6, q2]; exact hp.2.2.2⟩ p0 p1 p2 p7 p8 p9 p10 q0 q1 q3 q7 q8⟩
  · intro j hj
    obtain ⟨e1, l1⟩ := hp.1 j hj
    rw [c3 j hj, d3 j hj, ← e1, ← (h.2.1 5 (by decide)).1]
    refine ⟨rfl, ?_⟩
    by_cases h23 : x = 23
    · rw [if_pos h23]; exact lt_255 _
    · rw [if_neg h23]
      by_cases q : j = pl
      · rw [if_pos q]; exact lt_255 _
      · rw [if_neg q]; exact l1
  · intro j hj
    obtain ⟨e1, l1⟩ := hp.2.1 j hj
    obtain ⟨e2, l2⟩ := h.2.2.1 a ha
    rw [c2 j hj, d2 j hj, ← e1, ← e2]
    refine ⟨rfl, ?_⟩
    by_cases q : j = pl
    · rw [if_pos q]; exact l2
    · rw [if_neg q]; exact l1
-- the list goes on
theorem goOn_rel {c : Gh} {S T : SS} {M N : MM} (h : RelA c S M T N) : RelA c (upd (upd (upd (upd S 3 1) 4 (M 2 1)) 7 0) 8 0) M (upd (upd (upd (upd T 3 1) 4 (N 1 1)) 6 0) 7 0) N := by
  obtain ⟨h1, h2, h3, h4, h5, h6⟩ := h
  obtain ⟨e, l⟩ := h2 1 (by decide)
  exact ⟨h1, h2, h3, h4, ⟨rfl, e, l, h5.2.2.2.1, h5.2.2.2.2.1, fun z => absurd z (show ¬ (1 : Int32) = 2 by decide), rfl, rfl, Or.inl rfl, Or.inl rfl⟩, h6⟩
theorem e_goOnAt {S : SS} {M : MM} {x : Int32} : f_Li_goOnAt S M x = some (0, upd (upd (upd (upd S 3 1) 4 x) 7 0) 8 0, M) := rfl
theorem e_start {T : SS} {N : MM} : f_Md_startList T N = some (0, upd (upd (upd (upd T 3 1) 4 (N 1 1)) 6 0) 7 0, N) := rfl
-- the frame begins
theorem e_bases {S : SS} {M : MM} : f_Pi_returnToBases S M = some (0, S, upM M 3 (upd (upd (M 3) 0 (M 2 3)) 1 (M 2 4))) := by
  unfold f_Pi_returnToBases f_Pi_returnToBases_2_2_0 f_Pi_returnToBases_2_2_1 f_Pi_returnToBases_2_2_2
  rw [show (3 : Int32) = nI 3 from rfl, e_Re_at (by decide)]
  simp only [Option.bind_some]
  rw [show (4 : Int32) = nI 4 from rfl, e_Re_at (by decide)]
  simp only [Option.bind_some]
  rw [upM_upM, upM_s, upM_n (show (2 : Nat) ≠ 3 by decide)]
theorem frame_rel {c : Gh} {S T : SS} {M N : MM} (h : Rel c S M T N) : Rel c (upd (upd S 1 (S 1 + 1)) 2 (S 2 ||| 2)) (upM M 3 (upd (upd (M 3) 0 (M 2 3)) 1 (M 2 4))) (upd (upd T 1 (T 1 + 1)) 2 (T 2 ||| 2)) (upM (upM N 4 (upd (N 4) 0 (N 1 3))) 4 (upd ((upM N 4 (upd (N 4) 0 (N 1 3))) 4) 1 ((upM N 4 (upd (N 4) 0 (N 1 3))) 1 4))) := by
  obtain ⟨h1, h2, h3, h4, h5, h6, h7⟩ := h
  obtain ⟨a0, a1, a2, a3, a4⟩ := h1
  refine ⟨⟨a0, by show S 1 + 1 = T 1 + 1; rw [a1], by show S 2 ||| 2 = T 2 ||| 2; rw [a2], a3, a4⟩, h2, h3, ⟨?_, h4.2⟩, h5, h6, h7⟩
  exact two_of (x := M 2 3) (y := M 2 4) rfl rfl (h2 3 (by decide)).1.symm (h2 4 (by decide)).1.symm (h2 3 (by decide)).2 (h2 4 (by decide)).2
-- the mover begins
def mwid (v : Int32) : Int32 := if v &&& 7 = 0 then 8 else v &&& 7
def mhei (v : Int32) : Int32 := if (v >>> ((4 : Int32) &&& 31)) &&& 15 = 0 then 16 else (v >>> ((4 : Int32) &&& 31)) &&& 15
theorem e_begin {S : SS} {M : MM} {v : Int32} : f_Mo_begin S M v = some (0, upd (upd (upd (upd (upd (upd (upd (upd (upd S 11 (mwid v)) 12 (mhei v)) 13 0) 14 0) 15 0) 16 0) 17 0) 10 1) 9 1, M) := by
  unfold f_Mo_begin f_Mo_begin_17 f_Mo_begin_41 mwid mhei
  by_cases h1 : v &&& 7 = 0
  · rw [if_pos h1, if_pos h1]
    by_cases h2 : (v >>> ((4 : Int32) &&& 31)) &&& 15 = 0
    · rw [if_pos h2, if_pos h2]
    · rw [if_neg h2, if_neg h2]
  · rw [if_neg h1, if_neg h1]
    by_cases h2 : (v >>> ((4 : Int32) &&& 31)) &&& 15 = 0
    · rw [if_pos h2, if_pos h2]
    · rw [if_neg h2, if_neg h2]
theorem e_mbegin {T : SS} {N : MM} {v : Int32} : f_Md_begin T N v = some (0, upd (upd (upd (upd (upd (upd (upd (upd (upd T 9 1) 10 1) 11 (mwid v)) 12 (mhei v)) 13 0) 14 0) 15 0) 16 0) 17 0, N) := by
  unfold f_Md_begin f_Md_begin_27 f_Md_begin_51 mwid mhei
  by_cases h1 : v &&& 7 = 0
  · rw [if_pos h1, if_pos h1]
    by_cases h2 : (v >>> ((4 : Int32) &&& 31)) &&& 15 = 0
    · rw [if_pos h2, if_pos h2]
    · rw [if_neg h2, if_neg h2]
  · rw [if_neg h1, if_neg h1]
    by_cases h2 : (v >>> ((4 : Int32) &&& 31)) &&& 15 = 0
    · rw [if_pos h2, if_pos h2]
    · rw [if_neg h2, if_neg h2]
theorem mhei_lt (v : Int32) : ∃ h, mhei v = nI h ∧ 0 < h ∧ h ≤ 16 := by
  unfold mhei
  by_cases h2 : (v >>> ((4 : Int32) &&& 31)) &&& 15 = 0
  · exact ⟨16, by rw [if_pos h2]; rfl, by decide, by decide⟩
  · obtain ⟨j, hj, e⟩ := pk_andE (v >>> ((4 : Int32) &&& 31)) (m := 15) 4 (by decide)
    refine ⟨j, by rw [if_neg h2]; exact e, ?_, by omega⟩
    rcases Nat.eq_zero_or_pos j with z | z
    · subst z; exact absurd e h2
    · exact z
theorem begin_rel {c : Gh} {S T : SS} {M N : MM} {v : Int32} (h : RelA c S M T N) : RelA c (upd (upd (upd (upd (upd (upd (upd (upd (upd S 11 (mwid v)) 12 (mhei v)) 13 0) 14 0) 15 0) 16 0) 17 0) 10 1) 9 1) M (upd (upd (upd (upd (upd (upd (upd (upd (upd T 9 1) 10 1) 11 (mwid v)) 12 (mhei v)) 13 0) 14 0) 15 0) 16 0) 17 0) N := by
  obtain ⟨h1, h2, h3, h4, h5, h6⟩ := h
  obtain ⟨q, e, l1, l2⟩ := mhei_lt v
  exact ⟨h1, h2, h3, h4, h5, ⟨rfl, rfl, rfl, rfl, rfl, rfl, rfl, rfl, rfl, Or.inr rfl, Or.inr rfl, ⟨0, by decide, rfl⟩, ⟨0, by decide, rfl⟩, ⟨0, by decide, rfl⟩, h6.2.2.2.2.2.2.2.2.2.2.2.2.2.2.1, fun _ => ⟨0, q, rfl, e, l1, l2⟩⟩⟩
