/-! Base: a system's state is its ints by number (SS) and its int arrays by number (MM); a method is a function to Option (answer, ints, arrays). -/
abbrev SS : Type := Nat → Int32
abbrev MM : Type := Nat → Nat → Int32
abbrev RR : Type := Int32 × SS × MM
def upM (M : MM) (k : Nat) (f : Nat → Int32) : MM := fun j => if j = k then f else M j
theorem sg_g {α : Type} {c : Prop} {i : Decidable c} {x : Option α} {r : α} (h : (@ite _ c i none x) = some r) : ¬ c ∧ x = some r := by
  by_cases hc : c
  · rw [if_pos hc] at h; cases h
  · rw [if_neg hc] at h; exact ⟨hc, h⟩
theorem sg_p {α : Type} {c : Prop} {i : Decidable c} {x y : Option α} {r : α} (hc : c) (h : (@ite _ c i x y) = some r) : x = some r := by
  rwa [if_pos hc] at h
theorem sg_n {α : Type} {c : Prop} {i : Decidable c} {x y : Option α} {r : α} (hc : ¬ c) (h : (@ite _ c i x y) = some r) : y = some r := by
  rwa [if_neg hc] at h
theorem sg_b {α β : Type} {o : Option α} {k : α → Option β} {r : β} (h : o.bind k = some r) : ∃ q, o = some q ∧ k q = some r := by
  cases o with
  | none => cases h
  | some q => exact ⟨q, rfl, h⟩
theorem sg_nb {v : Int32} (h : ¬ ¬ (v = 0 ∨ v = 1)) : narrow .boolean (.int v) = .int v ∧ fits .boolean (.int v) = true := by
  rcases Classical.not_not.mp h with rfl | rfl
  · exact ⟨by decide +kernel, by decide +kernel⟩
  · exact ⟨by decide +kernel, by decide +kernel⟩
/-- what a method finds: its cells, the tables, the cells apart and in A, and what nobody writes (Z) -/
def Wo (D : va_G) (cl : List vw_C) (tys : List (ClassId × FieldType)) (A : Nat → Prop) (Z : State → Heap → Prop) (ws : va_W) (U : State) : Prop :=
  va_P D cl ws U.heap ∧ va_K D cl tys U ∧ va_D A ws ∧ Z U U.heap
/-- Z is of the tables and of cells outside A -/
def ZK (A : Nat → Prop) (Z : State → Heap → Prop) : Prop := ∀ (u U : State) (H H1 : Heap), (u.vm = U.vm ∨ u.WarmedH U.vm) → (∀ q : Nat, q < H.size → ¬ A q → H1[q]? = H[q]?) → Z u H → Z U H1
theorem ZK_al {u U : State} (h : u.vm = U.vm ∨ u.WarmedH U.vm) : u.vm.Alike U.vm := by
  rcases h with h | h
  · rw [h]; exact Vm.Alike.refl _
  · exact h.alike
/-- contracts: from the state (S, M) to the answer and state q -/
def Ci (l : Launch) (y : MethodName) (ws : List Cond) (rm : Room) (D : va_G) (cl : List vw_C) (tys : List (ClassId × FieldType)) (A : Nat → Prop) (Z : State → Heap → Prop) (wf : SS → MM → va_W) (av : List Value) (S : SS) (M : MM) (q : RR) : Prop :=
  Met l y ws rm (va_Pc av (Wo D cl tys A Z (wf S M))) (va_Qi (fun (r : Int32) (u : SS × MM) => r = q.1 ∧ u = q.2) (fun u t => va_P D cl (wf u.1 u.2) t.heap ∧ va_D A (wf u.1 u.2)) A) 0 0 A
def Cv (l : Launch) (y : MethodName) (ws : List Cond) (rm : Room) (D : va_G) (cl : List vw_C) (tys : List (ClassId × FieldType)) (A : Nat → Prop) (Z : State → Heap → Prop) (wf : SS → MM → va_W) (av : List Value) (S : SS) (M : MM) (q : RR) : Prop :=
  Met l y ws rm (va_Pc av (Wo D cl tys A Z (wf S M))) (va_Qv (fun (u : SS × MM) => u = q.2) (fun u t => va_P D cl (wf u.1 u.2) t.heap ∧ va_D A (wf u.1 u.2)) A) 0 0 A
/-- the machine at a place of a method, whatever the heap that holds the state -/
def BK (p : Program) (l : Launch) (e : Env) (R : Room) (s : State) (m : MethodId) (args : Array Value) (below : List Frame) (meth : Method) (c : Code) (Q : State → Prop) (D : va_G) (cl : List vw_C) (A : Nat → Prop) (wf : SS → MM → va_W) (n pc : Nat) (lv : List (Nat × Value)) (st : List Value) (S : SS) (M : MM) : Prop :=
  ∀ (H : Heap) (locs : List Loc) (ls : Array Slot), lv_has ls n lv → va_P D cl (wf S M) H → va_D A (wf S M) → va_S A s.heap H locs → W p l e R s m args below meth c H locs 0 0 Q (F0 m pc ls st)
theorem Ci.of {l : Launch} {y : MethodName} {ws ws' : List Cond} {rm : Room} {D : va_G} {cl : List vw_C} {tys : List (ClassId × FieldType)} {A : Nat → Prop} {Z : State → Heap → Prop} {wf : SS → MM → va_W} {av : List Value} {S : SS} {M : MM} {q : RR} {cc : ByteArray} {maxL : Nat} {ty : FieldType}
    (hy : plainName y.cls = true) (hw : ws = Cond.code y cc maxL (some ty) :: ws') (hlen : (lg_sl av).length ≤ maxL)
    (body : ∀ (p : Program) (e : Env) (s : State) (m : MethodId) (args : Array Value) (below : List Frame) (meth : Method) (c : Code) (Q : State → Prop), p.tables.exec = Jvm.exec → c.code = cc → c.maxLocals = maxL → s.vm.findClass y.cls = some m.cls → (∀ w ∈ ws, w.before args s = true) → va_K D cl tys s → Z s s.heap →
      (∀ (H : Heap) (locs : List Loc) (ls : Array Slot) (S1 : SS) (M1 : MM) (v : Int32) (pc : Nat), some (v, S1, M1) = some q → narrow ty (.int v) = .int v → va_P D cl (wf S1 M1) H → va_D A (wf S1 M1) → va_S A s.heap H locs → decode cc pc = .ok (.ireturn, 1) → W p l e rm s m args below meth c H locs 0 0 Q (F0 m pc ls [.int v])) →
      BK p l e rm s m args below meth c Q D cl A wf maxL 0 (lv_args 0 av) [] S M) : Ci l y ws rm D cl tys A Z wf av S M q := by
  refine Met.ofW (cc := cc) (maxL := maxL) (ret := some ty) hy hw ?_
  intro p e s m args below meth c s₁ B hml hv
  obtain ⟨rfl, hP, hK, hD, hZ⟩ := hv
  have hx := B.exec
  have hb := B.bytes
  have hr := B.returns
  have hlocks := B.notSynchronized
  have hl := lv_entry av (n := maxL) hlen
  rw [lg_entry_eq]
  refine body p e s m _ below meth c _ hx hb hml (findClass_of_methodNamed B.named) (atoms_spec (ws := ws) B.pre) hK hZ ?_ s.heap [] _ hl hP hD va_S.rf
  intro H locs ls S1 M1 v pc hq hn hP1 hD1 hS1 hdg
  obtain rfl := Option.some.inj hq
  exact W.zret hx hb hr hn (fun t ht hW => ⟨⟨v, (S1, M1), rfl, ⟨rfl, rfl⟩, by rw [ht]; exact hP1, hD1⟩, hS1.F ht⟩) hS1.2.2 hdg
theorem Cv.of {l : Launch} {y : MethodName} {ws ws' : List Cond} {rm : Room} {D : va_G} {cl : List vw_C} {tys : List (ClassId × FieldType)} {A : Nat → Prop} {Z : State → Heap → Prop} {wf : SS → MM → va_W} {av : List Value} {S : SS} {M : MM} {q : RR} {cc : ByteArray} {maxL : Nat}
    (hy : plainName y.cls = true) (hw : ws = Cond.code y cc maxL none :: ws') (hlen : (lg_sl av).length ≤ maxL)
    (body : ∀ (p : Program) (e : Env) (s : State) (m : MethodId) (args : Array Value) (below : List Frame) (meth : Method) (c : Code) (Q : State → Prop), p.tables.exec = Jvm.exec → c.code = cc → c.maxLocals = maxL → s.vm.findClass y.cls = some m.cls → (∀ w ∈ ws, w.before args s = true) → va_K D cl tys s → Z s s.heap →
      (∀ (H : Heap) (locs : List Loc) (ls : Array Slot) (S1 : SS) (M1 : MM) (v : Int32) (pc : Nat), some (v, S1, M1) = some q → va_P D cl (wf S1 M1) H → va_D A (wf S1 M1) → va_S A s.heap H locs → decode cc pc = .ok (.return_, 1) → W p l e rm s m args below meth c H locs 0 0 Q (F0 m pc ls [])) →
      BK p l e rm s m args below meth c Q D cl A wf maxL 0 (lv_args 0 av) [] S M) : Cv l y ws rm D cl tys A Z wf av S M q := by
  refine Met.ofW (cc := cc) (maxL := maxL) (ret := none) hy hw ?_
  intro p e s m args below meth c s₁ B hml hv
  obtain ⟨rfl, hP, hK, hD, hZ⟩ := hv
  have hx := B.exec
  have hb := B.bytes
  have hr := B.returns
  have hlocks := B.notSynchronized
  have hl := lv_entry av (n := maxL) hlen
  rw [lg_entry_eq]
  refine body p e s m _ below meth c _ hx hb hml (findClass_of_methodNamed B.named) (atoms_spec (ws := ws) B.pre) hK hZ ?_ s.heap [] _ hl hP hD va_S.rf
  intro H locs ls S1 M1 v pc hq hP1 hD1 hS1 hdg
  obtain rfl := Option.some.inj hq
  exact W.vret hx hb hr (fun t ht hW => ⟨⟨(S1, M1), rfl, rfl, by rw [ht]; exact hP1, hD1⟩, hS1.F ht⟩) hS1.2.2 hdg
theorem Wo.blind {D : va_G} {cl : List vw_C} {tys : List (ClassId × FieldType)} {A : Nat → Prop} {Z : State → Heap → Prop} {ws : va_W} {av : List Value} (hZK : ZK A Z) : FrameBlind (va_Pc av (Wo D cl tys A Z ws)) := by
  intro a U g mk q
  obtain ⟨q0, qP, qK, qD, qZ⟩ := q
  exact ⟨q0, qP, va_K.moved (u := U) (U := U.calling g mk a) (Vm.Alike.refl U.vm) qK, qD, hZK U (U.calling g mk a) U.heap _ (Or.inl rfl) (fun _ _ _ => rfl) qZ⟩
theorem Wo.at {D : va_G} {cl : List vw_C} {tys : List (ClassId × FieldType)} {A : Nat → Prop} {Z : State → Heap → Prop} {ws : va_W} {s : State} {H : Heap} {locs : List Loc} {av : List Value} (hZK : ZK A Z) (hK : va_K D cl tys s) (hZ : Z s s.heap) (hP : va_P D cl ws H) (hD : va_D A ws) (hS : va_S A s.heap H locs) :
    ∀ U : State, U.heap = H → s.WarmedH U.vm → va_Pc av (Wo D cl tys A Z ws) av.toArray U := fun U hU hW => ⟨rfl, by rw [hU]; exact hP, va_K.moved hW.alike hK, hD, hZK s U s.heap _ (Or.inr hW) (fun q h1 h2 => by rw [hU]; exact hS.2.1 q h1 h2) hZ⟩
section CALLS
variable {p : Program} {l : Launch} {e : Env} {R : Room} {s : State} {m : MethodId} {args : Array Value} {below : List Frame} {meth : Method} {c : Code} {H : Heap} {locs : List Loc} {Q : State → Prop}
variable {y : MethodName} {bytes cc : ByteArray} {maxL nL n index pc : Nat} {ret : Option FieldType} {ws : List Cond} {rm : Room} {Ts : List Cond} {own C host : String} {b : Nat} {As rest st : List Value} {ls : Array Slot}
variable {D : va_G} {cl : List vw_C} {tys : List (ClassId × FieldType)} {A : Nat → Prop} {Z : State → Heap → Prop} {wf : SS → MM → va_W} {S : SS} {M : MM} {q : RR} {ci : Nat} {fs : List Value} {T : u_T} {N : Nat}
theorem cvi (hX : CallFix p m c cc nL s args Ts own) (hM : Ci l y ws rm D cl tys A Z wf (.ref b :: As) S M q) (cw : CallW R s args own C index y bytes maxL ret ws rm 0 0 n) (hZK : ZK A Z) (hK : va_K D cl tys s) (hZ : Z s s.heap) (hP : va_P D cl (wf S M) H) (hD : va_D A (wf S M)) (hS : va_S A s.heap H locs) (q0 : Nat) (he : (wf S M)[q0]? = some (b, .inr (ci, fs))) (hc : cl[ci]? = some (C, T, N)) (hn : As.length = n) (hsize : ls.size = nL) (hst : st = As.reverse ++ .ref b :: rest) (hW : (rest.map fun v => v.category).sum ≤ 8) (hdg : decode cc pc = .ok (.invokevirtual index, 3))
    (kk : ∀ (H1 : Heap) (locs1 : List Loc), va_P D cl (wf q.2.1 q.2.2) H1 → va_D A (wf q.2.1 q.2.2) → va_S A s.heap H1 locs1 → W p l e R s m args below meth c H1 locs1 0 0 Q (F0 m (pc + 3) ls (.int q.1 :: rest))) : W p l e R s m args below meth c H locs 0 0 Q (F0 m pc ls st) := by
  subst hst
  refine va_calli (va_runV (As := As) (rest := rest) hX hM cw ⟨Wo.blind hZK, va_recv hK hP hc he, Wo.at hZK hK hZ hP hD hS⟩ rfl hn hsize rfl (lv_room hW) hdg ⟨Nat.zero_le _, Nat.zero_le _⟩) hS (fun _ _ h => h) (fun _ h => h) (fun r u t H1 locs1 ht hvm hp hB hz hk hS1 => ?_)
  obtain ⟨rfl, rfl⟩ := hp
  rw [ht] at hB
  exact kk H1 locs1 hB.1 hB.2 hS1
theorem cvv (hX : CallFix p m c cc nL s args Ts own) (hM : Cv l y ws rm D cl tys A Z wf (.ref b :: As) S M q) (cw : CallW R s args own C index y bytes maxL ret ws rm 0 0 n) (hZK : ZK A Z) (hK : va_K D cl tys s) (hZ : Z s s.heap) (hP : va_P D cl (wf S M) H) (hD : va_D A (wf S M)) (hS : va_S A s.heap H locs) (q0 : Nat) (he : (wf S M)[q0]? = some (b, .inr (ci, fs))) (hc : cl[ci]? = some (C, T, N)) (hn : As.length = n) (hsize : ls.size = nL) (hst : st = As.reverse ++ .ref b :: rest) (hW : (rest.map fun v => v.category).sum ≤ 8) (hdg : decode cc pc = .ok (.invokevirtual index, 3))
    (kk : ∀ (H1 : Heap) (locs1 : List Loc), va_P D cl (wf q.2.1 q.2.2) H1 → va_D A (wf q.2.1 q.2.2) → va_S A s.heap H1 locs1 → W p l e R s m args below meth c H1 locs1 0 0 Q (F0 m (pc + 3) ls rest)) : W p l e R s m args below meth c H locs 0 0 Q (F0 m pc ls st) := by
  subst hst
  refine va_callv (va_runV (As := As) (rest := rest) hX hM cw ⟨Wo.blind hZK, va_recv hK hP hc he, Wo.at hZK hK hZ hP hD hS⟩ rfl hn hsize rfl (lv_room hW) hdg ⟨Nat.zero_le _, Nat.zero_le _⟩) hS (fun _ _ h => h) (fun _ h => h) (fun u t H1 locs1 ht hvm hp hB hz hk hS1 => ?_)
  obtain rfl := hp
  rw [ht] at hB
  exact kk H1 locs1 hB.1 hB.2 hS1
theorem csi (hX : CallFix p m c cc nL s args Ts own) (hM : Ci l y ws rm D cl tys A Z wf As S M q) (cw : CallB R s args own index y bytes maxL ret ws rm 0 0 n ∧ (Cond.static y).before args s = true) (hZK : ZK A Z) (hK : va_K D cl tys s) (hZ : Z s s.heap) (hP : va_P D cl (wf S M) H) (hD : va_D A (wf S M)) (hS : va_S A s.heap H locs) (hn : As.length = n) (hsize : ls.size = nL) (hst : st = As.reverse ++ rest) (hW : (rest.map fun v => v.category).sum ≤ 8) (hdg : decode cc pc = .ok (.invokestatic index, 3))
    (kk : ∀ (H1 : Heap) (locs1 : List Loc), va_P D cl (wf q.2.1 q.2.2) H1 → va_D A (wf q.2.1 q.2.2) → va_S A s.heap H1 locs1 → W p l e R s m args below meth c H1 locs1 0 0 Q (F0 m (pc + 3) ls (.int q.1 :: rest))) : W p l e R s m args below meth c H locs 0 0 Q (F0 m pc ls st) := by
  subst hst
  refine va_calli (va_runS (As := As) (rest := rest) hX hM cw ⟨Wo.blind hZK, Wo.at hZK hK hZ hP hD hS⟩ rfl hn hsize rfl (lv_room hW) hdg ⟨Nat.zero_le _, Nat.zero_le _⟩) hS (fun _ _ h => h) (fun _ h => h) (fun r u t H1 locs1 ht hvm hp hB hz hk hS1 => ?_)
  obtain ⟨rfl, rfl⟩ := hp
  rw [ht] at hB
  exact kk H1 locs1 hB.1 hB.2 hS1
theorem csv (hX : CallFix p m c cc nL s args Ts own) (hM : Cv l y ws rm D cl tys A Z wf As S M q) (cw : CallB R s args own index y bytes maxL ret ws rm 0 0 n ∧ (Cond.static y).before args s = true) (hZK : ZK A Z) (hK : va_K D cl tys s) (hZ : Z s s.heap) (hP : va_P D cl (wf S M) H) (hD : va_D A (wf S M)) (hS : va_S A s.heap H locs) (hn : As.length = n) (hsize : ls.size = nL) (hst : st = As.reverse ++ rest) (hW : (rest.map fun v => v.category).sum ≤ 8) (hdg : decode cc pc = .ok (.invokestatic index, 3))
    (kk : ∀ (H1 : Heap) (locs1 : List Loc), va_P D cl (wf q.2.1 q.2.2) H1 → va_D A (wf q.2.1 q.2.2) → va_S A s.heap H1 locs1 → W p l e R s m args below meth c H1 locs1 0 0 Q (F0 m (pc + 3) ls rest)) : W p l e R s m args below meth c H locs 0 0 Q (F0 m pc ls st) := by
  subst hst
  refine va_callv (va_runS (As := As) (rest := rest) hX hM cw ⟨Wo.blind hZK, Wo.at hZK hK hZ hP hD hS⟩ rfl hn hsize rfl (lv_room hW) hdg ⟨Nat.zero_le _, Nat.zero_le _⟩) hS (fun _ _ h => h) (fun _ h => h) (fun u t H1 locs1 ht hvm hp hB hz hk hS1 => ?_)
  obtain rfl := hp
  rw [ht] at hB
  exact kk H1 locs1 hB.1 hB.2 hS1
theorem cni (hX : CallFix p m c cc nL s args Ts own) (hM : Ci l y ws rm D cl tys A Z wf (.ref b :: As) S M q) (cw : va_CN R s args own index y host bytes maxL ret ws rm 0 0 n ∧ (Cond.instanceMethod y).before args s = true ∧ (Cond.selects C y y).before args s = true) (hZK : ZK A Z) (hK : va_K D cl tys s) (hZ : Z s s.heap) (hP : va_P D cl (wf S M) H) (hD : va_D A (wf S M)) (hS : va_S A s.heap H locs) (q0 : Nat) (he : (wf S M)[q0]? = some (b, .inr (ci, fs))) (hc : cl[ci]? = some (C, T, N)) (hn : As.length = n) (hsize : ls.size = nL) (hst : st = As.reverse ++ .ref b :: rest) (hW : (rest.map fun v => v.category).sum ≤ 8) (hdg : decode cc pc = .ok (.invokevirtual index, 3))
    (kk : ∀ (H1 : Heap) (locs1 : List Loc), va_P D cl (wf q.2.1 q.2.2) H1 → va_D A (wf q.2.1 q.2.2) → va_S A s.heap H1 locs1 → W p l e R s m args below meth c H1 locs1 0 0 Q (F0 m (pc + 3) ls (.int q.1 :: rest))) : W p l e R s m args below meth c H locs 0 0 Q (F0 m pc ls st) := by
  subst hst
  refine va_calli (va_runVN (As := As) (rest := rest) hX hM cw ⟨Wo.blind hZK, va_recv hK hP hc he, Wo.at hZK hK hZ hP hD hS⟩ rfl hn hsize rfl (lv_room hW) hdg ⟨Nat.zero_le _, Nat.zero_le _⟩) hS (fun _ _ h => h) (fun _ h => h) (fun r u t H1 locs1 ht hvm hp hB hz hk hS1 => ?_)
  obtain ⟨rfl, rfl⟩ := hp
  rw [ht] at hB
  exact kk H1 locs1 hB.1 hB.2 hS1
theorem cnv (hX : CallFix p m c cc nL s args Ts own) (hM : Cv l y ws rm D cl tys A Z wf (.ref b :: As) S M q) (cw : va_CN R s args own index y host bytes maxL ret ws rm 0 0 n ∧ (Cond.instanceMethod y).before args s = true ∧ (Cond.selects C y y).before args s = true) (hZK : ZK A Z) (hK : va_K D cl tys s) (hZ : Z s s.heap) (hP : va_P D cl (wf S M) H) (hD : va_D A (wf S M)) (hS : va_S A s.heap H locs) (q0 : Nat) (he : (wf S M)[q0]? = some (b, .inr (ci, fs))) (hc : cl[ci]? = some (C, T, N)) (hn : As.length = n) (hsize : ls.size = nL) (hst : st = As.reverse ++ .ref b :: rest) (hW : (rest.map fun v => v.category).sum ≤ 8) (hdg : decode cc pc = .ok (.invokevirtual index, 3))
    (kk : ∀ (H1 : Heap) (locs1 : List Loc), va_P D cl (wf q.2.1 q.2.2) H1 → va_D A (wf q.2.1 q.2.2) → va_S A s.heap H1 locs1 → W p l e R s m args below meth c H1 locs1 0 0 Q (F0 m (pc + 3) ls rest)) : W p l e R s m args below meth c H locs 0 0 Q (F0 m pc ls st) := by
  subst hst
  refine va_callv (va_runVN (As := As) (rest := rest) hX hM cw ⟨Wo.blind hZK, va_recv hK hP hc he, Wo.at hZK hK hZ hP hD hS⟩ rfl hn hsize rfl (lv_room hW) hdg ⟨Nat.zero_le _, Nat.zero_le _⟩) hS (fun _ _ h => h) (fun _ h => h) (fun u t H1 locs1 ht hvm hp hB hz hk hS1 => ?_)
  obtain rfl := hp
  rw [ht] at hB
  exact kk H1 locs1 hB.1 hB.2 hS1
end CALLS
section ARR
variable {p : Program} {l : Launch} {e : Env} {R : Room} {s : State} {m : MethodId} {args : Array Value} {below : List Frame} {meth : Method} {c : Code} {H : Heap} {locs : List Loc} {cells slots : Nat} {Q : State → Prop}
variable {cc : ByteArray} {pc : Nat} {ls : Array Slot} {rest : List Value} {D : va_G} {cl : List vw_C} {A : Nat → Prop} {a : Nat} {tys : List (ClassId × FieldType)} {ws : va_W} {H0 : Heap}
/-- a load at a known place -/
theorem ialdK (hexec : p.tables.exec = Jvm.exec) (hb : c.code = cc) (hK : va_K D cl tys s) (hP : va_P D cl ws H) (q0 t0 : Nat) {cA : ClassId} {n : Nat} {f : Nat → Int32} (ha : ws[q0]? = some (a, .inl (cA, n, .inl f))) (ht : tys[t0]? = some (cA, .int)) {i : Int32} (j : Nat) (hj : i.toNatClampNeg = j) (hin : vp_in i n) (hdg : decode cc pc = .ok (.iaload, 1))
    (kk : W p l e R s m args below meth c H locs cells slots Q (F0 m (pc + 1) ls (.int (f j) :: rest))) : W p l e R s m args below meth c H locs cells slots Q (F0 m pc ls (.int i :: .ref a :: rest)) := by
  subst hj
  exact va_iald hexec hb hK hP q0 t0 ha ht hin hdg kk
theorem iastK (hexec : p.tables.exec = Jvm.exec) (hb : c.code = cc) (hK : va_K D cl tys s) (hP : va_P D cl ws H) (hD : va_D A ws) (hS : va_S A H0 H locs) (q0 t0 : Nat) {cA : ClassId} {n : Nat} {f : Nat → Int32} (ha : ws[q0]? = some (a, .inl (cA, n, .inl f))) (ht : tys[t0]? = some (cA, .int)) {i : Int32} {x : Int32} (j : Nat) (hj : i.toNatClampNeg = j) (hin : vp_in i n) (hdg : decode cc pc = .ok (.iastore, 1))
    (kk : ∀ (H1 : Heap) (locs1 : List Loc), va_P D cl (ws.set q0 (a, .inl (cA, n, .inl (upd f j x)))) H1 → va_D A (ws.set q0 (a, .inl (cA, n, .inl (upd f j x)))) → va_S A H0 H1 locs1 → W p l e R s m args below meth c H1 locs1 cells slots Q (F0 m (pc + 1) ls rest)) : W p l e R s m args below meth c H locs cells slots Q (F0 m pc ls (.int x :: .int i :: .ref a :: rest)) := by
  subst hj
  exact va_iast hexec hb hK hP hD hS q0 t0 ha ht hin hdg kk
end ARR
section CST
variable {p : Program} {l : Launch} {e : Env} {R : Room} {s : State} {m : MethodId} {args : Array Value} {below : List Frame} {meth : Method} {c : Code} {H : Heap} {locs : List Loc} {cells slots : Nat} {Q : State → Prop} {pc : Nat} {ls : Array Slot} {rest : List Value}
theorem cst_i {x y : Int32} (h : x = y) (k : W p l e R s m args below meth c H locs cells slots Q (F0 m pc ls (.int y :: rest))) : W p l e R s m args below meth c H locs cells slots Q (F0 m pc ls (.int x :: rest)) := by
  rw [h]; exact k
end CST
