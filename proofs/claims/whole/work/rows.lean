section
-- ===== PART A: goes FIRST, ahead of the names: the tables' words, and 'selects' of the private methods out of them =====
/-- a private method of a class that the tables say can be made, by its rows of tables_1 -/
def lw_okq (q : MethodName × Nat) : Prop := (q.1.cls ≠ "java/lang/invoke/MethodHandle" ∧ q.1.cls ≠ "java/lang/invoke/VarHandle") ∧ Cond.instantiable q.1.cls q.2 ∈ tables_1 ∧ Cond.privateMethod q.1 ∈ tables_1 ∧ Cond.instanceMethod q.1 ∈ tables_1
theorem lw_p0 : lw_okq (⟨"SlotBoard", "oneClock", "()V"⟩, 9) := ⟨⟨by decide +kernel, by decide +kernel⟩, List.mem_of_getElem? (i := 11) (by decide +kernel), List.mem_of_getElem? (i := 216) (by decide +kernel), List.mem_of_getElem? (i := 217) (by decide +kernel)⟩
theorem lw_p1 : lw_okq (⟨"SlotBoard", "beginFrame", "()V"⟩, 9) := ⟨⟨by decide +kernel, by decide +kernel⟩, List.mem_of_getElem? (i := 11) (by decide +kernel), List.mem_of_getElem? (i := 220) (by decide +kernel), List.mem_of_getElem? (i := 221) (by decide +kernel)⟩
theorem lw_p2 : lw_okq (⟨"SlotBoard$Picture", "clearLatches", "()V"⟩, 4) := ⟨⟨by decide +kernel, by decide +kernel⟩, List.mem_of_getElem? (i := 44) (by decide +kernel), List.mem_of_getElem? (i := 249) (by decide +kernel), List.mem_of_getElem? (i := 250) (by decide +kernel)⟩
theorem lw_p3 : lw_okq (⟨"SlotBoard$Picture", "shiftOut", "()I"⟩, 4) := ⟨⟨by decide +kernel, by decide +kernel⟩, List.mem_of_getElem? (i := 44) (by decide +kernel), List.mem_of_getElem? (i := 259) (by decide +kernel), List.mem_of_getElem? (i := 260) (by decide +kernel)⟩
theorem lw_p4 : lw_okq (⟨"SlotBoard", "ownerOfSlot", "(II)I"⟩, 9) := ⟨⟨by decide +kernel, by decide +kernel⟩, List.mem_of_getElem? (i := 11) (by decide +kernel), List.mem_of_getElem? (i := 268) (by decide +kernel), List.mem_of_getElem? (i := 269) (by decide +kernel)⟩
theorem lw_p5 : lw_okq (⟨"SlotBoard", "moverOrProcessor", "()I"⟩, 9) := ⟨⟨by decide +kernel, by decide +kernel⟩, List.mem_of_getElem? (i := 11) (by decide +kernel), List.mem_of_getElem? (i := 278) (by decide +kernel), List.mem_of_getElem? (i := 279) (by decide +kernel)⟩
theorem lw_p6 : lw_okq (⟨"SlotBoard", "doWorkOf", "(II)V"⟩, 9) := ⟨⟨by decide +kernel, by decide +kernel⟩, List.mem_of_getElem? (i := 11) (by decide +kernel), List.mem_of_getElem? (i := 290) (by decide +kernel), List.mem_of_getElem? (i := 291) (by decide +kernel)⟩
theorem lw_p7 : lw_okq (⟨"SlotBoard", "fetchForList", "()V"⟩, 9) := ⟨⟨by decide +kernel, by decide +kernel⟩, List.mem_of_getElem? (i := 11) (by decide +kernel), List.mem_of_getElem? (i := 302) (by decide +kernel), List.mem_of_getElem? (i := 303) (by decide +kernel)⟩
theorem lw_p8 : lw_okq (⟨"SlotBoard$BeamList", "waitOrSkip", "(II)V"⟩, 6) := ⟨⟨by decide +kernel, by decide +kernel⟩, List.mem_of_getElem? (i := 63) (by decide +kernel), List.mem_of_getElem? (i := 315) (by decide +kernel), List.mem_of_getElem? (i := 316) (by decide +kernel)⟩
theorem lw_p9 : lw_okq (⟨"SlotBoard", "writeRegister", "(II)V"⟩, 9) := ⟨⟨by decide +kernel, by decide +kernel⟩, List.mem_of_getElem? (i := 11) (by decide +kernel), List.mem_of_getElem? (i := 320) (by decide +kernel), List.mem_of_getElem? (i := 321) (by decide +kernel)⟩
theorem lw_p10 : lw_okq (⟨"SlotBoard$Mover", "finishWord", "(ILSlotBoard$Registers;)I"⟩, 10) := ⟨⟨by decide +kernel, by decide +kernel⟩, List.mem_of_getElem? (i := 90) (by decide +kernel), List.mem_of_getElem? (i := 359) (by decide +kernel), List.mem_of_getElem? (i := 360) (by decide +kernel)⟩
theorem lw_p11 : lw_okq (⟨"SlotBoard$Mover", "wordOf", "(IILSlotBoard$Registers;)I"⟩, 10) := ⟨⟨by decide +kernel, by decide +kernel⟩, List.mem_of_getElem? (i := 90) (by decide +kernel), List.mem_of_getElem? (i := 363) (by decide +kernel), List.mem_of_getElem? (i := 364) (by decide +kernel)⟩
theorem lw_p12 : lw_okq (⟨"SlotBoard$Mover", "masked", "(ILSlotBoard$Registers;)I"⟩, 10) := ⟨⟨by decide +kernel, by decide +kernel⟩, List.mem_of_getElem? (i := 90) (by decide +kernel), List.mem_of_getElem? (i := 367) (by decide +kernel), List.mem_of_getElem? (i := 368) (by decide +kernel)⟩
theorem lw_p13 : lw_okq (⟨"SlotBoard$Mover", "goOn", "(ILSlotBoard$Registers;)V"⟩, 10) := ⟨⟨by decide +kernel, by decide +kernel⟩, List.mem_of_getElem? (i := 90) (by decide +kernel), List.mem_of_getElem? (i := 379) (by decide +kernel), List.mem_of_getElem? (i := 380) (by decide +kernel)⟩
theorem lw_p14 : lw_okq (⟨"SlotBoard", "doFirstAccess", "()V"⟩, 9) := ⟨⟨by decide +kernel, by decide +kernel⟩, List.mem_of_getElem? (i := 11) (by decide +kernel), List.mem_of_getElem? (i := 387) (by decide +kernel), List.mem_of_getElem? (i := 388) (by decide +kernel)⟩
theorem lw_p15 : lw_okq (⟨"SlotBoardModel", "clock", "()I"⟩, 31) := ⟨⟨by decide +kernel, by decide +kernel⟩, List.mem_of_getElem? (i := 450) (by decide +kernel), List.mem_of_getElem? (i := 557) (by decide +kernel), List.mem_of_getElem? (i := 558) (by decide +kernel)⟩
def lw_privs_1 : List (MethodName × Nat) := [(⟨"SlotBoard", "oneClock", "()V"⟩, 9), (⟨"SlotBoard", "beginFrame", "()V"⟩, 9), (⟨"SlotBoard$Picture", "clearLatches", "()V"⟩, 4), (⟨"SlotBoard$Picture", "shiftOut", "()I"⟩, 4), (⟨"SlotBoard", "ownerOfSlot", "(II)I"⟩, 9), (⟨"SlotBoard", "moverOrProcessor", "()I"⟩, 9), (⟨"SlotBoard", "doWorkOf", "(II)V"⟩, 9), (⟨"SlotBoard", "fetchForList", "()V"⟩, 9), (⟨"SlotBoard$BeamList", "waitOrSkip", "(II)V"⟩, 6), (⟨"SlotBoard", "writeRegister", "(II)V"⟩, 9), (⟨"SlotBoard$Mover", "finishWord", "(ILSlotBoard$Registers;)I"⟩, 10), (⟨"SlotBoard$Mover", "wordOf", "(IILSlotBoard$Registers;)I"⟩, 10), (⟨"SlotBoard$Mover", "masked", "(ILSlotBoard$Registers;)I"⟩, 10), (⟨"SlotBoard$Mover", "goOn", "(ILSlotBoard$Registers;)V"⟩, 10), (⟨"SlotBoard", "doFirstAccess", "()V"⟩, 9), (⟨"SlotBoardModel", "clock", "()I"⟩, 31)]
theorem lw_r1 : ∀ q ∈ lw_privs_1, lw_okq q := List.forall_mem_cons.mpr ⟨lw_p0, List.forall_mem_cons.mpr ⟨lw_p1, List.forall_mem_cons.mpr ⟨lw_p2, List.forall_mem_cons.mpr ⟨lw_p3, List.forall_mem_cons.mpr ⟨lw_p4, List.forall_mem_cons.mpr ⟨lw_p5, List.forall_mem_cons.mpr ⟨lw_p6, List.forall_mem_cons.mpr ⟨lw_p7, List.forall_mem_cons.mpr ⟨lw_p8, List.forall_mem_cons.mpr ⟨lw_p9, List.forall_mem_cons.mpr ⟨lw_p10, List.forall_mem_cons.mpr ⟨lw_p11, List.forall_mem_cons.mpr ⟨lw_p12, List.forall_mem_cons.mpr ⟨lw_p13, List.forall_mem_cons.mpr ⟨lw_p14, List.forall_mem_cons.mpr ⟨lw_p15, fun _ h => absurd h List.not_mem_nil⟩⟩⟩⟩⟩⟩⟩⟩⟩⟩⟩⟩⟩⟩⟩⟩
theorem lw_p16 : lw_okq (⟨"SlotBoardModel", "control", "(I)Z"⟩, 31) := ⟨⟨by decide +kernel, by decide +kernel⟩, List.mem_of_getElem? (i := 450) (by decide +kernel), List.mem_of_getElem? (i := 561) (by decide +kernel), List.mem_of_getElem? (i := 562) (by decide +kernel)⟩
theorem lw_p17 : lw_okq (⟨"SlotBoardModel", "startList", "()V"⟩, 31) := ⟨⟨by decide +kernel, by decide +kernel⟩, List.mem_of_getElem? (i := 450) (by decide +kernel), List.mem_of_getElem? (i := 565) (by decide +kernel), List.mem_of_getElem? (i := 566) (by decide +kernel)⟩
theorem lw_p18 : lw_okq (⟨"SlotBoardModel", "show", "(II)V"⟩, 31) := ⟨⟨by decide +kernel, by decide +kernel⟩, List.mem_of_getElem? (i := 450) (by decide +kernel), List.mem_of_getElem? (i := 569) (by decide +kernel), List.mem_of_getElem? (i := 570) (by decide +kernel)⟩
theorem lw_p19 : lw_okq (⟨"SlotBoardModel", "give", "(II)I"⟩, 31) := ⟨⟨by decide +kernel, by decide +kernel⟩, List.mem_of_getElem? (i := 450) (by decide +kernel), List.mem_of_getElem? (i := 574) (by decide +kernel), List.mem_of_getElem? (i := 575) (by decide +kernel)⟩
theorem lw_p20 : lw_okq (⟨"SlotBoardModel", "planeAt", "(II)I"⟩, 31) := ⟨⟨by decide +kernel, by decide +kernel⟩, List.mem_of_getElem? (i := 450) (by decide +kernel), List.mem_of_getElem? (i := 578) (by decide +kernel), List.mem_of_getElem? (i := 579) (by decide +kernel)⟩
theorem lw_p21 : lw_okq (⟨"SlotBoardModel", "fetchPlane", "(II)V"⟩, 31) := ⟨⟨by decide +kernel, by decide +kernel⟩, List.mem_of_getElem? (i := 450) (by decide +kernel), List.mem_of_getElem? (i := 582) (by decide +kernel), List.mem_of_getElem? (i := 583) (by decide +kernel)⟩
theorem lw_p22 : lw_okq (⟨"SlotBoardModel", "fetchList", "()V"⟩, 31) := ⟨⟨by decide +kernel, by decide +kernel⟩, List.mem_of_getElem? (i := 450) (by decide +kernel), List.mem_of_getElem? (i := 586) (by decide +kernel), List.mem_of_getElem? (i := 587) (by decide +kernel)⟩
theorem lw_p23 : lw_okq (⟨"SlotBoardModel", "write", "(II)V"⟩, 31) := ⟨⟨by decide +kernel, by decide +kernel⟩, List.mem_of_getElem? (i := 450) (by decide +kernel), List.mem_of_getElem? (i := 590) (by decide +kernel), List.mem_of_getElem? (i := 591) (by decide +kernel)⟩
theorem lw_p24 : lw_okq (⟨"SlotBoardModel", "begin", "(I)V"⟩, 31) := ⟨⟨by decide +kernel, by decide +kernel⟩, List.mem_of_getElem? (i := 450) (by decide +kernel), List.mem_of_getElem? (i := 594) (by decide +kernel), List.mem_of_getElem? (i := 595) (by decide +kernel)⟩
theorem lw_p25 : lw_okq (⟨"SlotBoardModel", "move", "()V"⟩, 31) := ⟨⟨by decide +kernel, by decide +kernel⟩, List.mem_of_getElem? (i := 450) (by decide +kernel), List.mem_of_getElem? (i := 598) (by decide +kernel), List.mem_of_getElem? (i := 599) (by decide +kernel)⟩
theorem lw_p26 : lw_okq (⟨"SlotBoardModel", "nextUsed", "(I)I"⟩, 31) := ⟨⟨by decide +kernel, by decide +kernel⟩, List.mem_of_getElem? (i := 450) (by decide +kernel), List.mem_of_getElem? (i := 602) (by decide +kernel), List.mem_of_getElem? (i := 603) (by decide +kernel)⟩
theorem lw_p27 : lw_okq (⟨"SlotBoardModel", "used", "(I)Z"⟩, 31) := ⟨⟨by decide +kernel, by decide +kernel⟩, List.mem_of_getElem? (i := 450) (by decide +kernel), List.mem_of_getElem? (i := 606) (by decide +kernel), List.mem_of_getElem? (i := 607) (by decide +kernel)⟩
theorem lw_p28 : lw_okq (⟨"SlotBoardModel", "wordOf", "(I)I"⟩, 31) := ⟨⟨by decide +kernel, by decide +kernel⟩, List.mem_of_getElem? (i := 450) (by decide +kernel), List.mem_of_getElem? (i := 610) (by decide +kernel), List.mem_of_getElem? (i := 611) (by decide +kernel)⟩
theorem lw_p29 : lw_okq (⟨"SlotBoardModel", "nextWord", "()V"⟩, 31) := ⟨⟨by decide +kernel, by decide +kernel⟩, List.mem_of_getElem? (i := 450) (by decide +kernel), List.mem_of_getElem? (i := 614) (by decide +kernel), List.mem_of_getElem? (i := 615) (by decide +kernel)⟩
theorem lw_p30 : lw_okq (⟨"SlotBoardModel", "process", "()V"⟩, 31) := ⟨⟨by decide +kernel, by decide +kernel⟩, List.mem_of_getElem? (i := 450) (by decide +kernel), List.mem_of_getElem? (i := 618) (by decide +kernel), List.mem_of_getElem? (i := 619) (by decide +kernel)⟩
def lw_privs_2 : List (MethodName × Nat) := [(⟨"SlotBoardModel", "control", "(I)Z"⟩, 31), (⟨"SlotBoardModel", "startList", "()V"⟩, 31), (⟨"SlotBoardModel", "show", "(II)V"⟩, 31), (⟨"SlotBoardModel", "give", "(II)I"⟩, 31), (⟨"SlotBoardModel", "planeAt", "(II)I"⟩, 31), (⟨"SlotBoardModel", "fetchPlane", "(II)V"⟩, 31), (⟨"SlotBoardModel", "fetchList", "()V"⟩, 31), (⟨"SlotBoardModel", "write", "(II)V"⟩, 31), (⟨"SlotBoardModel", "begin", "(I)V"⟩, 31), (⟨"SlotBoardModel", "move", "()V"⟩, 31), (⟨"SlotBoardModel", "nextUsed", "(I)I"⟩, 31), (⟨"SlotBoardModel", "used", "(I)Z"⟩, 31), (⟨"SlotBoardModel", "wordOf", "(I)I"⟩, 31), (⟨"SlotBoardModel", "nextWord", "()V"⟩, 31), (⟨"SlotBoardModel", "process", "()V"⟩, 31)]
theorem lw_r2 : ∀ q ∈ lw_privs_2, lw_okq q := List.forall_mem_cons.mpr ⟨lw_p16, List.forall_mem_cons.mpr ⟨lw_p17, List.forall_mem_cons.mpr ⟨lw_p18, List.forall_mem_cons.mpr ⟨lw_p19, List.forall_mem_cons.mpr ⟨lw_p20, List.forall_mem_cons.mpr ⟨lw_p21, List.forall_mem_cons.mpr ⟨lw_p22, List.forall_mem_cons.mpr ⟨lw_p23, List.forall_mem_cons.mpr ⟨lw_p24, List.forall_mem_cons.mpr ⟨lw_p25, List.forall_mem_cons.mpr ⟨lw_p26, List.forall_mem_cons.mpr ⟨lw_p27, List.forall_mem_cons.mpr ⟨lw_p28, List.forall_mem_cons.mpr ⟨lw_p29, List.forall_mem_cons.mpr ⟨lw_p30, fun _ h => absurd h List.not_mem_nil⟩⟩⟩⟩⟩⟩⟩⟩⟩⟩⟩⟩⟩⟩⟩
def lw_privs : List (MethodName × Nat) := lw_privs_1 ++ (lw_privs_2)
def lw_tbl : List Cond := k2_sels lw_privs ++ tables_1
theorem lw_privs_ok : ∀ q ∈ lw_privs, lw_okq q := by
  show ∀ q ∈ lw_privs_1 ++ (lw_privs_2), lw_okq q
  exact List.forall_mem_append.mpr ⟨lw_r1, lw_r2⟩
end
section
/-! Base: a system's state is its ints by number (SS) and its int arrays by number (MM); a method is a function to Option (answer, ints, arrays). -/
abbrev SS : Type := Nat → Int32
abbrev MM : Type := Nat → Nat → Int32
abbrev RR : Type := Int32 × SS × MM
def upM (M : MM) (k : Nat) (f : Nat → Int32) : MM := fun j => if j = k then f else M j
theorem sg_g {α : Type} {c : Prop} {i : Decidable c} {x : Option α} {r : α} (h : (@ite _ c i none x) = some r) : ¬ c ∧ x = some r := by
  by_cases hc : c
  · rw [if_pos hc] at h; cases h
  · rw [if_neg hc] at h; exact ⟨hc, h⟩
theorem sg_p {α : Type} {c : Prop} {i : Decidable c} {x y : Option α} {r : α} (hc : c) (h : (@ite _ c i x y) = some r) : x = some r := by
  rwa [if_pos hc] at h
theorem sg_n {α : Type} {c : Prop} {i : Decidable c} {x y : Option α} {r : α} (hc : ¬ c) (h : (@ite _ c i x y) = some r) : y = some r := by
  rwa [if_neg hc] at h
theorem sg_b {α β : Type} {o : Option α} {k : α → Option β} {r : β} (h : o.bind k = some r) : ∃ q, o = some q ∧ k q = some r := by
  cases o with
  | none => cases h
  | some q => exact ⟨q, rfl, h⟩
theorem sg_nb {v : Int32} (h : ¬ ¬ (v = 0 ∨ v = 1)) : narrow .boolean (.int v) = .int v ∧ fits .boolean (.int v) = true := by
  rcases Classical.not_not.mp h with rfl | rfl
  · exact ⟨by decide +kernel, by decide +kernel⟩
  · exact ⟨by decide +kernel, by decide +kernel⟩
/-- what a method finds: its cells, the tables, the cells apart and in A, and what nobody writes (Z) -/
def Wo (D : va_G) (cl : List vw_C) (tys : List (ClassId × FieldType)) (A : Nat → Prop) (Z : State → Heap → Prop) (ws : va_W) (U : State) : Prop :=
  va_P D cl ws U.heap ∧ va_K D cl tys U ∧ va_D A ws ∧ Z U U.heap
/-- Z is of the tables and of cells outside A -/
def ZK (A : Nat → Prop) (Z : State → Heap → Prop) : Prop := ∀ (u U : State) (H H1 : Heap), u.vm.Alike U.vm → (∀ q : Nat, q < H.size → ¬ A q → H1[q]? = H[q]?) → Z u H → Z U H1
/-- contracts: from the state (S, M) to the answer and state q -/
def Ci (l : Launch) (y : MethodName) (ws : List Cond) (rm : Room) (D : va_G) (cl : List vw_C) (tys : List (ClassId × FieldType)) (A : Nat → Prop) (Z : State → Heap → Prop) (wf : SS → MM → va_W) (av : List Value) (S : SS) (M : MM) (q : RR) : Prop :=
  Met l y ws rm (va_Pc av (Wo D cl tys A Z (wf S M))) (va_Qi (fun (r : Int32) (u : SS × MM) => r = q.1 ∧ u = q.2) (fun u t => va_P D cl (wf u.1 u.2) t.heap ∧ va_D A (wf u.1 u.2)) A) 0 0 A
def Cv (l : Launch) (y : MethodName) (ws : List Cond) (rm : Room) (D : va_G) (cl : List vw_C) (tys : List (ClassId × FieldType)) (A : Nat → Prop) (Z : State → Heap → Prop) (wf : SS → MM → va_W) (av : List Value) (S : SS) (M : MM) (q : RR) : Prop :=
  Met l y ws rm (va_Pc av (Wo D cl tys A Z (wf S M))) (va_Qv (fun (u : SS × MM) => u = q.2) (fun u t => va_P D cl (wf u.1 u.2) t.heap ∧ va_D A (wf u.1 u.2)) A) 0 0 A
/-- the machine at a place of a method, whatever the heap that holds the state -/
def BK (p : Program) (l : Launch) (e : Env) (R : Room) (s : State) (m : MethodId) (args : Array Value) (below : List Frame) (meth : Method) (c : Code) (Q : State → Prop) (D : va_G) (cl : List vw_C) (A : Nat → Prop) (wf : SS → MM → va_W) (n pc : Nat) (lv : List (Nat × Value)) (st : List Value) (S : SS) (M : MM) : Prop :=
  ∀ (H : Heap) (locs : List Loc) (ls : Array Slot), lv_has ls n lv → va_P D cl (wf S M) H → va_D A (wf S M) → va_S A s.heap H locs → W p l e R s m args below meth c H locs 0 0 Q (F0 m pc ls st)
theorem Ci.of {l : Launch} {y : MethodName} {ws ws' : List Cond} {rm : Room} {D : va_G} {cl : List vw_C} {tys : List (ClassId × FieldType)} {A : Nat → Prop} {Z : State → Heap → Prop} {wf : SS → MM → va_W} {av : List Value} {S : SS} {M : MM} {q : RR} {cc : ByteArray} {maxL : Nat} {ty : FieldType}
    (hy : plainName y.cls = true) (hw : ws = Cond.code y cc maxL (some ty) :: ws') (hlen : (lg_sl av).length ≤ maxL)
    (body : ∀ (p : Program) (e : Env) (s : State) (m : MethodId) (args : Array Value) (below : List Frame) (meth : Method) (c : Code) (Q : State → Prop), p.tables.exec = Jvm.exec → c.code = cc → c.maxLocals = maxL → s.vm.findClass y.cls = some m.cls → (∀ w ∈ ws, w.before args s = true) → va_K D cl tys s → Z s s.heap →
      (∀ (H : Heap) (locs : List Loc) (ls : Array Slot) (S1 : SS) (M1 : MM) (v : Int32) (pc : Nat), some (v, S1, M1) = some q → narrow ty (.int v) = .int v → va_P D cl (wf S1 M1) H → va_D A (wf S1 M1) → va_S A s.heap H locs → decode cc pc = .ok (.ireturn, 1) → W p l e rm s m args below meth c H locs 0 0 Q (F0 m pc ls [.int v])) →
      BK p l e rm s m args below meth c Q D cl A wf maxL 0 (lv_args 0 av) [] S M) : Ci l y ws rm D cl tys A Z wf av S M q := by
  refine Met.ofW (cc := cc) (maxL := maxL) (ret := some ty) hy hw ?_
  intro p e s m args below meth c s₁ B hml hv
  obtain ⟨rfl, hP, hK, hD, hZ⟩ := hv
  have hx := B.exec
  have hb := B.bytes
  have hr := B.returns
  have hlocks := B.notSynchronized
  have hl := lv_entry av (n := maxL) hlen
  rw [lg_entry_eq]
  refine body p e s m _ below meth c _ hx hb hml (findClass_of_methodNamed B.named) (atoms_spec (ws := ws) B.pre) hK hZ ?_ s.heap [] _ hl hP hD va_S.rf
  intro H locs ls S1 M1 v pc hq hn hP1 hD1 hS1 hdg
  obtain rfl := Option.some.inj hq
  exact W.zret hx hb hr hn (fun t ht hW => ⟨⟨v, (S1, M1), rfl, ⟨rfl, rfl⟩, by rw [ht]; exact hP1, hD1⟩, hS1.F ht⟩) hS1.2.2 hdg
theorem Cv.of {l : Launch} {y : MethodName} {ws ws' : List Cond} {rm : Room} {D : va_G} {cl : List vw_C} {tys : List (ClassId × FieldType)} {A : Nat → Prop} {Z : State → Heap → Prop} {wf : SS → MM → va_W} {av : List Value} {S : SS} {M : MM} {q : RR} {cc : ByteArray} {maxL : Nat}
    (hy : plainName y.cls = true) (hw : ws = Cond.code y cc maxL none :: ws') (hlen : (lg_sl av).length ≤ maxL)
    (body : ∀ (p : Program) (e : Env) (s : State) (m : MethodId) (args : Array Value) (below : List Frame) (meth : Method) (c : Code) (Q : State → Prop), p.tables.exec = Jvm.exec → c.code = cc → c.maxLocals = maxL → s.vm.findClass y.cls = some m.cls → (∀ w ∈ ws, w.before args s = true) → va_K D cl tys s → Z s s.heap →
      (∀ (H : Heap) (locs : List Loc) (ls : Array Slot) (S1 : SS) (M1 : MM) (v : Int32) (pc : Nat), some (v, S1, M1) = some q → va_P D cl (wf S1 M1) H → va_D A (wf S1 M1) → va_S A s.heap H locs → decode cc pc = .ok (.return_, 1) → W p l e rm s m args below meth c H locs 0 0 Q (F0 m pc ls [])) →
      BK p l e rm s m args below meth c Q D cl A wf maxL 0 (lv_args 0 av) [] S M) : Cv l y ws rm D cl tys A Z wf av S M q := by
  refine Met.ofW (cc := cc) (maxL := maxL) (ret := none) hy hw ?_
  intro p e s m args below meth c s₁ B hml hv
  obtain ⟨rfl, hP, hK, hD, hZ⟩ := hv
  have hx := B.exec
  have hb := B.bytes
  have hr := B.returns
  have hlocks := B.notSynchronized
  have hl := lv_entry av (n := maxL) hlen
  rw [lg_entry_eq]
  refine body p e s m _ below meth c _ hx hb hml (findClass_of_methodNamed B.named) (atoms_spec (ws := ws) B.pre) hK hZ ?_ s.heap [] _ hl hP hD va_S.rf
  intro H locs ls S1 M1 v pc hq hP1 hD1 hS1 hdg
  obtain rfl := Option.some.inj hq
  exact W.vret hx hb hr (fun t ht hW => ⟨⟨(S1, M1), rfl, rfl, by rw [ht]; exact hP1, hD1⟩, hS1.F ht⟩) hS1.2.2 hdg
theorem Wo.blind {D : va_G} {cl : List vw_C} {tys : List (ClassId × FieldType)} {A : Nat → Prop} {Z : State → Heap → Prop} {ws : va_W} {av : List Value} (hZK : ZK A Z) : FrameBlind (va_Pc av (Wo D cl tys A Z ws)) := by
  intro a U g mk q
  obtain ⟨q0, qP, qK, qD, qZ⟩ := q
  exact ⟨q0, qP, va_K.moved (u := U) (U := U.calling g mk a) (Vm.Alike.refl U.vm) qK, qD, hZK U (U.calling g mk a) U.heap _ (Vm.Alike.refl U.vm) (fun _ _ _ => rfl) qZ⟩
theorem Wo.at {D : va_G} {cl : List vw_C} {tys : List (ClassId × FieldType)} {A : Nat → Prop} {Z : State → Heap → Prop} {ws : va_W} {s : State} {H : Heap} {locs : List Loc} {av : List Value} (hZK : ZK A Z) (hK : va_K D cl tys s) (hZ : Z s s.heap) (hP : va_P D cl ws H) (hD : va_D A ws) (hS : va_S A s.heap H locs) :
    ∀ U : State, U.heap = H → s.WarmedH U.vm → va_Pc av (Wo D cl tys A Z ws) av.toArray U := fun U hU hW => ⟨rfl, by rw [hU]; exact hP, va_K.moved hW.alike hK, hD, hZK s U s.heap _ hW.alike (fun q h1 h2 => by rw [hU]; exact hS.2.1 q h1 h2) hZ⟩
section CALLS
variable {p : Program} {l : Launch} {e : Env} {R : Room} {s : State} {m : MethodId} {args : Array Value} {below : List Frame} {meth : Method} {c : Code} {H : Heap} {locs : List Loc} {Q : State → Prop}
variable {y : MethodName} {bytes cc : ByteArray} {maxL nL n index pc : Nat} {ret : Option FieldType} {ws : List Cond} {rm : Room} {Ts : List Cond} {own C host : String} {b : Nat} {As rest st : List Value} {ls : Array Slot}
variable {D : va_G} {cl : List vw_C} {tys : List (ClassId × FieldType)} {A : Nat → Prop} {Z : State → Heap → Prop} {wf : SS → MM → va_W} {S : SS} {M : MM} {q : RR} {ci : Nat} {fs : List Value} {T : u_T} {N : Nat}
theorem cvi (hX : CallFix p m c cc nL s args Ts own) (hM : Ci l y ws rm D cl tys A Z wf (.ref b :: As) S M q) (cw : CallW R s args own C index y bytes maxL ret ws rm 0 0 n) (hZK : ZK A Z) (hK : va_K D cl tys s) (hZ : Z s s.heap) (hP : va_P D cl (wf S M) H) (hD : va_D A (wf S M)) (hS : va_S A s.heap H locs) (q0 : Nat) (he : (wf S M)[q0]? = some (b, .inr (ci, fs))) (hc : cl[ci]? = some (C, T, N)) (hn : As.length = n) (hsize : ls.size = nL) (hst : st = As.reverse ++ .ref b :: rest) (hW : (rest.map fun v => v.category).sum ≤ 8) (hdg : decode cc pc = .ok (.invokevirtual index, 3))
    (kk : ∀ (H1 : Heap) (locs1 : List Loc), va_P D cl (wf q.2.1 q.2.2) H1 → va_D A (wf q.2.1 q.2.2) → va_S A s.heap H1 locs1 → W p l e R s m args below meth c H1 locs1 0 0 Q (F0 m (pc + 3) ls (.int q.1 :: rest))) : W p l e R s m args below meth c H locs 0 0 Q (F0 m pc ls st) := by
  subst hst
  refine va_calli (va_runV (As := As) (rest := rest) hX hM cw ⟨Wo.blind hZK, va_recv hK hP hc he, Wo.at hZK hK hZ hP hD hS⟩ rfl hn hsize rfl (lv_room hW) hdg ⟨Nat.zero_le _, Nat.zero_le _⟩) hS (fun _ _ h => h) (fun _ h => h) (fun r u t H1 locs1 ht hvm hp hB hz hk hS1 => ?_)
  obtain ⟨rfl, rfl⟩ := hp
  rw [ht] at hB
  exact kk H1 locs1 hB.1 hB.2 hS1
theorem cvv (hX : CallFix p m c cc nL s args Ts own) (hM : Cv l y ws rm D cl tys A Z wf (.ref b :: As) S M q) (cw : CallW R s args own C index y bytes maxL ret ws rm 0 0 n) (hZK : ZK A Z) (hK : va_K D cl tys s) (hZ : Z s s.heap) (hP : va_P D cl (wf S M) H) (hD : va_D A (wf S M)) (hS : va_S A s.heap H locs) (q0 : Nat) (he : (wf S M)[q0]? = some (b, .inr (ci, fs))) (hc : cl[ci]? = some (C, T, N)) (hn : As.length = n) (hsize : ls.size = nL) (hst : st = As.reverse ++ .ref b :: rest) (hW : (rest.map fun v => v.category).sum ≤ 8) (hdg : decode cc pc = .ok (.invokevirtual index, 3))
    (kk : ∀ (H1 : Heap) (locs1 : List Loc), va_P D cl (wf q.2.1 q.2.2) H1 → va_D A (wf q.2.1 q.2.2) → va_S A s.heap H1 locs1 → W p l e R s m args below meth c H1 locs1 0 0 Q (F0 m (pc + 3) ls rest)) : W p l e R s m args below meth c H locs 0 0 Q (F0 m pc ls st) := by
  subst hst
  refine va_callv (va_runV (As := As) (rest := rest) hX hM cw ⟨Wo.blind hZK, va_recv hK hP hc he, Wo.at hZK hK hZ hP hD hS⟩ rfl hn hsize rfl (lv_room hW) hdg ⟨Nat.zero_le _, Nat.zero_le _⟩) hS (fun _ _ h => h) (fun _ h => h) (fun u t H1 locs1 ht hvm hp hB hz hk hS1 => ?_)
  obtain rfl := hp
  rw [ht] at hB
  exact kk H1 locs1 hB.1 hB.2 hS1
theorem csi (hX : CallFix p m c cc nL s args Ts own) (hM : Ci l y ws rm D cl tys A Z wf As S M q) (cw : CallB R s args own index y bytes maxL ret ws rm 0 0 n ∧ (Cond.static y).before args s = true) (hZK : ZK A Z) (hK : va_K D cl tys s) (hZ : Z s s.heap) (hP : va_P D cl (wf S M) H) (hD : va_D A (wf S M)) (hS : va_S A s.heap H locs) (hn : As.length = n) (hsize : ls.size = nL) (hst : st = As.reverse ++ rest) (hW : (rest.map fun v => v.category).sum ≤ 8) (hdg : decode cc pc = .ok (.invokestatic index, 3))
    (kk : ∀ (H1 : Heap) (locs1 : List Loc), va_P D cl (wf q.2.1 q.2.2) H1 → va_D A (wf q.2.1 q.2.2) → va_S A s.heap H1 locs1 → W p l e R s m args below meth c H1 locs1 0 0 Q (F0 m (pc + 3) ls (.int q.1 :: rest))) : W p l e R s m args below meth c H locs 0 0 Q (F0 m pc ls st) := by
  subst hst
  refine va_calli (va_runS (As := As) (rest := rest) hX hM cw ⟨Wo.blind hZK, Wo.at hZK hK hZ hP hD hS⟩ rfl hn hsize rfl (lv_room hW) hdg ⟨Nat.zero_le _, Nat.zero_le _⟩) hS (fun _ _ h => h) (fun _ h => h) (fun r u t H1 locs1 ht hvm hp hB hz hk hS1 => ?_)
  obtain ⟨rfl, rfl⟩ := hp
  rw [ht] at hB
  exact kk H1 locs1 hB.1 hB.2 hS1
theorem csv (hX : CallFix p m c cc nL s args Ts own) (hM : Cv l y ws rm D cl tys A Z wf As S M q) (cw : CallB R s args own index y bytes maxL ret ws rm 0 0 n ∧ (Cond.static y).before args s = true) (hZK : ZK A Z) (hK : va_K D cl tys s) (hZ : Z s s.heap) (hP : va_P D cl (wf S M) H) (hD : va_D A (wf S M)) (hS : va_S A s.heap H locs) (hn : As.length = n) (hsize : ls.size = nL) (hst : st = As.reverse ++ rest) (hW : (rest.map fun v => v.category).sum ≤ 8) (hdg : decode cc pc = .ok (.invokestatic index, 3))
    (kk : ∀ (H1 : Heap) (locs1 : List Loc), va_P D cl (wf q.2.1 q.2.2) H1 → va_D A (wf q.2.1 q.2.2) → va_S A s.heap H1 locs1 → W p l e R s m args below meth c H1 locs1 0 0 Q (F0 m (pc + 3) ls rest)) : W p l e R s m args below meth c H locs 0 0 Q (F0 m pc ls st) := by
  subst hst
  refine va_callv (va_runS (As := As) (rest := rest) hX hM cw ⟨Wo.blind hZK, Wo.at hZK hK hZ hP hD hS⟩ rfl hn hsize rfl (lv_room hW) hdg ⟨Nat.zero_le _, Nat.zero_le _⟩) hS (fun _ _ h => h) (fun _ h => h) (fun u t H1 locs1 ht hvm hp hB hz hk hS1 => ?_)
  obtain rfl := hp
  rw [ht] at hB
  exact kk H1 locs1 hB.1 hB.2 hS1
theorem cni (hX : CallFix p m c cc nL s args Ts own) (hM : Ci l y ws rm D cl tys A Z wf (.ref b :: As) S M q) (cw : va_CN R s args own index y host bytes maxL ret ws rm 0 0 n ∧ (Cond.instanceMethod y).before args s = true ∧ (Cond.selects C y y).before args s = true) (hZK : ZK A Z) (hK : va_K D cl tys s) (hZ : Z s s.heap) (hP : va_P D cl (wf S M) H) (hD : va_D A (wf S M)) (hS : va_S A s.heap H locs) (q0 : Nat) (he : (wf S M)[q0]? = some (b, .inr (ci, fs))) (hc : cl[ci]? = some (C, T, N)) (hn : As.length = n) (hsize : ls.size = nL) (hst : st = As.reverse ++ .ref b :: rest) (hW : (rest.map fun v => v.category).sum ≤ 8) (hdg : decode cc pc = .ok (.invokevirtual index, 3))
    (kk : ∀ (H1 : Heap) (locs1 : List Loc), va_P D cl (wf q.2.1 q.2.2) H1 → va_D A (wf q.2.1 q.2.2) → va_S A s.heap H1 locs1 → W p l e R s m args below meth c H1 locs1 0 0 Q (F0 m (pc + 3) ls (.int q.1 :: rest))) : W p l e R s m args below meth c H locs 0 0 Q (F0 m pc ls st) := by
  subst hst
  refine va_calli (va_runVN (As := As) (rest := rest) hX hM cw ⟨Wo.blind hZK, va_recv hK hP hc he, Wo.at hZK hK hZ hP hD hS⟩ rfl hn hsize rfl (lv_room hW) hdg ⟨Nat.zero_le _, Nat.zero_le _⟩) hS (fun _ _ h => h) (fun _ h => h) (fun r u t H1 locs1 ht hvm hp hB hz hk hS1 => ?_)
  obtain ⟨rfl, rfl⟩ := hp
  rw [ht] at hB
  exact kk H1 locs1 hB.1 hB.2 hS1
theorem cnv (hX : CallFix p m c cc nL s args Ts own) (hM : Cv l y ws rm D cl tys A Z wf (.ref b :: As) S M q) (cw : va_CN R s args own index y host bytes maxL ret ws rm 0 0 n ∧ (Cond.instanceMethod y).before args s = true ∧ (Cond.selects C y y).before args s = true) (hZK : ZK A Z) (hK : va_K D cl tys s) (hZ : Z s s.heap) (hP : va_P D cl (wf S M) H) (hD : va_D A (wf S M)) (hS : va_S A s.heap H locs) (q0 : Nat) (he : (wf S M)[q0]? = some (b, .inr (ci, fs))) (hc : cl[ci]? = some (C, T, N)) (hn : As.length = n) (hsize : ls.size = nL) (hst : st = As.reverse ++ .ref b :: rest) (hW : (rest.map fun v => v.category).sum ≤ 8) (hdg : decode cc pc = .ok (.invokevirtual index, 3))
    (kk : ∀ (H1 : Heap) (locs1 : List Loc), va_P D cl (wf q.2.1 q.2.2) H1 → va_D A (wf q.2.1 q.2.2) → va_S A s.heap H1 locs1 → W p l e R s m args below meth c H1 locs1 0 0 Q (F0 m (pc + 3) ls rest)) : W p l e R s m args below meth c H locs 0 0 Q (F0 m pc ls st) := by
  subst hst
  refine va_callv (va_runVN (As := As) (rest := rest) hX hM cw ⟨Wo.blind hZK, va_recv hK hP hc he, Wo.at hZK hK hZ hP hD hS⟩ rfl hn hsize rfl (lv_room hW) hdg ⟨Nat.zero_le _, Nat.zero_le _⟩) hS (fun _ _ h => h) (fun _ h => h) (fun u t H1 locs1 ht hvm hp hB hz hk hS1 => ?_)
  obtain rfl := hp
  rw [ht] at hB
  exact kk H1 locs1 hB.1 hB.2 hS1
end CALLS
section ARR
variable {p : Program} {l : Launch} {e : Env} {R : Room} {s : State} {m : MethodId} {args : Array Value} {below : List Frame} {meth : Method} {c : Code} {H : Heap} {locs : List Loc} {cells slots : Nat} {Q : State → Prop}
variable {cc : ByteArray} {pc : Nat} {ls : Array Slot} {rest : List Value} {D : va_G} {cl : List vw_C} {A : Nat → Prop} {a : Nat} {tys : List (ClassId × FieldType)} {ws : va_W} {H0 : Heap}
/-- a load at a known place -/
theorem ialdK (hexec : p.tables.exec = Jvm.exec) (hb : c.code = cc) (hK : va_K D cl tys s) (hP : va_P D cl ws H) (q0 t0 : Nat) {cA : ClassId} {n : Nat} {f : Nat → Int32} (ha : ws[q0]? = some (a, .inl (cA, n, .inl f))) (ht : tys[t0]? = some (cA, .int)) {i : Int32} (j : Nat) (hj : i.toNatClampNeg = j) (hin : vp_in i n) (hdg : decode cc pc = .ok (.iaload, 1))
    (kk : W p l e R s m args below meth c H locs cells slots Q (F0 m (pc + 1) ls (.int (f j) :: rest))) : W p l e R s m args below meth c H locs cells slots Q (F0 m pc ls (.int i :: .ref a :: rest)) := by
  subst hj
  exact va_iald hexec hb hK hP q0 t0 ha ht hin hdg kk
theorem iastK (hexec : p.tables.exec = Jvm.exec) (hb : c.code = cc) (hK : va_K D cl tys s) (hP : va_P D cl ws H) (hD : va_D A ws) (hS : va_S A H0 H locs) (q0 t0 : Nat) {cA : ClassId} {n : Nat} {f : Nat → Int32} (ha : ws[q0]? = some (a, .inl (cA, n, .inl f))) (ht : tys[t0]? = some (cA, .int)) {i : Int32} {x : Int32} (j : Nat) (hj : i.toNatClampNeg = j) (hin : vp_in i n) (hdg : decode cc pc = .ok (.iastore, 1))
    (kk : ∀ (H1 : Heap) (locs1 : List Loc), va_P D cl (ws.set q0 (a, .inl (cA, n, .inl (upd f j x)))) H1 → va_D A (ws.set q0 (a, .inl (cA, n, .inl (upd f j x)))) → va_S A H0 H1 locs1 → W p l e R s m args below meth c H1 locs1 cells slots Q (F0 m (pc + 1) ls rest)) : W p l e R s m args below meth c H locs cells slots Q (F0 m pc ls (.int x :: .int i :: .ref a :: rest)) := by
  subst hj
  exact va_iast hexec hb hK hP hD hS q0 t0 ha ht hin hdg kk
end ARR
section CST
variable {p : Program} {l : Launch} {e : Env} {R : Room} {s : State} {m : MethodId} {args : Array Value} {below : List Frame} {meth : Method} {c : Code} {H : Heap} {locs : List Loc} {cells slots : Nat} {Q : State → Prop} {pc : Nat} {ls : Array Slot} {rest : List Value}
theorem cst_i {x y : Int32} (h : x = y) (k : W p l e R s m args below meth c H locs cells slots Q (F0 m pc ls (.int y :: rest))) : W p l e R s m args below meth c H locs cells slots Q (F0 m pc ls (.int x :: rest)) := by
  rw [h]; exact k
end CST
end
section
/-! names: classes, fields, methods (made by wip/gen/gen.py out of the claim's listing) -/
def R_Bd : String := "SlotBoard"
def T_Bd : u_T := fun k => match k with
  | 0 => ("SlotBoard", "memory", "LSlotBoard$Memory;", true)
  | 1 => ("SlotBoard", "registers", "LSlotBoard$Registers;", true)
  | 2 => ("SlotBoard", "picture", "LSlotBoard$Picture;", true)
  | 3 => ("SlotBoard", "list", "LSlotBoard$BeamList;", true)
  | 4 => ("SlotBoard", "mover", "LSlotBoard$Mover;", true)
  | 5 => ("SlotBoard", "processor", "LSlotBoard$Processor;", true)
  | 6 => ("SlotBoard", "owned", "[I", true)
  | 7 => ("SlotBoard", "beam", "I", false)
  | _ => ("SlotBoard", "begunFrames", "I", false)
def ty_Bd : Nat → FieldType := fun k => match k with
  | 0 => .object "SlotBoard$Memory"
  | 1 => .object "SlotBoard$Registers"
  | 2 => .object "SlotBoard$Picture"
  | 3 => .object "SlotBoard$BeamList"
  | 4 => .object "SlotBoard$Mover"
  | 5 => .object "SlotBoard$Processor"
  | 6 => .array .int
  | 7 => .int
  | _ => .int
theorem nm_Bd : ∀ a, a < 9 → ∀ b, b < 9 → a ≠ b → (T_Bd a).2.1 ≠ (T_Bd b).2.1 := by decide +kernel
theorem tyok_Bd : ∀ k, k < 9 → parseFieldDescriptor (T_Bd k).2.2.1 = some (ty_Bd k) := by decide +kernel
def R_Me : String := "SlotBoard$Memory"
def T_Me : u_T := fun k => match k with
  | _ => ("SlotBoard$Memory", "words", "[I", true)
def ty_Me : Nat → FieldType := fun k => match k with
  | _ => .array .int
theorem nm_Me : ∀ a, a < 1 → ∀ b, b < 1 → a ≠ b → (T_Me a).2.1 ≠ (T_Me b).2.1 := by decide +kernel
theorem tyok_Me : ∀ k, k < 1 → parseFieldDescriptor (T_Me k).2.2.1 = some (ty_Me k) := by decide +kernel
def R_Re : String := "SlotBoard$Registers"
def T_Re : u_T := fun k => match k with
  | 0 => ("SlotBoard$Registers", "values", "[I", true)
  | _ => ("SlotBoard$Registers", "requests", "I", false)
def ty_Re : Nat → FieldType := fun k => match k with
  | 0 => .array .int
  | _ => .int
theorem nm_Re : ∀ a, a < 2 → ∀ b, b < 2 → a ≠ b → (T_Re a).2.1 ≠ (T_Re b).2.1 := by decide +kernel
theorem tyok_Re : ∀ k, k < 2 → parseFieldDescriptor (T_Re k).2.2.1 = some (ty_Re k) := by decide +kernel
def R_Pi : String := "SlotBoard$Picture"
def T_Pi : u_T := fun k => match k with
  | 0 => ("SlotBoard$Picture", "places", "[I", true)
  | 1 => ("SlotBoard$Picture", "latches", "[I", true)
  | 2 => ("SlotBoard$Picture", "shifters", "[I", true)
  | _ => ("SlotBoard$Picture", "points", "[I", true)
def ty_Pi : Nat → FieldType := fun k => match k with
  | 0 => .array .int
  | 1 => .array .int
  | 2 => .array .int
  | _ => .array .int
theorem nm_Pi : ∀ a, a < 4 → ∀ b, b < 4 → a ≠ b → (T_Pi a).2.1 ≠ (T_Pi b).2.1 := by decide +kernel
theorem tyok_Pi : ∀ k, k < 4 → parseFieldDescriptor (T_Pi k).2.2.1 = some (ty_Pi k) := by decide +kernel
def R_Li : String := "SlotBoard$BeamList"
def T_Li : u_T := fun k => match k with
  | 0 => ("SlotBoard$BeamList", "state", "I", false)
  | 1 => ("SlotBoard$BeamList", "address", "I", false)
  | 2 => ("SlotBoard$BeamList", "first", "I", false)
  | 3 => ("SlotBoard$BeamList", "target", "I", false)
  | 4 => ("SlotBoard$BeamList", "halfway", "Z", false)
  | _ => ("SlotBoard$BeamList", "leavesMoveOut", "Z", false)
def ty_Li : Nat → FieldType := fun k => match k with
  | 0 => .int
  | 1 => .int
  | 2 => .int
  | 3 => .int
  | 4 => .boolean
  | _ => .boolean
theorem nm_Li : ∀ a, a < 6 → ∀ b, b < 6 → a ≠ b → (T_Li a).2.1 ≠ (T_Li b).2.1 := by decide +kernel
theorem tyok_Li : ∀ k, k < 6 → parseFieldDescriptor (T_Li k).2.2.1 = some (ty_Li k) := by decide +kernel
def R_Mo : String := "SlotBoard$Mover"
def T_Mo : u_T := fun k => match k with
  | 0 => ("SlotBoard$Mover", "fetched", "[I", true)
  | 1 => ("SlotBoard$Mover", "busy", "Z", false)
  | 2 => ("SlotBoard$Mover", "zero", "Z", false)
  | 3 => ("SlotBoard$Mover", "width", "I", false)
  | 4 => ("SlotBoard$Mover", "height", "I", false)
  | 5 => ("SlotBoard$Mover", "column", "I", false)
  | 6 => ("SlotBoard$Mover", "row", "I", false)
  | 7 => ("SlotBoard$Mover", "nextChannel", "I", false)
  | 8 => ("SlotBoard$Mover", "beforeA", "I", false)
  | _ => ("SlotBoard$Mover", "beforeB", "I", false)
def ty_Mo : Nat → FieldType := fun k => match k with
  | 0 => .array .int
  | 1 => .boolean
  | 2 => .boolean
  | 3 => .int
  | 4 => .int
  | 5 => .int
  | 6 => .int
  | 7 => .int
  | 8 => .int
  | _ => .int
theorem nm_Mo : ∀ a, a < 10 → ∀ b, b < 10 → a ≠ b → (T_Mo a).2.1 ≠ (T_Mo b).2.1 := by decide +kernel
theorem tyok_Mo : ∀ k, k < 10 → parseFieldDescriptor (T_Mo k).2.2.1 = some (ty_Mo k) := by decide +kernel
def R_Pr : String := "SlotBoard$Processor"
def T_Pr : u_T := fun k => match k with
  | 0 => ("SlotBoard$Processor", "kinds", "[I", true)
  | 1 => ("SlotBoard$Processor", "targets", "[I", true)
  | 2 => ("SlotBoard$Processor", "values", "[I", true)
  | 3 => ("SlotBoard$Processor", "head", "I", false)
  | 4 => ("SlotBoard$Processor", "waiting", "I", false)
  | 5 => ("SlotBoard$Processor", "lost", "I", false)
  | 6 => ("SlotBoard$Processor", "loaded", "I", false)
  | _ => ("SlotBoard$Processor", "loads", "I", false)
def ty_Pr : Nat → FieldType := fun k => match k with
  | 0 => .array .int
  | 1 => .array .int
  | 2 => .array .int
  | 3 => .int
  | 4 => .int
  | 5 => .int
  | 6 => .int
  | _ => .int
theorem nm_Pr : ∀ a, a < 8 → ∀ b, b < 8 → a ≠ b → (T_Pr a).2.1 ≠ (T_Pr b).2.1 := by decide +kernel
theorem tyok_Pr : ∀ k, k < 8 → parseFieldDescriptor (T_Pr k).2.2.1 = some (ty_Pr k) := by decide +kernel
def R_Md : String := "SlotBoardModel"
def T_Md : u_T := fun k => match k with
  | 0 => ("SlotBoardModel", "memory", "[I", true)
  | 1 => ("SlotBoardModel", "has", "[I", true)
  | 2 => ("SlotBoardModel", "picture", "[I", true)
  | 3 => ("SlotBoardModel", "beam", "I", false)
  | 4 => ("SlotBoardModel", "frames", "I", false)
  | 5 => ("SlotBoardModel", "requests", "I", false)
  | 6 => ("SlotBoardModel", "owned", "[I", true)
  | 7 => ("SlotBoardModel", "planePlace", "[I", true)
  | 8 => ("SlotBoardModel", "latch", "[I", true)
  | 9 => ("SlotBoardModel", "shifter", "[I", true)
  | 10 => ("SlotBoardModel", "list", "I", false)
  | 11 => ("SlotBoardModel", "listPlace", "I", false)
  | 12 => ("SlotBoardModel", "firstWord", "I", false)
  | 13 => ("SlotBoardModel", "second", "Z", false)
  | 14 => ("SlotBoardModel", "skips", "Z", false)
  | 15 => ("SlotBoardModel", "target", "I", false)
  | 16 => ("SlotBoardModel", "busy", "Z", false)
  | 17 => ("SlotBoardModel", "zero", "Z", false)
  | 18 => ("SlotBoardModel", "width", "I", false)
  | 19 => ("SlotBoardModel", "height", "I", false)
  | 20 => ("SlotBoardModel", "column", "I", false)
  | 21 => ("SlotBoardModel", "row", "I", false)
  | 22 => ("SlotBoardModel", "channel", "I", false)
  | 23 => ("SlotBoardModel", "beforeA", "I", false)
  | 24 => ("SlotBoardModel", "beforeB", "I", false)
  | 25 => ("SlotBoardModel", "fetched", "[I", true)
  | 26 => ("SlotBoardModel", "lost", "I", false)
  | 27 => ("SlotBoardModel", "queued", "I", false)
  | 28 => ("SlotBoardModel", "queue", "[I", true)
  | 29 => ("SlotBoardModel", "loaded", "I", false)
  | _ => ("SlotBoardModel", "loads", "I", false)
def ty_Md : Nat → FieldType := fun k => match k with
  | 0 => .array .int
  | 1 => .array .int
  | 2 => .array .int
  | 3 => .int
  | 4 => .int
  | 5 => .int
  | 6 => .array .int
  | 7 => .array .int
  | 8 => .array .int
  | 9 => .array .int
  | 10 => .int
  | 11 => .int
  | 12 => .int
  | 13 => .boolean
  | 14 => .boolean
  | 15 => .int
  | 16 => .boolean
  | 17 => .boolean
  | 18 => .int
  | 19 => .int
  | 20 => .int
  | 21 => .int
  | 22 => .int
  | 23 => .int
  | 24 => .int
  | 25 => .array .int
  | 26 => .int
  | 27 => .int
  | 28 => .array .int
  | 29 => .int
  | _ => .int
theorem nm_Md : ∀ a, a < 31 → ∀ b, b < 31 → a ≠ b → (T_Md a).2.1 ≠ (T_Md b).2.1 := by decide +kernel
theorem tyok_Md : ∀ k, k < 31 → parseFieldDescriptor (T_Md k).2.2.1 = some (ty_Md k) := by decide +kernel
abbrev vCl : List vw_C := [(R_Bd, T_Bd, 9), (R_Me, T_Me, 1), (R_Re, T_Re, 2), (R_Pi, T_Pi, 4), (R_Li, T_Li, 6), (R_Mo, T_Mo, 10), (R_Pr, T_Pr, 8), (R_Md, T_Md, 31)]
def y_Bd_init : MethodName := ⟨"SlotBoard", "<init>", "()V"⟩
def y_Bd_access : MethodName := ⟨"SlotBoard", "access", "(III)Z"⟩
def y_Bd_set : MethodName := ⟨"SlotBoard", "set", "(II)Z"⟩
def y_Bd_run : MethodName := ⟨"SlotBoard", "run", "(I)I"⟩
def y_Bd_word : MethodName := ⟨"SlotBoard", "word", "(I)I"⟩
def y_Bd_point : MethodName := ⟨"SlotBoard", "point", "(II)I"⟩
def y_Bd_place : MethodName := ⟨"SlotBoard", "place", "()I"⟩
def y_Bd_frames : MethodName := ⟨"SlotBoard", "frames", "()I"⟩
def y_Bd_slots : MethodName := ⟨"SlotBoard", "slots", "(I)I"⟩
def y_Bd_look : MethodName := ⟨"SlotBoard", "look", "(I)I"⟩
def y_Bd_register : MethodName := ⟨"SlotBoard", "register", "(I)I"⟩
def y_Bd_isAddress : MethodName := ⟨"SlotBoard", "isAddress", "(I)Z"⟩
def y_Bd_oneIf : MethodName := ⟨"SlotBoard", "oneIf", "(Z)I"⟩
def y_Bd_oneClock : MethodName := ⟨"SlotBoard", "oneClock", "()V"⟩
def y_Bd_beginFrame : MethodName := ⟨"SlotBoard", "beginFrame", "()V"⟩
def y_Bd_ownerOfSlot : MethodName := ⟨"SlotBoard", "ownerOfSlot", "(II)I"⟩
def y_Bd_moverOrProcessor : MethodName := ⟨"SlotBoard", "moverOrProcessor", "()I"⟩
def y_Bd_doWorkOf : MethodName := ⟨"SlotBoard", "doWorkOf", "(II)V"⟩
def y_Bd_fetchForList : MethodName := ⟨"SlotBoard", "fetchForList", "()V"⟩
def y_Bd_doFirstAccess : MethodName := ⟨"SlotBoard", "doFirstAccess", "()V"⟩
def y_Bd_writeRegister : MethodName := ⟨"SlotBoard", "writeRegister", "(II)V"⟩
def y_Md_init : MethodName := ⟨"SlotBoardModel", "<init>", "()V"⟩
def y_Md_outside : MethodName := ⟨"SlotBoardModel", "outside", "(III)Z"⟩
def y_Md_control : MethodName := ⟨"SlotBoardModel", "control", "(I)Z"⟩
def y_Md_write : MethodName := ⟨"SlotBoardModel", "write", "(II)V"⟩
def y_Md_startList : MethodName := ⟨"SlotBoardModel", "startList", "()V"⟩
def y_Md_begin : MethodName := ⟨"SlotBoardModel", "begin", "(I)V"⟩
def y_Md_show : MethodName := ⟨"SlotBoardModel", "show", "(II)V"⟩
def y_Md_planeAt : MethodName := ⟨"SlotBoardModel", "planeAt", "(II)I"⟩
def y_Md_fetchPlane : MethodName := ⟨"SlotBoardModel", "fetchPlane", "(II)V"⟩
def y_Md_fetchList : MethodName := ⟨"SlotBoardModel", "fetchList", "()V"⟩
def y_Md_used : MethodName := ⟨"SlotBoardModel", "used", "(I)Z"⟩
def y_Md_nextUsed : MethodName := ⟨"SlotBoardModel", "nextUsed", "(I)I"⟩
def y_Md_wordOf : MethodName := ⟨"SlotBoardModel", "wordOf", "(I)I"⟩
def y_Md_move : MethodName := ⟨"SlotBoardModel", "move", "()V"⟩
def y_Md_nextWord : MethodName := ⟨"SlotBoardModel", "nextWord", "()V"⟩
def y_Md_process : MethodName := ⟨"SlotBoardModel", "process", "()V"⟩
def y_Md_give : MethodName := ⟨"SlotBoardModel", "give", "(II)I"⟩
def y_Md_clock : MethodName := ⟨"SlotBoardModel", "clock", "()I"⟩
def y_Md_run : MethodName := ⟨"SlotBoardModel", "run", "(I)I"⟩
def y_Md_access : MethodName := ⟨"SlotBoardModel", "access", "(III)Z"⟩
def y_Md_set : MethodName := ⟨"SlotBoardModel", "set", "(II)Z"⟩
def y_Md_word : MethodName := ⟨"SlotBoardModel", "word", "(I)I"⟩
def y_Md_point : MethodName := ⟨"SlotBoardModel", "point", "(II)I"⟩
def y_Md_place : MethodName := ⟨"SlotBoardModel", "place", "()I"⟩
def y_Md_frames : MethodName := ⟨"SlotBoardModel", "frames", "()I"⟩
def y_Md_slots : MethodName := ⟨"SlotBoardModel", "slots", "(I)I"⟩
def y_Md_look : MethodName := ⟨"SlotBoardModel", "look", "(I)I"⟩
def y_Md_register : MethodName := ⟨"SlotBoardModel", "register", "(I)I"⟩
def y_Li_init : MethodName := ⟨"SlotBoard$BeamList", "<init>", "()V"⟩
def y_Li_goOnAt : MethodName := ⟨"SlotBoard$BeamList", "goOnAt", "(I)V"⟩
def y_Li_wakeAt : MethodName := ⟨"SlotBoard$BeamList", "wakeAt", "(I)V"⟩
def y_Li_takeWord : MethodName := ⟨"SlotBoard$BeamList", "takeWord", "(II)Z"⟩
def y_Li_movedRegister : MethodName := ⟨"SlotBoard$BeamList", "movedRegister", "()I"⟩
def y_Li_waitOrSkip : MethodName := ⟨"SlotBoard$BeamList", "waitOrSkip", "(II)V"⟩
def y_Me_init : MethodName := ⟨"SlotBoard$Memory", "<init>", "()V"⟩
def y_Me_at : MethodName := ⟨"SlotBoard$Memory", "at", "(I)I"⟩
def y_Me_put : MethodName := ⟨"SlotBoard$Memory", "put", "(II)V"⟩
def y_Mo_init : MethodName := ⟨"SlotBoard$Mover", "<init>", "()V"⟩
def y_Mo_begin : MethodName := ⟨"SlotBoard$Mover", "begin", "(I)V"⟩
def y_Mo_takeSlot : MethodName := ⟨"SlotBoard$Mover", "takeSlot", "(LSlotBoard$Memory;LSlotBoard$Registers;)V"⟩
def y_Mo_usedFrom : MethodName := ⟨"SlotBoard$Mover", "usedFrom", "(II)I"⟩
def y_Mo_isUsed : MethodName := ⟨"SlotBoard$Mover", "isUsed", "(II)Z"⟩
def y_Mo_finishWord : MethodName := ⟨"SlotBoard$Mover", "finishWord", "(ILSlotBoard$Registers;)I"⟩
def y_Mo_wordOf : MethodName := ⟨"SlotBoard$Mover", "wordOf", "(IILSlotBoard$Registers;)I"⟩
def y_Mo_masked : MethodName := ⟨"SlotBoard$Mover", "masked", "(ILSlotBoard$Registers;)I"⟩
def y_Mo_shifted : MethodName := ⟨"SlotBoard$Mover", "shifted", "(III)I"⟩
def y_Mo_combined : MethodName := ⟨"SlotBoard$Mover", "combined", "(IIII)I"⟩
def y_Mo_goOn : MethodName := ⟨"SlotBoard$Mover", "goOn", "(ILSlotBoard$Registers;)V"⟩
def y_Mo_addModulos : MethodName := ⟨"SlotBoard$Mover", "addModulos", "(ILSlotBoard$Registers;)V"⟩
def y_Pi_init : MethodName := ⟨"SlotBoard$Picture", "<init>", "()V"⟩
def y_Pi_isLine : MethodName := ⟨"SlotBoard$Picture", "isLine", "(I)Z"⟩
def y_Pi_isFetchClock : MethodName := ⟨"SlotBoard$Picture", "isFetchClock", "(II)Z"⟩
def y_Pi_isFetchClockOf1 : MethodName := ⟨"SlotBoard$Picture", "isFetchClockOf1", "(I)Z"⟩
def y_Pi_shownAt : MethodName := ⟨"SlotBoard$Picture", "shownAt", "(II)I"⟩
def y_Pi_returnToBases : MethodName := ⟨"SlotBoard$Picture", "returnToBases", "(LSlotBoard$Registers;)V"⟩
def y_Pi_showClock : MethodName := ⟨"SlotBoard$Picture", "showClock", "(IILSlotBoard$Registers;)V"⟩
def y_Pi_fetchAt : MethodName := ⟨"SlotBoard$Picture", "fetchAt", "(ILSlotBoard$Memory;I)V"⟩
def y_Pi_clearLatches : MethodName := ⟨"SlotBoard$Picture", "clearLatches", "()V"⟩
def y_Pi_shiftOut : MethodName := ⟨"SlotBoard$Picture", "shiftOut", "()I"⟩
def y_Pr_init : MethodName := ⟨"SlotBoard$Processor", "<init>", "()V"⟩
def y_Pr_enqueue : MethodName := ⟨"SlotBoard$Processor", "enqueue", "(III)Z"⟩
def y_Pr_wantsSlot : MethodName := ⟨"SlotBoard$Processor", "wantsSlot", "()Z"⟩
def y_Pr_hasLostEnough : MethodName := ⟨"SlotBoard$Processor", "hasLostEnough", "()Z"⟩
def y_Pr_seeMoverSlot : MethodName := ⟨"SlotBoard$Processor", "seeMoverSlot", "()V"⟩
def y_Pr_firstKind : MethodName := ⟨"SlotBoard$Processor", "firstKind", "()I"⟩
def y_Pr_firstTarget : MethodName := ⟨"SlotBoard$Processor", "firstTarget", "()I"⟩
def y_Pr_firstValue : MethodName := ⟨"SlotBoard$Processor", "firstValue", "()I"⟩
def y_Pr_load : MethodName := ⟨"SlotBoard$Processor", "load", "(I)V"⟩
def y_Pr_dropFirst : MethodName := ⟨"SlotBoard$Processor", "dropFirst", "()V"⟩
def y_Re_init : MethodName := ⟨"SlotBoard$Registers", "<init>", "()V"⟩
def y_Re_at : MethodName := ⟨"SlotBoard$Registers", "at", "(I)I"⟩
def y_Re_put : MethodName := ⟨"SlotBoard$Registers", "put", "(II)V"⟩
def y_Re_grow : MethodName := ⟨"SlotBoard$Registers", "grow", "(II)V"⟩
def y_Re_isOn : MethodName := ⟨"SlotBoard$Registers", "isOn", "(I)Z"⟩
def y_Re_request : MethodName := ⟨"SlotBoard$Registers", "request", "(I)V"⟩
def y_Re_clearRequests : MethodName := ⟨"SlotBoard$Registers", "clearRequests", "(I)V"⟩
def y_Re_isEnabledRequested : MethodName := ⟨"SlotBoard$Registers", "isEnabledRequested", "()Z"⟩
/-- the tables' words that hold wherever the tables are as at the start -/
def TB : List Cond := lw_tbl.filter goodWord
theorem tb_in (i : Nat) {w : Cond} (h : tables_1[i]? = some w) (hg : goodWord w = true) : w ∈ TB := List.mem_filter.mpr ⟨List.mem_append_right _ (List.mem_of_getElem? h), hg⟩
theorem tb_inS (i : Nat) {w : Cond} (h : (k2_sels lw_privs)[i]? = some w) (hg : goodWord w = true) : w ∈ TB := List.mem_filter.mpr ⟨List.mem_append_left _ (List.mem_of_getElem? h), hg⟩
theorem tb_good {w : Cond} (h : w ∈ TB) : goodWord w = true := (List.mem_filter.mp h).2
theorem tb_gi {c : Cond} (h : c ∈ TB) : GoodIn TB (c :: TB) := fun w hw => by
  rcases List.mem_cons.mp hw with rfl | hw
  · exact ⟨h, good_of_word (tb_good h)⟩
  · exact ⟨hw, good_of_word (tb_good hw)⟩
theorem tb_ly_Bd_0 : Cond.laysFinal "SlotBoard" "SlotBoard" "memory" "LSlotBoard$Memory;" ∈ TB := tb_in 171 (by decide +kernel) (by decide +kernel)
theorem tb_ly_Bd_1 : Cond.laysFinal "SlotBoard" "SlotBoard" "registers" "LSlotBoard$Registers;" ∈ TB := tb_in 173 (by decide +kernel) (by decide +kernel)
theorem tb_ly_Bd_2 : Cond.laysFinal "SlotBoard" "SlotBoard" "picture" "LSlotBoard$Picture;" ∈ TB := tb_in 175 (by decide +kernel) (by decide +kernel)
theorem tb_ly_Bd_3 : Cond.laysFinal "SlotBoard" "SlotBoard" "list" "LSlotBoard$BeamList;" ∈ TB := tb_in 177 (by decide +kernel) (by decide +kernel)
theorem tb_ly_Bd_4 : Cond.laysFinal "SlotBoard" "SlotBoard" "mover" "LSlotBoard$Mover;" ∈ TB := tb_in 179 (by decide +kernel) (by decide +kernel)
theorem tb_ly_Bd_5 : Cond.laysFinal "SlotBoard" "SlotBoard" "processor" "LSlotBoard$Processor;" ∈ TB := tb_in 181 (by decide +kernel) (by decide +kernel)
theorem tb_ly_Bd_6 : Cond.laysFinal "SlotBoard" "SlotBoard" "owned" "[I" ∈ TB := tb_in 183 (by decide +kernel) (by decide +kernel)
theorem tb_ly_Bd_7 : Cond.lays "SlotBoard" "SlotBoard" "beam" "I" ∈ TB := tb_in 185 (by decide +kernel) (by decide +kernel)
theorem tb_ly_Bd_8 : Cond.lays "SlotBoard" "SlotBoard" "begunFrames" "I" ∈ TB := tb_in 187 (by decide +kernel) (by decide +kernel)
theorem iBd : ∀ w ∈ u_ws R_Bd T_Bd 9, w ∈ TB := by
  intro w hw
  have hw : w ∈ [u_lay R_Bd T_Bd 0, u_lay R_Bd T_Bd 1, u_lay R_Bd T_Bd 2, u_lay R_Bd T_Bd 3, u_lay R_Bd T_Bd 4, u_lay R_Bd T_Bd 5, u_lay R_Bd T_Bd 6, u_lay R_Bd T_Bd 7, u_lay R_Bd T_Bd 8] := hw
  simp only [List.mem_cons, List.not_mem_nil, or_false] at hw
  rcases hw with rfl | rfl | rfl | rfl | rfl | rfl | rfl | rfl | rfl
  · exact tb_ly_Bd_0
  · exact tb_ly_Bd_1
  · exact tb_ly_Bd_2
  · exact tb_ly_Bd_3
  · exact tb_ly_Bd_4
  · exact tb_ly_Bd_5
  · exact tb_ly_Bd_6
  · exact tb_ly_Bd_7
  · exact tb_ly_Bd_8
theorem tb_ly_Me_0 : Cond.laysFinal "SlotBoard$Memory" "SlotBoard$Memory" "words" "[I" ∈ TB := tb_in 25 (by decide +kernel) (by decide +kernel)
theorem iMe : ∀ w ∈ u_ws R_Me T_Me 1, w ∈ TB := by
  intro w hw
  have hw : w ∈ [u_lay R_Me T_Me 0] := hw
  simp only [List.mem_cons, List.not_mem_nil, or_false] at hw
  rcases hw with rfl
  · exact tb_ly_Me_0
theorem tb_ly_Re_0 : Cond.laysFinal "SlotBoard$Registers" "SlotBoard$Registers" "values" "[I" ∈ TB := tb_in 38 (by decide +kernel) (by decide +kernel)
theorem tb_ly_Re_1 : Cond.lays "SlotBoard$Registers" "SlotBoard$Registers" "requests" "I" ∈ TB := tb_in 40 (by decide +kernel) (by decide +kernel)
theorem iRe : ∀ w ∈ u_ws R_Re T_Re 2, w ∈ TB := by
  intro w hw
  have hw : w ∈ [u_lay R_Re T_Re 0, u_lay R_Re T_Re 1] := hw
  simp only [List.mem_cons, List.not_mem_nil, or_false] at hw
  rcases hw with rfl | rfl
  · exact tb_ly_Re_0
  · exact tb_ly_Re_1
theorem tb_ly_Pi_0 : Cond.laysFinal "SlotBoard$Picture" "SlotBoard$Picture" "places" "[I" ∈ TB := tb_in 53 (by decide +kernel) (by decide +kernel)
theorem tb_ly_Pi_1 : Cond.laysFinal "SlotBoard$Picture" "SlotBoard$Picture" "latches" "[I" ∈ TB := tb_in 55 (by decide +kernel) (by decide +kernel)
theorem tb_ly_Pi_2 : Cond.laysFinal "SlotBoard$Picture" "SlotBoard$Picture" "shifters" "[I" ∈ TB := tb_in 57 (by decide +kernel) (by decide +kernel)
theorem tb_ly_Pi_3 : Cond.laysFinal "SlotBoard$Picture" "SlotBoard$Picture" "points" "[I" ∈ TB := tb_in 59 (by decide +kernel) (by decide +kernel)
theorem iPi : ∀ w ∈ u_ws R_Pi T_Pi 4, w ∈ TB := by
  intro w hw
  have hw : w ∈ [u_lay R_Pi T_Pi 0, u_lay R_Pi T_Pi 1, u_lay R_Pi T_Pi 2, u_lay R_Pi T_Pi 3] := hw
  simp only [List.mem_cons, List.not_mem_nil, or_false] at hw
  rcases hw with rfl | rfl | rfl | rfl
  · exact tb_ly_Pi_0
  · exact tb_ly_Pi_1
  · exact tb_ly_Pi_2
  · exact tb_ly_Pi_3
theorem tb_ly_Li_0 : Cond.lays "SlotBoard$BeamList" "SlotBoard$BeamList" "state" "I" ∈ TB := tb_in 76 (by decide +kernel) (by decide +kernel)
theorem tb_ly_Li_1 : Cond.lays "SlotBoard$BeamList" "SlotBoard$BeamList" "address" "I" ∈ TB := tb_in 78 (by decide +kernel) (by decide +kernel)
theorem tb_ly_Li_2 : Cond.lays "SlotBoard$BeamList" "SlotBoard$BeamList" "first" "I" ∈ TB := tb_in 80 (by decide +kernel) (by decide +kernel)
theorem tb_ly_Li_3 : Cond.lays "SlotBoard$BeamList" "SlotBoard$BeamList" "target" "I" ∈ TB := tb_in 82 (by decide +kernel) (by decide +kernel)
theorem tb_ly_Li_4 : Cond.lays "SlotBoard$BeamList" "SlotBoard$BeamList" "halfway" "Z" ∈ TB := tb_in 84 (by decide +kernel) (by decide +kernel)
theorem tb_ly_Li_5 : Cond.lays "SlotBoard$BeamList" "SlotBoard$BeamList" "leavesMoveOut" "Z" ∈ TB := tb_in 86 (by decide +kernel) (by decide +kernel)
theorem iLi : ∀ w ∈ u_ws R_Li T_Li 6, w ∈ TB := by
  intro w hw
  have hw : w ∈ [u_lay R_Li T_Li 0, u_lay R_Li T_Li 1, u_lay R_Li T_Li 2, u_lay R_Li T_Li 3, u_lay R_Li T_Li 4, u_lay R_Li T_Li 5] := hw
  simp only [List.mem_cons, List.not_mem_nil, or_false] at hw
  rcases hw with rfl | rfl | rfl | rfl | rfl | rfl
  · exact tb_ly_Li_0
  · exact tb_ly_Li_1
  · exact tb_ly_Li_2
  · exact tb_ly_Li_3
  · exact tb_ly_Li_4
  · exact tb_ly_Li_5
theorem tb_ly_Mo_0 : Cond.laysFinal "SlotBoard$Mover" "SlotBoard$Mover" "fetched" "[I" ∈ TB := tb_in 107 (by decide +kernel) (by decide +kernel)
theorem tb_ly_Mo_1 : Cond.lays "SlotBoard$Mover" "SlotBoard$Mover" "busy" "Z" ∈ TB := tb_in 109 (by decide +kernel) (by decide +kernel)
theorem tb_ly_Mo_2 : Cond.lays "SlotBoard$Mover" "SlotBoard$Mover" "zero" "Z" ∈ TB := tb_in 111 (by decide +kernel) (by decide +kernel)
theorem tb_ly_Mo_3 : Cond.lays "SlotBoard$Mover" "SlotBoard$Mover" "width" "I" ∈ TB := tb_in 113 (by decide +kernel) (by decide +kernel)
theorem tb_ly_Mo_4 : Cond.lays "SlotBoard$Mover" "SlotBoard$Mover" "height" "I" ∈ TB := tb_in 115 (by decide +kernel) (by decide +kernel)
theorem tb_ly_Mo_5 : Cond.lays "SlotBoard$Mover" "SlotBoard$Mover" "column" "I" ∈ TB := tb_in 117 (by decide +kernel) (by decide +kernel)
theorem tb_ly_Mo_6 : Cond.lays "SlotBoard$Mover" "SlotBoard$Mover" "row" "I" ∈ TB := tb_in 119 (by decide +kernel) (by decide +kernel)
theorem tb_ly_Mo_7 : Cond.lays "SlotBoard$Mover" "SlotBoard$Mover" "nextChannel" "I" ∈ TB := tb_in 121 (by decide +kernel) (by decide +kernel)
theorem tb_ly_Mo_8 : Cond.lays "SlotBoard$Mover" "SlotBoard$Mover" "beforeA" "I" ∈ TB := tb_in 123 (by decide +kernel) (by decide +kernel)
theorem tb_ly_Mo_9 : Cond.lays "SlotBoard$Mover" "SlotBoard$Mover" "beforeB" "I" ∈ TB := tb_in 125 (by decide +kernel) (by decide +kernel)
theorem iMo : ∀ w ∈ u_ws R_Mo T_Mo 10, w ∈ TB := by
  intro w hw
  have hw : w ∈ [u_lay R_Mo T_Mo 0, u_lay R_Mo T_Mo 1, u_lay R_Mo T_Mo 2, u_lay R_Mo T_Mo 3, u_lay R_Mo T_Mo 4, u_lay R_Mo T_Mo 5, u_lay R_Mo T_Mo 6, u_lay R_Mo T_Mo 7, u_lay R_Mo T_Mo 8, u_lay R_Mo T_Mo 9] := hw
  simp only [List.mem_cons, List.not_mem_nil, or_false] at hw
  rcases hw with rfl | rfl | rfl | rfl | rfl | rfl | rfl | rfl | rfl | rfl
  · exact tb_ly_Mo_0
  · exact tb_ly_Mo_1
  · exact tb_ly_Mo_2
  · exact tb_ly_Mo_3
  · exact tb_ly_Mo_4
  · exact tb_ly_Mo_5
  · exact tb_ly_Mo_6
  · exact tb_ly_Mo_7
  · exact tb_ly_Mo_8
  · exact tb_ly_Mo_9
theorem tb_ly_Pr_0 : Cond.laysFinal "SlotBoard$Processor" "SlotBoard$Processor" "kinds" "[I" ∈ TB := tb_in 145 (by decide +kernel) (by decide +kernel)
theorem tb_ly_Pr_1 : Cond.laysFinal "SlotBoard$Processor" "SlotBoard$Processor" "targets" "[I" ∈ TB := tb_in 147 (by decide +kernel) (by decide +kernel)
theorem tb_ly_Pr_2 : Cond.laysFinal "SlotBoard$Processor" "SlotBoard$Processor" "values" "[I" ∈ TB := tb_in 149 (by decide +kernel) (by decide +kernel)
theorem tb_ly_Pr_3 : Cond.lays "SlotBoard$Processor" "SlotBoard$Processor" "head" "I" ∈ TB := tb_in 151 (by decide +kernel) (by decide +kernel)
theorem tb_ly_Pr_4 : Cond.lays "SlotBoard$Processor" "SlotBoard$Processor" "waiting" "I" ∈ TB := tb_in 153 (by decide +kernel) (by decide +kernel)
theorem tb_ly_Pr_5 : Cond.lays "SlotBoard$Processor" "SlotBoard$Processor" "lost" "I" ∈ TB := tb_in 155 (by decide +kernel) (by decide +kernel)
theorem tb_ly_Pr_6 : Cond.lays "SlotBoard$Processor" "SlotBoard$Processor" "loaded" "I" ∈ TB := tb_in 157 (by decide +kernel) (by decide +kernel)
theorem tb_ly_Pr_7 : Cond.lays "SlotBoard$Processor" "SlotBoard$Processor" "loads" "I" ∈ TB := tb_in 159 (by decide +kernel) (by decide +kernel)
theorem iPr : ∀ w ∈ u_ws R_Pr T_Pr 8, w ∈ TB := by
  intro w hw
  have hw : w ∈ [u_lay R_Pr T_Pr 0, u_lay R_Pr T_Pr 1, u_lay R_Pr T_Pr 2, u_lay R_Pr T_Pr 3, u_lay R_Pr T_Pr 4, u_lay R_Pr T_Pr 5, u_lay R_Pr T_Pr 6, u_lay R_Pr T_Pr 7] := hw
  simp only [List.mem_cons, List.not_mem_nil, or_false] at hw
  rcases hw with rfl | rfl | rfl | rfl | rfl | rfl | rfl | rfl
  · exact tb_ly_Pr_0
  · exact tb_ly_Pr_1
  · exact tb_ly_Pr_2
  · exact tb_ly_Pr_3
  · exact tb_ly_Pr_4
  · exact tb_ly_Pr_5
  · exact tb_ly_Pr_6
  · exact tb_ly_Pr_7
theorem tb_ly_Md_0 : Cond.laysFinal "SlotBoardModel" "SlotBoardModel" "memory" "[I" ∈ TB := tb_in 486 (by decide +kernel) (by decide +kernel)
theorem tb_ly_Md_1 : Cond.laysFinal "SlotBoardModel" "SlotBoardModel" "has" "[I" ∈ TB := tb_in 488 (by decide +kernel) (by decide +kernel)
theorem tb_ly_Md_2 : Cond.laysFinal "SlotBoardModel" "SlotBoardModel" "picture" "[I" ∈ TB := tb_in 490 (by decide +kernel) (by decide +kernel)
theorem tb_ly_Md_3 : Cond.lays "SlotBoardModel" "SlotBoardModel" "beam" "I" ∈ TB := tb_in 492 (by decide +kernel) (by decide +kernel)
theorem tb_ly_Md_4 : Cond.lays "SlotBoardModel" "SlotBoardModel" "frames" "I" ∈ TB := tb_in 494 (by decide +kernel) (by decide +kernel)
theorem tb_ly_Md_5 : Cond.lays "SlotBoardModel" "SlotBoardModel" "requests" "I" ∈ TB := tb_in 496 (by decide +kernel) (by decide +kernel)
theorem tb_ly_Md_6 : Cond.laysFinal "SlotBoardModel" "SlotBoardModel" "owned" "[I" ∈ TB := tb_in 498 (by decide +kernel) (by decide +kernel)
theorem tb_ly_Md_7 : Cond.laysFinal "SlotBoardModel" "SlotBoardModel" "planePlace" "[I" ∈ TB := tb_in 500 (by decide +kernel) (by decide +kernel)
theorem tb_ly_Md_8 : Cond.laysFinal "SlotBoardModel" "SlotBoardModel" "latch" "[I" ∈ TB := tb_in 502 (by decide +kernel) (by decide +kernel)
theorem tb_ly_Md_9 : Cond.laysFinal "SlotBoardModel" "SlotBoardModel" "shifter" "[I" ∈ TB := tb_in 504 (by decide +kernel) (by decide +kernel)
theorem tb_ly_Md_10 : Cond.lays "SlotBoardModel" "SlotBoardModel" "list" "I" ∈ TB := tb_in 506 (by decide +kernel) (by decide +kernel)
theorem tb_ly_Md_11 : Cond.lays "SlotBoardModel" "SlotBoardModel" "listPlace" "I" ∈ TB := tb_in 508 (by decide +kernel) (by decide +kernel)
theorem tb_ly_Md_12 : Cond.lays "SlotBoardModel" "SlotBoardModel" "firstWord" "I" ∈ TB := tb_in 510 (by decide +kernel) (by decide +kernel)
theorem tb_ly_Md_13 : Cond.lays "SlotBoardModel" "SlotBoardModel" "second" "Z" ∈ TB := tb_in 512 (by decide +kernel) (by decide +kernel)
theorem tb_ly_Md_14 : Cond.lays "SlotBoardModel" "SlotBoardModel" "skips" "Z" ∈ TB := tb_in 514 (by decide +kernel) (by decide +kernel)
theorem tb_ly_Md_15 : Cond.lays "SlotBoardModel" "SlotBoardModel" "target" "I" ∈ TB := tb_in 516 (by decide +kernel) (by decide +kernel)
theorem tb_ly_Md_16 : Cond.lays "SlotBoardModel" "SlotBoardModel" "busy" "Z" ∈ TB := tb_in 518 (by decide +kernel) (by decide +kernel)
theorem tb_ly_Md_17 : Cond.lays "SlotBoardModel" "SlotBoardModel" "zero" "Z" ∈ TB := tb_in 520 (by decide +kernel) (by decide +kernel)
theorem tb_ly_Md_18 : Cond.lays "SlotBoardModel" "SlotBoardModel" "width" "I" ∈ TB := tb_in 522 (by decide +kernel) (by decide +kernel)
theorem tb_ly_Md_19 : Cond.lays "SlotBoardModel" "SlotBoardModel" "height" "I" ∈ TB := tb_in 524 (by decide +kernel) (by decide +kernel)
theorem tb_ly_Md_20 : Cond.lays "SlotBoardModel" "SlotBoardModel" "column" "I" ∈ TB := tb_in 526 (by decide +kernel) (by decide +kernel)
theorem tb_ly_Md_21 : Cond.lays "SlotBoardModel" "SlotBoardModel" "row" "I" ∈ TB := tb_in 528 (by decide +kernel) (by decide +kernel)
theorem tb_ly_Md_22 : Cond.lays "SlotBoardModel" "SlotBoardModel" "channel" "I" ∈ TB := tb_in 530 (by decide +kernel) (by decide +kernel)
theorem tb_ly_Md_23 : Cond.lays "SlotBoardModel" "SlotBoardModel" "beforeA" "I" ∈ TB := tb_in 532 (by decide +kernel) (by decide +kernel)
theorem tb_ly_Md_24 : Cond.lays "SlotBoardModel" "SlotBoardModel" "beforeB" "I" ∈ TB := tb_in 534 (by decide +kernel) (by decide +kernel)
theorem tb_ly_Md_25 : Cond.laysFinal "SlotBoardModel" "SlotBoardModel" "fetched" "[I" ∈ TB := tb_in 536 (by decide +kernel) (by decide +kernel)
theorem tb_ly_Md_26 : Cond.lays "SlotBoardModel" "SlotBoardModel" "lost" "I" ∈ TB := tb_in 538 (by decide +kernel) (by decide +kernel)
theorem tb_ly_Md_27 : Cond.lays "SlotBoardModel" "SlotBoardModel" "queued" "I" ∈ TB := tb_in 540 (by decide +kernel) (by decide +kernel)
theorem tb_ly_Md_28 : Cond.laysFinal "SlotBoardModel" "SlotBoardModel" "queue" "[I" ∈ TB := tb_in 542 (by decide +kernel) (by decide +kernel)
theorem tb_ly_Md_29 : Cond.lays "SlotBoardModel" "SlotBoardModel" "loaded" "I" ∈ TB := tb_in 544 (by decide +kernel) (by decide +kernel)
theorem tb_ly_Md_30 : Cond.lays "SlotBoardModel" "SlotBoardModel" "loads" "I" ∈ TB := tb_in 546 (by decide +kernel) (by decide +kernel)
theorem iMd : ∀ w ∈ u_ws R_Md T_Md 31, w ∈ TB := by
  intro w hw
  have hw : w ∈ [u_lay R_Md T_Md 0, u_lay R_Md T_Md 1, u_lay R_Md T_Md 2, u_lay R_Md T_Md 3, u_lay R_Md T_Md 4, u_lay R_Md T_Md 5, u_lay R_Md T_Md 6, u_lay R_Md T_Md 7, u_lay R_Md T_Md 8, u_lay R_Md T_Md 9, u_lay R_Md T_Md 10, u_lay R_Md T_Md 11, u_lay R_Md T_Md 12, u_lay R_Md T_Md 13, u_lay R_Md T_Md 14, u_lay R_Md T_Md 15, u_lay R_Md T_Md 16, u_lay R_Md T_Md 17, u_lay R_Md T_Md 18, u_lay R_Md T_Md 19, u_lay R_Md T_Md 20, u_lay R_Md T_Md 21, u_lay R_Md T_Md 22, u_lay R_Md T_Md 23, u_lay R_Md T_Md 24, u_lay R_Md T_Md 25, u_lay R_Md T_Md 26, u_lay R_Md T_Md 27, u_lay R_Md T_Md 28, u_lay R_Md T_Md 29, u_lay R_Md T_Md 30] := hw
  simp only [List.mem_cons, List.not_mem_nil, or_false] at hw
  rcases hw with rfl | rfl | rfl | rfl | rfl | rfl | rfl | rfl | rfl | rfl | rfl | rfl | rfl | rfl | rfl | rfl | rfl | rfl | rfl | rfl | rfl | rfl | rfl | rfl | rfl | rfl | rfl | rfl | rfl | rfl | rfl
  · exact tb_ly_Md_0
  · exact tb_ly_Md_1
  · exact tb_ly_Md_2
  · exact tb_ly_Md_3
  · exact tb_ly_Md_4
  · exact tb_ly_Md_5
  · exact tb_ly_Md_6
  · exact tb_ly_Md_7
  · exact tb_ly_Md_8
  · exact tb_ly_Md_9
  · exact tb_ly_Md_10
  · exact tb_ly_Md_11
  · exact tb_ly_Md_12
  · exact tb_ly_Md_13
  · exact tb_ly_Md_14
  · exact tb_ly_Md_15
  · exact tb_ly_Md_16
  · exact tb_ly_Md_17
  · exact tb_ly_Md_18
  · exact tb_ly_Md_19
  · exact tb_ly_Md_20
  · exact tb_ly_Md_21
  · exact tb_ly_Md_22
  · exact tb_ly_Md_23
  · exact tb_ly_Md_24
  · exact tb_ly_Md_25
  · exact tb_ly_Md_26
  · exact tb_ly_Md_27
  · exact tb_ly_Md_28
  · exact tb_ly_Md_29
  · exact tb_ly_Md_30
end
section
def wB (cA : ClassId) (a : Nat → Nat) (S : SS) (M : MM) : va_W := [(a 0, .inr (0, [.ref (a 1), .ref (a 2), .ref (a 3), .ref (a 4), .ref (a 5), .ref (a 6), .ref (a 7), .int (S 0), .int (S 1)])), (a 1, .inr (1, [.ref (a 8)])), (a 2, .inr (2, [.ref (a 9), .int (S 2)])), (a 3, .inr (3, [.ref (a 10), .ref (a 11), .ref (a 12), .ref (a 13)])), (a 4, .inr (4, [.int (S 3), .int (S 4), .int (S 5), .int (S 6), .int (S 7), .int (S 8)])), (a 5, .inr (5, [.ref (a 14), .int (S 9), .int (S 10), .int (S 11), .int (S 12), .int (S 13), .int (S 14), .int (S 15), .int (S 16), .int (S 17)])), (a 6, .inr (6, [.ref (a 15), .ref (a 16), .ref (a 17), .int (S 18), .int (S 19), .int (S 20), .int (S 21), .int (S 22)])), (a 7, .inl (cA, 6, .inl (M 0))), (a 8, .inl (cA, 256, .inl (M 1))), (a 9, .inl (cA, 28, .inl (M 2))), (a 10, .inl (cA, 2, .inl (M 3))), (a 11, .inl (cA, 2, .inl (M 4))), (a 12, .inl (cA, 2, .inl (M 5))), (a 13, .inl (cA, 384, .inl (M 6))), (a 14, .inl (cA, 3, .inl (M 7))), (a 15, .inl (cA, 8, .inl (M 8))), (a 16, .inl (cA, 8, .inl (M 9))), (a 17, .inl (cA, 8, .inl (M 10)))]
def AB (a : Nat → Nat) : Nat → Prop := fun q => ∃ i, i < 18 ∧ q = a i
theorem wB_at0 (cA : ClassId) (a : Nat → Nat) (S : SS) (M : MM) : (wB cA a S M)[0]? = some (a 0, .inr (0, [.ref (a 1), .ref (a 2), .ref (a 3), .ref (a 4), .ref (a 5), .ref (a 6), .ref (a 7), .int (S 0), .int (S 1)])) := rfl
theorem wB_at1 (cA : ClassId) (a : Nat → Nat) (S : SS) (M : MM) : (wB cA a S M)[1]? = some (a 1, .inr (1, [.ref (a 8)])) := rfl
theorem wB_at2 (cA : ClassId) (a : Nat → Nat) (S : SS) (M : MM) : (wB cA a S M)[2]? = some (a 2, .inr (2, [.ref (a 9), .int (S 2)])) := rfl
theorem wB_at3 (cA : ClassId) (a : Nat → Nat) (S : SS) (M : MM) : (wB cA a S M)[3]? = some (a 3, .inr (3, [.ref (a 10), .ref (a 11), .ref (a 12), .ref (a 13)])) := rfl
theorem wB_at4 (cA : ClassId) (a : Nat → Nat) (S : SS) (M : MM) : (wB cA a S M)[4]? = some (a 4, .inr (4, [.int (S 3), .int (S 4), .int (S 5), .int (S 6), .int (S 7), .int (S 8)])) := rfl
theorem wB_at5 (cA : ClassId) (a : Nat → Nat) (S : SS) (M : MM) : (wB cA a S M)[5]? = some (a 5, .inr (5, [.ref (a 14), .int (S 9), .int (S 10), .int (S 11), .int (S 12), .int (S 13), .int (S 14), .int (S 15), .int (S 16), .int (S 17)])) := rfl
theorem wB_at6 (cA : ClassId) (a : Nat → Nat) (S : SS) (M : MM) : (wB cA a S M)[6]? = some (a 6, .inr (6, [.ref (a 15), .ref (a 16), .ref (a 17), .int (S 18), .int (S 19), .int (S 20), .int (S 21), .int (S 22)])) := rfl
theorem wB_at7 (cA : ClassId) (a : Nat → Nat) (S : SS) (M : MM) : (wB cA a S M)[7]? = some (a 7, .inl (cA, 6, .inl (M 0))) := rfl
theorem wB_at8 (cA : ClassId) (a : Nat → Nat) (S : SS) (M : MM) : (wB cA a S M)[8]? = some (a 8, .inl (cA, 256, .inl (M 1))) := rfl
theorem wB_at9 (cA : ClassId) (a : Nat → Nat) (S : SS) (M : MM) : (wB cA a S M)[9]? = some (a 9, .inl (cA, 28, .inl (M 2))) := rfl
theorem wB_at10 (cA : ClassId) (a : Nat → Nat) (S : SS) (M : MM) : (wB cA a S M)[10]? = some (a 10, .inl (cA, 2, .inl (M 3))) := rfl
theorem wB_at11 (cA : ClassId) (a : Nat → Nat) (S : SS) (M : MM) : (wB cA a S M)[11]? = some (a 11, .inl (cA, 2, .inl (M 4))) := rfl
theorem wB_at12 (cA : ClassId) (a : Nat → Nat) (S : SS) (M : MM) : (wB cA a S M)[12]? = some (a 12, .inl (cA, 2, .inl (M 5))) := rfl
theorem wB_at13 (cA : ClassId) (a : Nat → Nat) (S : SS) (M : MM) : (wB cA a S M)[13]? = some (a 13, .inl (cA, 384, .inl (M 6))) := rfl
theorem wB_at14 (cA : ClassId) (a : Nat → Nat) (S : SS) (M : MM) : (wB cA a S M)[14]? = some (a 14, .inl (cA, 3, .inl (M 7))) := rfl
theorem wB_at15 (cA : ClassId) (a : Nat → Nat) (S : SS) (M : MM) : (wB cA a S M)[15]? = some (a 15, .inl (cA, 8, .inl (M 8))) := rfl
theorem wB_at16 (cA : ClassId) (a : Nat → Nat) (S : SS) (M : MM) : (wB cA a S M)[16]? = some (a 16, .inl (cA, 8, .inl (M 9))) := rfl
theorem wB_at17 (cA : ClassId) (a : Nat → Nat) (S : SS) (M : MM) : (wB cA a S M)[17]? = some (a 17, .inl (cA, 8, .inl (M 10))) := rfl
theorem wB_set7 {D : va_G} {cl : List vw_C} {H : Heap} {cA : ClassId} {a : Nat → Nat} {S : SS} {M : MM} {f : Nat → Int32} (h : va_P D cl ((wB cA a S M).set 7 (a 7, .inl (cA, 6, .inl f))) H) : va_P D cl (wB cA a S (upM M 0 f)) H := h
theorem wB_dset7 {A : Nat → Prop} {cA : ClassId} {a : Nat → Nat} {S : SS} {M : MM} {f : Nat → Int32} (h : va_D A ((wB cA a S M).set 7 (a 7, .inl (cA, 6, .inl f)))) : va_D A (wB cA a S (upM M 0 f)) := h
theorem wB_set8 {D : va_G} {cl : List vw_C} {H : Heap} {cA : ClassId} {a : Nat → Nat} {S : SS} {M : MM} {f : Nat → Int32} (h : va_P D cl ((wB cA a S M).set 8 (a 8, .inl (cA, 256, .inl f))) H) : va_P D cl (wB cA a S (upM M 1 f)) H := h
theorem wB_dset8 {A : Nat → Prop} {cA : ClassId} {a : Nat → Nat} {S : SS} {M : MM} {f : Nat → Int32} (h : va_D A ((wB cA a S M).set 8 (a 8, .inl (cA, 256, .inl f)))) : va_D A (wB cA a S (upM M 1 f)) := h
theorem wB_set9 {D : va_G} {cl : List vw_C} {H : Heap} {cA : ClassId} {a : Nat → Nat} {S : SS} {M : MM} {f : Nat → Int32} (h : va_P D cl ((wB cA a S M).set 9 (a 9, .inl (cA, 28, .inl f))) H) : va_P D cl (wB cA a S (upM M 2 f)) H := h
theorem wB_dset9 {A : Nat → Prop} {cA : ClassId} {a : Nat → Nat} {S : SS} {M : MM} {f : Nat → Int32} (h : va_D A ((wB cA a S M).set 9 (a 9, .inl (cA, 28, .inl f)))) : va_D A (wB cA a S (upM M 2 f)) := h
theorem wB_set10 {D : va_G} {cl : List vw_C} {H : Heap} {cA : ClassId} {a : Nat → Nat} {S : SS} {M : MM} {f : Nat → Int32} (h : va_P D cl ((wB cA a S M).set 10 (a 10, .inl (cA, 2, .inl f))) H) : va_P D cl (wB cA a S (upM M 3 f)) H := h
theorem wB_dset10 {A : Nat → Prop} {cA : ClassId} {a : Nat → Nat} {S : SS} {M : MM} {f : Nat → Int32} (h : va_D A ((wB cA a S M).set 10 (a 10, .inl (cA, 2, .inl f)))) : va_D A (wB cA a S (upM M 3 f)) := h
theorem wB_set11 {D : va_G} {cl : List vw_C} {H : Heap} {cA : ClassId} {a : Nat → Nat} {S : SS} {M : MM} {f : Nat → Int32} (h : va_P D cl ((wB cA a S M).set 11 (a 11, .inl (cA, 2, .inl f))) H) : va_P D cl (wB cA a S (upM M 4 f)) H := h
theorem wB_dset11 {A : Nat → Prop} {cA : ClassId} {a : Nat → Nat} {S : SS} {M : MM} {f : Nat → Int32} (h : va_D A ((wB cA a S M).set 11 (a 11, .inl (cA, 2, .inl f)))) : va_D A (wB cA a S (upM M 4 f)) := h
theorem wB_set12 {D : va_G} {cl : List vw_C} {H : Heap} {cA : ClassId} {a : Nat → Nat} {S : SS} {M : MM} {f : Nat → Int32} (h : va_P D cl ((wB cA a S M).set 12 (a 12, .inl (cA, 2, .inl f))) H) : va_P D cl (wB cA a S (upM M 5 f)) H := h
theorem wB_dset12 {A : Nat → Prop} {cA : ClassId} {a : Nat → Nat} {S : SS} {M : MM} {f : Nat → Int32} (h : va_D A ((wB cA a S M).set 12 (a 12, .inl (cA, 2, .inl f)))) : va_D A (wB cA a S (upM M 5 f)) := h
theorem wB_set13 {D : va_G} {cl : List vw_C} {H : Heap} {cA : ClassId} {a : Nat → Nat} {S : SS} {M : MM} {f : Nat → Int32} (h : va_P D cl ((wB cA a S M).set 13 (a 13, .inl (cA, 384, .inl f))) H) : va_P D cl (wB cA a S (upM M 6 f)) H := h
theorem wB_dset13 {A : Nat → Prop} {cA : ClassId} {a : Nat → Nat} {S : SS} {M : MM} {f : Nat → Int32} (h : va_D A ((wB cA a S M).set 13 (a 13, .inl (cA, 384, .inl f)))) : va_D A (wB cA a S (upM M 6 f)) := h
theorem wB_set14 {D : va_G} {cl : List vw_C} {H : Heap} {cA : ClassId} {a : Nat → Nat} {S : SS} {M : MM} {f : Nat → Int32} (h : va_P D cl ((wB cA a S M).set 14 (a 14, .inl (cA, 3, .inl f))) H) : va_P D cl (wB cA a S (upM M 7 f)) H := h
theorem wB_dset14 {A : Nat → Prop} {cA : ClassId} {a : Nat → Nat} {S : SS} {M : MM} {f : Nat → Int32} (h : va_D A ((wB cA a S M).set 14 (a 14, .inl (cA, 3, .inl f)))) : va_D A (wB cA a S (upM M 7 f)) := h
theorem wB_set15 {D : va_G} {cl : List vw_C} {H : Heap} {cA : ClassId} {a : Nat → Nat} {S : SS} {M : MM} {f : Nat → Int32} (h : va_P D cl ((wB cA a S M).set 15 (a 15, .inl (cA, 8, .inl f))) H) : va_P D cl (wB cA a S (upM M 8 f)) H := h
theorem wB_dset15 {A : Nat → Prop} {cA : ClassId} {a : Nat → Nat} {S : SS} {M : MM} {f : Nat → Int32} (h : va_D A ((wB cA a S M).set 15 (a 15, .inl (cA, 8, .inl f)))) : va_D A (wB cA a S (upM M 8 f)) := h
theorem wB_set16 {D : va_G} {cl : List vw_C} {H : Heap} {cA : ClassId} {a : Nat → Nat} {S : SS} {M : MM} {f : Nat → Int32} (h : va_P D cl ((wB cA a S M).set 16 (a 16, .inl (cA, 8, .inl f))) H) : va_P D cl (wB cA a S (upM M 9 f)) H := h
theorem wB_dset16 {A : Nat → Prop} {cA : ClassId} {a : Nat → Nat} {S : SS} {M : MM} {f : Nat → Int32} (h : va_D A ((wB cA a S M).set 16 (a 16, .inl (cA, 8, .inl f)))) : va_D A (wB cA a S (upM M 9 f)) := h
theorem wB_set17 {D : va_G} {cl : List vw_C} {H : Heap} {cA : ClassId} {a : Nat → Nat} {S : SS} {M : MM} {f : Nat → Int32} (h : va_P D cl ((wB cA a S M).set 17 (a 17, .inl (cA, 8, .inl f))) H) : va_P D cl (wB cA a S (upM M 10 f)) H := h
theorem wB_dset17 {A : Nat → Prop} {cA : ClassId} {a : Nat → Nat} {S : SS} {M : MM} {f : Nat → Int32} (h : va_D A ((wB cA a S M).set 17 (a 17, .inl (cA, 8, .inl f)))) : va_D A (wB cA a S (upM M 10 f)) := h
def cbits : Nat → Int32 := fun j => [15, 255, 0, 255, 255, 255, 4095, 4095, 4095, 4095, 65535, 15, 255, 255, 255, 255, 255, 255, 255, 255, 65535, 65535, 65535, 65535, 65535, 0, 3, 0].getD j 0
def ZB (a : Nat → Nat) : State → Heap → Prop := fun U H => ∃ t0 : Nat, va_Z "SlotBoard$Registers" "COUNTING_BITS" "[I" (.ref t0) (AB a) U H ∧ va_T .int t0 28 (fun j => .int (cbits j)) (AB a) U H
theorem ZB_k (a : Nat → Nat) : ZK (AB a) (ZB a) := fun u U H H1 hvm hk h => by
  obtain ⟨t0, h1, h2⟩ := h
  exact ⟨t0, (h1.kept hk).moved hvm, (h2.kept hk).moved hvm⟩
section PUwB
variable {p : Program} {l : Launch} {e : Env} {R : Room} {s : State} {m : MethodId} {args : Array Value} {below : List Frame} {meth : Method} {c : Code} {H : Heap} {locs : List Loc} {Q : State → Prop} {cc : ByteArray} {pc index : Nat} {ls : Array Slot} {rest : List Value} {D : va_G} {A : Nat → Prop} {tys : List (ClassId × FieldType)} {H0 : Heap} {Ts : List Cond} {cA : ClassId} {a : Nat → Nat} {S : SS} {M : MM} {x : Int32}
theorem puwB_0 (hexec : p.tables.exec = Jvm.exec) (hb : c.code = cc) (hts : ∀ w ∈ Ts, w.before args s = true) (hin : ∀ w ∈ u_ws R_Bd T_Bd 9, w ∈ Ts) (hown : s.vm.findClass R_Bd = some m.cls) (hK : va_K D vCl tys s) (hP : va_P D vCl (wB cA a S M) H) (hD : va_D A (wB cA a S M)) (hS : va_S A H0 H locs) (hlink : (Cond.fieldLink R_Bd index R_Bd "beam" "I").before args s = true) (hn : narrow .int (.int x) = .int x) (hf : fits .int (.int x) = true) (hdg : decode cc pc = .ok (.putfield index, 3))
    (kk : ∀ (H1 : Heap) (locs1 : List Loc), va_P D vCl (wB cA a (upd S 0 x) M) H1 → va_D A (wB cA a (upd S 0 x) M) → va_S A H0 H1 locs1 → W p l e R s m args below meth c H1 locs1 0 0 Q (F0 m (pc + 3) ls rest)) : W p l e R s m args below meth c H locs 0 0 Q (F0 m pc ls (.int x :: .ref (a 0) :: rest)) :=
  va_put (D := D) (ci := 0) (v := .int x) (ty := .int) (C := R_Bd) (T := T_Bd) (N := 9) hexec hb hts hin ty_Bd tyok_Bd nm_Bd hown hK hP hD hS 0 (wB_at0 cA a S M) rfl 7 (by decide) hlink (fun _ h9 => h9) rfl (by decide +kernel) hn hf (Nat.le_of_ble_eq_true rfl) hdg kk
theorem puwB_1 (hexec : p.tables.exec = Jvm.exec) (hb : c.code = cc) (hts : ∀ w ∈ Ts, w.before args s = true) (hin : ∀ w ∈ u_ws R_Bd T_Bd 9, w ∈ Ts) (hown : s.vm.findClass R_Bd = some m.cls) (hK : va_K D vCl tys s) (hP : va_P D vCl (wB cA a S M) H) (hD : va_D A (wB cA a S M)) (hS : va_S A H0 H locs) (hlink : (Cond.fieldLink R_Bd index R_Bd "begunFrames" "I").before args s = true) (hn : narrow .int (.int x) = .int x) (hf : fits .int (.int x) = true) (hdg : decode cc pc = .ok (.putfield index, 3))
    (kk : ∀ (H1 : Heap) (locs1 : List Loc), va_P D vCl (wB cA a (upd S 1 x) M) H1 → va_D A (wB cA a (upd S 1 x) M) → va_S A H0 H1 locs1 → W p l e R s m args below meth c H1 locs1 0 0 Q (F0 m (pc + 3) ls rest)) : W p l e R s m args below meth c H locs 0 0 Q (F0 m pc ls (.int x :: .ref (a 0) :: rest)) :=
  va_put (D := D) (ci := 0) (v := .int x) (ty := .int) (C := R_Bd) (T := T_Bd) (N := 9) hexec hb hts hin ty_Bd tyok_Bd nm_Bd hown hK hP hD hS 0 (wB_at0 cA a S M) rfl 8 (by decide) hlink (fun _ h9 => h9) rfl (by decide +kernel) hn hf (Nat.le_of_ble_eq_true rfl) hdg kk
theorem puwB_2 (hexec : p.tables.exec = Jvm.exec) (hb : c.code = cc) (hts : ∀ w ∈ Ts, w.before args s = true) (hin : ∀ w ∈ u_ws R_Re T_Re 2, w ∈ Ts) (hown : s.vm.findClass R_Re = some m.cls) (hK : va_K D vCl tys s) (hP : va_P D vCl (wB cA a S M) H) (hD : va_D A (wB cA a S M)) (hS : va_S A H0 H locs) (hlink : (Cond.fieldLink R_Re index R_Re "requests" "I").before args s = true) (hn : narrow .int (.int x) = .int x) (hf : fits .int (.int x) = true) (hdg : decode cc pc = .ok (.putfield index, 3))
    (kk : ∀ (H1 : Heap) (locs1 : List Loc), va_P D vCl (wB cA a (upd S 2 x) M) H1 → va_D A (wB cA a (upd S 2 x) M) → va_S A H0 H1 locs1 → W p l e R s m args below meth c H1 locs1 0 0 Q (F0 m (pc + 3) ls rest)) : W p l e R s m args below meth c H locs 0 0 Q (F0 m pc ls (.int x :: .ref (a 2) :: rest)) :=
  va_put (D := D) (ci := 2) (v := .int x) (ty := .int) (C := R_Re) (T := T_Re) (N := 2) hexec hb hts hin ty_Re tyok_Re nm_Re hown hK hP hD hS 2 (wB_at2 cA a S M) rfl 1 (by decide) hlink (fun _ h9 => h9) rfl (by decide +kernel) hn hf (Nat.le_of_ble_eq_true rfl) hdg kk
theorem puwB_3 (hexec : p.tables.exec = Jvm.exec) (hb : c.code = cc) (hts : ∀ w ∈ Ts, w.before args s = true) (hin : ∀ w ∈ u_ws R_Li T_Li 6, w ∈ Ts) (hown : s.vm.findClass R_Li = some m.cls) (hK : va_K D vCl tys s) (hP : va_P D vCl (wB cA a S M) H) (hD : va_D A (wB cA a S M)) (hS : va_S A H0 H locs) (hlink : (Cond.fieldLink R_Li index R_Li "state" "I").before args s = true) (hn : narrow .int (.int x) = .int x) (hf : fits .int (.int x) = true) (hdg : decode cc pc = .ok (.putfield index, 3))
    (kk : ∀ (H1 : Heap) (locs1 : List Loc), va_P D vCl (wB cA a (upd S 3 x) M) H1 → va_D A (wB cA a (upd S 3 x) M) → va_S A H0 H1 locs1 → W p l e R s m args below meth c H1 locs1 0 0 Q (F0 m (pc + 3) ls rest)) : W p l e R s m args below meth c H locs 0 0 Q (F0 m pc ls (.int x :: .ref (a 4) :: rest)) :=
  va_put (D := D) (ci := 4) (v := .int x) (ty := .int) (C := R_Li) (T := T_Li) (N := 6) hexec hb hts hin ty_Li tyok_Li nm_Li hown hK hP hD hS 4 (wB_at4 cA a S M) rfl 0 (by decide) hlink (fun _ h9 => h9) rfl (by decide +kernel) hn hf (Nat.le_of_ble_eq_true rfl) hdg kk
theorem puwB_4 (hexec : p.tables.exec = Jvm.exec) (hb : c.code = cc) (hts : ∀ w ∈ Ts, w.before args s = true) (hin : ∀ w ∈ u_ws R_Li T_Li 6, w ∈ Ts) (hown : s.vm.findClass R_Li = some m.cls) (hK : va_K D vCl tys s) (hP : va_P D vCl (wB cA a S M) H) (hD : va_D A (wB cA a S M)) (hS : va_S A H0 H locs) (hlink : (Cond.fieldLink R_Li index R_Li "address" "I").before args s = true) (hn : narrow .int (.int x) = .int x) (hf : fits .int (.int x) = true) (hdg : decode cc pc = .ok (.putfield index, 3))
    (kk : ∀ (H1 : Heap) (locs1 : List Loc), va_P D vCl (wB cA a (upd S 4 x) M) H1 → va_D A (wB cA a (upd S 4 x) M) → va_S A H0 H1 locs1 → W p l e R s m args below meth c H1 locs1 0 0 Q (F0 m (pc + 3) ls rest)) : W p l e R s m args below meth c H locs 0 0 Q (F0 m pc ls (.int x :: .ref (a 4) :: rest)) :=
  va_put (D := D) (ci := 4) (v := .int x) (ty := .int) (C := R_Li) (T := T_Li) (N := 6) hexec hb hts hin ty_Li tyok_Li nm_Li hown hK hP hD hS 4 (wB_at4 cA a S M) rfl 1 (by decide) hlink (fun _ h9 => h9) rfl (by decide +kernel) hn hf (Nat.le_of_ble_eq_true rfl) hdg kk
theorem puwB_5 (hexec : p.tables.exec = Jvm.exec) (hb : c.code = cc) (hts : ∀ w ∈ Ts, w.before args s = true) (hin : ∀ w ∈ u_ws R_Li T_Li 6, w ∈ Ts) (hown : s.vm.findClass R_Li = some m.cls) (hK : va_K D vCl tys s) (hP : va_P D vCl (wB cA a S M) H) (hD : va_D A (wB cA a S M)) (hS : va_S A H0 H locs) (hlink : (Cond.fieldLink R_Li index R_Li "first" "I").before args s = true) (hn : narrow .int (.int x) = .int x) (hf : fits .int (.int x) = true) (hdg : decode cc pc = .ok (.putfield index, 3))
    (kk : ∀ (H1 : Heap) (locs1 : List Loc), va_P D vCl (wB cA a (upd S 5 x) M) H1 → va_D A (wB cA a (upd S 5 x) M) → va_S A H0 H1 locs1 → W p l e R s m args below meth c H1 locs1 0 0 Q (F0 m (pc + 3) ls rest)) : W p l e R s m args below meth c H locs 0 0 Q (F0 m pc ls (.int x :: .ref (a 4) :: rest)) :=
  va_put (D := D) (ci := 4) (v := .int x) (ty := .int) (C := R_Li) (T := T_Li) (N := 6) hexec hb hts hin ty_Li tyok_Li nm_Li hown hK hP hD hS 4 (wB_at4 cA a S M) rfl 2 (by decide) hlink (fun _ h9 => h9) rfl (by decide +kernel) hn hf (Nat.le_of_ble_eq_true rfl) hdg kk
theorem puwB_6 (hexec : p.tables.exec = Jvm.exec) (hb : c.code = cc) (hts : ∀ w ∈ Ts, w.before args s = true) (hin : ∀ w ∈ u_ws R_Li T_Li 6, w ∈ Ts) (hown : s.vm.findClass R_Li = some m.cls) (hK : va_K D vCl tys s) (hP : va_P D vCl (wB cA a S M) H) (hD : va_D A (wB cA a S M)) (hS : va_S A H0 H locs) (hlink : (Cond.fieldLink R_Li index R_Li "target" "I").before args s = true) (hn : narrow .int (.int x) = .int x) (hf : fits .int (.int x) = true) (hdg : decode cc pc = .ok (.putfield index, 3))
    (kk : ∀ (H1 : Heap) (locs1 : List Loc), va_P D vCl (wB cA a (upd S 6 x) M) H1 → va_D A (wB cA a (upd S 6 x) M) → va_S A H0 H1 locs1 → W p l e R s m args below meth c H1 locs1 0 0 Q (F0 m (pc + 3) ls rest)) : W p l e R s m args below meth c H locs 0 0 Q (F0 m pc ls (.int x :: .ref (a 4) :: rest)) :=
  va_put (D := D) (ci := 4) (v := .int x) (ty := .int) (C := R_Li) (T := T_Li) (N := 6) hexec hb hts hin ty_Li tyok_Li nm_Li hown hK hP hD hS 4 (wB_at4 cA a S M) rfl 3 (by decide) hlink (fun _ h9 => h9) rfl (by decide +kernel) hn hf (Nat.le_of_ble_eq_true rfl) hdg kk
theorem puwB_7 (hexec : p.tables.exec = Jvm.exec) (hb : c.code = cc) (hts : ∀ w ∈ Ts, w.before args s = true) (hin : ∀ w ∈ u_ws R_Li T_Li 6, w ∈ Ts) (hown : s.vm.findClass R_Li = some m.cls) (hK : va_K D vCl tys s) (hP : va_P D vCl (wB cA a S M) H) (hD : va_D A (wB cA a S M)) (hS : va_S A H0 H locs) (hlink : (Cond.fieldLink R_Li index R_Li "halfway" "Z").before args s = true) (hn : narrow .boolean (.int x) = .int x) (hf : fits .boolean (.int x) = true) (hdg : decode cc pc = .ok (.putfield index, 3))
    (kk : ∀ (H1 : Heap) (locs1 : List Loc), va_P D vCl (wB cA a (upd S 7 x) M) H1 → va_D A (wB cA a (upd S 7 x) M) → va_S A H0 H1 locs1 → W p l e R s m args below meth c H1 locs1 0 0 Q (F0 m (pc + 3) ls rest)) : W p l e R s m args below meth c H locs 0 0 Q (F0 m pc ls (.int x :: .ref (a 4) :: rest)) :=
  va_put (D := D) (ci := 4) (v := .int x) (ty := .boolean) (C := R_Li) (T := T_Li) (N := 6) hexec hb hts hin ty_Li tyok_Li nm_Li hown hK hP hD hS 4 (wB_at4 cA a S M) rfl 4 (by decide) hlink (fun _ h9 => h9) rfl (by decide +kernel) hn hf (Nat.le_of_ble_eq_true rfl) hdg kk
theorem puwB_8 (hexec : p.tables.exec = Jvm.exec) (hb : c.code = cc) (hts : ∀ w ∈ Ts, w.before args s = true) (hin : ∀ w ∈ u_ws R_Li T_Li 6, w ∈ Ts) (hown : s.vm.findClass R_Li = some m.cls) (hK : va_K D vCl tys s) (hP : va_P D vCl (wB cA a S M) H) (hD : va_D A (wB cA a S M)) (hS : va_S A H0 H locs) (hlink : (Cond.fieldLink R_Li index R_Li "leavesMoveOut" "Z").before args s = true) (hn : narrow .boolean (.int x) = .int x) (hf : fits .boolean (.int x) = true) (hdg : decode cc pc = .ok (.putfield index, 3))
    (kk : ∀ (H1 : Heap) (locs1 : List Loc), va_P D vCl (wB cA a (upd S 8 x) M) H1 → va_D A (wB cA a (upd S 8 x) M) → va_S A H0 H1 locs1 → W p l e R s m args below meth c H1 locs1 0 0 Q (F0 m (pc + 3) ls rest)) : W p l e R s m args below meth c H locs 0 0 Q (F0 m pc ls (.int x :: .ref (a 4) :: rest)) :=
  va_put (D := D) (ci := 4) (v := .int x) (ty := .boolean) (C := R_Li) (T := T_Li) (N := 6) hexec hb hts hin ty_Li tyok_Li nm_Li hown hK hP hD hS 4 (wB_at4 cA a S M) rfl 5 (by decide) hlink (fun _ h9 => h9) rfl (by decide +kernel) hn hf (Nat.le_of_ble_eq_true rfl) hdg kk
theorem puwB_9 (hexec : p.tables.exec = Jvm.exec) (hb : c.code = cc) (hts : ∀ w ∈ Ts, w.before args s = true) (hin : ∀ w ∈ u_ws R_Mo T_Mo 10, w ∈ Ts) (hown : s.vm.findClass R_Mo = some m.cls) (hK : va_K D vCl tys s) (hP : va_P D vCl (wB cA a S M) H) (hD : va_D A (wB cA a S M)) (hS : va_S A H0 H locs) (hlink : (Cond.fieldLink R_Mo index R_Mo "busy" "Z").before args s = true) (hn : narrow .boolean (.int x) = .int x) (hf : fits .boolean (.int x) = true) (hdg : decode cc pc = .ok (.putfield index, 3))
    (kk : ∀ (H1 : Heap) (locs1 : List Loc), va_P D vCl (wB cA a (upd S 9 x) M) H1 → va_D A (wB cA a (upd S 9 x) M) → va_S A H0 H1 locs1 → W p l e R s m args below meth c H1 locs1 0 0 Q (F0 m (pc + 3) ls rest)) : W p l e R s m args below meth c H locs 0 0 Q (F0 m pc ls (.int x :: .ref (a 5) :: rest)) :=
  va_put (D := D) (ci := 5) (v := .int x) (ty := .boolean) (C := R_Mo) (T := T_Mo) (N := 10) hexec hb hts hin ty_Mo tyok_Mo nm_Mo hown hK hP hD hS 5 (wB_at5 cA a S M) rfl 1 (by decide) hlink (fun _ h9 => h9) rfl (by decide +kernel) hn hf (Nat.le_of_ble_eq_true rfl) hdg kk
theorem puwB_10 (hexec : p.tables.exec = Jvm.exec) (hb : c.code = cc) (hts : ∀ w ∈ Ts, w.before args s = true) (hin : ∀ w ∈ u_ws R_Mo T_Mo 10, w ∈ Ts) (hown : s.vm.findClass R_Mo = some m.cls) (hK : va_K D vCl tys s) (hP : va_P D vCl (wB cA a S M) H) (hD : va_D A (wB cA a S M)) (hS : va_S A H0 H locs) (hlink : (Cond.fieldLink R_Mo index R_Mo "zero" "Z").before args s = true) (hn : narrow .boolean (.int x) = .int x) (hf : fits .boolean (.int x) = true) (hdg : decode cc pc = .ok (.putfield index, 3))
    (kk : ∀ (H1 : Heap) (locs1 : List Loc), va_P D vCl (wB cA a (upd S 10 x) M) H1 → va_D A (wB cA a (upd S 10 x) M) → va_S A H0 H1 locs1 → W p l e R s m args below meth c H1 locs1 0 0 Q (F0 m (pc + 3) ls rest)) : W p l e R s m args below meth c H locs 0 0 Q (F0 m pc ls (.int x :: .ref (a 5) :: rest)) :=
  va_put (D := D) (ci := 5) (v := .int x) (ty := .boolean) (C := R_Mo) (T := T_Mo) (N := 10) hexec hb hts hin ty_Mo tyok_Mo nm_Mo hown hK hP hD hS 5 (wB_at5 cA a S M) rfl 2 (by decide) hlink (fun _ h9 => h9) rfl (by decide +kernel) hn hf (Nat.le_of_ble_eq_true rfl) hdg kk
theorem puwB_11 (hexec : p.tables.exec = Jvm.exec) (hb : c.code = cc) (hts : ∀ w ∈ Ts, w.before args s = true) (hin : ∀ w ∈ u_ws R_Mo T_Mo 10, w ∈ Ts) (hown : s.vm.findClass R_Mo = some m.cls) (hK : va_K D vCl tys s) (hP : va_P D vCl (wB cA a S M) H) (hD : va_D A (wB cA a S M)) (hS : va_S A H0 H locs) (hlink : (Cond.fieldLink R_Mo index R_Mo "width" "I").before args s = true) (hn : narrow .int (.int x) = .int x) (hf : fits .int (.int x) = true) (hdg : decode cc pc = .ok (.putfield index, 3))
    (kk : ∀ (H1 : Heap) (locs1 : List Loc), va_P D vCl (wB cA a (upd S 11 x) M) H1 → va_D A (wB cA a (upd S 11 x) M) → va_S A H0 H1 locs1 → W p l e R s m args below meth c H1 locs1 0 0 Q (F0 m (pc + 3) ls rest)) : W p l e R s m args below meth c H locs 0 0 Q (F0 m pc ls (.int x :: .ref (a 5) :: rest)) :=
  va_put (D := D) (ci := 5) (v := .int x) (ty := .int) (C := R_Mo) (T := T_Mo) (N := 10) hexec hb hts hin ty_Mo tyok_Mo nm_Mo hown hK hP hD hS 5 (wB_at5 cA a S M) rfl 3 (by decide) hlink (fun _ h9 => h9) rfl (by decide +kernel) hn hf (Nat.le_of_ble_eq_true rfl) hdg kk
theorem puwB_12 (hexec : p.tables.exec = Jvm.exec) (hb : c.code = cc) (hts : ∀ w ∈ Ts, w.before args s = true) (hin : ∀ w ∈ u_ws R_Mo T_Mo 10, w ∈ Ts) (hown : s.vm.findClass R_Mo = some m.cls) (hK : va_K D vCl tys s) (hP : va_P D vCl (wB cA a S M) H) (hD : va_D A (wB cA a S M)) (hS : va_S A H0 H locs) (hlink : (Cond.fieldLink R_Mo index R_Mo "height" "I").before args s = true) (hn : narrow .int (.int x) = .int x) (hf : fits .int (.int x) = true) (hdg : decode cc pc = .ok (.putfield index, 3))
    (kk : ∀ (H1 : Heap) (locs1 : List Loc), va_P D vCl (wB cA a (upd S 12 x) M) H1 → va_D A (wB cA a (upd S 12 x) M) → va_S A H0 H1 locs1 → W p l e R s m args below meth c H1 locs1 0 0 Q (F0 m (pc + 3) ls rest)) : W p l e R s m args below meth c H locs 0 0 Q (F0 m pc ls (.int x :: .ref (a 5) :: rest)) :=
  va_put (D := D) (ci := 5) (v := .int x) (ty := .int) (C := R_Mo) (T := T_Mo) (N := 10) hexec hb hts hin ty_Mo tyok_Mo nm_Mo hown hK hP hD hS 5 (wB_at5 cA a S M) rfl 4 (by decide) hlink (fun _ h9 => h9) rfl (by decide +kernel) hn hf (Nat.le_of_ble_eq_true rfl) hdg kk
theorem puwB_13 (hexec : p.tables.exec = Jvm.exec) (hb : c.code = cc) (hts : ∀ w ∈ Ts, w.before args s = true) (hin : ∀ w ∈ u_ws R_Mo T_Mo 10, w ∈ Ts) (hown : s.vm.findClass R_Mo = some m.cls) (hK : va_K D vCl tys s) (hP : va_P D vCl (wB cA a S M) H) (hD : va_D A (wB cA a S M)) (hS : va_S A H0 H locs) (hlink : (Cond.fieldLink R_Mo index R_Mo "column" "I").before args s = true) (hn : narrow .int (.int x) = .int x) (hf : fits .int (.int x) = true) (hdg : decode cc pc = .ok (.putfield index, 3))
    (kk : ∀ (H1 : Heap) (locs1 : List Loc), va_P D vCl (wB cA a (upd S 13 x) M) H1 → va_D A (wB cA a (upd S 13 x) M) → va_S A H0 H1 locs1 → W p l e R s m args below meth c H1 locs1 0 0 Q (F0 m (pc + 3) ls rest)) : W p l e R s m args below meth c H locs 0 0 Q (F0 m pc ls (.int x :: .ref (a 5) :: rest)) :=
  va_put (D := D) (ci := 5) (v := .int x) (ty := .int) (C := R_Mo) (T := T_Mo) (N := 10) hexec hb hts hin ty_Mo tyok_Mo nm_Mo hown hK hP hD hS 5 (wB_at5 cA a S M) rfl 5 (by decide) hlink (fun _ h9 => h9) rfl (by decide +kernel) hn hf (Nat.le_of_ble_eq_true rfl) hdg kk
theorem puwB_14 (hexec : p.tables.exec = Jvm.exec) (hb : c.code = cc) (hts : ∀ w ∈ Ts, w.before args s = true) (hin : ∀ w ∈ u_ws R_Mo T_Mo 10, w ∈ Ts) (hown : s.vm.findClass R_Mo = some m.cls) (hK : va_K D vCl tys s) (hP : va_P D vCl (wB cA a S M) H) (hD : va_D A (wB cA a S M)) (hS : va_S A H0 H locs) (hlink : (Cond.fieldLink R_Mo index R_Mo "row" "I").before args s = true) (hn : narrow .int (.int x) = .int x) (hf : fits .int (.int x) = true) (hdg : decode cc pc = .ok (.putfield index, 3))
    (kk : ∀ (H1 : Heap) (locs1 : List Loc), va_P D vCl (wB cA a (upd S 14 x) M) H1 → va_D A (wB cA a (upd S 14 x) M) → va_S A H0 H1 locs1 → W p l e R s m args below meth c H1 locs1 0 0 Q (F0 m (pc + 3) ls rest)) : W p l e R s m args below meth c H locs 0 0 Q (F0 m pc ls (.int x :: .ref (a 5) :: rest)) :=
  va_put (D := D) (ci := 5) (v := .int x) (ty := .int) (C := R_Mo) (T := T_Mo) (N := 10) hexec hb hts hin ty_Mo tyok_Mo nm_Mo hown hK hP hD hS 5 (wB_at5 cA a S M) rfl 6 (by decide) hlink (fun _ h9 => h9) rfl (by decide +kernel) hn hf (Nat.le_of_ble_eq_true rfl) hdg kk
theorem puwB_15 (hexec : p.tables.exec = Jvm.exec) (hb : c.code = cc) (hts : ∀ w ∈ Ts, w.before args s = true) (hin : ∀ w ∈ u_ws R_Mo T_Mo 10, w ∈ Ts) (hown : s.vm.findClass R_Mo = some m.cls) (hK : va_K D vCl tys s) (hP : va_P D vCl (wB cA a S M) H) (hD : va_D A (wB cA a S M)) (hS : va_S A H0 H locs) (hlink : (Cond.fieldLink R_Mo index R_Mo "nextChannel" "I").before args s = true) (hn : narrow .int (.int x) = .int x) (hf : fits .int (.int x) = true) (hdg : decode cc pc = .ok (.putfield index, 3))
    (kk : ∀ (H1 : Heap) (locs1 : List Loc), va_P D vCl (wB cA a (upd S 15 x) M) H1 → va_D A (wB cA a (upd S 15 x) M) → va_S A H0 H1 locs1 → W p l e R s m args below meth c H1 locs1 0 0 Q (F0 m (pc + 3) ls rest)) : W p l e R s m args below meth c H locs 0 0 Q (F0 m pc ls (.int x :: .ref (a 5) :: rest)) :=
  va_put (D := D) (ci := 5) (v := .int x) (ty := .int) (C := R_Mo) (T := T_Mo) (N := 10) hexec hb hts hin ty_Mo tyok_Mo nm_Mo hown hK hP hD hS 5 (wB_at5 cA a S M) rfl 7 (by decide) hlink (fun _ h9 => h9) rfl (by decide +kernel) hn hf (Nat.le_of_ble_eq_true rfl) hdg kk
theorem puwB_16 (hexec : p.tables.exec = Jvm.exec) (hb : c.code = cc) (hts : ∀ w ∈ Ts, w.before args s = true) (hin : ∀ w ∈ u_ws R_Mo T_Mo 10, w ∈ Ts) (hown : s.vm.findClass R_Mo = some m.cls) (hK : va_K D vCl tys s) (hP : va_P D vCl (wB cA a S M) H) (hD : va_D A (wB cA a S M)) (hS : va_S A H0 H locs) (hlink : (Cond.fieldLink R_Mo index R_Mo "beforeA" "I").before args s = true) (hn : narrow .int (.int x) = .int x) (hf : fits .int (.int x) = true) (hdg : decode cc pc = .ok (.putfield index, 3))
    (kk : ∀ (H1 : Heap) (locs1 : List Loc), va_P D vCl (wB cA a (upd S 16 x) M) H1 → va_D A (wB cA a (upd S 16 x) M) → va_S A H0 H1 locs1 → W p l e R s m args below meth c H1 locs1 0 0 Q (F0 m (pc + 3) ls rest)) : W p l e R s m args below meth c H locs 0 0 Q (F0 m pc ls (.int x :: .ref (a 5) :: rest)) :=
  va_put (D := D) (ci := 5) (v := .int x) (ty := .int) (C := R_Mo) (T := T_Mo) (N := 10) hexec hb hts hin ty_Mo tyok_Mo nm_Mo hown hK hP hD hS 5 (wB_at5 cA a S M) rfl 8 (by decide) hlink (fun _ h9 => h9) rfl (by decide +kernel) hn hf (Nat.le_of_ble_eq_true rfl) hdg kk
theorem puwB_17 (hexec : p.tables.exec = Jvm.exec) (hb : c.code = cc) (hts : ∀ w ∈ Ts, w.before args s = true) (hin : ∀ w ∈ u_ws R_Mo T_Mo 10, w ∈ Ts) (hown : s.vm.findClass R_Mo = some m.cls) (hK : va_K D vCl tys s) (hP : va_P D vCl (wB cA a S M) H) (hD : va_D A (wB cA a S M)) (hS : va_S A H0 H locs) (hlink : (Cond.fieldLink R_Mo index R_Mo "beforeB" "I").before args s = true) (hn : narrow .int (.int x) = .int x) (hf : fits .int (.int x) = true) (hdg : decode cc pc = .ok (.putfield index, 3))
    (kk : ∀ (H1 : Heap) (locs1 : List Loc), va_P D vCl (wB cA a (upd S 17 x) M) H1 → va_D A (wB cA a (upd S 17 x) M) → va_S A H0 H1 locs1 → W p l e R s m args below meth c H1 locs1 0 0 Q (F0 m (pc + 3) ls rest)) : W p l e R s m args below meth c H locs 0 0 Q (F0 m pc ls (.int x :: .ref (a 5) :: rest)) :=
  va_put (D := D) (ci := 5) (v := .int x) (ty := .int) (C := R_Mo) (T := T_Mo) (N := 10) hexec hb hts hin ty_Mo tyok_Mo nm_Mo hown hK hP hD hS 5 (wB_at5 cA a S M) rfl 9 (by decide) hlink (fun _ h9 => h9) rfl (by decide +kernel) hn hf (Nat.le_of_ble_eq_true rfl) hdg kk
theorem puwB_18 (hexec : p.tables.exec = Jvm.exec) (hb : c.code = cc) (hts : ∀ w ∈ Ts, w.before args s = true) (hin : ∀ w ∈ u_ws R_Pr T_Pr 8, w ∈ Ts) (hown : s.vm.findClass R_Pr = some m.cls) (hK : va_K D vCl tys s) (hP : va_P D vCl (wB cA a S M) H) (hD : va_D A (wB cA a S M)) (hS : va_S A H0 H locs) (hlink : (Cond.fieldLink R_Pr index R_Pr "head" "I").before args s = true) (hn : narrow .int (.int x) = .int x) (hf : fits .int (.int x) = true) (hdg : decode cc pc = .ok (.putfield index, 3))
    (kk : ∀ (H1 : Heap) (locs1 : List Loc), va_P D vCl (wB cA a (upd S 18 x) M) H1 → va_D A (wB cA a (upd S 18 x) M) → va_S A H0 H1 locs1 → W p l e R s m args below meth c H1 locs1 0 0 Q (F0 m (pc + 3) ls rest)) : W p l e R s m args below meth c H locs 0 0 Q (F0 m pc ls (.int x :: .ref (a 6) :: rest)) :=
  va_put (D := D) (ci := 6) (v := .int x) (ty := .int) (C := R_Pr) (T := T_Pr) (N := 8) hexec hb hts hin ty_Pr tyok_Pr nm_Pr hown hK hP hD hS 6 (wB_at6 cA a S M) rfl 3 (by decide) hlink (fun _ h9 => h9) rfl (by decide +kernel) hn hf (Nat.le_of_ble_eq_true rfl) hdg kk
theorem puwB_19 (hexec : p.tables.exec = Jvm.exec) (hb : c.code = cc) (hts : ∀ w ∈ Ts, w.before args s = true) (hin : ∀ w ∈ u_ws R_Pr T_Pr 8, w ∈ Ts) (hown : s.vm.findClass R_Pr = some m.cls) (hK : va_K D vCl tys s) (hP : va_P D vCl (wB cA a S M) H) (hD : va_D A (wB cA a S M)) (hS : va_S A H0 H locs) (hlink : (Cond.fieldLink R_Pr index R_Pr "waiting" "I").before args s = true) (hn : narrow .int (.int x) = .int x) (hf : fits .int (.int x) = true) (hdg : decode cc pc = .ok (.putfield index, 3))
    (kk : ∀ (H1 : Heap) (locs1 : List Loc), va_P D vCl (wB cA a (upd S 19 x) M) H1 → va_D A (wB cA a (upd S 19 x) M) → va_S A H0 H1 locs1 → W p l e R s m args below meth c H1 locs1 0 0 Q (F0 m (pc + 3) ls rest)) : W p l e R s m args below meth c H locs 0 0 Q (F0 m pc ls (.int x :: .ref (a 6) :: rest)) :=
  va_put (D := D) (ci := 6) (v := .int x) (ty := .int) (C := R_Pr) (T := T_Pr) (N := 8) hexec hb hts hin ty_Pr tyok_Pr nm_Pr hown hK hP hD hS 6 (wB_at6 cA a S M) rfl 4 (by decide) hlink (fun _ h9 => h9) rfl (by decide +kernel) hn hf (Nat.le_of_ble_eq_true rfl) hdg kk
theorem puwB_20 (hexec : p.tables.exec = Jvm.exec) (hb : c.code = cc) (hts : ∀ w ∈ Ts, w.before args s = true) (hin : ∀ w ∈ u_ws R_Pr T_Pr 8, w ∈ Ts) (hown : s.vm.findClass R_Pr = some m.cls) (hK : va_K D vCl tys s) (hP : va_P D vCl (wB cA a S M) H) (hD : va_D A (wB cA a S M)) (hS : va_S A H0 H locs) (hlink : (Cond.fieldLink R_Pr index R_Pr "lost" "I").before args s = true) (hn : narrow .int (.int x) = .int x) (hf : fits .int (.int x) = true) (hdg : decode cc pc = .ok (.putfield index, 3))
    (kk : ∀ (H1 : Heap) (locs1 : List Loc), va_P D vCl (wB cA a (upd S 20 x) M) H1 → va_D A (wB cA a (upd S 20 x) M) → va_S A H0 H1 locs1 → W p l e R s m args below meth c H1 locs1 0 0 Q (F0 m (pc + 3) ls rest)) : W p l e R s m args below meth c H locs 0 0 Q (F0 m pc ls (.int x :: .ref (a 6) :: rest)) :=
  va_put (D := D) (ci := 6) (v := .int x) (ty := .int) (C := R_Pr) (T := T_Pr) (N := 8) hexec hb hts hin ty_Pr tyok_Pr nm_Pr hown hK hP hD hS 6 (wB_at6 cA a S M) rfl 5 (by decide) hlink (fun _ h9 => h9) rfl (by decide +kernel) hn hf (Nat.le_of_ble_eq_true rfl) hdg kk
theorem puwB_21 (hexec : p.tables.exec = Jvm.exec) (hb : c.code = cc) (hts : ∀ w ∈ Ts, w.before args s = true) (hin : ∀ w ∈ u_ws R_Pr T_Pr 8, w ∈ Ts) (hown : s.vm.findClass R_Pr = some m.cls) (hK : va_K D vCl tys s) (hP : va_P D vCl (wB cA a S M) H) (hD : va_D A (wB cA a S M)) (hS : va_S A H0 H locs) (hlink : (Cond.fieldLink R_Pr index R_Pr "loaded" "I").before args s = true) (hn : narrow .int (.int x) = .int x) (hf : fits .int (.int x) = true) (hdg : decode cc pc = .ok (.putfield index, 3))
    (kk : ∀ (H1 : Heap) (locs1 : List Loc), va_P D vCl (wB cA a (upd S 21 x) M) H1 → va_D A (wB cA a (upd S 21 x) M) → va_S A H0 H1 locs1 → W p l e R s m args below meth c H1 locs1 0 0 Q (F0 m (pc + 3) ls rest)) : W p l e R s m args below meth c H locs 0 0 Q (F0 m pc ls (.int x :: .ref (a 6) :: rest)) :=
  va_put (D := D) (ci := 6) (v := .int x) (ty := .int) (C := R_Pr) (T := T_Pr) (N := 8) hexec hb hts hin ty_Pr tyok_Pr nm_Pr hown hK hP hD hS 6 (wB_at6 cA a S M) rfl 6 (by decide) hlink (fun _ h9 => h9) rfl (by decide +kernel) hn hf (Nat.le_of_ble_eq_true rfl) hdg kk
theorem puwB_22 (hexec : p.tables.exec = Jvm.exec) (hb : c.code = cc) (hts : ∀ w ∈ Ts, w.before args s = true) (hin : ∀ w ∈ u_ws R_Pr T_Pr 8, w ∈ Ts) (hown : s.vm.findClass R_Pr = some m.cls) (hK : va_K D vCl tys s) (hP : va_P D vCl (wB cA a S M) H) (hD : va_D A (wB cA a S M)) (hS : va_S A H0 H locs) (hlink : (Cond.fieldLink R_Pr index R_Pr "loads" "I").before args s = true) (hn : narrow .int (.int x) = .int x) (hf : fits .int (.int x) = true) (hdg : decode cc pc = .ok (.putfield index, 3))
    (kk : ∀ (H1 : Heap) (locs1 : List Loc), va_P D vCl (wB cA a (upd S 22 x) M) H1 → va_D A (wB cA a (upd S 22 x) M) → va_S A H0 H1 locs1 → W p l e R s m args below meth c H1 locs1 0 0 Q (F0 m (pc + 3) ls rest)) : W p l e R s m args below meth c H locs 0 0 Q (F0 m pc ls (.int x :: .ref (a 6) :: rest)) :=
  va_put (D := D) (ci := 6) (v := .int x) (ty := .int) (C := R_Pr) (T := T_Pr) (N := 8) hexec hb hts hin ty_Pr tyok_Pr nm_Pr hown hK hP hD hS 6 (wB_at6 cA a S M) rfl 7 (by decide) hlink (fun _ h9 => h9) rfl (by decide +kernel) hn hf (Nat.le_of_ble_eq_true rfl) hdg kk
end PUwB
def wM (cA : ClassId) (b : Nat → Nat) (S : SS) (M : MM) : va_W := [(b 0, .inr (7, [.ref (b 1), .ref (b 2), .ref (b 3), .int (S 0), .int (S 1), .int (S 2), .ref (b 4), .ref (b 5), .ref (b 6), .ref (b 7), .int (S 3), .int (S 4), .int (S 5), .int (S 6), .int (S 7), .int (S 8), .int (S 9), .int (S 10), .int (S 11), .int (S 12), .int (S 13), .int (S 14), .int (S 15), .int (S 16), .int (S 17), .ref (b 8), .int (S 18), .int (S 19), .ref (b 9), .int (S 20), .int (S 21)])), (b 1, .inl (cA, 256, .inl (M 0))), (b 2, .inl (cA, 28, .inl (M 1))), (b 3, .inl (cA, 384, .inl (M 2))), (b 4, .inl (cA, 6, .inl (M 3))), (b 5, .inl (cA, 2, .inl (M 4))), (b 6, .inl (cA, 2, .inl (M 5))), (b 7, .inl (cA, 2, .inl (M 6))), (b 8, .inl (cA, 4, .inl (M 7))), (b 9, .inl (cA, 24, .inl (M 8)))]
def AM (b : Nat → Nat) : Nat → Prop := fun q => ∃ i, i < 10 ∧ q = b i
theorem wM_at0 (cA : ClassId) (b : Nat → Nat) (S : SS) (M : MM) : (wM cA b S M)[0]? = some (b 0, .inr (7, [.ref (b 1), .ref (b 2), .ref (b 3), .int (S 0), .int (S 1), .int (S 2), .ref (b 4), .ref (b 5), .ref (b 6), .ref (b 7), .int (S 3), .int (S 4), .int (S 5), .int (S 6), .int (S 7), .int (S 8), .int (S 9), .int (S 10), .int (S 11), .int (S 12), .int (S 13), .int (S 14), .int (S 15), .int (S 16), .int (S 17), .ref (b 8), .int (S 18), .int (S 19), .ref (b 9), .int (S 20), .int (S 21)])) := rfl
theorem wM_at1 (cA : ClassId) (b : Nat → Nat) (S : SS) (M : MM) : (wM cA b S M)[1]? = some (b 1, .inl (cA, 256, .inl (M 0))) := rfl
theorem wM_at2 (cA : ClassId) (b : Nat → Nat) (S : SS) (M : MM) : (wM cA b S M)[2]? = some (b 2, .inl (cA, 28, .inl (M 1))) := rfl
theorem wM_at3 (cA : ClassId) (b : Nat → Nat) (S : SS) (M : MM) : (wM cA b S M)[3]? = some (b 3, .inl (cA, 384, .inl (M 2))) := rfl
theorem wM_at4 (cA : ClassId) (b : Nat → Nat) (S : SS) (M : MM) : (wM cA b S M)[4]? = some (b 4, .inl (cA, 6, .inl (M 3))) := rfl
theorem wM_at5 (cA : ClassId) (b : Nat → Nat) (S : SS) (M : MM) : (wM cA b S M)[5]? = some (b 5, .inl (cA, 2, .inl (M 4))) := rfl
theorem wM_at6 (cA : ClassId) (b : Nat → Nat) (S : SS) (M : MM) : (wM cA b S M)[6]? = some (b 6, .inl (cA, 2, .inl (M 5))) := rfl
theorem wM_at7 (cA : ClassId) (b : Nat → Nat) (S : SS) (M : MM) : (wM cA b S M)[7]? = some (b 7, .inl (cA, 2, .inl (M 6))) := rfl
theorem wM_at8 (cA : ClassId) (b : Nat → Nat) (S : SS) (M : MM) : (wM cA b S M)[8]? = some (b 8, .inl (cA, 4, .inl (M 7))) := rfl
theorem wM_at9 (cA : ClassId) (b : Nat → Nat) (S : SS) (M : MM) : (wM cA b S M)[9]? = some (b 9, .inl (cA, 24, .inl (M 8))) := rfl
theorem wM_set1 {D : va_G} {cl : List vw_C} {H : Heap} {cA : ClassId} {b : Nat → Nat} {S : SS} {M : MM} {f : Nat → Int32} (h : va_P D cl ((wM cA b S M).set 1 (b 1, .inl (cA, 256, .inl f))) H) : va_P D cl (wM cA b S (upM M 0 f)) H := h
theorem wM_dset1 {A : Nat → Prop} {cA : ClassId} {b : Nat → Nat} {S : SS} {M : MM} {f : Nat → Int32} (h : va_D A ((wM cA b S M).set 1 (b 1, .inl (cA, 256, .inl f)))) : va_D A (wM cA b S (upM M 0 f)) := h
theorem wM_set2 {D : va_G} {cl : List vw_C} {H : Heap} {cA : ClassId} {b : Nat → Nat} {S : SS} {M : MM} {f : Nat → Int32} (h : va_P D cl ((wM cA b S M).set 2 (b 2, .inl (cA, 28, .inl f))) H) : va_P D cl (wM cA b S (upM M 1 f)) H := h
theorem wM_dset2 {A : Nat → Prop} {cA : ClassId} {b : Nat → Nat} {S : SS} {M : MM} {f : Nat → Int32} (h : va_D A ((wM cA b S M).set 2 (b 2, .inl (cA, 28, .inl f)))) : va_D A (wM cA b S (upM M 1 f)) := h
theorem wM_set3 {D : va_G} {cl : List vw_C} {H : Heap} {cA : ClassId} {b : Nat → Nat} {S : SS} {M : MM} {f : Nat → Int32} (h : va_P D cl ((wM cA b S M).set 3 (b 3, .inl (cA, 384, .inl f))) H) : va_P D cl (wM cA b S (upM M 2 f)) H := h
theorem wM_dset3 {A : Nat → Prop} {cA : ClassId} {b : Nat → Nat} {S : SS} {M : MM} {f : Nat → Int32} (h : va_D A ((wM cA b S M).set 3 (b 3, .inl (cA, 384, .inl f)))) : va_D A (wM cA b S (upM M 2 f)) := h
theorem wM_set4 {D : va_G} {cl : List vw_C} {H : Heap} {cA : ClassId} {b : Nat → Nat} {S : SS} {M : MM} {f : Nat → Int32} (h : va_P D cl ((wM cA b S M).set 4 (b 4, .inl (cA, 6, .inl f))) H) : va_P D cl (wM cA b S (upM M 3 f)) H := h
theorem wM_dset4 {A : Nat → Prop} {cA : ClassId} {b : Nat → Nat} {S : SS} {M : MM} {f : Nat → Int32} (h : va_D A ((wM cA b S M).set 4 (b 4, .inl (cA, 6, .inl f)))) : va_D A (wM cA b S (upM M 3 f)) := h
theorem wM_set5 {D : va_G} {cl : List vw_C} {H : Heap} {cA : ClassId} {b : Nat → Nat} {S : SS} {M : MM} {f : Nat → Int32} (h : va_P D cl ((wM cA b S M).set 5 (b 5, .inl (cA, 2, .inl f))) H) : va_P D cl (wM cA b S (upM M 4 f)) H := h
theorem wM_dset5 {A : Nat → Prop} {cA : ClassId} {b : Nat → Nat} {S : SS} {M : MM} {f : Nat → Int32} (h : va_D A ((wM cA b S M).set 5 (b 5, .inl (cA, 2, .inl f)))) : va_D A (wM cA b S (upM M 4 f)) := h
theorem wM_set6 {D : va_G} {cl : List vw_C} {H : Heap} {cA : ClassId} {b : Nat → Nat} {S : SS} {M : MM} {f : Nat → Int32} (h : va_P D cl ((wM cA b S M).set 6 (b 6, .inl (cA, 2, .inl f))) H) : va_P D cl (wM cA b S (upM M 5 f)) H := h
theorem wM_dset6 {A : Nat → Prop} {cA : ClassId} {b : Nat → Nat} {S : SS} {M : MM} {f : Nat → Int32} (h : va_D A ((wM cA b S M).set 6 (b 6, .inl (cA, 2, .inl f)))) : va_D A (wM cA b S (upM M 5 f)) := h
theorem wM_set7 {D : va_G} {cl : List vw_C} {H : Heap} {cA : ClassId} {b : Nat → Nat} {S : SS} {M : MM} {f : Nat → Int32} (h : va_P D cl ((wM cA b S M).set 7 (b 7, .inl (cA, 2, .inl f))) H) : va_P D cl (wM cA b S (upM M 6 f)) H := h
theorem wM_dset7 {A : Nat → Prop} {cA : ClassId} {b : Nat → Nat} {S : SS} {M : MM} {f : Nat → Int32} (h : va_D A ((wM cA b S M).set 7 (b 7, .inl (cA, 2, .inl f)))) : va_D A (wM cA b S (upM M 6 f)) := h
theorem wM_set8 {D : va_G} {cl : List vw_C} {H : Heap} {cA : ClassId} {b : Nat → Nat} {S : SS} {M : MM} {f : Nat → Int32} (h : va_P D cl ((wM cA b S M).set 8 (b 8, .inl (cA, 4, .inl f))) H) : va_P D cl (wM cA b S (upM M 7 f)) H := h
theorem wM_dset8 {A : Nat → Prop} {cA : ClassId} {b : Nat → Nat} {S : SS} {M : MM} {f : Nat → Int32} (h : va_D A ((wM cA b S M).set 8 (b 8, .inl (cA, 4, .inl f)))) : va_D A (wM cA b S (upM M 7 f)) := h
theorem wM_set9 {D : va_G} {cl : List vw_C} {H : Heap} {cA : ClassId} {b : Nat → Nat} {S : SS} {M : MM} {f : Nat → Int32} (h : va_P D cl ((wM cA b S M).set 9 (b 9, .inl (cA, 24, .inl f))) H) : va_P D cl (wM cA b S (upM M 8 f)) H := h
theorem wM_dset9 {A : Nat → Prop} {cA : ClassId} {b : Nat → Nat} {S : SS} {M : MM} {f : Nat → Int32} (h : va_D A ((wM cA b S M).set 9 (b 9, .inl (cA, 24, .inl f)))) : va_D A (wM cA b S (upM M 8 f)) := h
def ZM (_ : Nat → Nat) : State → Heap → Prop := fun _ _ => True
theorem ZM_k (b : Nat → Nat) : ZK (AM b) (ZM b) := fun _ _ _ _ _ _ _ => trivial
section PUwM
variable {p : Program} {l : Launch} {e : Env} {R : Room} {s : State} {m : MethodId} {args : Array Value} {below : List Frame} {meth : Method} {c : Code} {H : Heap} {locs : List Loc} {Q : State → Prop} {cc : ByteArray} {pc index : Nat} {ls : Array Slot} {rest : List Value} {D : va_G} {A : Nat → Prop} {tys : List (ClassId × FieldType)} {H0 : Heap} {Ts : List Cond} {cA : ClassId} {b : Nat → Nat} {S : SS} {M : MM} {x : Int32}
theorem puwM_0 (hexec : p.tables.exec = Jvm.exec) (hb : c.code = cc) (hts : ∀ w ∈ Ts, w.before args s = true) (hin : ∀ w ∈ u_ws R_Md T_Md 31, w ∈ Ts) (hown : s.vm.findClass R_Md = some m.cls) (hK : va_K D vCl tys s) (hP : va_P D vCl (wM cA b S M) H) (hD : va_D A (wM cA b S M)) (hS : va_S A H0 H locs) (hlink : (Cond.fieldLink R_Md index R_Md "beam" "I").before args s = true) (hn : narrow .int (.int x) = .int x) (hf : fits .int (.int x) = true) (hdg : decode cc pc = .ok (.putfield index, 3))
    (kk : ∀ (H1 : Heap) (locs1 : List Loc), va_P D vCl (wM cA b (upd S 0 x) M) H1 → va_D A (wM cA b (upd S 0 x) M) → va_S A H0 H1 locs1 → W p l e R s m args below meth c H1 locs1 0 0 Q (F0 m (pc + 3) ls rest)) : W p l e R s m args below meth c H locs 0 0 Q (F0 m pc ls (.int x :: .ref (b 0) :: rest)) :=
  va_put (D := D) (ci := 7) (v := .int x) (ty := .int) (C := R_Md) (T := T_Md) (N := 31) hexec hb hts hin ty_Md tyok_Md nm_Md hown hK hP hD hS 0 (wM_at0 cA b S M) rfl 3 (by decide) hlink (fun _ h9 => h9) rfl (by decide +kernel) hn hf (Nat.le_of_ble_eq_true rfl) hdg kk
theorem puwM_1 (hexec : p.tables.exec = Jvm.exec) (hb : c.code = cc) (hts : ∀ w ∈ Ts, w.before args s = true) (hin : ∀ w ∈ u_ws R_Md T_Md 31, w ∈ Ts) (hown : s.vm.findClass R_Md = some m.cls) (hK : va_K D vCl tys s) (hP : va_P D vCl (wM cA b S M) H) (hD : va_D A (wM cA b S M)) (hS : va_S A H0 H locs) (hlink : (Cond.fieldLink R_Md index R_Md "frames" "I").before args s = true) (hn : narrow .int (.int x) = .int x) (hf : fits .int (.int x) = true) (hdg : decode cc pc = .ok (.putfield index, 3))
    (kk : ∀ (H1 : Heap) (locs1 : List Loc), va_P D vCl (wM cA b (upd S 1 x) M) H1 → va_D A (wM cA b (upd S 1 x) M) → va_S A H0 H1 locs1 → W p l e R s m args below meth c H1 locs1 0 0 Q (F0 m (pc + 3) ls rest)) : W p l e R s m args below meth c H locs 0 0 Q (F0 m pc ls (.int x :: .ref (b 0) :: rest)) :=
  va_put (D := D) (ci := 7) (v := .int x) (ty := .int) (C := R_Md) (T := T_Md) (N := 31) hexec hb hts hin ty_Md tyok_Md nm_Md hown hK hP hD hS 0 (wM_at0 cA b S M) rfl 4 (by decide) hlink (fun _ h9 => h9) rfl (by decide +kernel) hn hf (Nat.le_of_ble_eq_true rfl) hdg kk
theorem puwM_2 (hexec : p.tables.exec = Jvm.exec) (hb : c.code = cc) (hts : ∀ w ∈ Ts, w.before args s = true) (hin : ∀ w ∈ u_ws R_Md T_Md 31, w ∈ Ts) (hown : s.vm.findClass R_Md = some m.cls) (hK : va_K D vCl tys s) (hP : va_P D vCl (wM cA b S M) H) (hD : va_D A (wM cA b S M)) (hS : va_S A H0 H locs) (hlink : (Cond.fieldLink R_Md index R_Md "requests" "I").before args s = true) (hn : narrow .int (.int x) = .int x) (hf : fits .int (.int x) = true) (hdg : decode cc pc = .ok (.putfield index, 3))
    (kk : ∀ (H1 : Heap) (locs1 : List Loc), va_P D vCl (wM cA b (upd S 2 x) M) H1 → va_D A (wM cA b (upd S 2 x) M) → va_S A H0 H1 locs1 → W p l e R s m args below meth c H1 locs1 0 0 Q (F0 m (pc + 3) ls rest)) : W p l e R s m args below meth c H locs 0 0 Q (F0 m pc ls (.int x :: .ref (b 0) :: rest)) :=
  va_put (D := D) (ci := 7) (v := .int x) (ty := .int) (C := R_Md) (T := T_Md) (N := 31) hexec hb hts hin ty_Md tyok_Md nm_Md hown hK hP hD hS 0 (wM_at0 cA b S M) rfl 5 (by decide) hlink (fun _ h9 => h9) rfl (by decide +kernel) hn hf (Nat.le_of_ble_eq_true rfl) hdg kk
theorem puwM_3 (hexec : p.tables.exec = Jvm.exec) (hb : c.code = cc) (hts : ∀ w ∈ Ts, w.before args s = true) (hin : ∀ w ∈ u_ws R_Md T_Md 31, w ∈ Ts) (hown : s.vm.findClass R_Md = some m.cls) (hK : va_K D vCl tys s) (hP : va_P D vCl (wM cA b S M) H) (hD : va_D A (wM cA b S M)) (hS : va_S A H0 H locs) (hlink : (Cond.fieldLink R_Md index R_Md "list" "I").before args s = true) (hn : narrow .int (.int x) = .int x) (hf : fits .int (.int x) = true) (hdg : decode cc pc = .ok (.putfield index, 3))
    (kk : ∀ (H1 : Heap) (locs1 : List Loc), va_P D vCl (wM cA b (upd S 3 x) M) H1 → va_D A (wM cA b (upd S 3 x) M) → va_S A H0 H1 locs1 → W p l e R s m args below meth c H1 locs1 0 0 Q (F0 m (pc + 3) ls rest)) : W p l e R s m args below meth c H locs 0 0 Q (F0 m pc ls (.int x :: .ref (b 0) :: rest)) :=
  va_put (D := D) (ci := 7) (v := .int x) (ty := .int) (C := R_Md) (T := T_Md) (N := 31) hexec hb hts hin ty_Md tyok_Md nm_Md hown hK hP hD hS 0 (wM_at0 cA b S M) rfl 10 (by decide) hlink (fun _ h9 => h9) rfl (by decide +kernel) hn hf (Nat.le_of_ble_eq_true rfl) hdg kk
theorem puwM_4 (hexec : p.tables.exec = Jvm.exec) (hb : c.code = cc) (hts : ∀ w ∈ Ts, w.before args s = true) (hin : ∀ w ∈ u_ws R_Md T_Md 31, w ∈ Ts) (hown : s.vm.findClass R_Md = some m.cls) (hK : va_K D vCl tys s) (hP : va_P D vCl (wM cA b S M) H) (hD : va_D A (wM cA b S M)) (hS : va_S A H0 H locs) (hlink : (Cond.fieldLink R_Md index R_Md "listPlace" "I").before args s = true) (hn : narrow .int (.int x) = .int x) (hf : fits .int (.int x) = true) (hdg : decode cc pc = .ok (.putfield index, 3))
    (kk : ∀ (H1 : Heap) (locs1 : List Loc), va_P D vCl (wM cA b (upd S 4 x) M) H1 → va_D A (wM cA b (upd S 4 x) M) → va_S A H0 H1 locs1 → W p l e R s m args below meth c H1 locs1 0 0 Q (F0 m (pc + 3) ls rest)) : W p l e R s m args below meth c H locs 0 0 Q (F0 m pc ls (.int x :: .ref (b 0) :: rest)) :=
  va_put (D := D) (ci := 7) (v := .int x) (ty := .int) (C := R_Md) (T := T_Md) (N := 31) hexec hb hts hin ty_Md tyok_Md nm_Md hown hK hP hD hS 0 (wM_at0 cA b S M) rfl 11 (by decide) hlink (fun _ h9 => h9) rfl (by decide +kernel) hn hf (Nat.le_of_ble_eq_true rfl) hdg kk
theorem puwM_5 (hexec : p.tables.exec = Jvm.exec) (hb : c.code = cc) (hts : ∀ w ∈ Ts, w.before args s = true) (hin : ∀ w ∈ u_ws R_Md T_Md 31, w ∈ Ts) (hown : s.vm.findClass R_Md = some m.cls) (hK : va_K D vCl tys s) (hP : va_P D vCl (wM cA b S M) H) (hD : va_D A (wM cA b S M)) (hS : va_S A H0 H locs) (hlink : (Cond.fieldLink R_Md index R_Md "firstWord" "I").before args s = true) (hn : narrow .int (.int x) = .int x) (hf : fits .int (.int x) = true) (hdg : decode cc pc = .ok (.putfield index, 3))
    (kk : ∀ (H1 : Heap) (locs1 : List Loc), va_P D vCl (wM cA b (upd S 5 x) M) H1 → va_D A (wM cA b (upd S 5 x) M) → va_S A H0 H1 locs1 → W p l e R s m args below meth c H1 locs1 0 0 Q (F0 m (pc + 3) ls rest)) : W p l e R s m args below meth c H locs 0 0 Q (F0 m pc ls (.int x :: .ref (b 0) :: rest)) :=
  va_put (D := D) (ci := 7) (v := .int x) (ty := .int) (C := R_Md) (T := T_Md) (N := 31) hexec hb hts hin ty_Md tyok_Md nm_Md hown hK hP hD hS 0 (wM_at0 cA b S M) rfl 12 (by decide) hlink (fun _ h9 => h9) rfl (by decide +kernel) hn hf (Nat.le_of_ble_eq_true rfl) hdg kk
theorem puwM_6 (hexec : p.tables.exec = Jvm.exec) (hb : c.code = cc) (hts : ∀ w ∈ Ts, w.before args s = true) (hin : ∀ w ∈ u_ws R_Md T_Md 31, w ∈ Ts) (hown : s.vm.findClass R_Md = some m.cls) (hK : va_K D vCl tys s) (hP : va_P D vCl (wM cA b S M) H) (hD : va_D A (wM cA b S M)) (hS : va_S A H0 H locs) (hlink : (Cond.fieldLink R_Md index R_Md "second" "Z").before args s = true) (hn : narrow .boolean (.int x) = .int x) (hf : fits .boolean (.int x) = true) (hdg : decode cc pc = .ok (.putfield index, 3))
    (kk : ∀ (H1 : Heap) (locs1 : List Loc), va_P D vCl (wM cA b (upd S 6 x) M) H1 → va_D A (wM cA b (upd S 6 x) M) → va_S A H0 H1 locs1 → W p l e R s m args below meth c H1 locs1 0 0 Q (F0 m (pc + 3) ls rest)) : W p l e R s m args below meth c H locs 0 0 Q (F0 m pc ls (.int x :: .ref (b 0) :: rest)) :=
  va_put (D := D) (ci := 7) (v := .int x) (ty := .boolean) (C := R_Md) (T := T_Md) (N := 31) hexec hb hts hin ty_Md tyok_Md nm_Md hown hK hP hD hS 0 (wM_at0 cA b S M) rfl 13 (by decide) hlink (fun _ h9 => h9) rfl (by decide +kernel) hn hf (Nat.le_of_ble_eq_true rfl) hdg kk
theorem puwM_7 (hexec : p.tables.exec = Jvm.exec) (hb : c.code = cc) (hts : ∀ w ∈ Ts, w.before args s = true) (hin : ∀ w ∈ u_ws R_Md T_Md 31, w ∈ Ts) (hown : s.vm.findClass R_Md = some m.cls) (hK : va_K D vCl tys s) (hP : va_P D vCl (wM cA b S M) H) (hD : va_D A (wM cA b S M)) (hS : va_S A H0 H locs) (hlink : (Cond.fieldLink R_Md index R_Md "skips" "Z").before args s = true) (hn : narrow .boolean (.int x) = .int x) (hf : fits .boolean (.int x) = true) (hdg : decode cc pc = .ok (.putfield index, 3))
    (kk : ∀ (H1 : Heap) (locs1 : List Loc), va_P D vCl (wM cA b (upd S 7 x) M) H1 → va_D A (wM cA b (upd S 7 x) M) → va_S A H0 H1 locs1 → W p l e R s m args below meth c H1 locs1 0 0 Q (F0 m (pc + 3) ls rest)) : W p l e R s m args below meth c H locs 0 0 Q (F0 m pc ls (.int x :: .ref (b 0) :: rest)) :=
  va_put (D := D) (ci := 7) (v := .int x) (ty := .boolean) (C := R_Md) (T := T_Md) (N := 31) hexec hb hts hin ty_Md tyok_Md nm_Md hown hK hP hD hS 0 (wM_at0 cA b S M) rfl 14 (by decide) hlink (fun _ h9 => h9) rfl (by decide +kernel) hn hf (Nat.le_of_ble_eq_true rfl) hdg kk
theorem puwM_8 (hexec : p.tables.exec = Jvm.exec) (hb : c.code = cc) (hts : ∀ w ∈ Ts, w.before args s = true) (hin : ∀ w ∈ u_ws R_Md T_Md 31, w ∈ Ts) (hown : s.vm.findClass R_Md = some m.cls) (hK : va_K D vCl tys s) (hP : va_P D vCl (wM cA b S M) H) (hD : va_D A (wM cA b S M)) (hS : va_S A H0 H locs) (hlink : (Cond.fieldLink R_Md index R_Md "target" "I").before args s = true) (hn : narrow .int (.int x) = .int x) (hf : fits .int (.int x) = true) (hdg : decode cc pc = .ok (.putfield index, 3))
    (kk : ∀ (H1 : Heap) (locs1 : List Loc), va_P D vCl (wM cA b (upd S 8 x) M) H1 → va_D A (wM cA b (upd S 8 x) M) → va_S A H0 H1 locs1 → W p l e R s m args below meth c H1 locs1 0 0 Q (F0 m (pc + 3) ls rest)) : W p l e R s m args below meth c H locs 0 0 Q (F0 m pc ls (.int x :: .ref (b 0) :: rest)) :=
  va_put (D := D) (ci := 7) (v := .int x) (ty := .int) (C := R_Md) (T := T_Md) (N := 31) hexec hb hts hin ty_Md tyok_Md nm_Md hown hK hP hD hS 0 (wM_at0 cA b S M) rfl 15 (by decide) hlink (fun _ h9 => h9) rfl (by decide +kernel) hn hf (Nat.le_of_ble_eq_true rfl) hdg kk
theorem puwM_9 (hexec : p.tables.exec = Jvm.exec) (hb : c.code = cc) (hts : ∀ w ∈ Ts, w.before args s = true) (hin : ∀ w ∈ u_ws R_Md T_Md 31, w ∈ Ts) (hown : s.vm.findClass R_Md = some m.cls) (hK : va_K D vCl tys s) (hP : va_P D vCl (wM cA b S M) H) (hD : va_D A (wM cA b S M)) (hS : va_S A H0 H locs) (hlink : (Cond.fieldLink R_Md index R_Md "busy" "Z").before args s = true) (hn : narrow .boolean (.int x) = .int x) (hf : fits .boolean (.int x) = true) (hdg : decode cc pc = .ok (.putfield index, 3))
    (kk : ∀ (H1 : Heap) (locs1 : List Loc), va_P D vCl (wM cA b (upd S 9 x) M) H1 → va_D A (wM cA b (upd S 9 x) M) → va_S A H0 H1 locs1 → W p l e R s m args below meth c H1 locs1 0 0 Q (F0 m (pc + 3) ls rest)) : W p l e R s m args below meth c H locs 0 0 Q (F0 m pc ls (.int x :: .ref (b 0) :: rest)) :=
  va_put (D := D) (ci := 7) (v := .int x) (ty := .boolean) (C := R_Md) (T := T_Md) (N := 31) hexec hb hts hin ty_Md tyok_Md nm_Md hown hK hP hD hS 0 (wM_at0 cA b S M) rfl 16 (by decide) hlink (fun _ h9 => h9) rfl (by decide +kernel) hn hf (Nat.le_of_ble_eq_true rfl) hdg kk
theorem puwM_10 (hexec : p.tables.exec = Jvm.exec) (hb : c.code = cc) (hts : ∀ w ∈ Ts, w.before args s = true) (hin : ∀ w ∈ u_ws R_Md T_Md 31, w ∈ Ts) (hown : s.vm.findClass R_Md = some m.cls) (hK : va_K D vCl tys s) (hP : va_P D vCl (wM cA b S M) H) (hD : va_D A (wM cA b S M)) (hS : va_S A H0 H locs) (hlink : (Cond.fieldLink R_Md index R_Md "zero" "Z").before args s = true) (hn : narrow .boolean (.int x) = .int x) (hf : fits .boolean (.int x) = true) (hdg : decode cc pc = .ok (.putfield index, 3))
    (kk : ∀ (H1 : Heap) (locs1 : List Loc), va_P D vCl (wM cA b (upd S 10 x) M) H1 → va_D A (wM cA b (upd S 10 x) M) → va_S A H0 H1 locs1 → W p l e R s m args below meth c H1 locs1 0 0 Q (F0 m (pc + 3) ls rest)) : W p l e R s m args below meth c H locs 0 0 Q (F0 m pc ls (.int x :: .ref (b 0) :: rest)) :=
  va_put (D := D) (ci := 7) (v := .int x) (ty := .boolean) (C := R_Md) (T := T_Md) (N := 31) hexec hb hts hin ty_Md tyok_Md nm_Md hown hK hP hD hS 0 (wM_at0 cA b S M) rfl 17 (by decide) hlink (fun _ h9 => h9) rfl (by decide +kernel) hn hf (Nat.le_of_ble_eq_true rfl) hdg kk
theorem puwM_11 (hexec : p.tables.exec = Jvm.exec) (hb : c.code = cc) (hts : ∀ w ∈ Ts, w.before args s = true) (hin : ∀ w ∈ u_ws R_Md T_Md 31, w ∈ Ts) (hown : s.vm.findClass R_Md = some m.cls) (hK : va_K D vCl tys s) (hP : va_P D vCl (wM cA b S M) H) (hD : va_D A (wM cA b S M)) (hS : va_S A H0 H locs) (hlink : (Cond.fieldLink R_Md index R_Md "width" "I").before args s = true) (hn : narrow .int (.int x) = .int x) (hf : fits .int (.int x) = true) (hdg : decode cc pc = .ok (.putfield index, 3))
    (kk : ∀ (H1 : Heap) (locs1 : List Loc), va_P D vCl (wM cA b (upd S 11 x) M) H1 → va_D A (wM cA b (upd S 11 x) M) → va_S A H0 H1 locs1 → W p l e R s m args below meth c H1 locs1 0 0 Q (F0 m (pc + 3) ls rest)) : W p l e R s m args below meth c H locs 0 0 Q (F0 m pc ls (.int x :: .ref (b 0) :: rest)) :=
  va_put (D := D) (ci := 7) (v := .int x) (ty := .int) (C := R_Md) (T := T_Md) (N := 31) hexec hb hts hin ty_Md tyok_Md nm_Md hown hK hP hD hS 0 (wM_at0 cA b S M) rfl 18 (by decide) hlink (fun _ h9 => h9) rfl (by decide +kernel) hn hf (Nat.le_of_ble_eq_true rfl) hdg kk
theorem puwM_12 (hexec : p.tables.exec = Jvm.exec) (hb : c.code = cc) (hts : ∀ w ∈ Ts, w.before args s = true) (hin : ∀ w ∈ u_ws R_Md T_Md 31, w ∈ Ts) (hown : s.vm.findClass R_Md = some m.cls) (hK : va_K D vCl tys s) (hP : va_P D vCl (wM cA b S M) H) (hD : va_D A (wM cA b S M)) (hS : va_S A H0 H locs) (hlink : (Cond.fieldLink R_Md index R_Md "height" "I").before args s = true) (hn : narrow .int (.int x) = .int x) (hf : fits .int (.int x) = true) (hdg : decode cc pc = .ok (.putfield index, 3))
    (kk : ∀ (H1 : Heap) (locs1 : List Loc), va_P D vCl (wM cA b (upd S 12 x) M) H1 → va_D A (wM cA b (upd S 12 x) M) → va_S A H0 H1 locs1 → W p l e R s m args below meth c H1 locs1 0 0 Q (F0 m (pc + 3) ls rest)) : W p l e R s m args below meth c H locs 0 0 Q (F0 m pc ls (.int x :: .ref (b 0) :: rest)) :=
  va_put (D := D) (ci := 7) (v := .int x) (ty := .int) (C := R_Md) (T := T_Md) (N := 31) hexec hb hts hin ty_Md tyok_Md nm_Md hown hK hP hD hS 0 (wM_at0 cA b S M) rfl 19 (by decide) hlink (fun _ h9 => h9) rfl (by decide +kernel) hn hf (Nat.le_of_ble_eq_true rfl) hdg kk
theorem puwM_13 (hexec : p.tables.exec = Jvm.exec) (hb : c.code = cc) (hts : ∀ w ∈ Ts, w.before args s = true) (hin : ∀ w ∈ u_ws R_Md T_Md 31, w ∈ Ts) (hown : s.vm.findClass R_Md = some m.cls) (hK : va_K D vCl tys s) (hP : va_P D vCl (wM cA b S M) H) (hD : va_D A (wM cA b S M)) (hS : va_S A H0 H locs) (hlink : (Cond.fieldLink R_Md index R_Md "column" "I").before args s = true) (hn : narrow .int (.int x) = .int x) (hf : fits .int (.int x) = true) (hdg : decode cc pc = .ok (.putfield index, 3))
    (kk : ∀ (H1 : Heap) (locs1 : List Loc), va_P D vCl (wM cA b (upd S 13 x) M) H1 → va_D A (wM cA b (upd S 13 x) M) → va_S A H0 H1 locs1 → W p l e R s m args below meth c H1 locs1 0 0 Q (F0 m (pc + 3) ls rest)) : W p l e R s m args below meth c H locs 0 0 Q (F0 m pc ls (.int x :: .ref (b 0) :: rest)) :=
  va_put (D := D) (ci := 7) (v := .int x) (ty := .int) (C := R_Md) (T := T_Md) (N := 31) hexec hb hts hin ty_Md tyok_Md nm_Md hown hK hP hD hS 0 (wM_at0 cA b S M) rfl 20 (by decide) hlink (fun _ h9 => h9) rfl (by decide +kernel) hn hf (Nat.le_of_ble_eq_true rfl) hdg kk
theorem puwM_14 (hexec : p.tables.exec = Jvm.exec) (hb : c.code = cc) (hts : ∀ w ∈ Ts, w.before args s = true) (hin : ∀ w ∈ u_ws R_Md T_Md 31, w ∈ Ts) (hown : s.vm.findClass R_Md = some m.cls) (hK : va_K D vCl tys s) (hP : va_P D vCl (wM cA b S M) H) (hD : va_D A (wM cA b S M)) (hS : va_S A H0 H locs) (hlink : (Cond.fieldLink R_Md index R_Md "row" "I").before args s = true) (hn : narrow .int (.int x) = .int x) (hf : fits .int (.int x) = true) (hdg : decode cc pc = .ok (.putfield index, 3))
    (kk : ∀ (H1 : Heap) (locs1 : List Loc), va_P D vCl (wM cA b (upd S 14 x) M) H1 → va_D A (wM cA b (upd S 14 x) M) → va_S A H0 H1 locs1 → W p l e R s m args below meth c H1 locs1 0 0 Q (F0 m (pc + 3) ls rest)) : W p l e R s m args below meth c H locs 0 0 Q (F0 m pc ls (.int x :: .ref (b 0) :: rest)) :=
  va_put (D := D) (ci := 7) (v := .int x) (ty := .int) (C := R_Md) (T := T_Md) (N := 31) hexec hb hts hin ty_Md tyok_Md nm_Md hown hK hP hD hS 0 (wM_at0 cA b S M) rfl 21 (by decide) hlink (fun _ h9 => h9) rfl (by decide +kernel) hn hf (Nat.le_of_ble_eq_true rfl) hdg kk
theorem puwM_15 (hexec : p.tables.exec = Jvm.exec) (hb : c.code = cc) (hts : ∀ w ∈ Ts, w.before args s = true) (hin : ∀ w ∈ u_ws R_Md T_Md 31, w ∈ Ts) (hown : s.vm.findClass R_Md = some m.cls) (hK : va_K D vCl tys s) (hP : va_P D vCl (wM cA b S M) H) (hD : va_D A (wM cA b S M)) (hS : va_S A H0 H locs) (hlink : (Cond.fieldLink R_Md index R_Md "channel" "I").before args s = true) (hn : narrow .int (.int x) = .int x) (hf : fits .int (.int x) = true) (hdg : decode cc pc = .ok (.putfield index, 3))
    (kk : ∀ (H1 : Heap) (locs1 : List Loc), va_P D vCl (wM cA b (upd S 15 x) M) H1 → va_D A (wM cA b (upd S 15 x) M) → va_S A H0 H1 locs1 → W p l e R s m args below meth c H1 locs1 0 0 Q (F0 m (pc + 3) ls rest)) : W p l e R s m args below meth c H locs 0 0 Q (F0 m pc ls (.int x :: .ref (b 0) :: rest)) :=
  va_put (D := D) (ci := 7) (v := .int x) (ty := .int) (C := R_Md) (T := T_Md) (N := 31) hexec hb hts hin ty_Md tyok_Md nm_Md hown hK hP hD hS 0 (wM_at0 cA b S M) rfl 22 (by decide) hlink (fun _ h9 => h9) rfl (by decide +kernel) hn hf (Nat.le_of_ble_eq_true rfl) hdg kk
theorem puwM_16 (hexec : p.tables.exec = Jvm.exec) (hb : c.code = cc) (hts : ∀ w ∈ Ts, w.before args s = true) (hin : ∀ w ∈ u_ws R_Md T_Md 31, w ∈ Ts) (hown : s.vm.findClass R_Md = some m.cls) (hK : va_K D vCl tys s) (hP : va_P D vCl (wM cA b S M) H) (hD : va_D A (wM cA b S M)) (hS : va_S A H0 H locs) (hlink : (Cond.fieldLink R_Md index R_Md "beforeA" "I").before args s = true) (hn : narrow .int (.int x) = .int x) (hf : fits .int (.int x) = true) (hdg : decode cc pc = .ok (.putfield index, 3))
    (kk : ∀ (H1 : Heap) (locs1 : List Loc), va_P D vCl (wM cA b (upd S 16 x) M) H1 → va_D A (wM cA b (upd S 16 x) M) → va_S A H0 H1 locs1 → W p l e R s m args below meth c H1 locs1 0 0 Q (F0 m (pc + 3) ls rest)) : W p l e R s m args below meth c H locs 0 0 Q (F0 m pc ls (.int x :: .ref (b 0) :: rest)) :=
  va_put (D := D) (ci := 7) (v := .int x) (ty := .int) (C := R_Md) (T := T_Md) (N := 31) hexec hb hts hin ty_Md tyok_Md nm_Md hown hK hP hD hS 0 (wM_at0 cA b S M) rfl 23 (by decide) hlink (fun _ h9 => h9) rfl (by decide +kernel) hn hf (Nat.le_of_ble_eq_true rfl) hdg kk
theorem puwM_17 (hexec : p.tables.exec = Jvm.exec) (hb : c.code = cc) (hts : ∀ w ∈ Ts, w.before args s = true) (hin : ∀ w ∈ u_ws R_Md T_Md 31, w ∈ Ts) (hown : s.vm.findClass R_Md = some m.cls) (hK : va_K D vCl tys s) (hP : va_P D vCl (wM cA b S M) H) (hD : va_D A (wM cA b S M)) (hS : va_S A H0 H locs) (hlink : (Cond.fieldLink R_Md index R_Md "beforeB" "I").before args s = true) (hn : narrow .int (.int x) = .int x) (hf : fits .int (.int x) = true) (hdg : decode cc pc = .ok (.putfield index, 3))
    (kk : ∀ (H1 : Heap) (locs1 : List Loc), va_P D vCl (wM cA b (upd S 17 x) M) H1 → va_D A (wM cA b (upd S 17 x) M) → va_S A H0 H1 locs1 → W p l e R s m args below meth c H1 locs1 0 0 Q (F0 m (pc + 3) ls rest)) : W p l e R s m args below meth c H locs 0 0 Q (F0 m pc ls (.int x :: .ref (b 0) :: rest)) :=
  va_put (D := D) (ci := 7) (v := .int x) (ty := .int) (C := R_Md) (T := T_Md) (N := 31) hexec hb hts hin ty_Md tyok_Md nm_Md hown hK hP hD hS 0 (wM_at0 cA b S M) rfl 24 (by decide) hlink (fun _ h9 => h9) rfl (by decide +kernel) hn hf (Nat.le_of_ble_eq_true rfl) hdg kk
theorem puwM_18 (hexec : p.tables.exec = Jvm.exec) (hb : c.code = cc) (hts : ∀ w ∈ Ts, w.before args s = true) (hin : ∀ w ∈ u_ws R_Md T_Md 31, w ∈ Ts) (hown : s.vm.findClass R_Md = some m.cls) (hK : va_K D vCl tys s) (hP : va_P D vCl (wM cA b S M) H) (hD : va_D A (wM cA b S M)) (hS : va_S A H0 H locs) (hlink : (Cond.fieldLink R_Md index R_Md "lost" "I").before args s = true) (hn : narrow .int (.int x) = .int x) (hf : fits .int (.int x) = true) (hdg : decode cc pc = .ok (.putfield index, 3))
    (kk : ∀ (H1 : Heap) (locs1 : List Loc), va_P D vCl (wM cA b (upd S 18 x) M) H1 → va_D A (wM cA b (upd S 18 x) M) → va_S A H0 H1 locs1 → W p l e R s m args below meth c H1 locs1 0 0 Q (F0 m (pc + 3) ls rest)) : W p l e R s m args below meth c H locs 0 0 Q (F0 m pc ls (.int x :: .ref (b 0) :: rest)) :=
  va_put (D := D) (ci := 7) (v := .int x) (ty := .int) (C := R_Md) (T := T_Md) (N := 31) hexec hb hts hin ty_Md tyok_Md nm_Md hown hK hP hD hS 0 (wM_at0 cA b S M) rfl 26 (by decide) hlink (fun _ h9 => h9) rfl (by decide +kernel) hn hf (Nat.le_of_ble_eq_true rfl) hdg kk
theorem puwM_19 (hexec : p.tables.exec = Jvm.exec) (hb : c.code = cc) (hts : ∀ w ∈ Ts, w.before args s = true) (hin : ∀ w ∈ u_ws R_Md T_Md 31, w ∈ Ts) (hown : s.vm.findClass R_Md = some m.cls) (hK : va_K D vCl tys s) (hP : va_P D vCl (wM cA b S M) H) (hD : va_D A (wM cA b S M)) (hS : va_S A H0 H locs) (hlink : (Cond.fieldLink R_Md index R_Md "queued" "I").before args s = true) (hn : narrow .int (.int x) = .int x) (hf : fits .int (.int x) = true) (hdg : decode cc pc = .ok (.putfield index, 3))
    (kk : ∀ (H1 : Heap) (locs1 : List Loc), va_P D vCl (wM cA b (upd S 19 x) M) H1 → va_D A (wM cA b (upd S 19 x) M) → va_S A H0 H1 locs1 → W p l e R s m args below meth c H1 locs1 0 0 Q (F0 m (pc + 3) ls rest)) : W p l e R s m args below meth c H locs 0 0 Q (F0 m pc ls (.int x :: .ref (b 0) :: rest)) :=
  va_put (D := D) (ci := 7) (v := .int x) (ty := .int) (C := R_Md) (T := T_Md) (N := 31) hexec hb hts hin ty_Md tyok_Md nm_Md hown hK hP hD hS 0 (wM_at0 cA b S M) rfl 27 (by decide) hlink (fun _ h9 => h9) rfl (by decide +kernel) hn hf (Nat.le_of_ble_eq_true rfl) hdg kk
theorem puwM_20 (hexec : p.tables.exec = Jvm.exec) (hb : c.code = cc) (hts : ∀ w ∈ Ts, w.before args s = true) (hin : ∀ w ∈ u_ws R_Md T_Md 31, w ∈ Ts) (hown : s.vm.findClass R_Md = some m.cls) (hK : va_K D vCl tys s) (hP : va_P D vCl (wM cA b S M) H) (hD : va_D A (wM cA b S M)) (hS : va_S A H0 H locs) (hlink : (Cond.fieldLink R_Md index R_Md "loaded" "I").before args s = true) (hn : narrow .int (.int x) = .int x) (hf : fits .int (.int x) = true) (hdg : decode cc pc = .ok (.putfield index, 3))
    (kk : ∀ (H1 : Heap) (locs1 : List Loc), va_P D vCl (wM cA b (upd S 20 x) M) H1 → va_D A (wM cA b (upd S 20 x) M) → va_S A H0 H1 locs1 → W p l e R s m args below meth c H1 locs1 0 0 Q (F0 m (pc + 3) ls rest)) : W p l e R s m args below meth c H locs 0 0 Q (F0 m pc ls (.int x :: .ref (b 0) :: rest)) :=
  va_put (D := D) (ci := 7) (v := .int x) (ty := .int) (C := R_Md) (T := T_Md) (N := 31) hexec hb hts hin ty_Md tyok_Md nm_Md hown hK hP hD hS 0 (wM_at0 cA b S M) rfl 29 (by decide) hlink (fun _ h9 => h9) rfl (by decide +kernel) hn hf (Nat.le_of_ble_eq_true rfl) hdg kk
theorem puwM_21 (hexec : p.tables.exec = Jvm.exec) (hb : c.code = cc) (hts : ∀ w ∈ Ts, w.before args s = true) (hin : ∀ w ∈ u_ws R_Md T_Md 31, w ∈ Ts) (hown : s.vm.findClass R_Md = some m.cls) (hK : va_K D vCl tys s) (hP : va_P D vCl (wM cA b S M) H) (hD : va_D A (wM cA b S M)) (hS : va_S A H0 H locs) (hlink : (Cond.fieldLink R_Md index R_Md "loads" "I").before args s = true) (hn : narrow .int (.int x) = .int x) (hf : fits .int (.int x) = true) (hdg : decode cc pc = .ok (.putfield index, 3))
    (kk : ∀ (H1 : Heap) (locs1 : List Loc), va_P D vCl (wM cA b (upd S 21 x) M) H1 → va_D A (wM cA b (upd S 21 x) M) → va_S A H0 H1 locs1 → W p l e R s m args below meth c H1 locs1 0 0 Q (F0 m (pc + 3) ls rest)) : W p l e R s m args below meth c H locs 0 0 Q (F0 m pc ls (.int x :: .ref (b 0) :: rest)) :=
  va_put (D := D) (ci := 7) (v := .int x) (ty := .int) (C := R_Md) (T := T_Md) (N := 31) hexec hb hts hin ty_Md tyok_Md nm_Md hown hK hP hD hS 0 (wM_at0 cA b S M) rfl 30 (by decide) hlink (fun _ h9 => h9) rfl (by decide +kernel) hn hf (Nat.le_of_ble_eq_true rfl) hdg kk
end PUwM
end
section
def w_Me_put : List Cond := Cond.code y_Me_put prog_3_method_3_code 3 none :: TB
def rm_Me_put : Room := { frames := 0, cells := 0, slots := 0, locals := 0 }
theorem d_Me_put_0 : decode prog_3_method_3_code 0 = .ok (.aload_n 0, 1) := by decide +kernel
theorem d_Me_put_1 : decode prog_3_method_3_code 1 = .ok (.getfield 11, 3) := by decide +kernel
theorem d_Me_put_4 : decode prog_3_method_3_code 4 = .ok (.iload_n 1, 1) := by decide +kernel
theorem d_Me_put_5 : decode prog_3_method_3_code 5 = .ok (.sipush 255, 3) := by decide +kernel
theorem d_Me_put_8 : decode prog_3_method_3_code 8 = .ok (.iand, 1) := by decide +kernel
theorem d_Me_put_9 : decode prog_3_method_3_code 9 = .ok (.iload_n 2, 1) := by decide +kernel
theorem d_Me_put_10 : decode prog_3_method_3_code 10 = .ok (.ldc 15, 2) := by decide +kernel
theorem d_Me_put_12 : decode prog_3_method_3_code 12 = .ok (.iand, 1) := by decide +kernel
theorem d_Me_put_13 : decode prog_3_method_3_code 13 = .ok (.iastore, 1) := by decide +kernel
theorem d_Me_put_14 : decode prog_3_method_3_code 14 = .ok (.return_, 1) := by decide +kernel
theorem yd_Me_put : y_Me_put.cls ≠ "java/lang/invoke/MethodHandle" ∧ y_Me_put.cls ≠ "java/lang/invoke/VarHandle" ∧ (parseMethodDescriptor y_Me_put.desc).map (fun d => d.parameters.length) = some 2 := by decide +kernel
def w_Re_request : List Cond := Cond.code y_Re_request prog_7_method_6_code 2 none :: TB
def rm_Re_request : Room := { frames := 0, cells := 0, slots := 0, locals := 0 }
theorem d_Re_request_0 : decode prog_7_method_6_code 0 = .ok (.aload_n 0, 1) := by decide +kernel
theorem d_Re_request_1 : decode prog_7_method_6_code 1 = .ok (.dup, 1) := by decide +kernel
theorem d_Re_request_2 : decode prog_7_method_6_code 2 = .ok (.getfield 16, 3) := by decide +kernel
theorem d_Re_request_5 : decode prog_7_method_6_code 5 = .ok (.iload_n 1, 1) := by decide +kernel
theorem d_Re_request_6 : decode prog_7_method_6_code 6 = .ok (.ior, 1) := by decide +kernel
theorem d_Re_request_7 : decode prog_7_method_6_code 7 = .ok (.putfield 16, 3) := by decide +kernel
theorem d_Re_request_10 : decode prog_7_method_6_code 10 = .ok (.return_, 1) := by decide +kernel
theorem yd_Re_request : y_Re_request.cls ≠ "java/lang/invoke/MethodHandle" ∧ y_Re_request.cls ≠ "java/lang/invoke/VarHandle" ∧ (parseMethodDescriptor y_Re_request.desc).map (fun d => d.parameters.length) = some 1 := by decide +kernel
def w_Re_at : List Cond := Cond.code y_Re_at prog_7_method_2_code 2 (some .int) :: TB
def rm_Re_at : Room := { frames := 0, cells := 0, slots := 0, locals := 0 }
theorem d_Re_at_0 : decode prog_7_method_2_code 0 = .ok (.iload_n 1, 1) := by decide +kernel
theorem d_Re_at_1 : decode prog_7_method_2_code 1 = .ok (.ifCond .lt 9, 3) := by decide +kernel
theorem d_Re_at_4 : decode prog_7_method_2_code 4 = .ok (.iload_n 1, 1) := by decide +kernel
theorem d_Re_at_5 : decode prog_7_method_2_code 5 = .ok (.bipush 28, 2) := by decide +kernel
theorem d_Re_at_7 : decode prog_7_method_2_code 7 = .ok (.if_icmp .lt 7, 3) := by decide +kernel
theorem d_Re_at_10 : decode prog_7_method_2_code 10 = .ok (.iconst 0, 1) := by decide +kernel
theorem d_Re_at_11 : decode prog_7_method_2_code 11 = .ok (.goto 9, 3) := by decide +kernel
theorem d_Re_at_14 : decode prog_7_method_2_code 14 = .ok (.aload_n 0, 1) := by decide +kernel
theorem d_Re_at_15 : decode prog_7_method_2_code 15 = .ok (.getfield 9, 3) := by decide +kernel
theorem d_Re_at_18 : decode prog_7_method_2_code 18 = .ok (.iload_n 1, 1) := by decide +kernel
theorem d_Re_at_19 : decode prog_7_method_2_code 19 = .ok (.iaload, 1) := by decide +kernel
theorem d_Re_at_20 : decode prog_7_method_2_code 20 = .ok (.ireturn, 1) := by decide +kernel
theorem yd_Re_at : y_Re_at.cls ≠ "java/lang/invoke/MethodHandle" ∧ y_Re_at.cls ≠ "java/lang/invoke/VarHandle" ∧ (parseMethodDescriptor y_Re_at.desc).map (fun d => d.parameters.length) = some 1 := by decide +kernel
def w_Re_isOn : List Cond := Cond.code y_Re_isOn prog_7_method_5_code 2 (some .boolean) :: TB
def rm_Re_isOn : Room := { frames := 0, cells := 0, slots := 0, locals := 0 }
theorem d_Re_isOn_0 : decode prog_7_method_5_code 0 = .ok (.aload_n 0, 1) := by decide +kernel
theorem d_Re_isOn_1 : decode prog_7_method_5_code 1 = .ok (.getfield 9, 3) := by decide +kernel
theorem d_Re_isOn_4 : decode prog_7_method_5_code 4 = .ok (.iconst 0, 1) := by decide +kernel
theorem d_Re_isOn_5 : decode prog_7_method_5_code 5 = .ok (.iaload, 1) := by decide +kernel
theorem d_Re_isOn_6 : decode prog_7_method_5_code 6 = .ok (.iload_n 1, 1) := by decide +kernel
theorem d_Re_isOn_7 : decode prog_7_method_5_code 7 = .ok (.iand, 1) := by decide +kernel
theorem d_Re_isOn_8 : decode prog_7_method_5_code 8 = .ok (.ifCond .eq 7, 3) := by decide +kernel
theorem d_Re_isOn_11 : decode prog_7_method_5_code 11 = .ok (.iconst 1, 1) := by decide +kernel
theorem d_Re_isOn_12 : decode prog_7_method_5_code 12 = .ok (.goto 4, 3) := by decide +kernel
theorem d_Re_isOn_15 : decode prog_7_method_5_code 15 = .ok (.iconst 0, 1) := by decide +kernel
theorem d_Re_isOn_16 : decode prog_7_method_5_code 16 = .ok (.ireturn, 1) := by decide +kernel
theorem yd_Re_isOn : y_Re_isOn.cls ≠ "java/lang/invoke/MethodHandle" ∧ y_Re_isOn.cls ≠ "java/lang/invoke/VarHandle" ∧ (parseMethodDescriptor y_Re_isOn.desc).map (fun d => d.parameters.length) = some 1 := by decide +kernel
def w_Me_at : List Cond := Cond.code y_Me_at prog_3_method_2_code 2 (some .int) :: TB
def rm_Me_at : Room := { frames := 0, cells := 0, slots := 0, locals := 0 }
theorem d_Me_at_0 : decode prog_3_method_2_code 0 = .ok (.aload_n 0, 1) := by decide +kernel
theorem d_Me_at_1 : decode prog_3_method_2_code 1 = .ok (.getfield 11, 3) := by decide +kernel
theorem d_Me_at_4 : decode prog_3_method_2_code 4 = .ok (.iload_n 1, 1) := by decide +kernel
theorem d_Me_at_5 : decode prog_3_method_2_code 5 = .ok (.sipush 255, 3) := by decide +kernel
theorem d_Me_at_8 : decode prog_3_method_2_code 8 = .ok (.iand, 1) := by decide +kernel
theorem d_Me_at_9 : decode prog_3_method_2_code 9 = .ok (.iaload, 1) := by decide +kernel
theorem d_Me_at_10 : decode prog_3_method_2_code 10 = .ok (.ireturn, 1) := by decide +kernel
theorem yd_Me_at : y_Me_at.cls ≠ "java/lang/invoke/MethodHandle" ∧ y_Me_at.cls ≠ "java/lang/invoke/VarHandle" ∧ (parseMethodDescriptor y_Me_at.desc).map (fun d => d.parameters.length) = some 1 := by decide +kernel
def w_Re_clearRequests : List Cond := Cond.code y_Re_clearRequests prog_7_method_7_code 2 none :: TB
def rm_Re_clearRequests : Room := { frames := 0, cells := 0, slots := 0, locals := 0 }
theorem d_Re_clearRequests_0 : decode prog_7_method_7_code 0 = .ok (.aload_n 0, 1) := by decide +kernel
theorem d_Re_clearRequests_1 : decode prog_7_method_7_code 1 = .ok (.dup, 1) := by decide +kernel
theorem d_Re_clearRequests_2 : decode prog_7_method_7_code 2 = .ok (.getfield 16, 3) := by decide +kernel
theorem d_Re_clearRequests_5 : decode prog_7_method_7_code 5 = .ok (.iload_n 1, 1) := by decide +kernel
theorem d_Re_clearRequests_6 : decode prog_7_method_7_code 6 = .ok (.iconst (-1), 1) := by decide +kernel
theorem d_Re_clearRequests_7 : decode prog_7_method_7_code 7 = .ok (.ixor, 1) := by decide +kernel
theorem d_Re_clearRequests_8 : decode prog_7_method_7_code 8 = .ok (.iand, 1) := by decide +kernel
theorem d_Re_clearRequests_9 : decode prog_7_method_7_code 9 = .ok (.putfield 16, 3) := by decide +kernel
theorem d_Re_clearRequests_12 : decode prog_7_method_7_code 12 = .ok (.return_, 1) := by decide +kernel
theorem yd_Re_clearRequests : y_Re_clearRequests.cls ≠ "java/lang/invoke/MethodHandle" ∧ y_Re_clearRequests.cls ≠ "java/lang/invoke/VarHandle" ∧ (parseMethodDescriptor y_Re_clearRequests.desc).map (fun d => d.parameters.length) = some 1 := by decide +kernel
def w_Re_put : List Cond := Cond.code y_Re_put prog_7_method_3_code 3 none :: TB
def rm_Re_put : Room := { frames := 0, cells := 0, slots := 0, locals := 0 }
theorem d_Re_put_0 : decode prog_7_method_3_code 0 = .ok (.iload_n 1, 1) := by decide +kernel
theorem d_Re_put_1 : decode prog_7_method_3_code 1 = .ok (.ifCond .lt 22, 3) := by decide +kernel
theorem d_Re_put_4 : decode prog_7_method_3_code 4 = .ok (.iload_n 1, 1) := by decide +kernel
theorem d_Re_put_5 : decode prog_7_method_3_code 5 = .ok (.bipush 28, 2) := by decide +kernel
theorem d_Re_put_7 : decode prog_7_method_3_code 7 = .ok (.if_icmp .ge 16, 3) := by decide +kernel
theorem d_Re_put_10 : decode prog_7_method_3_code 10 = .ok (.aload_n 0, 1) := by decide +kernel
theorem d_Re_put_11 : decode prog_7_method_3_code 11 = .ok (.getfield 9, 3) := by decide +kernel
theorem d_Re_put_14 : decode prog_7_method_3_code 14 = .ok (.iload_n 1, 1) := by decide +kernel
theorem d_Re_put_15 : decode prog_7_method_3_code 15 = .ok (.iload_n 2, 1) := by decide +kernel
theorem d_Re_put_16 : decode prog_7_method_3_code 16 = .ok (.getstatic 13, 3) := by decide +kernel
theorem d_Re_put_19 : decode prog_7_method_3_code 19 = .ok (.iload_n 1, 1) := by decide +kernel
theorem d_Re_put_20 : decode prog_7_method_3_code 20 = .ok (.iaload, 1) := by decide +kernel
theorem d_Re_put_21 : decode prog_7_method_3_code 21 = .ok (.iand, 1) := by decide +kernel
theorem d_Re_put_22 : decode prog_7_method_3_code 22 = .ok (.iastore, 1) := by decide +kernel
theorem d_Re_put_23 : decode prog_7_method_3_code 23 = .ok (.return_, 1) := by decide +kernel
theorem yd_Re_put : y_Re_put.cls ≠ "java/lang/invoke/MethodHandle" ∧ y_Re_put.cls ≠ "java/lang/invoke/VarHandle" ∧ (parseMethodDescriptor y_Re_put.desc).map (fun d => d.parameters.length) = some 2 := by decide +kernel
def w_Re_grow : List Cond := Cond.code y_Re_grow prog_7_method_4_code 3 none :: TB
def rm_Re_grow : Room := { frames := 0, cells := 0, slots := 0, locals := 0 }
theorem d_Re_grow_0 : decode prog_7_method_4_code 0 = .ok (.iload_n 1, 1) := by decide +kernel
theorem d_Re_grow_1 : decode prog_7_method_4_code 1 = .ok (.ifCond .lt 29, 3) := by decide +kernel
theorem d_Re_grow_4 : decode prog_7_method_4_code 4 = .ok (.iload_n 1, 1) := by decide +kernel
theorem d_Re_grow_5 : decode prog_7_method_4_code 5 = .ok (.bipush 28, 2) := by decide +kernel
theorem d_Re_grow_7 : decode prog_7_method_4_code 7 = .ok (.if_icmp .ge 23, 3) := by decide +kernel
theorem d_Re_grow_10 : decode prog_7_method_4_code 10 = .ok (.aload_n 0, 1) := by decide +kernel
theorem d_Re_grow_11 : decode prog_7_method_4_code 11 = .ok (.getfield 9, 3) := by decide +kernel
theorem d_Re_grow_14 : decode prog_7_method_4_code 14 = .ok (.iload_n 1, 1) := by decide +kernel
theorem d_Re_grow_15 : decode prog_7_method_4_code 15 = .ok (.aload_n 0, 1) := by decide +kernel
theorem d_Re_grow_16 : decode prog_7_method_4_code 16 = .ok (.getfield 9, 3) := by decide +kernel
theorem d_Re_grow_19 : decode prog_7_method_4_code 19 = .ok (.iload_n 1, 1) := by decide +kernel
theorem d_Re_grow_20 : decode prog_7_method_4_code 20 = .ok (.iaload, 1) := by decide +kernel
theorem d_Re_grow_21 : decode prog_7_method_4_code 21 = .ok (.iload_n 2, 1) := by decide +kernel
theorem d_Re_grow_22 : decode prog_7_method_4_code 22 = .ok (.iadd, 1) := by decide +kernel
theorem d_Re_grow_23 : decode prog_7_method_4_code 23 = .ok (.getstatic 13, 3) := by decide +kernel
theorem d_Re_grow_26 : decode prog_7_method_4_code 26 = .ok (.iload_n 1, 1) := by decide +kernel
theorem d_Re_grow_27 : decode prog_7_method_4_code 27 = .ok (.iaload, 1) := by decide +kernel
theorem d_Re_grow_28 : decode prog_7_method_4_code 28 = .ok (.iand, 1) := by decide +kernel
theorem d_Re_grow_29 : decode prog_7_method_4_code 29 = .ok (.iastore, 1) := by decide +kernel
theorem d_Re_grow_30 : decode prog_7_method_4_code 30 = .ok (.return_, 1) := by decide +kernel
theorem yd_Re_grow : y_Re_grow.cls ≠ "java/lang/invoke/MethodHandle" ∧ y_Re_grow.cls ≠ "java/lang/invoke/VarHandle" ∧ (parseMethodDescriptor y_Re_grow.desc).map (fun d => d.parameters.length) = some 2 := by decide +kernel
def w_Re_isEnabledRequested : List Cond := Cond.code y_Re_isEnabledRequested prog_7_method_8_code 1 (some .boolean) :: TB
def rm_Re_isEnabledRequested : Room := { frames := 0, cells := 0, slots := 0, locals := 0 }
theorem d_Re_isEnabledRequested_0 : decode prog_7_method_8_code 0 = .ok (.aload_n 0, 1) := by decide +kernel
theorem d_Re_isEnabledRequested_1 : decode prog_7_method_8_code 1 = .ok (.getfield 16, 3) := by decide +kernel
theorem d_Re_isEnabledRequested_4 : decode prog_7_method_8_code 4 = .ok (.aload_n 0, 1) := by decide +kernel
theorem d_Re_isEnabledRequested_5 : decode prog_7_method_8_code 5 = .ok (.getfield 9, 3) := by decide +kernel
theorem d_Re_isEnabledRequested_8 : decode prog_7_method_8_code 8 = .ok (.bipush 26, 2) := by decide +kernel
theorem d_Re_isEnabledRequested_10 : decode prog_7_method_8_code 10 = .ok (.iaload, 1) := by decide +kernel
theorem d_Re_isEnabledRequested_11 : decode prog_7_method_8_code 11 = .ok (.iand, 1) := by decide +kernel
theorem d_Re_isEnabledRequested_12 : decode prog_7_method_8_code 12 = .ok (.ifCond .eq 7, 3) := by decide +kernel
theorem d_Re_isEnabledRequested_15 : decode prog_7_method_8_code 15 = .ok (.iconst 1, 1) := by decide +kernel
theorem d_Re_isEnabledRequested_16 : decode prog_7_method_8_code 16 = .ok (.goto 4, 3) := by decide +kernel
theorem d_Re_isEnabledRequested_19 : decode prog_7_method_8_code 19 = .ok (.iconst 0, 1) := by decide +kernel
theorem d_Re_isEnabledRequested_20 : decode prog_7_method_8_code 20 = .ok (.ireturn, 1) := by decide +kernel
theorem yd_Re_isEnabledRequested : y_Re_isEnabledRequested.cls ≠ "java/lang/invoke/MethodHandle" ∧ y_Re_isEnabledRequested.cls ≠ "java/lang/invoke/VarHandle" ∧ (parseMethodDescriptor y_Re_isEnabledRequested.desc).map (fun d => d.parameters.length) = some 0 := by decide +kernel
theorem tb_cd_Me_put : Cond.code y_Me_put prog_3_method_3_code 3 none ∈ TB := tb_in 209 (by decide +kernel) (by decide +kernel)
theorem tb_in_Me : Cond.initialized "SlotBoard$Memory" ∈ TB := tb_in 2 (by decide +kernel) (by decide +kernel)
theorem tb_im_Me_put : Cond.instanceMethod y_Me_put ∈ TB := tb_in 207 (by decide +kernel) (by decide +kernel)
theorem tb_se_Me_put : Cond.selects "SlotBoard$Memory" y_Me_put y_Me_put ∈ TB := tb_in 208 (by decide +kernel) (by decide +kernel)
theorem tb_fl_Me_11 : Cond.fieldLink "SlotBoard$Memory" 11 "SlotBoard$Memory" "words" "[I" ∈ TB := tb_in 24 (by decide +kernel) (by decide +kernel)
theorem tb_ct_Me_15 : Cond.constant "SlotBoard$Memory" 15 (65535) ∈ TB := tb_in 210 (by decide +kernel) (by decide +kernel)
theorem tb_cd_Re_request : Cond.code y_Re_request prog_7_method_6_code 2 none ∈ TB := tb_in 226 (by decide +kernel) (by decide +kernel)
theorem tb_in_Re : Cond.initialized "SlotBoard$Registers" ∈ TB := tb_in 3 (by decide +kernel) (by decide +kernel)
theorem tb_im_Re_request : Cond.instanceMethod y_Re_request ∈ TB := tb_in 224 (by decide +kernel) (by decide +kernel)
theorem tb_se_Re_request : Cond.selects "SlotBoard$Registers" y_Re_request y_Re_request ∈ TB := tb_in 225 (by decide +kernel) (by decide +kernel)
theorem tb_fl_Re_16 : Cond.fieldLink "SlotBoard$Registers" 16 "SlotBoard$Registers" "requests" "I" ∈ TB := tb_in 36 (by decide +kernel) (by decide +kernel)
theorem tb_cd_Re_at : Cond.code y_Re_at prog_7_method_2_code 2 (some .int) ∈ TB := tb_in 234 (by decide +kernel) (by decide +kernel)
theorem tb_im_Re_at : Cond.instanceMethod y_Re_at ∈ TB := tb_in 232 (by decide +kernel) (by decide +kernel)
theorem tb_se_Re_at : Cond.selects "SlotBoard$Registers" y_Re_at y_Re_at ∈ TB := tb_in 233 (by decide +kernel) (by decide +kernel)
theorem tb_fl_Re_9 : Cond.fieldLink "SlotBoard$Registers" 9 "SlotBoard$Registers" "values" "[I" ∈ TB := tb_in 35 (by decide +kernel) (by decide +kernel)
theorem tb_cd_Re_isOn : Cond.code y_Re_isOn prog_7_method_5_code 2 (some .boolean) ∈ TB := tb_in 238 (by decide +kernel) (by decide +kernel)
theorem tb_im_Re_isOn : Cond.instanceMethod y_Re_isOn ∈ TB := tb_in 236 (by decide +kernel) (by decide +kernel)
theorem tb_se_Re_isOn : Cond.selects "SlotBoard$Registers" y_Re_isOn y_Re_isOn ∈ TB := tb_in 237 (by decide +kernel) (by decide +kernel)
theorem tb_cd_Me_at : Cond.code y_Me_at prog_3_method_2_code 2 (some .int) ∈ TB := tb_in 300 (by decide +kernel) (by decide +kernel)
theorem tb_im_Me_at : Cond.instanceMethod y_Me_at ∈ TB := tb_in 298 (by decide +kernel) (by decide +kernel)
theorem tb_se_Me_at : Cond.selects "SlotBoard$Memory" y_Me_at y_Me_at ∈ TB := tb_in 299 (by decide +kernel) (by decide +kernel)
theorem tb_cd_Re_clearRequests : Cond.code y_Re_clearRequests prog_7_method_7_code 2 none ∈ TB := tb_in 330 (by decide +kernel) (by decide +kernel)
theorem tb_im_Re_clearRequests : Cond.instanceMethod y_Re_clearRequests ∈ TB := tb_in 328 (by decide +kernel) (by decide +kernel)
theorem tb_se_Re_clearRequests : Cond.selects "SlotBoard$Registers" y_Re_clearRequests y_Re_clearRequests ∈ TB := tb_in 329 (by decide +kernel) (by decide +kernel)
theorem tb_cd_Re_put : Cond.code y_Re_put prog_7_method_3_code 3 none ∈ TB := tb_in 334 (by decide +kernel) (by decide +kernel)
theorem tb_im_Re_put : Cond.instanceMethod y_Re_put ∈ TB := tb_in 332 (by decide +kernel) (by decide +kernel)
theorem tb_se_Re_put : Cond.selects "SlotBoard$Registers" y_Re_put y_Re_put ∈ TB := tb_in 333 (by decide +kernel) (by decide +kernel)
theorem tb_fl_Re_13 : Cond.fieldLink "SlotBoard$Registers" 13 "SlotBoard$Registers" "COUNTING_BITS" "[I" ∈ TB := tb_in 335 (by decide +kernel) (by decide +kernel)
theorem tb_cd_Re_grow : Cond.code y_Re_grow prog_7_method_4_code 3 none ∈ TB := tb_in 357 (by decide +kernel) (by decide +kernel)
theorem tb_im_Re_grow : Cond.instanceMethod y_Re_grow ∈ TB := tb_in 355 (by decide +kernel) (by decide +kernel)
theorem tb_se_Re_grow : Cond.selects "SlotBoard$Registers" y_Re_grow y_Re_grow ∈ TB := tb_in 356 (by decide +kernel) (by decide +kernel)
theorem tb_cd_Re_isEnabledRequested : Cond.code y_Re_isEnabledRequested prog_7_method_8_code 1 (some .boolean) ∈ TB := tb_in 441 (by decide +kernel) (by decide +kernel)
theorem tb_im_Re_isEnabledRequested : Cond.instanceMethod y_Re_isEnabledRequested ∈ TB := tb_in 439 (by decide +kernel) (by decide +kernel)
theorem tb_se_Re_isEnabledRequested : Cond.selects "SlotBoard$Registers" y_Re_isEnabledRequested y_Re_isEnabledRequested ∈ TB := tb_in 440 (by decide +kernel) (by decide +kernel)
def f_Me_put (S : SS) (M : MM) (x1 : Int32) (x2 : Int32) : Option RR := if x1 &&& (255 : Int32) < 0 ∨ 256 ≤ (x1 &&& (255 : Int32)).toNatClampNeg then none else some (0, S, (upM M 1 (upd (M 1) (x1 &&& (255 : Int32)).toNatClampNeg (x2 &&& (65535 : Int32)))))
set_option maxHeartbeats 4000000 in
set_option maxRecDepth 100000 in
theorem c_Me_put (l : Launch) (D : va_G) (cA : ClassId) (a : Nat → Nat) (S : SS) (M : MM) (x1 : Int32) (x2 : Int32) (q : RR) (h0 : f_Me_put S M x1 x2 = some q) : Cv l y_Me_put w_Me_put rm_Me_put D vCl [(cA, .int)] (AB a) (ZB a) (wB cA a) [.ref (a 1), .int x1, .int x2] S M q := by
  refine Cv.of (cc := prog_3_method_3_code) (maxL := 3) (by decide) rfl (Nat.le_of_ble_eq_true rfl) ?_
  intro p e s m args below meth c Q hx hb hml hown hts hK hZ ret
  have hown : s.vm.findClass R_Me = some m.cls := hown
  have hts : ∀ w ∈ TB, w.before args s = true := fun w h => hts w (List.mem_cons_of_mem _ h)
  have hZK := ZB_k a
  have k11 := hts _ tb_fl_Me_11
  have k15 := hts _ tb_ct_Me_15
  intro H locs ls hl hP hD hS
  have hl : lv_has ls 3 [(0, .ref (a 1)), (1, .int x1), (2, .int x2)] := hl
  have h := h0
  unfold f_Me_put at h
  refine lv_aload_n hx hb d_Me_put_0 rfl (lv_at hl 0 rfl) ?_
  refine va_get (D := D) (ci := 1) (v := .ref (a 8)) (C := R_Me) (T := T_Me) (N := 1) hx hb hts iMe hown hK hP 1 (wB_at1 _ _ _ _) rfl 0 (by decide) k11 (fun _ h9 => h9) rfl d_Me_put_1 ?_
  refine lv_iload_n hx hb d_Me_put_4 rfl (lv_at hl 1 rfl) ?_
  refine lv_sipush (v := (255 : Int32)) hx hb d_Me_put_5 (by decide) ?_
  refine lv_iand hx hb d_Me_put_8 ?_
  refine lv_iload_n hx hb d_Me_put_9 rfl (lv_at hl 2 rfl) ?_
  refine lv_ldc (v := (65535 : Int32)) hx hb hown k15 d_Me_put_10 ?_
  refine lv_iand hx hb d_Me_put_12 ?_
  obtain ⟨hg1, h⟩ := sg_g h
  refine va_iast (x := x2 &&& (65535 : Int32)) hx hb hK hP hD hS 8 0 (wB_at8 _ _ _ _) rfl hg1 d_Me_put_13 (fun H locs hP hD hS => ?_)
  have hP := wB_set8 hP
  have hD := wB_dset8 hD
  exact ret _ _ _ _ _ _ _ h hP hD hS d_Me_put_14
def f_Re_request (S : SS) (M : MM) (x1 : Int32) : Option RR := some (0, (upd S 2 ((S 2) ||| x1)), M)
set_option maxHeartbeats 4000000 in
set_option maxRecDepth 100000 in
theorem c_Re_request (l : Launch) (D : va_G) (cA : ClassId) (a : Nat → Nat) (S : SS) (M : MM) (x1 : Int32) (q : RR) (h0 : f_Re_request S M x1 = some q) : Cv l y_Re_request w_Re_request rm_Re_request D vCl [(cA, .int)] (AB a) (ZB a) (wB cA a) [.ref (a 2), .int x1] S M q := by
  refine Cv.of (cc := prog_7_method_6_code) (maxL := 2) (by decide) rfl (Nat.le_of_ble_eq_true rfl) ?_
  intro p e s m args below meth c Q hx hb hml hown hts hK hZ ret
  have hown : s.vm.findClass R_Re = some m.cls := hown
  have hts : ∀ w ∈ TB, w.before args s = true := fun w h => hts w (List.mem_cons_of_mem _ h)
  have hZK := ZB_k a
  have k16 := hts _ tb_fl_Re_16
  intro H locs ls hl hP hD hS
  have hl : lv_has ls 2 [(0, .ref (a 2)), (1, .int x1)] := hl
  have h := h0
  unfold f_Re_request at h
  refine lv_aload_n hx hb d_Re_request_0 rfl (lv_at hl 0 rfl) ?_
  refine lv_dup hx hb d_Re_request_1 rfl ?_
  refine va_get (D := D) (ci := 2) (v := .int (S 2)) (C := R_Re) (T := T_Re) (N := 2) hx hb hts iRe hown hK hP 2 (wB_at2 _ _ _ _) rfl 1 (by decide) k16 (fun _ h9 => h9) rfl d_Re_request_2 ?_
  refine lv_iload_n hx hb d_Re_request_5 rfl (lv_at hl 1 rfl) ?_
  refine lv_ior hx hb d_Re_request_6 ?_
  refine puwB_2 (D := D) (x := (S 2) ||| x1) hx hb hts iRe hown hK hP hD hS k16 rfl rfl d_Re_request_7 (fun H locs hP hD hS => ?_)
  exact ret _ _ _ _ _ _ _ h hP hD hS d_Re_request_10
def f_Re_at_20 (S : SS) (M : MM) (x1 : Int32) (y0 : Int32) : Option RR := some (y0, S, M)
def f_Re_at_10 (S : SS) (M : MM) (x1 : Int32) : Option RR := f_Re_at_20 S M x1 (0 : Int32)
def f_Re_at (S : SS) (M : MM) (x1 : Int32) : Option RR := if x1 < 0 then f_Re_at_10 S M x1 else if x1 < (28 : Int32) then if x1 < 0 ∨ 28 ≤ x1.toNatClampNeg then none else f_Re_at_20 S M x1 (M 2 x1.toNatClampNeg) else f_Re_at_10 S M x1
set_option maxHeartbeats 4000000 in
set_option maxRecDepth 100000 in
theorem c_Re_at (l : Launch) (D : va_G) (cA : ClassId) (a : Nat → Nat) (S : SS) (M : MM) (x1 : Int32) (q : RR) (h0 : f_Re_at S M x1 = some q) : Ci l y_Re_at w_Re_at rm_Re_at D vCl [(cA, .int)] (AB a) (ZB a) (wB cA a) [.ref (a 2), .int x1] S M q := by
  refine Ci.of (cc := prog_7_method_2_code) (maxL := 2) (ty := .int) (by decide) rfl (Nat.le_of_ble_eq_true rfl) ?_
  intro p e s m args below meth c Q hx hb hml hown hts hK hZ ret
  have hown : s.vm.findClass R_Re = some m.cls := hown
  have hts : ∀ w ∈ TB, w.before args s = true := fun w h => hts w (List.mem_cons_of_mem _ h)
  have hZK := ZB_k a
  have k9 := hts _ tb_fl_Re_9
  have b20 : ∀ (S : SS) (M : MM) (x1 : Int32) (y0 : Int32), f_Re_at_20 S M x1 y0 = some q → BK p l e rm_Re_at s m args below meth c Q D vCl (AB a) (wB cA a) 2 20 [(0, .ref (a 2)), (1, .int x1)] [.int y0] S M := by
    intro S M x1 y0 h H locs ls hl hP hD hS
    unfold f_Re_at_20 at h
    exact ret _ _ _ _ _ _ _ h rfl hP hD hS d_Re_at_20
  have b10 : ∀ (S : SS) (M : MM) (x1 : Int32), f_Re_at_10 S M x1 = some q → BK p l e rm_Re_at s m args below meth c Q D vCl (AB a) (wB cA a) 2 10 [(0, .ref (a 2)), (1, .int x1)] [] S M := by
    intro S M x1 h H locs ls hl hP hD hS
    unfold f_Re_at_10 at h
    refine lv_iconst (v := (0 : Int32)) hx hb d_Re_at_10 (by decide) ?_
    refine lv_goto (tgt := 20) hx hb d_Re_at_11 (by decide) ?_
    exact b20 _ _ _ _ h _ _ _ (lv_sub hl [0, 1] rfl) hP hD hS
  intro H locs ls hl hP hD hS
  have hl : lv_has ls 2 [(0, .ref (a 2)), (1, .int x1)] := hl
  have h := h0
  unfold f_Re_at at h
  refine lv_iload_n hx hb d_Re_at_0 rfl (lv_at hl 1 rfl) ?_
  refine lv_if_lt (tgt := 10) hx hb d_Re_at_1 (by decide) (fun hc => ?_) (fun hc => ?_)
  · have h := sg_p hc h
    exact b10 _ _ _ h _ _ _ (lv_sub hl [0, 1] rfl) hP hD hS
  · have h := sg_n hc h
    refine lv_iload_n hx hb d_Re_at_4 rfl (lv_at hl 1 rfl) ?_
    refine lv_bipush (v := (28 : Int32)) hx hb d_Re_at_5 (by decide) ?_
    refine lv_icmp_lt (tgt := 14) hx hb d_Re_at_7 (by decide) (fun hc => ?_) (fun hc => ?_)
    · have h := sg_p hc h
      refine lv_aload_n hx hb d_Re_at_14 rfl (lv_at hl 0 rfl) ?_
      refine va_get (D := D) (ci := 2) (v := .ref (a 9)) (C := R_Re) (T := T_Re) (N := 2) hx hb hts iRe hown hK hP 2 (wB_at2 _ _ _ _) rfl 0 (by decide) k9 (fun _ h9 => h9) rfl d_Re_at_15 ?_
      refine lv_iload_n hx hb d_Re_at_18 rfl (lv_at hl 1 rfl) ?_
      obtain ⟨hg1, h⟩ := sg_g h
      refine va_iald hx hb hK hP 9 0 (wB_at9 _ _ _ _) rfl hg1 d_Re_at_19 ?_
      exact b20 _ _ _ _ h _ _ _ (lv_sub hl [0, 1] rfl) hP hD hS
    · have h := sg_n hc h
      exact b10 _ _ _ h _ _ _ (lv_sub hl [0, 1] rfl) hP hD hS
def f_Re_isOn_16 (S : SS) (M : MM) (x1 : Int32) (y0 : Int32) : Option RR := if ¬ (y0 = 0 ∨ y0 = 1) then none else some (y0, S, M)
def f_Re_isOn (S : SS) (M : MM) (x1 : Int32) : Option RR := if (M 2 0) &&& x1 = 0 then f_Re_isOn_16 S M x1 (0 : Int32) else f_Re_isOn_16 S M x1 (1 : Int32)
set_option maxHeartbeats 4000000 in
set_option maxRecDepth 100000 in
theorem c_Re_isOn (l : Launch) (D : va_G) (cA : ClassId) (a : Nat → Nat) (S : SS) (M : MM) (x1 : Int32) (q : RR) (h0 : f_Re_isOn S M x1 = some q) : Ci l y_Re_isOn w_Re_isOn rm_Re_isOn D vCl [(cA, .int)] (AB a) (ZB a) (wB cA a) [.ref (a 2), .int x1] S M q := by
  refine Ci.of (cc := prog_7_method_5_code) (maxL := 2) (ty := .boolean) (by decide) rfl (Nat.le_of_ble_eq_true rfl) ?_
  intro p e s m args below meth c Q hx hb hml hown hts hK hZ ret
  have hown : s.vm.findClass R_Re = some m.cls := hown
  have hts : ∀ w ∈ TB, w.before args s = true := fun w h => hts w (List.mem_cons_of_mem _ h)
  have hZK := ZB_k a
  have k9 := hts _ tb_fl_Re_9
  have b16 : ∀ (S : SS) (M : MM) (x1 : Int32) (y0 : Int32), f_Re_isOn_16 S M x1 y0 = some q → BK p l e rm_Re_isOn s m args below meth c Q D vCl (AB a) (wB cA a) 2 16 [(0, .ref (a 2)), (1, .int x1)] [.int y0] S M := by
    intro S M x1 y0 h H locs ls hl hP hD hS
    unfold f_Re_isOn_16 at h
    obtain ⟨hg1, h⟩ := sg_g h
    exact ret _ _ _ _ _ _ _ h (sg_nb hg1).1 hP hD hS d_Re_isOn_16
  intro H locs ls hl hP hD hS
  have hl : lv_has ls 2 [(0, .ref (a 2)), (1, .int x1)] := hl
  have h := h0
  unfold f_Re_isOn at h
  refine lv_aload_n hx hb d_Re_isOn_0 rfl (lv_at hl 0 rfl) ?_
  refine va_get (D := D) (ci := 2) (v := .ref (a 9)) (C := R_Re) (T := T_Re) (N := 2) hx hb hts iRe hown hK hP 2 (wB_at2 _ _ _ _) rfl 0 (by decide) k9 (fun _ h9 => h9) rfl d_Re_isOn_1 ?_
  refine lv_iconst (v := (0 : Int32)) hx hb d_Re_isOn_4 (by decide) ?_
  refine ialdK hx hb hK hP 9 0 (wB_at9 _ _ _ _) rfl 0 (by decide) (by decide) d_Re_isOn_5 ?_
  refine lv_iload_n hx hb d_Re_isOn_6 rfl (lv_at hl 1 rfl) ?_
  refine lv_iand hx hb d_Re_isOn_7 ?_
  refine lv_if_eq (tgt := 15) hx hb d_Re_isOn_8 (by decide) (fun hc => ?_) (fun hc => ?_)
  · have h := sg_p hc h
    refine lv_iconst (v := (0 : Int32)) hx hb d_Re_isOn_15 (by decide) ?_
    exact b16 _ _ _ _ h _ _ _ (lv_sub hl [0, 1] rfl) hP hD hS
  · have h := sg_n hc h
    refine lv_iconst (v := (1 : Int32)) hx hb d_Re_isOn_11 (by decide) ?_
    refine lv_goto (tgt := 16) hx hb d_Re_isOn_12 (by decide) ?_
    exact b16 _ _ _ _ h _ _ _ (lv_sub hl [0, 1] rfl) hP hD hS
def f_Me_at (S : SS) (M : MM) (x1 : Int32) : Option RR := if x1 &&& (255 : Int32) < 0 ∨ 256 ≤ (x1 &&& (255 : Int32)).toNatClampNeg then none else some (M 1 (x1 &&& (255 : Int32)).toNatClampNeg, S, M)
set_option maxHeartbeats 4000000 in
set_option maxRecDepth 100000 in
theorem c_Me_at (l : Launch) (D : va_G) (cA : ClassId) (a : Nat → Nat) (S : SS) (M : MM) (x1 : Int32) (q : RR) (h0 : f_Me_at S M x1 = some q) : Ci l y_Me_at w_Me_at rm_Me_at D vCl [(cA, .int)] (AB a) (ZB a) (wB cA a) [.ref (a 1), .int x1] S M q := by
  refine Ci.of (cc := prog_3_method_2_code) (maxL := 2) (ty := .int) (by decide) rfl (Nat.le_of_ble_eq_true rfl) ?_
  intro p e s m args below meth c Q hx hb hml hown hts hK hZ ret
  have hown : s.vm.findClass R_Me = some m.cls := hown
  have hts : ∀ w ∈ TB, w.before args s = true := fun w h => hts w (List.mem_cons_of_mem _ h)
  have hZK := ZB_k a
  have k11 := hts _ tb_fl_Me_11
  intro H locs ls hl hP hD hS
  have hl : lv_has ls 2 [(0, .ref (a 1)), (1, .int x1)] := hl
  have h := h0
  unfold f_Me_at at h
  refine lv_aload_n hx hb d_Me_at_0 rfl (lv_at hl 0 rfl) ?_
  refine va_get (D := D) (ci := 1) (v := .ref (a 8)) (C := R_Me) (T := T_Me) (N := 1) hx hb hts iMe hown hK hP 1 (wB_at1 _ _ _ _) rfl 0 (by decide) k11 (fun _ h9 => h9) rfl d_Me_at_1 ?_
  refine lv_iload_n hx hb d_Me_at_4 rfl (lv_at hl 1 rfl) ?_
  refine lv_sipush (v := (255 : Int32)) hx hb d_Me_at_5 (by decide) ?_
  refine lv_iand hx hb d_Me_at_8 ?_
  obtain ⟨hg1, h⟩ := sg_g h
  refine va_iald hx hb hK hP 8 0 (wB_at8 _ _ _ _) rfl hg1 d_Me_at_9 ?_
  exact ret _ _ _ _ _ _ _ h rfl hP hD hS d_Me_at_10
def f_Re_clearRequests (S : SS) (M : MM) (x1 : Int32) : Option RR := some (0, (upd S 2 ((S 2) &&& (x1 ^^^ (-1 : Int32)))), M)
set_option maxHeartbeats 4000000 in
set_option maxRecDepth 100000 in
theorem c_Re_clearRequests (l : Launch) (D : va_G) (cA : ClassId) (a : Nat → Nat) (S : SS) (M : MM) (x1 : Int32) (q : RR) (h0 : f_Re_clearRequests S M x1 = some q) : Cv l y_Re_clearRequests w_Re_clearRequests rm_Re_clearRequests D vCl [(cA, .int)] (AB a) (ZB a) (wB cA a) [.ref (a 2), .int x1] S M q := by
  refine Cv.of (cc := prog_7_method_7_code) (maxL := 2) (by decide) rfl (Nat.le_of_ble_eq_true rfl) ?_
  intro p e s m args below meth c Q hx hb hml hown hts hK hZ ret
  have hown : s.vm.findClass R_Re = some m.cls := hown
  have hts : ∀ w ∈ TB, w.before args s = true := fun w h => hts w (List.mem_cons_of_mem _ h)
  have hZK := ZB_k a
  have k16 := hts _ tb_fl_Re_16
  intro H locs ls hl hP hD hS
  have hl : lv_has ls 2 [(0, .ref (a 2)), (1, .int x1)] := hl
  have h := h0
  unfold f_Re_clearRequests at h
  refine lv_aload_n hx hb d_Re_clearRequests_0 rfl (lv_at hl 0 rfl) ?_
  refine lv_dup hx hb d_Re_clearRequests_1 rfl ?_
  refine va_get (D := D) (ci := 2) (v := .int (S 2)) (C := R_Re) (T := T_Re) (N := 2) hx hb hts iRe hown hK hP 2 (wB_at2 _ _ _ _) rfl 1 (by decide) k16 (fun _ h9 => h9) rfl d_Re_clearRequests_2 ?_
  refine lv_iload_n hx hb d_Re_clearRequests_5 rfl (lv_at hl 1 rfl) ?_
  refine lv_iconst (v := (-1 : Int32)) hx hb d_Re_clearRequests_6 (by decide) ?_
  refine lv_ixor hx hb d_Re_clearRequests_7 ?_
  refine lv_iand hx hb d_Re_clearRequests_8 ?_
  refine puwB_2 (D := D) (x := (S 2) &&& (x1 ^^^ (-1 : Int32))) hx hb hts iRe hown hK hP hD hS k16 rfl rfl d_Re_clearRequests_9 (fun H locs hP hD hS => ?_)
  exact ret _ _ _ _ _ _ _ h hP hD hS d_Re_clearRequests_12
def f_Re_put_23 (S : SS) (M : MM) (x1 : Int32) (x2 : Int32) : Option RR := some (0, S, M)
def f_Re_put (S : SS) (M : MM) (x1 : Int32) (x2 : Int32) : Option RR := if x1 < 0 then f_Re_put_23 S M x1 x2 else if (28 : Int32) ≤ x1 then f_Re_put_23 S M x1 x2 else if x1 < 0 ∨ 28 ≤ x1.toNatClampNeg then none else if x1 < 0 ∨ 28 ≤ x1.toNatClampNeg then none else f_Re_put_23 S (upM M 2 (upd (M 2) x1.toNatClampNeg (x2 &&& (cbits x1.toNatClampNeg)))) x1 x2
set_option maxHeartbeats 4000000 in
set_option maxRecDepth 100000 in
theorem c_Re_put (l : Launch) (D : va_G) (cA : ClassId) (a : Nat → Nat) (S : SS) (M : MM) (x1 : Int32) (x2 : Int32) (q : RR) (h0 : f_Re_put S M x1 x2 = some q) : Cv l y_Re_put w_Re_put rm_Re_put D vCl [(cA, .int)] (AB a) (ZB a) (wB cA a) [.ref (a 2), .int x1, .int x2] S M q := by
  refine Cv.of (cc := prog_7_method_3_code) (maxL := 3) (by decide) rfl (Nat.le_of_ble_eq_true rfl) ?_
  intro p e s m args below meth c Q hx hb hml hown hts hK hZ ret
  have hown : s.vm.findClass R_Re = some m.cls := hown
  have hts : ∀ w ∈ TB, w.before args s = true := fun w h => hts w (List.mem_cons_of_mem _ h)
  have hZK := ZB_k a
  obtain ⟨t0, hZ0, hZ1⟩ := hZ
  have k9 := hts _ tb_fl_Re_9
  have k13 := hts _ tb_fl_Re_13
  have b23 : ∀ (S : SS) (M : MM) (x1 : Int32) (x2 : Int32), f_Re_put_23 S M x1 x2 = some q → BK p l e rm_Re_put s m args below meth c Q D vCl (AB a) (wB cA a) 3 23 [(0, .ref (a 2)), (1, .int x1), (2, .int x2)] [] S M := by
    intro S M x1 x2 h H locs ls hl hP hD hS
    unfold f_Re_put_23 at h
    exact ret _ _ _ _ _ _ _ h hP hD hS d_Re_put_23
  intro H locs ls hl hP hD hS
  have hl : lv_has ls 3 [(0, .ref (a 2)), (1, .int x1), (2, .int x2)] := hl
  have h := h0
  unfold f_Re_put at h
  refine lv_iload_n hx hb d_Re_put_0 rfl (lv_at hl 1 rfl) ?_
  refine lv_if_lt (tgt := 23) hx hb d_Re_put_1 (by decide) (fun hc => ?_) (fun hc => ?_)
  · have h := sg_p hc h
    exact b23 _ _ _ _ h _ _ _ (lv_sub hl [0, 1, 2] rfl) hP hD hS
  · have h := sg_n hc h
    refine lv_iload_n hx hb d_Re_put_4 rfl (lv_at hl 1 rfl) ?_
    refine lv_bipush (v := (28 : Int32)) hx hb d_Re_put_5 (by decide) ?_
    refine lv_icmp_ge (tgt := 23) hx hb d_Re_put_7 (by decide) (fun hc => ?_) (fun hc => ?_)
    · have h := sg_p hc h
      exact b23 _ _ _ _ h _ _ _ (lv_sub hl [0, 1, 2] rfl) hP hD hS
    · have h := sg_n hc h
      refine lv_aload_n hx hb d_Re_put_10 rfl (lv_at hl 0 rfl) ?_
      refine va_get (D := D) (ci := 2) (v := .ref (a 9)) (C := R_Re) (T := T_Re) (N := 2) hx hb hts iRe hown hK hP 2 (wB_at2 _ _ _ _) rfl 0 (by decide) k9 (fun _ h9 => h9) rfl d_Re_put_11 ?_
      refine lv_iload_n hx hb d_Re_put_14 rfl (lv_at hl 1 rfl) ?_
      refine lv_iload_n hx hb d_Re_put_15 rfl (lv_at hl 2 rfl) ?_
      refine va_gets hx hb hZ0 hS hown k13 (fun _ h9 => h9) d_Re_put_16 ?_
      refine lv_iload_n hx hb d_Re_put_19 rfl (lv_at hl 1 rfl) ?_
      obtain ⟨hg1, h⟩ := sg_g h
      refine va_ti (v := .int (cbits x1.toNatClampNeg)) hx hb hZ1 hS hg1 rfl d_Re_put_20 ?_
      refine lv_iand hx hb d_Re_put_21 ?_
      obtain ⟨hg2, h⟩ := sg_g h
      refine va_iast (x := x2 &&& (cbits x1.toNatClampNeg)) hx hb hK hP hD hS 9 0 (wB_at9 _ _ _ _) rfl hg2 d_Re_put_22 (fun H locs hP hD hS => ?_)
      have hP := wB_set9 hP
      have hD := wB_dset9 hD
      exact b23 _ _ _ _ h _ _ _ (lv_sub hl [0, 1, 2] rfl) hP hD hS
def f_Re_grow_30 (S : SS) (M : MM) (x1 : Int32) (x2 : Int32) : Option RR := some (0, S, M)
def f_Re_grow (S : SS) (M : MM) (x1 : Int32) (x2 : Int32) : Option RR := if x1 < 0 then f_Re_grow_30 S M x1 x2 else if (28 : Int32) ≤ x1 then f_Re_grow_30 S M x1 x2 else if x1 < 0 ∨ 28 ≤ x1.toNatClampNeg then none else if x1 < 0 ∨ 28 ≤ x1.toNatClampNeg then none else if x1 < 0 ∨ 28 ≤ x1.toNatClampNeg then none else f_Re_grow_30 S (upM M 2 (upd (M 2) x1.toNatClampNeg (((M 2 x1.toNatClampNeg) + x2) &&& (cbits x1.toNatClampNeg)))) x1 x2
set_option maxHeartbeats 4000000 in
set_option maxRecDepth 100000 in
theorem c_Re_grow (l : Launch) (D : va_G) (cA : ClassId) (a : Nat → Nat) (S : SS) (M : MM) (x1 : Int32) (x2 : Int32) (q : RR) (h0 : f_Re_grow S M x1 x2 = some q) : Cv l y_Re_grow w_Re_grow rm_Re_grow D vCl [(cA, .int)] (AB a) (ZB a) (wB cA a) [.ref (a 2), .int x1, .int x2] S M q := by
  refine Cv.of (cc := prog_7_method_4_code) (maxL := 3) (by decide) rfl (Nat.le_of_ble_eq_true rfl) ?_
  intro p e s m args below meth c Q hx hb hml hown hts hK hZ ret
  have hown : s.vm.findClass R_Re = some m.cls := hown
  have hts : ∀ w ∈ TB, w.before args s = true := fun w h => hts w (List.mem_cons_of_mem _ h)
  have hZK := ZB_k a
  obtain ⟨t0, hZ0, hZ1⟩ := hZ
  have k9 := hts _ tb_fl_Re_9
  have k13 := hts _ tb_fl_Re_13
  have b30 : ∀ (S : SS) (M : MM) (x1 : Int32) (x2 : Int32), f_Re_grow_30 S M x1 x2 = some q → BK p l e rm_Re_grow s m args below meth c Q D vCl (AB a) (wB cA a) 3 30 [(0, .ref (a 2)), (1, .int x1), (2, .int x2)] [] S M := by
    intro S M x1 x2 h H locs ls hl hP hD hS
    unfold f_Re_grow_30 at h
    exact ret _ _ _ _ _ _ _ h hP hD hS d_Re_grow_30
  intro H locs ls hl hP hD hS
  have hl : lv_has ls 3 [(0, .ref (a 2)), (1, .int x1), (2, .int x2)] := hl
  have h := h0
  unfold f_Re_grow at h
  refine lv_iload_n hx hb d_Re_grow_0 rfl (lv_at hl 1 rfl) ?_
  refine lv_if_lt (tgt := 30) hx hb d_Re_grow_1 (by decide) (fun hc => ?_) (fun hc => ?_)
  · have h := sg_p hc h
    exact b30 _ _ _ _ h _ _ _ (lv_sub hl [0, 1, 2] rfl) hP hD hS
  · have h := sg_n hc h
    refine lv_iload_n hx hb d_Re_grow_4 rfl (lv_at hl 1 rfl) ?_
    refine lv_bipush (v := (28 : Int32)) hx hb d_Re_grow_5 (by decide) ?_
    refine lv_icmp_ge (tgt := 30) hx hb d_Re_grow_7 (by decide) (fun hc => ?_) (fun hc => ?_)
    · have h := sg_p hc h
      exact b30 _ _ _ _ h _ _ _ (lv_sub hl [0, 1, 2] rfl) hP hD hS
    · have h := sg_n hc h
      refine lv_aload_n hx hb d_Re_grow_10 rfl (lv_at hl 0 rfl) ?_
      refine va_get (D := D) (ci := 2) (v := .ref (a 9)) (C := R_Re) (T := T_Re) (N := 2) hx hb hts iRe hown hK hP 2 (wB_at2 _ _ _ _) rfl 0 (by decide) k9 (fun _ h9 => h9) rfl d_Re_grow_11 ?_
      refine lv_iload_n hx hb d_Re_grow_14 rfl (lv_at hl 1 rfl) ?_
      refine lv_aload_n hx hb d_Re_grow_15 rfl (lv_at hl 0 rfl) ?_
      refine va_get (D := D) (ci := 2) (v := .ref (a 9)) (C := R_Re) (T := T_Re) (N := 2) hx hb hts iRe hown hK hP 2 (wB_at2 _ _ _ _) rfl 0 (by decide) k9 (fun _ h9 => h9) rfl d_Re_grow_16 ?_
      refine lv_iload_n hx hb d_Re_grow_19 rfl (lv_at hl 1 rfl) ?_
      obtain ⟨hg1, h⟩ := sg_g h
      refine va_iald hx hb hK hP 9 0 (wB_at9 _ _ _ _) rfl hg1 d_Re_grow_20 ?_
      refine lv_iload_n hx hb d_Re_grow_21 rfl (lv_at hl 2 rfl) ?_
      refine lv_iadd hx hb d_Re_grow_22 ?_
      refine va_gets hx hb hZ0 hS hown k13 (fun _ h9 => h9) d_Re_grow_23 ?_
      refine lv_iload_n hx hb d_Re_grow_26 rfl (lv_at hl 1 rfl) ?_
      obtain ⟨hg2, h⟩ := sg_g h
      refine va_ti (v := .int (cbits x1.toNatClampNeg)) hx hb hZ1 hS hg2 rfl d_Re_grow_27 ?_
      refine lv_iand hx hb d_Re_grow_28 ?_
      obtain ⟨hg3, h⟩ := sg_g h
      refine va_iast (x := ((M 2 x1.toNatClampNeg) + x2) &&& (cbits x1.toNatClampNeg)) hx hb hK hP hD hS 9 0 (wB_at9 _ _ _ _) rfl hg3 d_Re_grow_29 (fun H locs hP hD hS => ?_)
      have hP := wB_set9 hP
      have hD := wB_dset9 hD
      exact b30 _ _ _ _ h _ _ _ (lv_sub hl [0, 1, 2] rfl) hP hD hS
def f_Re_isEnabledRequested_20 (S : SS) (M : MM) (y0 : Int32) : Option RR := if ¬ (y0 = 0 ∨ y0 = 1) then none else some (y0, S, M)
def f_Re_isEnabledRequested (S : SS) (M : MM) : Option RR := if (S 2) &&& (M 2 26) = 0 then f_Re_isEnabledRequested_20 S M (0 : Int32) else f_Re_isEnabledRequested_20 S M (1 : Int32)
set_option maxHeartbeats 4000000 in
set_option maxRecDepth 100000 in
theorem c_Re_isEnabledRequested (l : Launch) (D : va_G) (cA : ClassId) (a : Nat → Nat) (S : SS) (M : MM) (q : RR) (h0 : f_Re_isEnabledRequested S M = some q) : Ci l y_Re_isEnabledRequested w_Re_isEnabledRequested rm_Re_isEnabledRequested D vCl [(cA, .int)] (AB a) (ZB a) (wB cA a) [.ref (a 2)] S M q := by
  refine Ci.of (cc := prog_7_method_8_code) (maxL := 1) (ty := .boolean) (by decide) rfl (Nat.le_of_ble_eq_true rfl) ?_
  intro p e s m args below meth c Q hx hb hml hown hts hK hZ ret
  have hown : s.vm.findClass R_Re = some m.cls := hown
  have hts : ∀ w ∈ TB, w.before args s = true := fun w h => hts w (List.mem_cons_of_mem _ h)
  have hZK := ZB_k a
  have k16 := hts _ tb_fl_Re_16
  have k9 := hts _ tb_fl_Re_9
  have b20 : ∀ (S : SS) (M : MM) (y0 : Int32), f_Re_isEnabledRequested_20 S M y0 = some q → BK p l e rm_Re_isEnabledRequested s m args below meth c Q D vCl (AB a) (wB cA a) 1 20 [(0, .ref (a 2))] [.int y0] S M := by
    intro S M y0 h H locs ls hl hP hD hS
    unfold f_Re_isEnabledRequested_20 at h
    obtain ⟨hg1, h⟩ := sg_g h
    exact ret _ _ _ _ _ _ _ h (sg_nb hg1).1 hP hD hS d_Re_isEnabledRequested_20
  intro H locs ls hl hP hD hS
  have hl : lv_has ls 1 [(0, .ref (a 2))] := hl
  have h := h0
  unfold f_Re_isEnabledRequested at h
  refine lv_aload_n hx hb d_Re_isEnabledRequested_0 rfl (lv_at hl 0 rfl) ?_
  refine va_get (D := D) (ci := 2) (v := .int (S 2)) (C := R_Re) (T := T_Re) (N := 2) hx hb hts iRe hown hK hP 2 (wB_at2 _ _ _ _) rfl 1 (by decide) k16 (fun _ h9 => h9) rfl d_Re_isEnabledRequested_1 ?_
  refine lv_aload_n hx hb d_Re_isEnabledRequested_4 rfl (lv_at hl 0 rfl) ?_
  refine va_get (D := D) (ci := 2) (v := .ref (a 9)) (C := R_Re) (T := T_Re) (N := 2) hx hb hts iRe hown hK hP 2 (wB_at2 _ _ _ _) rfl 0 (by decide) k9 (fun _ h9 => h9) rfl d_Re_isEnabledRequested_5 ?_
  refine lv_bipush (v := (26 : Int32)) hx hb d_Re_isEnabledRequested_8 (by decide) ?_
  refine ialdK hx hb hK hP 9 0 (wB_at9 _ _ _ _) rfl 26 (by decide) (by decide) d_Re_isEnabledRequested_10 ?_
  refine lv_iand hx hb d_Re_isEnabledRequested_11 ?_
  refine lv_if_eq (tgt := 19) hx hb d_Re_isEnabledRequested_12 (by decide) (fun hc => ?_) (fun hc => ?_)
  · have h := sg_p hc h
    refine lv_iconst (v := (0 : Int32)) hx hb d_Re_isEnabledRequested_19 (by decide) ?_
    exact b20 _ _ _ h _ _ _ (lv_sub hl [0] rfl) hP hD hS
  · have h := sg_n hc h
    refine lv_iconst (v := (1 : Int32)) hx hb d_Re_isEnabledRequested_15 (by decide) ?_
    refine lv_goto (tgt := 20) hx hb d_Re_isEnabledRequested_16 (by decide) ?_
    exact b20 _ _ _ h _ _ _ (lv_sub hl [0] rfl) hP hD hS
end
