/-! names: classes, fields, methods (made by wip/gen/gen.py out of the claim's listing) -/
def R_Bd : String := "SlotBoard"
def T_Bd : u_T := fun k => match k with
  | 0 => ("SlotBoard", "memory", "LSlotBoard$Memory;", true)
  | 1 => ("SlotBoard", "registers", "LSlotBoard$Registers;", true)
  | 2 => ("SlotBoard", "picture", "LSlotBoard$Picture;", true)
  | 3 => ("SlotBoard", "list", "LSlotBoard$BeamList;", true)
  | 4 => ("SlotBoard", "mover", "LSlotBoard$Mover;", true)
  | 5 => ("SlotBoard", "processor", "LSlotBoard$Processor;", true)
  | 6 => ("SlotBoard", "owned", "[I", true)
  | 7 => ("SlotBoard", "beam", "I", false)
  | _ => ("SlotBoard", "begunFrames", "I", false)
def ty_Bd : Nat → FieldType := fun k => match k with
  | 0 => .object "SlotBoard$Memory"
  | 1 => .object "SlotBoard$Registers"
  | 2 => .object "SlotBoard$Picture"
  | 3 => .object "SlotBoard$BeamList"
  | 4 => .object "SlotBoard$Mover"
  | 5 => .object "SlotBoard$Processor"
  | 6 => .array .int
  | 7 => .int
  | _ => .int
theorem nm_Bd : ∀ a, a < 9 → ∀ b, b < 9 → a ≠ b → (T_Bd a).2.1 ≠ (T_Bd b).2.1 := by decide +kernel
theorem tyok_Bd : ∀ k, k < 9 → parseFieldDescriptor (T_Bd k).2.2.1 = some (ty_Bd k) := by decide +kernel
def R_Me : String := "SlotBoard$Memory"
def T_Me : u_T := fun k => match k with
  | _ => ("SlotBoard$Memory", "words", "[I", true)
def ty_Me : Nat → FieldType := fun k => match k with
  | _ => .array .int
theorem nm_Me : ∀ a, a < 1 → ∀ b, b < 1 → a ≠ b → (T_Me a).2.1 ≠ (T_Me b).2.1 := by decide +kernel
theorem tyok_Me : ∀ k, k < 1 → parseFieldDescriptor (T_Me k).2.2.1 = some (ty_Me k) := by decide +kernel
def R_Re : String := "SlotBoard$Registers"
def T_Re : u_T := fun k => match k with
  | 0 => ("SlotBoard$Registers", "values", "[I", true)
  | _ => ("SlotBoard$Registers", "requests", "I", false)
def ty_Re : Nat → FieldType := fun k => match k with
  | 0 => .array .int
  | _ => .int
theorem nm_Re : ∀ a, a < 2 → ∀ b, b < 2 → a ≠ b → (T_Re a).2.1 ≠ (T_Re b).2.1 := by decide +kernel
theorem tyok_Re : ∀ k, k < 2 → parseFieldDescriptor (T_Re k).2.2.1 = some (ty_Re k) := by decide +kernel
def R_Pi : String := "SlotBoard$Picture"
def T_Pi : u_T := fun k => match k with
  | 0 => ("SlotBoard$Picture", "places", "[I", true)
  | 1 => ("SlotBoard$Picture", "latches", "[I", true)
  | 2 => ("SlotBoard$Picture", "shifters", "[I", true)
  | _ => ("SlotBoard$Picture", "points", "[I", true)
def ty_Pi : Nat → FieldType := fun k => match k with
  | 0 => .array .int
  | 1 => .array .int
  | 2 => .array .int
  | _ => .array .int
theorem nm_Pi : ∀ a, a < 4 → ∀ b, b < 4 → a ≠ b → (T_Pi a).2.1 ≠ (T_Pi b).2.1 := by decide +kernel
theorem tyok_Pi : ∀ k, k < 4 → parseFieldDescriptor (T_Pi k).2.2.1 = some (ty_Pi k) := by decide +kernel
def R_Li : String := "SlotBoard$BeamList"
def T_Li : u_T := fun k => match k with
  | 0 => ("SlotBoard$BeamList", "state", "I", false)
  | 1 => ("SlotBoard$BeamList", "address", "I", false)
  | 2 => ("SlotBoard$BeamList", "first", "I", false)
  | 3 => ("SlotBoard$BeamList", "target", "I", false)
  | 4 => ("SlotBoard$BeamList", "halfway", "Z", false)
  | _ => ("SlotBoard$BeamList", "leavesMoveOut", "Z", false)
def ty_Li : Nat → FieldType := fun k => match k with
  | 0 => .int
  | 1 => .int
  | 2 => .int
  | 3 => .int
  | 4 => .boolean
  | _ => .boolean
theorem nm_Li : ∀ a, a < 6 → ∀ b, b < 6 → a ≠ b → (T_Li a).2.1 ≠ (T_Li b).2.1 := by decide +kernel
theorem tyok_Li : ∀ k, k < 6 → parseFieldDescriptor (T_Li k).2.2.1 = some (ty_Li k) := by decide +kernel
def R_Mo : String := "SlotBoard$Mover"
def T_Mo : u_T := fun k => match k with
  | 0 => ("SlotBoard$Mover", "fetched", "[I", true)
  | 1 => ("SlotBoard$Mover", "busy", "Z", false)
  | 2 => ("SlotBoard$Mover", "zero", "Z", false)
  | 3 => ("SlotBoard$Mover", "width", "I", false)
  | 4 => ("SlotBoard$Mover", "height", "I", false)
  | 5 => ("SlotBoard$Mover", "column", "I", false)
  | 6 => ("SlotBoard$Mover", "row", "I", false)
  | 7 => ("SlotBoard$Mover", "nextChannel", "I", false)
  | 8 => ("SlotBoard$Mover", "beforeA", "I", false)
  | _ => ("SlotBoard$Mover", "beforeB", "I", false)
def ty_Mo : Nat → FieldType := fun k => match k with
  | 0 => .array .int
  | 1 => .boolean
  | 2 => .boolean
  | 3 => .int
  | 4 => .int
  | 5 => .int
  | 6 => .int
  | 7 => .int
  | 8 => .int
  | _ => .int
theorem nm_Mo : ∀ a, a < 10 → ∀ b, b < 10 → a ≠ b → (T_Mo a).2.1 ≠ (T_Mo b).2.1 := by decide +kernel
theorem tyok_Mo : ∀ k, k < 10 → parseFieldDescriptor (T_Mo k).2.2.1 = some (ty_Mo k) := by decide +kernel
def R_Pr : String := "SlotBoard$Processor"
def T_Pr : u_T := fun k => match k with
  | 0 => ("SlotBoard$Processor", "kinds", "[I", true)
  | 1 => ("SlotBoard$Processor", "targets", "[I", true)
  | 2 => ("SlotBoard$Processor", "values", "[I", true)
  | 3 => ("SlotBoard$Processor", "head", "I", false)
  | 4 => ("SlotBoard$Processor", "waiting", "I", false)
  | 5 => ("SlotBoard$Processor", "lost", "I", false)
  | 6 => ("SlotBoard$Processor", "loaded", "I", false)
  | _ => ("SlotBoard$Processor", "loads", "I", false)
def ty_Pr : Nat → FieldType := fun k => match k with
  | 0 => .array .int
  | 1 => .array .int
  | 2 => .array .int
  | 3 => .int
  | 4 => .int
  | 5 => .int
  | 6 => .int
  | _ => .int
theorem nm_Pr : ∀ a, a < 8 → ∀ b, b < 8 → a ≠ b → (T_Pr a).2.1 ≠ (T_Pr b).2.1 := by decide +kernel
theorem tyok_Pr : ∀ k, k < 8 → parseFieldDescriptor (T_Pr k).2.2.1 = some (ty_Pr k) := by decide +kernel
def R_Md : String := "SlotBoardModel"
def T_Md : u_T := fun k => match k with
  | 0 => ("SlotBoardModel", "memory", "[I", true)
  | 1 => ("SlotBoardModel", "has", "[I", true)
  | 2 => ("SlotBoardModel", "picture", "[I", true)
  | 3 => ("SlotBoardModel", "beam", "I", false)
  | 4 => ("SlotBoardModel", "frames", "I", false)
  | 5 => ("SlotBoardModel", "requests", "I", false)
  | 6 => ("SlotBoardModel", "owned", "[I", true)
  | 7 => ("SlotBoardModel", "planePlace", "[I", true)
  | 8 => ("SlotBoardModel", "latch", "[I", true)
  | 9 => ("SlotBoardModel", "shifter", "[I", true)
  | 10 => ("SlotBoardModel", "list", "I", false)
  | 11 => ("SlotBoardModel", "listPlace", "I", false)
  | 12 => ("SlotBoardModel", "firstWord", "I", false)
  | 13 => ("SlotBoardModel", "second", "Z", false)
  | 14 => ("SlotBoardModel", "skips", "Z", false)
  | 15 => ("SlotBoardModel", "target", "I", false)
  | 16 => ("SlotBoardModel", "busy", "Z", false)
  | 17 => ("SlotBoardModel", "zero", "Z", false)
  | 18 => ("SlotBoardModel", "width", "I", false)
  | 19 => ("SlotBoardModel", "height", "I", false)
  | 20 => ("SlotBoardModel", "column", "I", false)
  | 21 => ("SlotBoardModel", "row", "I", false)
  | 22 => ("SlotBoardModel", "channel", "I", false)
  | 23 => ("SlotBoardModel", "beforeA", "I", false)
  | 24 => ("SlotBoardModel", "beforeB", "I", false)
  | 25 => ("SlotBoardModel", "fetched", "[I", true)
  | 26 => ("SlotBoardModel", "lost", "I", false)
  | 27 => ("SlotBoardModel", "queued", "I", false)
  | 28 => ("SlotBoardModel", "queue", "[I", true)
  | 29 => ("SlotBoardModel", "loaded", "I", false)
  | _ => ("SlotBoardModel", "loads", "I", false)
def ty_Md : Nat → FieldType := fun k => match k with
  | 0 => .array .int
  | 1 => .array .int
  | 2 => .array .int
  | 3 => .int
  | 4 => .int
  | 5 => .int
  | 6 => .array .int
  | 7 => .array .int
  | 8 => .array .int
  | 9 => .array .int
  | 10 => .int
  | 11 => .int
  | 12 => .int
  | 13 => .boolean
  | 14 => .boolean
  | 15 => .int
  | 16 => .boolean
  | 17 => .boolean
  | 18 => .int
  | 19 => .int
  | 20 => .int
  | 21 => .int
  | 22 => .int
  | 23 => .int
  | 24 => .int
  | 25 => .array .int
  | 26 => .int
  | 27 => .int
  | 28 => .array .int
  | 29 => .int
  | _ => .int
theorem nm_Md : ∀ a, a < 31 → ∀ b, b < 31 → a ≠ b → (T_Md a).2.1 ≠ (T_Md b).2.1 := by decide +kernel
theorem tyok_Md : ∀ k, k < 31 → parseFieldDescriptor (T_Md k).2.2.1 = some (ty_Md k) := by decide +kernel
abbrev vCl : List vw_C := [(R_Bd, T_Bd, 9), (R_Me, T_Me, 1), (R_Re, T_Re, 2), (R_Pi, T_Pi, 4), (R_Li, T_Li, 6), (R_Mo, T_Mo, 10), (R_Pr, T_Pr, 8), (R_Md, T_Md, 31)]
def y_Bd_init : MethodName := ⟨"SlotBoard", "<init>", "()V"⟩
def y_Bd_access : MethodName := ⟨"SlotBoard", "access", "(III)Z"⟩
def y_Bd_set : MethodName := ⟨"SlotBoard", "set", "(II)Z"⟩
def y_Bd_run : MethodName := ⟨"SlotBoard", "run", "(I)I"⟩
def y_Bd_word : MethodName := ⟨"SlotBoard", "word", "(I)I"⟩
def y_Bd_point : MethodName := ⟨"SlotBoard", "point", "(II)I"⟩
def y_Bd_place : MethodName := ⟨"SlotBoard", "place", "()I"⟩
def y_Bd_frames : MethodName := ⟨"SlotBoard", "frames", "()I"⟩
def y_Bd_slots : MethodName := ⟨"SlotBoard", "slots", "(I)I"⟩
def y_Bd_look : MethodName := ⟨"SlotBoard", "look", "(I)I"⟩
def y_Bd_register : MethodName := ⟨"SlotBoard", "register", "(I)I"⟩
def y_Bd_isAddress : MethodName := ⟨"SlotBoard", "isAddress", "(I)Z"⟩
def y_Bd_oneIf : MethodName := ⟨"SlotBoard", "oneIf", "(Z)I"⟩
def y_Bd_oneClock : MethodName := ⟨"SlotBoard", "oneClock", "()V"⟩
def y_Bd_beginFrame : MethodName := ⟨"SlotBoard", "beginFrame", "()V"⟩
def y_Bd_ownerOfSlot : MethodName := ⟨"SlotBoard", "ownerOfSlot", "(II)I"⟩
def y_Bd_moverOrProcessor : MethodName := ⟨"SlotBoard", "moverOrProcessor", "()I"⟩
def y_Bd_doWorkOf : MethodName := ⟨"SlotBoard", "doWorkOf", "(II)V"⟩
def y_Bd_fetchForList : MethodName := ⟨"SlotBoard", "fetchForList", "()V"⟩
def y_Bd_doFirstAccess : MethodName := ⟨"SlotBoard", "doFirstAccess", "()V"⟩
def y_Bd_writeRegister : MethodName := ⟨"SlotBoard", "writeRegister", "(II)V"⟩
def y_Md_init : MethodName := ⟨"SlotBoardModel", "<init>", "()V"⟩
def y_Md_outside : MethodName := ⟨"SlotBoardModel", "outside", "(III)Z"⟩
def y_Md_control : MethodName := ⟨"SlotBoardModel", "control", "(I)Z"⟩
def y_Md_write : MethodName := ⟨"SlotBoardModel", "write", "(II)V"⟩
def y_Md_startList : MethodName := ⟨"SlotBoardModel", "startList", "()V"⟩
def y_Md_begin : MethodName := ⟨"SlotBoardModel", "begin", "(I)V"⟩
def y_Md_show : MethodName := ⟨"SlotBoardModel", "show", "(II)V"⟩
def y_Md_planeAt : MethodName := ⟨"SlotBoardModel", "planeAt", "(II)I"⟩
def y_Md_fetchPlane : MethodName := ⟨"SlotBoardModel", "fetchPlane", "(II)V"⟩
def y_Md_fetchList : MethodName := ⟨"SlotBoardModel", "fetchList", "()V"⟩
def y_Md_used : MethodName := ⟨"SlotBoardModel", "used", "(I)Z"⟩
def y_Md_nextUsed : MethodName := ⟨"SlotBoardModel", "nextUsed", "(I)I"⟩
def y_Md_wordOf : MethodName := ⟨"SlotBoardModel", "wordOf", "(I)I"⟩
def y_Md_move : MethodName := ⟨"SlotBoardModel", "move", "()V"⟩
def y_Md_nextWord : MethodName := ⟨"SlotBoardModel", "nextWord", "()V"⟩
def y_Md_process : MethodName := ⟨"SlotBoardModel", "process", "()V"⟩
def y_Md_give : MethodName := ⟨"SlotBoardModel", "give", "(II)I"⟩
def y_Md_clock : MethodName := ⟨"SlotBoardModel", "clock", "()I"⟩
def y_Md_run : MethodName := ⟨"SlotBoardModel", "run", "(I)I"⟩
def y_Md_access : MethodName := ⟨"SlotBoardModel", "access", "(III)Z"⟩
def y_Md_set : MethodName := ⟨"SlotBoardModel", "set", "(II)Z"⟩
def y_Md_word : MethodName := ⟨"SlotBoardModel", "word", "(I)I"⟩
def y_Md_point : MethodName := ⟨"SlotBoardModel", "point", "(II)I"⟩
def y_Md_place : MethodName := ⟨"SlotBoardModel", "place", "()I"⟩
def y_Md_frames : MethodName := ⟨"SlotBoardModel", "frames", "()I"⟩
def y_Md_slots : MethodName := ⟨"SlotBoardModel", "slots", "(I)I"⟩
def y_Md_look : MethodName := ⟨"SlotBoardModel", "look", "(I)I"⟩
def y_Md_register : MethodName := ⟨"SlotBoardModel", "register", "(I)I"⟩
def y_Li_init : MethodName := ⟨"SlotBoard$BeamList", "<init>", "()V"⟩
def y_Li_goOnAt : MethodName := ⟨"SlotBoard$BeamList", "goOnAt", "(I)V"⟩
def y_Li_wakeAt : MethodName := ⟨"SlotBoard$BeamList", "wakeAt", "(I)V"⟩
def y_Li_takeWord : MethodName := ⟨"SlotBoard$BeamList", "takeWord", "(II)Z"⟩
def y_Li_movedRegister : MethodName := ⟨"SlotBoard$BeamList", "movedRegister", "()I"⟩
def y_Li_waitOrSkip : MethodName := ⟨"SlotBoard$BeamList", "waitOrSkip", "(II)V"⟩
def y_Me_init : MethodName := ⟨"SlotBoard$Memory", "<init>", "()V"⟩
def y_Me_at : MethodName := ⟨"SlotBoard$Memory", "at", "(I)I"⟩
def y_Me_put : MethodName := ⟨"SlotBoard$Memory", "put", "(II)V"⟩
def y_Mo_init : MethodName := ⟨"SlotBoard$Mover", "<init>", "()V"⟩
def y_Mo_begin : MethodName := ⟨"SlotBoard$Mover", "begin", "(I)V"⟩
def y_Mo_takeSlot : MethodName := ⟨"SlotBoard$Mover", "takeSlot", "(LSlotBoard$Memory;LSlotBoard$Registers;)V"⟩
def y_Mo_usedFrom : MethodName := ⟨"SlotBoard$Mover", "usedFrom", "(II)I"⟩
def y_Mo_isUsed : MethodName := ⟨"SlotBoard$Mover", "isUsed", "(II)Z"⟩
def y_Mo_finishWord : MethodName := ⟨"SlotBoard$Mover", "finishWord", "(ILSlotBoard$Registers;)I"⟩
def y_Mo_wordOf : MethodName := ⟨"SlotBoard$Mover", "wordOf", "(IILSlotBoard$Registers;)I"⟩
def y_Mo_masked : MethodName := ⟨"SlotBoard$Mover", "masked", "(ILSlotBoard$Registers;)I"⟩
def y_Mo_shifted : MethodName := ⟨"SlotBoard$Mover", "shifted", "(III)I"⟩
def y_Mo_combined : MethodName := ⟨"SlotBoard$Mover", "combined", "(IIII)I"⟩
def y_Mo_goOn : MethodName := ⟨"SlotBoard$Mover", "goOn", "(ILSlotBoard$Registers;)V"⟩
def y_Mo_addModulos : MethodName := ⟨"SlotBoard$Mover", "addModulos", "(ILSlotBoard$Registers;)V"⟩
def y_Pi_init : MethodName := ⟨"SlotBoard$Picture", "<init>", "()V"⟩
def y_Pi_isLine : MethodName := ⟨"SlotBoard$Picture", "isLine", "(I)Z"⟩
def y_Pi_isFetchClock : MethodName := ⟨"SlotBoard$Picture", "isFetchClock", "(II)Z"⟩
def y_Pi_isFetchClockOf1 : MethodName := ⟨"SlotBoard$Picture", "isFetchClockOf1", "(I)Z"⟩
def y_Pi_shownAt : MethodName := ⟨"SlotBoard$Picture", "shownAt", "(II)I"⟩
def y_Pi_returnToBases : MethodName := ⟨"SlotBoard$Picture", "returnToBases", "(LSlotBoard$Registers;)V"⟩
def y_Pi_showClock : MethodName := ⟨"SlotBoard$Picture", "showClock", "(IILSlotBoard$Registers;)V"⟩
def y_Pi_fetchAt : MethodName := ⟨"SlotBoard$Picture", "fetchAt", "(ILSlotBoard$Memory;I)V"⟩
def y_Pi_clearLatches : MethodName := ⟨"SlotBoard$Picture", "clearLatches", "()V"⟩
def y_Pi_shiftOut : MethodName := ⟨"SlotBoard$Picture", "shiftOut", "()I"⟩
def y_Pr_init : MethodName := ⟨"SlotBoard$Processor", "<init>", "()V"⟩
def y_Pr_enqueue : MethodName := ⟨"SlotBoard$Processor", "enqueue", "(III)Z"⟩
def y_Pr_wantsSlot : MethodName := ⟨"SlotBoard$Processor", "wantsSlot", "()Z"⟩
def y_Pr_hasLostEnough : MethodName := ⟨"SlotBoard$Processor", "hasLostEnough", "()Z"⟩
def y_Pr_seeMoverSlot : MethodName := ⟨"SlotBoard$Processor", "seeMoverSlot", "()V"⟩
def y_Pr_firstKind : MethodName := ⟨"SlotBoard$Processor", "firstKind", "()I"⟩
def y_Pr_firstTarget : MethodName := ⟨"SlotBoard$Processor", "firstTarget", "()I"⟩
def y_Pr_firstValue : MethodName := ⟨"SlotBoard$Processor", "firstValue", "()I"⟩
def y_Pr_load : MethodName := ⟨"SlotBoard$Processor", "load", "(I)V"⟩
def y_Pr_dropFirst : MethodName := ⟨"SlotBoard$Processor", "dropFirst", "()V"⟩
def y_Re_init : MethodName := ⟨"SlotBoard$Registers", "<init>", "()V"⟩
def y_Re_at : MethodName := ⟨"SlotBoard$Registers", "at", "(I)I"⟩
def y_Re_put : MethodName := ⟨"SlotBoard$Registers", "put", "(II)V"⟩
def y_Re_grow : MethodName := ⟨"SlotBoard$Registers", "grow", "(II)V"⟩
def y_Re_isOn : MethodName := ⟨"SlotBoard$Registers", "isOn", "(I)Z"⟩
def y_Re_request : MethodName := ⟨"SlotBoard$Registers", "request", "(I)V"⟩
def y_Re_clearRequests : MethodName := ⟨"SlotBoard$Registers", "clearRequests", "(I)V"⟩
def y_Re_isEnabledRequested : MethodName := ⟨"SlotBoard$Registers", "isEnabledRequested", "()Z"⟩
/-- the tables' words that hold wherever the tables are as at the start -/
def TB : List Cond := lw_tbl.filter goodWord
theorem tb_in (i : Nat) {w : Cond} (h : tables_1[i]? = some w) (hg : goodWord w = true) : w ∈ TB := List.mem_filter.mpr ⟨List.mem_append_right _ (List.mem_of_getElem? h), hg⟩
theorem tb_inS (i : Nat) {w : Cond} (h : (k2_sels lw_privs)[i]? = some w) (hg : goodWord w = true) : w ∈ TB := List.mem_filter.mpr ⟨List.mem_append_left _ (List.mem_of_getElem? h), hg⟩
theorem tb_good {w : Cond} (h : w ∈ TB) : goodWord w = true := (List.mem_filter.mp h).2
theorem tb_gi {c : Cond} (h : c ∈ TB) : GoodIn TB (c :: TB) := fun w hw => by
  rcases List.mem_cons.mp hw with rfl | hw
  · exact ⟨h, good_of_word (tb_good h)⟩
  · exact ⟨hw, good_of_word (tb_good hw)⟩
theorem tb_ly_Bd_0 : Cond.laysFinal "SlotBoard" "SlotBoard" "memory" "LSlotBoard$Memory;" ∈ TB := tb_in 171 (by decide +kernel) (by decide +kernel)
theorem tb_ly_Bd_1 : Cond.laysFinal "SlotBoard" "SlotBoard" "registers" "LSlotBoard$Registers;" ∈ TB := tb_in 173 (by decide +kernel) (by decide +kernel)
theorem tb_ly_Bd_2 : Cond.laysFinal "SlotBoard" "SlotBoard" "picture" "LSlotBoard$Picture;" ∈ TB := tb_in 175 (by decide +kernel) (by decide +kernel)
theorem tb_ly_Bd_3 : Cond.laysFinal "SlotBoard" "SlotBoard" "list" "LSlotBoard$BeamList;" ∈ TB := tb_in 177 (by decide +kernel) (by decide +kernel)
theorem tb_ly_Bd_4 : Cond.laysFinal "SlotBoard" "SlotBoard" "mover" "LSlotBoard$Mover;" ∈ TB := tb_in 179 (by decide +kernel) (by decide +kernel)
theorem tb_ly_Bd_5 : Cond.laysFinal "SlotBoard" "SlotBoard" "processor" "LSlotBoard$Processor;" ∈ TB := tb_in 181 (by decide +kernel) (by decide +kernel)
theorem tb_ly_Bd_6 : Cond.laysFinal "SlotBoard" "SlotBoard" "owned" "[I" ∈ TB := tb_in 183 (by decide +kernel) (by decide +kernel)
theorem tb_ly_Bd_7 : Cond.lays "SlotBoard" "SlotBoard" "beam" "I" ∈ TB := tb_in 185 (by decide +kernel) (by decide +kernel)
theorem tb_ly_Bd_8 : Cond.lays "SlotBoard" "SlotBoard" "begunFrames" "I" ∈ TB := tb_in 187 (by decide +kernel) (by decide +kernel)
theorem iBd : ∀ w ∈ u_ws R_Bd T_Bd 9, w ∈ TB := by
  intro w hw
  have hw : w ∈ [u_lay R_Bd T_Bd 0, u_lay R_Bd T_Bd 1, u_lay R_Bd T_Bd 2, u_lay R_Bd T_Bd 3, u_lay R_Bd T_Bd 4, u_lay R_Bd T_Bd 5, u_lay R_Bd T_Bd 6, u_lay R_Bd T_Bd 7, u_lay R_Bd T_Bd 8] := hw
  simp only [List.mem_cons, List.not_mem_nil, or_false] at hw
  rcases hw with rfl | rfl | rfl | rfl | rfl | rfl | rfl | rfl | rfl
  · exact tb_ly_Bd_0
  · exact tb_ly_Bd_1
  · exact tb_ly_Bd_2
  · exact tb_ly_Bd_3
  · exact tb_ly_Bd_4
  · exact tb_ly_Bd_5
  · exact tb_ly_Bd_6
  · exact tb_ly_Bd_7
  · exact tb_ly_Bd_8
theorem tb_ly_Me_0 : Cond.laysFinal "SlotBoard$Memory" "SlotBoard$Memory" "words" "[I" ∈ TB := tb_in 25 (by decide +kernel) (by decide +kernel)
theorem iMe : ∀ w ∈ u_ws R_Me T_Me 1, w ∈ TB := by
  intro w hw
  have hw : w ∈ [u_lay R_Me T_Me 0] := hw
  simp only [List.mem_cons, List.not_mem_nil, or_false] at hw
  rcases hw with rfl
  · exact tb_ly_Me_0
theorem tb_ly_Re_0 : Cond.laysFinal "SlotBoard$Registers" "SlotBoard$Registers" "values" "[I" ∈ TB := tb_in 38 (by decide +kernel) (by decide +kernel)
theorem tb_ly_Re_1 : Cond.lays "SlotBoard$Registers" "SlotBoard$Registers" "requests" "I" ∈ TB := tb_in 40 (by decide +kernel) (by decide +kernel)
theorem iRe : ∀ w ∈ u_ws R_Re T_Re 2, w ∈ TB := by
  intro w hw
  have hw : w ∈ [u_lay R_Re T_Re 0, u_lay R_Re T_Re 1] := hw
  simp only [List.mem_cons, List.not_mem_nil, or_false] at hw
  rcases hw with rfl | rfl
  · exact tb_ly_Re_0
  · exact tb_ly_Re_1
theorem tb_ly_Pi_0 : Cond.laysFinal "SlotBoard$Picture" "SlotBoard$Picture" "places" "[I" ∈ TB := tb_in 53 (by decide +kernel) (by decide +kernel)
theorem tb_ly_Pi_1 : Cond.laysFinal "SlotBoard$Picture" "SlotBoard$Picture" "latches" "[I" ∈ TB := tb_in 55 (by decide +kernel) (by decide +kernel)
theorem tb_ly_Pi_2 : Cond.laysFinal "SlotBoard$Picture" "SlotBoard$Picture" "shifters" "[I" ∈ TB := tb_in 57 (by decide +kernel) (by decide +kernel)
theorem tb_ly_Pi_3 : Cond.laysFinal "SlotBoard$Picture" "SlotBoard$Picture" "points" "[I" ∈ TB := tb_in 59 (by decide +kernel) (by decide +kernel)
theorem iPi : ∀ w ∈ u_ws R_Pi T_Pi 4, w ∈ TB := by
  intro w hw
  have hw : w ∈ [u_lay R_Pi T_Pi 0, u_lay R_Pi T_Pi 1, u_lay R_Pi T_Pi 2, u_lay R_Pi T_Pi 3] := hw
  simp only [List.mem_cons, List.not_mem_nil, or_false] at hw
  rcases hw with rfl | rfl | rfl | rfl
  · exact tb_ly_Pi_0
  · exact tb_ly_Pi_1
  · exact tb_ly_Pi_2
  · exact tb_ly_Pi_3
theorem tb_ly_Li_0 : Cond.lays "SlotBoard$BeamList" "SlotBoard$BeamList" "state" "I" ∈ TB := tb_in 76 (by decide +kernel) (by decide +kernel)
theorem tb_ly_Li_1 : Cond.lays "SlotBoard$BeamList" "SlotBoard$BeamList" "address" "I" ∈ TB := tb_in 78 (by decide +kernel) (by decide +kernel)
theorem tb_ly_Li_2 : Cond.lays "SlotBoard$BeamList" "SlotBoard$BeamList" "first" "I" ∈ TB := tb_in 80 (by decide +kernel) (by decide +kernel)
theorem tb_ly_Li_3 : Cond.lays "SlotBoard$BeamList" "SlotBoard$BeamList" "target" "I" ∈ TB := tb_in 82 (by decide +kernel) (by decide +kernel)
theorem tb_ly_Li_4 : Cond.lays "SlotBoard$BeamList" "SlotBoard$BeamList" "halfway" "Z" ∈ TB := tb_in 84 (by decide +kernel) (by decide +kernel)
theorem tb_ly_Li_5 : Cond.lays "SlotBoard$BeamList" "SlotBoard$BeamList" "leavesMoveOut" "Z" ∈ TB := tb_in 86 (by decide +kernel) (by decide +kernel)
theorem iLi : ∀ w ∈ u_ws R_Li T_Li 6, w ∈ TB := by
  intro w hw
  have hw : w ∈ [u_lay R_Li T_Li 0, u_lay R_Li T_Li 1, u_lay R_Li T_Li 2, u_lay R_Li T_Li 3, u_lay R_Li T_Li 4, u_lay R_Li T_Li 5] := hw
  simp only [List.mem_cons, List.not_mem_nil, or_false] at hw
  rcases hw with rfl | rfl | rfl | rfl | rfl | rfl
  · exact tb_ly_Li_0
  · exact tb_ly_Li_1
  · exact tb_ly_Li_2
  · exact tb_ly_Li_3
  · exact tb_ly_Li_4
  · exact tb_ly_Li_5
theorem tb_ly_Mo_0 : Cond.laysFinal "SlotBoard$Mover" "SlotBoard$Mover" "fetched" "[I" ∈ TB := tb_in 107 (by decide +kernel) (by decide +kernel)
theorem tb_ly_Mo_1 : Cond.lays "SlotBoard$Mover" "SlotBoard$Mover" "busy" "Z" ∈ TB := tb_in 109 (by decide +kernel) (by decide +kernel)
theorem tb_ly_Mo_2 : Cond.lays "SlotBoard$Mover" "SlotBoard$Mover" "zero" "Z" ∈ TB := tb_in 111 (by decide +kernel) (by decide +kernel)
theorem tb_ly_Mo_3 : Cond.lays "SlotBoard$Mover" "SlotBoard$Mover" "width" "I" ∈ TB := tb_in 113 (by decide +kernel) (by decide +kernel)
theorem tb_ly_Mo_4 : Cond.lays "SlotBoard$Mover" "SlotBoard$Mover" "height" "I" ∈ TB := tb_in 115 (by decide +kernel) (by decide +kernel)
theorem tb_ly_Mo_5 : Cond.lays "SlotBoard$Mover" "SlotBoard$Mover" "column" "I" ∈ TB := tb_in 117 (by decide +kernel) (by decide +kernel)
theorem tb_ly_Mo_6 : Cond.lays "SlotBoard$Mover" "SlotBoard$Mover" "row" "I" ∈ TB := tb_in 119 (by decide +kernel) (by decide +kernel)
theorem tb_ly_Mo_7 : Cond.lays "SlotBoard$Mover" "SlotBoard$Mover" "nextChannel" "I" ∈ TB := tb_in 121 (by decide +kernel) (by decide +kernel)
theorem tb_ly_Mo_8 : Cond.lays "SlotBoard$Mover" "SlotBoard$Mover" "beforeA" "I" ∈ TB := tb_in 123 (by decide +kernel) (by decide +kernel)
theorem tb_ly_Mo_9 : Cond.lays "SlotBoard$Mover" "SlotBoard$Mover" "beforeB" "I" ∈ TB := tb_in 125 (by decide +kernel) (by decide +kernel)
theorem iMo : ∀ w ∈ u_ws R_Mo T_Mo 10, w ∈ TB := by
  intro w hw
  have hw : w ∈ [u_lay R_Mo T_Mo 0, u_lay R_Mo T_Mo 1, u_lay R_Mo T_Mo 2, u_lay R_Mo T_Mo 3, u_lay R_Mo T_Mo 4, u_lay R_Mo T_Mo 5, u_lay R_Mo T_Mo 6, u_lay R_Mo T_Mo 7, u_lay R_Mo T_Mo 8, u_lay R_Mo T_Mo 9] := hw
  simp only [List.mem_cons, List.not_mem_nil, or_false] at hw
  rcases hw with rfl | rfl | rfl | rfl | rfl | rfl | rfl | rfl | rfl | rfl
  · exact tb_ly_Mo_0
  · exact tb_ly_Mo_1
  · exact tb_ly_Mo_2
  · exact tb_ly_Mo_3
  · exact tb_ly_Mo_4
  · exact tb_ly_Mo_5
  · exact tb_ly_Mo_6
  · exact tb_ly_Mo_7
  · exact tb_ly_Mo_8
  · exact tb_ly_Mo_9
theorem tb_ly_Pr_0 : Cond.laysFinal "SlotBoard$Processor" "SlotBoard$Processor" "kinds" "[I" ∈ TB := tb_in 145 (by decide +kernel) (by decide +kernel)
theorem tb_ly_Pr_1 : Cond.laysFinal "SlotBoard$Processor" "SlotBoard$Processor" "targets" "[I" ∈ TB := tb_in 147 (by decide +kernel) (by decide +kernel)
theorem tb_ly_Pr_2 : Cond.laysFinal "SlotBoard$Processor" "SlotBoard$Processor" "values" "[I" ∈ TB := tb_in 149 (by decide +kernel) (by decide +kernel)
theorem tb_ly_Pr_3 : Cond.lays "SlotBoard$Processor" "SlotBoard$Processor" "head" "I" ∈ TB := tb_in 151 (by decide +kernel) (by decide +kernel)
theorem tb_ly_Pr_4 : Cond.lays "SlotBoard$Processor" "SlotBoard$Processor" "waiting" "I" ∈ TB := tb_in 153 (by decide +kernel) (by decide +kernel)
theorem tb_ly_Pr_5 : Cond.lays "SlotBoard$Processor" "SlotBoard$Processor" "lost" "I" ∈ TB := tb_in 155 (by decide +kernel) (by decide +kernel)
theorem tb_ly_Pr_6 : Cond.lays "SlotBoard$Processor" "SlotBoard$Processor" "loaded" "I" ∈ TB := tb_in 157 (by decide +kernel) (by decide +kernel)
theorem tb_ly_Pr_7 : Cond.lays "SlotBoard$Processor" "SlotBoard$Processor" "loads" "I" ∈ TB := tb_in 159 (by decide +kernel) (by decide +kernel)
theorem iPr : ∀ w ∈ u_ws R_Pr T_Pr 8, w ∈ TB := by
  intro w hw
  have hw : w ∈ [u_lay R_Pr T_Pr 0, u_lay R_Pr T_Pr 1, u_lay R_Pr T_Pr 2, u_lay R_Pr T_Pr 3, u_lay R_Pr T_Pr 4, u_lay R_Pr T_Pr 5, u_lay R_Pr T_Pr 6, u_lay R_Pr T_Pr 7] := hw
  simp only [List.mem_cons, List.not_mem_nil, or_false] at hw
  rcases hw with rfl | rfl | rfl | rfl | rfl | rfl | rfl | rfl
  · exact tb_ly_Pr_0
  · exact tb_ly_Pr_1
  · exact tb_ly_Pr_2
  · exact tb_ly_Pr_3
  · exact tb_ly_Pr_4
  · exact tb_ly_Pr_5
  · exact tb_ly_Pr_6
  · exact tb_ly_Pr_7
theorem tb_ly_Md_0 : Cond.laysFinal "SlotBoardModel" "SlotBoardModel" "memory" "[I" ∈ TB := tb_in 486 (by decide +kernel) (by decide +kernel)
theorem tb_ly_Md_1 : Cond.laysFinal "SlotBoardModel" "SlotBoardModel" "has" "[I" ∈ TB := tb_in 488 (by decide +kernel) (by decide +kernel)
theorem tb_ly_Md_2 : Cond.laysFinal "SlotBoardModel" "SlotBoardModel" "picture" "[I" ∈ TB := tb_in 490 (by decide +kernel) (by decide +kernel)
theorem tb_ly_Md_3 : Cond.lays "SlotBoardModel" "SlotBoardModel" "beam" "I" ∈ TB := tb_in 492 (by decide +kernel) (by decide +kernel)
theorem tb_ly_Md_4 : Cond.lays "SlotBoardModel" "SlotBoardModel" "frames" "I" ∈ TB := tb_in 494 (by decide +kernel) (by decide +kernel)
theorem tb_ly_Md_5 : Cond.lays "SlotBoardModel" "SlotBoardModel" "requests" "I" ∈ TB := tb_in 496 (by decide +kernel) (by decide +kernel)
theorem tb_ly_Md_6 : Cond.laysFinal "SlotBoardModel" "SlotBoardModel" "owned" "[I" ∈ TB := tb_in 498 (by decide +kernel) (by decide +kernel)
theorem tb_ly_Md_7 : Cond.laysFinal "SlotBoardModel" "SlotBoardModel" "planePlace" "[I" ∈ TB := tb_in 500 (by decide +kernel) (by decide +kernel)
theorem tb_ly_Md_8 : Cond.laysFinal "SlotBoardModel" "SlotBoardModel" "latch" "[I" ∈ TB := tb_in 502 (by decide +kernel) (by decide +kernel)
theorem tb_ly_Md_9 : Cond.laysFinal "SlotBoardModel" "SlotBoardModel" "shifter" "[I" ∈ TB := tb_in 504 (by decide +kernel) (by decide +kernel)
theorem tb_ly_Md_10 : Cond.lays "SlotBoardModel" "SlotBoardModel" "list" "I" ∈ TB := tb_in 506 (by decide +kernel) (by decide +kernel)
theorem tb_ly_Md_11 : Cond.lays "SlotBoardModel" "SlotBoardModel" "listPlace" "I" ∈ TB := tb_in 508 (by decide +kernel) (by decide +kernel)
theorem tb_ly_Md_12 : Cond.lays "SlotBoardModel" "SlotBoardModel" "firstWord" "I" ∈ TB := tb_in 510 (by decide +kernel) (by decide +kernel)
theorem tb_ly_Md_13 : Cond.lays "SlotBoardModel" "SlotBoardModel" "second" "Z" ∈ TB := tb_in 512 (by decide +kernel) (by decide +kernel)
theorem tb_ly_Md_14 : Cond.lays "SlotBoardModel" "SlotBoardModel" "skips" "Z" ∈ TB := tb_in 514 (by decide +kernel) (by decide +kernel)
theorem tb_ly_Md_15 : Cond.lays "SlotBoardModel" "SlotBoardModel" "target" "I" ∈ TB := tb_in 516 (by decide +kernel) (by decide +kernel)
theorem tb_ly_Md_16 : Cond.lays "SlotBoardModel" "SlotBoardModel" "busy" "Z" ∈ TB := tb_in 518 (by decide +kernel) (by decide +kernel)
theorem tb_ly_Md_17 : Cond.lays "SlotBoardModel" "SlotBoardModel" "zero" "Z" ∈ TB := tb_in 520 (by decide +kernel) (by decide +kernel)
theorem tb_ly_Md_18 : Cond.lays "SlotBoardModel" "SlotBoardModel" "width" "I" ∈ TB := tb_in 522 (by decide +kernel) (by decide +kernel)
theorem tb_ly_Md_19 : Cond.lays "SlotBoardModel" "SlotBoardModel" "height" "I" ∈ TB := tb_in 524 (by decide +kernel) (by decide +kernel)
theorem tb_ly_Md_20 : Cond.lays "SlotBoardModel" "SlotBoardModel" "column" "I" ∈ TB := tb_in 526 (by decide +kernel) (by decide +kernel)
theorem tb_ly_Md_21 : Cond.lays "SlotBoardModel" "SlotBoardModel" "row" "I" ∈ TB := tb_in 528 (by decide +kernel) (by decide +kernel)
theorem tb_ly_Md_22 : Cond.lays "SlotBoardModel" "SlotBoardModel" "channel" "I" ∈ TB := tb_in 530 (by decide +kernel) (by decide +kernel)
theorem tb_ly_Md_23 : Cond.lays "SlotBoardModel" "SlotBoardModel" "beforeA" "I" ∈ TB := tb_in 532 (by decide +kernel) (by decide +kernel)
theorem tb_ly_Md_24 : Cond.lays "SlotBoardModel" "SlotBoardModel" "beforeB" "I" ∈ TB := tb_in 534 (by decide +kernel) (by decide +kernel)
theorem tb_ly_Md_25 : Cond.laysFinal "SlotBoardModel" "SlotBoardModel" "fetched" "[I" ∈ TB := tb_in 536 (by decide +kernel) (by decide +kernel)
theorem tb_ly_Md_26 : Cond.lays "SlotBoardModel" "SlotBoardModel" "lost" "I" ∈ TB := tb_in 538 (by decide +kernel) (by decide +kernel)
theorem tb_ly_Md_27 : Cond.lays "SlotBoardModel" "SlotBoardModel" "queued" "I" ∈ TB := tb_in 540 (by decide +kernel) (by decide +kernel)
theorem tb_ly_Md_28 : Cond.laysFinal "SlotBoardModel" "SlotBoardModel" "queue" "[I" ∈ TB := tb_in 542 (by decide +kernel) (by decide +kernel)
theorem tb_ly_Md_29 : Cond.lays "SlotBoardModel" "SlotBoardModel" "loaded" "I" ∈ TB := tb_in 544 (by decide +kernel) (by decide +kernel)
theorem tb_ly_Md_30 : Cond.lays "SlotBoardModel" "SlotBoardModel" "loads" "I" ∈ TB := tb_in 546 (by decide +kernel) (by decide +kernel)
theorem iMd : ∀ w ∈ u_ws R_Md T_Md 31, w ∈ TB := by
  intro w hw
  have hw : w ∈ [u_lay R_Md T_Md 0, u_lay R_Md T_Md 1, u_lay R_Md T_Md 2, u_lay R_Md T_Md 3, u_lay R_Md T_Md 4, u_lay R_Md T_Md 5, u_lay R_Md T_Md 6, u_lay R_Md T_Md 7, u_lay R_Md T_Md 8, u_lay R_Md T_Md 9, u_lay R_Md T_Md 10, u_lay R_Md T_Md 11, u_lay R_Md T_Md 12, u_lay R_Md T_Md 13, u_lay R_Md T_Md 14, u_lay R_Md T_Md 15, u_lay R_Md T_Md 16, u_lay R_Md T_Md 17, u_lay R_Md T_Md 18, u_lay R_Md T_Md 19, u_lay R_Md T_Md 20, u_lay R_Md T_Md 21, u_lay R_Md T_Md 22, u_lay R_Md T_Md 23, u_lay R_Md T_Md 24, u_lay R_Md T_Md 25, u_lay R_Md T_Md 26, u_lay R_Md T_Md 27, u_lay R_Md T_Md 28, u_lay R_Md T_Md 29, u_lay R_Md T_Md 30] := hw
  simp only [List.mem_cons, List.not_mem_nil, or_false] at hw
  rcases hw with rfl | rfl | rfl | rfl | rfl | rfl | rfl | rfl | rfl | rfl | rfl | rfl | rfl | rfl | rfl | rfl | rfl | rfl | rfl | rfl | rfl | rfl | rfl | rfl | rfl | rfl | rfl | rfl | rfl | rfl | rfl
  · exact tb_ly_Md_0
  · exact tb_ly_Md_1
  · exact tb_ly_Md_2
  · exact tb_ly_Md_3
  · exact tb_ly_Md_4
  · exact tb_ly_Md_5
  · exact tb_ly_Md_6
  · exact tb_ly_Md_7
  · exact tb_ly_Md_8
  · exact tb_ly_Md_9
  · exact tb_ly_Md_10
  · exact tb_ly_Md_11
  · exact tb_ly_Md_12
  · exact tb_ly_Md_13
  · exact tb_ly_Md_14
  · exact tb_ly_Md_15
  · exact tb_ly_Md_16
  · exact tb_ly_Md_17
  · exact tb_ly_Md_18
  · exact tb_ly_Md_19
  · exact tb_ly_Md_20
  · exact tb_ly_Md_21
  · exact tb_ly_Md_22
  · exact tb_ly_Md_23
  · exact tb_ly_Md_24
  · exact tb_ly_Md_25
  · exact tb_ly_Md_26
  · exact tb_ly_Md_27
  · exact tb_ly_Md_28
  · exact tb_ly_Md_29
  · exact tb_ly_Md_30
