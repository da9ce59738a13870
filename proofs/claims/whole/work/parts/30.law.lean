/-! THE CLAIM OUT OF ONE WALK OF THE LAW'S BODY. Your part is whole_start (and what it stands on); all else here is the same for every law, but numbers. -/
def R_law : String := "SlotBoardLaw"
def lw_P (b : Addr) (xs : List Int32) (args : Array Value) (s : State) : Prop := args = #[.ref b] ∧ s.IntsAt b xs ∧ xs.length ≤ 2048 ∧ (Jvm.Cond.and given_1 narrow_1).before args s = true
def lw_Q (_ : Array Value) (s : State) (o : Outcome) (t : State) : Prop := o = .returned (some (.int 1)) ∧ Framed s o t [] 28 1486
def lw_Z (below : List Frame) (a : Array Value) (s : State) : State → Prop := fun t => ∃ o, t.status = .running ∧ Ended t below o ∧ lw_Q a s o t
/-- the law's own end, with 1 on the stack, nothing written that was there before, its room as the claim has it -/
theorem lw_ret {p : Program} {l : Launch} {e : Env} {s : State} {m : MethodId} {below : List Frame} {meth : Method} {c : Code} {b : Nat} (hx : p.tables.exec = Jvm.exec) (hb : c.code = code) (hr : meth.sig.returnType = ret) (hlocks : meth.locks = false) {pc : Nat} {H : Heap} {ls : Array Slot} (hdg : decode code pc = .ok (.ireturn, 1)) : W p l e room_1 s m #[Value.ref b] below meth c H [] 28 1486 (lw_Z below #[Value.ref b] s) (F0 m pc ls [.int 1]) := by
  intro T hT X
  obtain ⟨fs, hret, hrun, hended, hW, hframe⟩ := X.leave (v := some (.int 1)) (hlocks := hlocks) (fun h => by rw [hr] at h; cases h)
  have hmeth' : T.vm.method? m = some meth := X.method'
  refine ⟨T.setFrames fs, ?_, .returned (some (.int 1)), hrun, hended, rfl, ⟨_, rfl⟩, hW, hframe⟩
  jvm_step X.here [X.here.top, hx, hb, hdg, hmeth', hr, ret, narrow_b1]
  (try refine ⟨rfl, ?_⟩); (try refine ⟨rfl, ?_⟩)
  first | (intro acts; rw [hret _ acts rfl rfl rfl]) | rw [hret _ _ rfl rfl rfl]
  exact Steps.refl _
/-- what holds at the law's entry: the machine, the code, the tables' words (any of lw_tbl by 'hts w (by decide +kernel)'), the script of L ints xs at the cell b, what the Statement gives of the start (any of its parts by flat_of_before) -/
def lw_At (p : Program) (s : State) (m : MethodId) (meth : Method) (c : Code) (b L : Nat) (xs : Nat → Int32) : Prop :=
  p.tables.exec = Jvm.exec ∧ c.code = code ∧ meth.sig.returnType = ret ∧ c.maxLocals = 4 ∧ s.vm.findClass R_law = some m.cls ∧ (∀ w ∈ lw_tbl, w.before #[Value.ref b] s = true) ∧ va_X b L xs s s.heap ∧ b < s.heap.size ∧ meth.locks = false ∧ (Jvm.Cond.and given_1 narrow_1).before #[Value.ref b] s = true
/-! The law's walk. -/
theorem wB_adr {cA : ClassId} {a : Nat → Nat} {S : SS} {M : MM} {k : Nat} {q : Nat × va_E} (h : (wB cA a S M)[k]? = some q) : k < 18 ∧ q.1 = a k := by
  have h1 : ((wB cA a S M).map (fun x => x.1))[k]? = some q.1 := by rw [List.getElem?_map, h]; rfl
  have e : (wB cA a S M).map (fun x => x.1) = (List.range 18).map a := rfl
  rw [e, List.getElem?_map] at h1
  by_cases hk : k < 18
  · rw [List.getElem?_range hk] at h1
    exact ⟨hk, (Option.some.inj h1).symm⟩
  · rw [List.getElem?_eq_none (by rw [List.length_range]; omega)] at h1
    cases h1
theorem wM_adr {cA : ClassId} {b : Nat → Nat} {S : SS} {M : MM} {k : Nat} {q : Nat × va_E} (h : (wM cA b S M)[k]? = some q) : k < 10 ∧ q.1 = b k := by
  have h1 : ((wM cA b S M).map (fun x => x.1))[k]? = some q.1 := by rw [List.getElem?_map, h]; rfl
  have e : (wM cA b S M).map (fun x => x.1) = (List.range 10).map b := rfl
  rw [e, List.getElem?_map] at h1
  by_cases hk : k < 10
  · rw [List.getElem?_range hk] at h1
    exact ⟨hk, (Option.some.inj h1).symm⟩
  · rw [List.getElem?_eq_none (by rw [List.length_range]; omega)] at h1
    cases h1
def Inj (n : Nat) (a : Nat → Nat) : Prop := ∀ i j, i < n → j < n → a i = a j → i = j
theorem wB_D {cA : ClassId} {a : Nat → Nat} {S : SS} {M : MM} (h : Inj 18 a) : va_D (AB a) (wB cA a S M) := by
  refine ⟨fun i j p q hp hq e => ?_, fun k q hq => ?_⟩
  · obtain ⟨a1, a2⟩ := wB_adr hp
    obtain ⟨b1, b2⟩ := wB_adr hq
    exact h i j a1 b1 (by rw [← a2, ← b2]; exact e)
  · obtain ⟨a1, a2⟩ := wB_adr hq
    exact ⟨k, a1, a2⟩
theorem wM_D {cA : ClassId} {b : Nat → Nat} {S : SS} {M : MM} (h : Inj 10 b) : va_D (AM b) (wM cA b S M) := by
  refine ⟨fun i j p q hp hq e => ?_, fun k q hq => ?_⟩
  · obtain ⟨a1, a2⟩ := wM_adr hp
    obtain ⟨b1, b2⟩ := wM_adr hq
    exact h i j a1 b1 (by rw [← a2, ← b2]; exact e)
  · obtain ⟨a1, a2⟩ := wM_adr hq
    exact ⟨k, a1, a2⟩
section LCALL
variable {p : Program} {l : Launch} {e : Env} {R : Room} {s : State} {m : MethodId} {args : Array Value} {below : List Frame} {meth : Method} {c : Code} {H : Heap} {locs : List Loc} {cells slots : Nat} {Q : State → Prop}
variable {y : MethodName} {bytes cc : ByteArray} {maxL nL n index pc : Nat} {ret : Option FieldType} {ws : List Cond} {rm : Room} {Ts : List Cond} {own C : String} {b : Nat} {As rest st : List Value} {ls : Array Slot}
variable {D : va_G} {cl : List vw_C} {tys : List (ClassId × FieldType)} {A A0 : Nat → Prop} {Z : State → Heap → Prop} {wf : SS → MM → va_W} {S : SS} {M : MM} {q : RR} {ci : Nat} {fs : List Value} {T : u_T} {N : Nat} {w2 : va_W}
theorem lcall (hX : CallFix p m c cc nL s args Ts own) (hM : Ci l y ws rm D cl tys A Z wf (.ref b :: As) S M q) (cw : CallW R s args own C index y bytes maxL ret ws rm 0 0 n) (hZK : ZK A Z) (hK : va_K D cl tys s) (hZ : Z s s.heap) (hP : va_P D cl (wf S M) H) (hD : va_D A (wf S M)) (hS : va_S A0 s.heap H locs) (hA0 : ∀ q, A q → A0 q) (hlt : ∀ q, q < s.heap.size → ¬ A0 q) (hP2 : va_P D cl w2 H) (hap : ∀ (k : Nat) (x : Nat × va_E), w2[k]? = some x → ¬ A x.1) (q0 : Nat) (he : (wf S M)[q0]? = some (b, .inr (ci, fs))) (hc : cl[ci]? = some (C, T, N)) (hn : As.length = n) (hsize : ls.size = nL) (hst : st = As.reverse ++ .ref b :: rest) (hW : (rest.map fun v => v.category).sum ≤ 8) (hdg : decode cc pc = .ok (.invokevirtual index, 3)) (hf : cells ≤ R.cells ∧ slots ≤ R.slots)
    (kk : ∀ (H1 : Heap) (locs1 : List Loc), va_P D cl (wf q.2.1 q.2.2) H1 → va_P D cl w2 H1 → va_S A0 s.heap H1 locs1 → W p l e R s m args below meth c H1 locs1 cells slots Q (F0 m (pc + 3) ls (.int q.1 :: rest))) : W p l e R s m args below meth c H locs cells slots Q (F0 m pc ls st) := by
  subst hst
  refine va_calli (va_runV (As := As) (rest := rest) hX hM cw ⟨Wo.blind hZK, va_recv hK hP hc he, fun U hU hW => ⟨rfl, by rw [hU]; exact hP, va_K.moved hW.alike hK, hD, hZK s U s.heap _ (Or.inr hW) (fun q h1 _ => by rw [hU]; exact hS.2.1 q h1 (hlt q h1)) hZ⟩⟩ rfl hn hsize rfl (lv_room hW) hdg hf) hS (fun q _ h => hA0 q h) (fun q h => hA0 q h) (fun r u t H1 locs1 ht hvm hp hB hz hk hS1 => ?_)
  obtain ⟨rfl, rfl⟩ := hp
  rw [ht] at hB
  exact kk H1 locs1 hB.1 (hP2.kept (fun k x hx => hk x.1 (hP2 k x hx).lt (hap k x hx))) hS1
end LCALL
theorem d_La_0 : decode code 0 = .ok (.new 7, 3) := by decide +kernel
theorem d_La_3 : decode code 3 = .ok (.dup, 1) := by decide +kernel
theorem d_La_4 : decode code 4 = .ok (.invokespecial 9, 3) := by decide +kernel
theorem d_La_7 : decode code 7 = .ok (.astore_n 1, 1) := by decide +kernel
theorem d_La_8 : decode code 8 = .ok (.new 10, 3) := by decide +kernel
theorem d_La_11 : decode code 11 = .ok (.dup, 1) := by decide +kernel
theorem d_La_12 : decode code 12 = .ok (.invokespecial 12, 3) := by decide +kernel
theorem d_La_15 : decode code 15 = .ok (.astore_n 2, 1) := by decide +kernel
theorem d_La_16 : decode code 16 = .ok (.iconst 0, 1) := by decide +kernel
theorem d_La_17 : decode code 17 = .ok (.istore_n 3, 1) := by decide +kernel
theorem d_La_18 : decode code 18 = .ok (.iload_n 3, 1) := by decide +kernel
theorem d_La_19 : decode code 19 = .ok (.aload_n 0, 1) := by decide +kernel
theorem d_La_20 : decode code 20 = .ok (.arraylength, 1) := by decide +kernel
theorem d_La_21 : decode code 21 = .ok (.iconst 4, 1) := by decide +kernel
theorem d_La_22 : decode code 22 = .ok (.isub, 1) := by decide +kernel
theorem d_La_23 : decode code 23 = .ok (.if_icmp .gt 321, 3) := by decide +kernel
theorem d_La_26 : decode code 26 = .ok (.aload_n 0, 1) := by decide +kernel
theorem d_La_27 : decode code 27 = .ok (.iload_n 3, 1) := by decide +kernel
theorem d_La_28 : decode code 28 = .ok (.iaload, 1) := by decide +kernel
theorem d_La_29 : decode code 29 = .ok (.bipush 15, 2) := by decide +kernel
theorem d_La_31 : decode code 31 = .ok (.iand, 1) := by decide +kernel
theorem d_La_32 : decode code 32 = .ok (.tableswitch 306 0 9 #[56, 99, 132, 155, 178, 211, 224, 237, 260, 283], 56) := by decide +kernel
theorem d_La_88 : decode code 88 = .ok (.aload_n 1, 1) := by decide +kernel
theorem d_La_89 : decode code 89 = .ok (.aload_n 0, 1) := by decide +kernel
theorem d_La_90 : decode code 90 = .ok (.iload_n 3, 1) := by decide +kernel
theorem d_La_91 : decode code 91 = .ok (.iconst 1, 1) := by decide +kernel
theorem d_La_92 : decode code 92 = .ok (.iadd, 1) := by decide +kernel
theorem d_La_93 : decode code 93 = .ok (.iaload, 1) := by decide +kernel
theorem d_La_94 : decode code 94 = .ok (.aload_n 0, 1) := by decide +kernel
theorem d_La_95 : decode code 95 = .ok (.iload_n 3, 1) := by decide +kernel
theorem d_La_96 : decode code 96 = .ok (.iconst 2, 1) := by decide +kernel
theorem d_La_97 : decode code 97 = .ok (.iadd, 1) := by decide +kernel
theorem d_La_98 : decode code 98 = .ok (.iaload, 1) := by decide +kernel
theorem d_La_99 : decode code 99 = .ok (.aload_n 0, 1) := by decide +kernel
theorem d_La_100 : decode code 100 = .ok (.iload_n 3, 1) := by decide +kernel
theorem d_La_101 : decode code 101 = .ok (.iconst 3, 1) := by decide +kernel
theorem d_La_102 : decode code 102 = .ok (.iadd, 1) := by decide +kernel
theorem d_La_103 : decode code 103 = .ok (.iaload, 1) := by decide +kernel
theorem d_La_104 : decode code 104 = .ok (.invokevirtual 13, 3) := by decide +kernel
theorem d_La_107 : decode code 107 = .ok (.aload_n 2, 1) := by decide +kernel
theorem d_La_108 : decode code 108 = .ok (.aload_n 0, 1) := by decide +kernel
theorem d_La_109 : decode code 109 = .ok (.iload_n 3, 1) := by decide +kernel
theorem d_La_110 : decode code 110 = .ok (.iconst 1, 1) := by decide +kernel
theorem d_La_111 : decode code 111 = .ok (.iadd, 1) := by decide +kernel
theorem d_La_112 : decode code 112 = .ok (.iaload, 1) := by decide +kernel
theorem d_La_113 : decode code 113 = .ok (.aload_n 0, 1) := by decide +kernel
theorem d_La_114 : decode code 114 = .ok (.iload_n 3, 1) := by decide +kernel
theorem d_La_115 : decode code 115 = .ok (.iconst 2, 1) := by decide +kernel
theorem d_La_116 : decode code 116 = .ok (.iadd, 1) := by decide +kernel
theorem d_La_117 : decode code 117 = .ok (.iaload, 1) := by decide +kernel
theorem d_La_118 : decode code 118 = .ok (.aload_n 0, 1) := by decide +kernel
theorem d_La_119 : decode code 119 = .ok (.iload_n 3, 1) := by decide +kernel
theorem d_La_120 : decode code 120 = .ok (.iconst 3, 1) := by decide +kernel
theorem d_La_121 : decode code 121 = .ok (.iadd, 1) := by decide +kernel
theorem d_La_122 : decode code 122 = .ok (.iaload, 1) := by decide +kernel
theorem d_La_123 : decode code 123 = .ok (.invokevirtual 17, 3) := by decide +kernel
theorem d_La_126 : decode code 126 = .ok (.if_icmp .eq 212, 3) := by decide +kernel
theorem d_La_129 : decode code 129 = .ok (.iconst 0, 1) := by decide +kernel
theorem d_La_130 : decode code 130 = .ok (.ireturn, 1) := by decide +kernel
theorem d_La_131 : decode code 131 = .ok (.aload_n 1, 1) := by decide +kernel
theorem d_La_132 : decode code 132 = .ok (.aload_n 0, 1) := by decide +kernel
theorem d_La_133 : decode code 133 = .ok (.iload_n 3, 1) := by decide +kernel
theorem d_La_134 : decode code 134 = .ok (.iconst 1, 1) := by decide +kernel
theorem d_La_135 : decode code 135 = .ok (.iadd, 1) := by decide +kernel
theorem d_La_136 : decode code 136 = .ok (.iaload, 1) := by decide +kernel
theorem d_La_137 : decode code 137 = .ok (.aload_n 0, 1) := by decide +kernel
theorem d_La_138 : decode code 138 = .ok (.iload_n 3, 1) := by decide +kernel
theorem d_La_139 : decode code 139 = .ok (.iconst 2, 1) := by decide +kernel
theorem d_La_140 : decode code 140 = .ok (.iadd, 1) := by decide +kernel
theorem d_La_141 : decode code 141 = .ok (.iaload, 1) := by decide +kernel
theorem d_La_142 : decode code 142 = .ok (.invokevirtual 18, 3) := by decide +kernel
theorem d_La_145 : decode code 145 = .ok (.aload_n 2, 1) := by decide +kernel
theorem d_La_146 : decode code 146 = .ok (.aload_n 0, 1) := by decide +kernel
theorem d_La_147 : decode code 147 = .ok (.iload_n 3, 1) := by decide +kernel
theorem d_La_148 : decode code 148 = .ok (.iconst 1, 1) := by decide +kernel
theorem d_La_149 : decode code 149 = .ok (.iadd, 1) := by decide +kernel
theorem d_La_150 : decode code 150 = .ok (.iaload, 1) := by decide +kernel
theorem d_La_151 : decode code 151 = .ok (.aload_n 0, 1) := by decide +kernel
theorem d_La_152 : decode code 152 = .ok (.iload_n 3, 1) := by decide +kernel
theorem d_La_153 : decode code 153 = .ok (.iconst 2, 1) := by decide +kernel
theorem d_La_154 : decode code 154 = .ok (.iadd, 1) := by decide +kernel
theorem d_La_155 : decode code 155 = .ok (.iaload, 1) := by decide +kernel
theorem d_La_156 : decode code 156 = .ok (.invokevirtual 22, 3) := by decide +kernel
theorem d_La_159 : decode code 159 = .ok (.if_icmp .eq 179, 3) := by decide +kernel
theorem d_La_162 : decode code 162 = .ok (.iconst 0, 1) := by decide +kernel
theorem d_La_163 : decode code 163 = .ok (.ireturn, 1) := by decide +kernel
theorem d_La_164 : decode code 164 = .ok (.aload_n 1, 1) := by decide +kernel
theorem d_La_165 : decode code 165 = .ok (.aload_n 0, 1) := by decide +kernel
theorem d_La_166 : decode code 166 = .ok (.iload_n 3, 1) := by decide +kernel
theorem d_La_167 : decode code 167 = .ok (.iconst 1, 1) := by decide +kernel
theorem d_La_168 : decode code 168 = .ok (.iadd, 1) := by decide +kernel
theorem d_La_169 : decode code 169 = .ok (.iaload, 1) := by decide +kernel
theorem d_La_170 : decode code 170 = .ok (.invokevirtual 23, 3) := by decide +kernel
theorem d_La_173 : decode code 173 = .ok (.aload_n 2, 1) := by decide +kernel
theorem d_La_174 : decode code 174 = .ok (.aload_n 0, 1) := by decide +kernel
theorem d_La_175 : decode code 175 = .ok (.iload_n 3, 1) := by decide +kernel
theorem d_La_176 : decode code 176 = .ok (.iconst 1, 1) := by decide +kernel
theorem d_La_177 : decode code 177 = .ok (.iadd, 1) := by decide +kernel
theorem d_La_178 : decode code 178 = .ok (.iaload, 1) := by decide +kernel
theorem d_La_179 : decode code 179 = .ok (.invokevirtual 27, 3) := by decide +kernel
theorem d_La_182 : decode code 182 = .ok (.if_icmp .eq 156, 3) := by decide +kernel
theorem d_La_185 : decode code 185 = .ok (.iconst 0, 1) := by decide +kernel
theorem d_La_186 : decode code 186 = .ok (.ireturn, 1) := by decide +kernel
theorem d_La_187 : decode code 187 = .ok (.aload_n 1, 1) := by decide +kernel
theorem d_La_188 : decode code 188 = .ok (.aload_n 0, 1) := by decide +kernel
theorem d_La_189 : decode code 189 = .ok (.iload_n 3, 1) := by decide +kernel
theorem d_La_190 : decode code 190 = .ok (.iconst 1, 1) := by decide +kernel
theorem d_La_191 : decode code 191 = .ok (.iadd, 1) := by decide +kernel
theorem d_La_192 : decode code 192 = .ok (.iaload, 1) := by decide +kernel
theorem d_La_193 : decode code 193 = .ok (.invokevirtual 28, 3) := by decide +kernel
theorem d_La_196 : decode code 196 = .ok (.aload_n 2, 1) := by decide +kernel
theorem d_La_197 : decode code 197 = .ok (.aload_n 0, 1) := by decide +kernel
theorem d_La_198 : decode code 198 = .ok (.iload_n 3, 1) := by decide +kernel
theorem d_La_199 : decode code 199 = .ok (.iconst 1, 1) := by decide +kernel
theorem d_La_200 : decode code 200 = .ok (.iadd, 1) := by decide +kernel
theorem d_La_201 : decode code 201 = .ok (.iaload, 1) := by decide +kernel
theorem d_La_202 : decode code 202 = .ok (.invokevirtual 31, 3) := by decide +kernel
theorem d_La_205 : decode code 205 = .ok (.if_icmp .eq 133, 3) := by decide +kernel
theorem d_La_208 : decode code 208 = .ok (.iconst 0, 1) := by decide +kernel
theorem d_La_209 : decode code 209 = .ok (.ireturn, 1) := by decide +kernel
theorem d_La_210 : decode code 210 = .ok (.aload_n 1, 1) := by decide +kernel
theorem d_La_211 : decode code 211 = .ok (.aload_n 0, 1) := by decide +kernel
theorem d_La_212 : decode code 212 = .ok (.iload_n 3, 1) := by decide +kernel
theorem d_La_213 : decode code 213 = .ok (.iconst 1, 1) := by decide +kernel
theorem d_La_214 : decode code 214 = .ok (.iadd, 1) := by decide +kernel
theorem d_La_215 : decode code 215 = .ok (.iaload, 1) := by decide +kernel
theorem d_La_216 : decode code 216 = .ok (.aload_n 0, 1) := by decide +kernel
theorem d_La_217 : decode code 217 = .ok (.iload_n 3, 1) := by decide +kernel
theorem d_La_218 : decode code 218 = .ok (.iconst 2, 1) := by decide +kernel
theorem d_La_219 : decode code 219 = .ok (.iadd, 1) := by decide +kernel
theorem d_La_220 : decode code 220 = .ok (.iaload, 1) := by decide +kernel
theorem d_La_221 : decode code 221 = .ok (.invokevirtual 32, 3) := by decide +kernel
theorem d_La_224 : decode code 224 = .ok (.aload_n 2, 1) := by decide +kernel
theorem d_La_225 : decode code 225 = .ok (.aload_n 0, 1) := by decide +kernel
theorem d_La_226 : decode code 226 = .ok (.iload_n 3, 1) := by decide +kernel
theorem d_La_227 : decode code 227 = .ok (.iconst 1, 1) := by decide +kernel
theorem d_La_228 : decode code 228 = .ok (.iadd, 1) := by decide +kernel
theorem d_La_229 : decode code 229 = .ok (.iaload, 1) := by decide +kernel
theorem d_La_230 : decode code 230 = .ok (.aload_n 0, 1) := by decide +kernel
theorem d_La_231 : decode code 231 = .ok (.iload_n 3, 1) := by decide +kernel
theorem d_La_232 : decode code 232 = .ok (.iconst 2, 1) := by decide +kernel
theorem d_La_233 : decode code 233 = .ok (.iadd, 1) := by decide +kernel
theorem d_La_234 : decode code 234 = .ok (.iaload, 1) := by decide +kernel
theorem d_La_235 : decode code 235 = .ok (.invokevirtual 36, 3) := by decide +kernel
theorem d_La_238 : decode code 238 = .ok (.if_icmp .eq 100, 3) := by decide +kernel
theorem d_La_241 : decode code 241 = .ok (.iconst 0, 1) := by decide +kernel
theorem d_La_242 : decode code 242 = .ok (.ireturn, 1) := by decide +kernel
theorem d_La_243 : decode code 243 = .ok (.aload_n 1, 1) := by decide +kernel
theorem d_La_244 : decode code 244 = .ok (.invokevirtual 37, 3) := by decide +kernel
theorem d_La_247 : decode code 247 = .ok (.aload_n 2, 1) := by decide +kernel
theorem d_La_248 : decode code 248 = .ok (.invokevirtual 41, 3) := by decide +kernel
theorem d_La_251 : decode code 251 = .ok (.if_icmp .eq 87, 3) := by decide +kernel
theorem d_La_254 : decode code 254 = .ok (.iconst 0, 1) := by decide +kernel
theorem d_La_255 : decode code 255 = .ok (.ireturn, 1) := by decide +kernel
theorem d_La_256 : decode code 256 = .ok (.aload_n 1, 1) := by decide +kernel
theorem d_La_257 : decode code 257 = .ok (.invokevirtual 42, 3) := by decide +kernel
theorem d_La_260 : decode code 260 = .ok (.aload_n 2, 1) := by decide +kernel
theorem d_La_261 : decode code 261 = .ok (.invokevirtual 45, 3) := by decide +kernel
theorem d_La_264 : decode code 264 = .ok (.if_icmp .eq 74, 3) := by decide +kernel
theorem d_La_267 : decode code 267 = .ok (.iconst 0, 1) := by decide +kernel
theorem d_La_268 : decode code 268 = .ok (.ireturn, 1) := by decide +kernel
theorem d_La_269 : decode code 269 = .ok (.aload_n 1, 1) := by decide +kernel
theorem d_La_270 : decode code 270 = .ok (.aload_n 0, 1) := by decide +kernel
theorem d_La_271 : decode code 271 = .ok (.iload_n 3, 1) := by decide +kernel
theorem d_La_272 : decode code 272 = .ok (.iconst 1, 1) := by decide +kernel
theorem d_La_273 : decode code 273 = .ok (.iadd, 1) := by decide +kernel
theorem d_La_274 : decode code 274 = .ok (.iaload, 1) := by decide +kernel
theorem d_La_275 : decode code 275 = .ok (.invokevirtual 46, 3) := by decide +kernel
theorem d_La_278 : decode code 278 = .ok (.aload_n 2, 1) := by decide +kernel
theorem d_La_279 : decode code 279 = .ok (.aload_n 0, 1) := by decide +kernel
theorem d_La_280 : decode code 280 = .ok (.iload_n 3, 1) := by decide +kernel
theorem d_La_281 : decode code 281 = .ok (.iconst 1, 1) := by decide +kernel
theorem d_La_282 : decode code 282 = .ok (.iadd, 1) := by decide +kernel
theorem d_La_283 : decode code 283 = .ok (.iaload, 1) := by decide +kernel
theorem d_La_284 : decode code 284 = .ok (.invokevirtual 49, 3) := by decide +kernel
theorem d_La_287 : decode code 287 = .ok (.if_icmp .eq 51, 3) := by decide +kernel
theorem d_La_290 : decode code 290 = .ok (.iconst 0, 1) := by decide +kernel
theorem d_La_291 : decode code 291 = .ok (.ireturn, 1) := by decide +kernel
theorem d_La_292 : decode code 292 = .ok (.aload_n 1, 1) := by decide +kernel
theorem d_La_293 : decode code 293 = .ok (.aload_n 0, 1) := by decide +kernel
theorem d_La_294 : decode code 294 = .ok (.iload_n 3, 1) := by decide +kernel
theorem d_La_295 : decode code 295 = .ok (.iconst 1, 1) := by decide +kernel
theorem d_La_296 : decode code 296 = .ok (.iadd, 1) := by decide +kernel
theorem d_La_297 : decode code 297 = .ok (.iaload, 1) := by decide +kernel
theorem d_La_298 : decode code 298 = .ok (.invokevirtual 50, 3) := by decide +kernel
theorem d_La_301 : decode code 301 = .ok (.aload_n 2, 1) := by decide +kernel
theorem d_La_302 : decode code 302 = .ok (.aload_n 0, 1) := by decide +kernel
theorem d_La_303 : decode code 303 = .ok (.iload_n 3, 1) := by decide +kernel
theorem d_La_304 : decode code 304 = .ok (.iconst 1, 1) := by decide +kernel
theorem d_La_305 : decode code 305 = .ok (.iadd, 1) := by decide +kernel
theorem d_La_306 : decode code 306 = .ok (.iaload, 1) := by decide +kernel
theorem d_La_307 : decode code 307 = .ok (.invokevirtual 53, 3) := by decide +kernel
theorem d_La_310 : decode code 310 = .ok (.if_icmp .eq 28, 3) := by decide +kernel
theorem d_La_313 : decode code 313 = .ok (.iconst 0, 1) := by decide +kernel
theorem d_La_314 : decode code 314 = .ok (.ireturn, 1) := by decide +kernel
theorem d_La_315 : decode code 315 = .ok (.aload_n 1, 1) := by decide +kernel
theorem d_La_316 : decode code 316 = .ok (.aload_n 0, 1) := by decide +kernel
theorem d_La_317 : decode code 317 = .ok (.iload_n 3, 1) := by decide +kernel
theorem d_La_318 : decode code 318 = .ok (.iconst 1, 1) := by decide +kernel
theorem d_La_319 : decode code 319 = .ok (.iadd, 1) := by decide +kernel
theorem d_La_320 : decode code 320 = .ok (.iaload, 1) := by decide +kernel
theorem d_La_321 : decode code 321 = .ok (.invokevirtual 54, 3) := by decide +kernel
theorem d_La_324 : decode code 324 = .ok (.aload_n 2, 1) := by decide +kernel
theorem d_La_325 : decode code 325 = .ok (.aload_n 0, 1) := by decide +kernel
theorem d_La_326 : decode code 326 = .ok (.iload_n 3, 1) := by decide +kernel
theorem d_La_327 : decode code 327 = .ok (.iconst 1, 1) := by decide +kernel
theorem d_La_328 : decode code 328 = .ok (.iadd, 1) := by decide +kernel
theorem d_La_329 : decode code 329 = .ok (.iaload, 1) := by decide +kernel
theorem d_La_330 : decode code 330 = .ok (.invokevirtual 57, 3) := by decide +kernel
theorem d_La_333 : decode code 333 = .ok (.if_icmp .eq 5, 3) := by decide +kernel
theorem d_La_336 : decode code 336 = .ok (.iconst 0, 1) := by decide +kernel
theorem d_La_337 : decode code 337 = .ok (.ireturn, 1) := by decide +kernel
theorem d_La_338 : decode code 338 = .ok (.iinc 3 4, 3) := by decide +kernel
theorem d_La_341 : decode code 341 = .ok (.goto (-323), 3) := by decide +kernel
theorem d_La_344 : decode code 344 = .ok (.iconst 1, 1) := by decide +kernel
theorem d_La_345 : decode code 345 = .ok (.ireturn, 1) := by decide +kernel
theorem tb_ml_La_13 : Cond.methodLink "SlotBoardLaw" 13 y_Bd_access ∈ TB := tb_in 190 (by decide +kernel) (by decide +kernel)
theorem tb_ml_La_17 : Cond.methodLink "SlotBoardLaw" 17 y_Md_access ∈ TB := tb_in 621 (by decide +kernel) (by decide +kernel)
theorem tb_ml_La_18 : Cond.methodLink "SlotBoardLaw" 18 y_Bd_set ∈ TB := tb_in 199 (by decide +kernel) (by decide +kernel)
theorem tb_ml_La_22 : Cond.methodLink "SlotBoardLaw" 22 y_Md_set ∈ TB := tb_in 625 (by decide +kernel) (by decide +kernel)
theorem tb_ml_La_23 : Cond.methodLink "SlotBoardLaw" 23 y_Bd_run ∈ TB := tb_in 211 (by decide +kernel) (by decide +kernel)
theorem tb_ml_La_27 : Cond.methodLink "SlotBoardLaw" 27 y_Md_run ∈ TB := tb_in 549 (by decide +kernel) (by decide +kernel)
theorem tb_ml_La_28 : Cond.methodLink "SlotBoardLaw" 28 y_Bd_word ∈ TB := tb_in 410 (by decide +kernel) (by decide +kernel)
theorem tb_ml_La_31 : Cond.methodLink "SlotBoardLaw" 31 y_Md_word ∈ TB := tb_in 629 (by decide +kernel) (by decide +kernel)
theorem tb_ml_La_32 : Cond.methodLink "SlotBoardLaw" 32 y_Bd_point ∈ TB := tb_in 414 (by decide +kernel) (by decide +kernel)
theorem tb_ml_La_36 : Cond.methodLink "SlotBoardLaw" 36 y_Md_point ∈ TB := tb_in 633 (by decide +kernel) (by decide +kernel)
theorem tb_ml_La_37 : Cond.methodLink "SlotBoardLaw" 37 y_Bd_place ∈ TB := tb_in 422 (by decide +kernel) (by decide +kernel)
theorem tb_ml_La_41 : Cond.methodLink "SlotBoardLaw" 41 y_Md_place ∈ TB := tb_in 637 (by decide +kernel) (by decide +kernel)
theorem tb_ml_La_42 : Cond.methodLink "SlotBoardLaw" 42 y_Bd_frames ∈ TB := tb_in 426 (by decide +kernel) (by decide +kernel)
theorem tb_ml_La_45 : Cond.methodLink "SlotBoardLaw" 45 y_Md_frames ∈ TB := tb_in 641 (by decide +kernel) (by decide +kernel)
theorem tb_ml_La_46 : Cond.methodLink "SlotBoardLaw" 46 y_Bd_slots ∈ TB := tb_in 430 (by decide +kernel) (by decide +kernel)
theorem tb_ml_La_49 : Cond.methodLink "SlotBoardLaw" 49 y_Md_slots ∈ TB := tb_in 645 (by decide +kernel) (by decide +kernel)
theorem tb_ml_La_50 : Cond.methodLink "SlotBoardLaw" 50 y_Bd_look ∈ TB := tb_in 434 (by decide +kernel) (by decide +kernel)
theorem tb_ml_La_53 : Cond.methodLink "SlotBoardLaw" 53 y_Md_look ∈ TB := tb_in 649 (by decide +kernel) (by decide +kernel)
theorem tb_ml_La_54 : Cond.methodLink "SlotBoardLaw" 54 y_Bd_register ∈ TB := tb_in 445 (by decide +kernel) (by decide +kernel)
theorem tb_ml_La_57 : Cond.methodLink "SlotBoardLaw" 57 y_Md_register ∈ TB := tb_in 653 (by decide +kernel) (by decide +kernel)
set_option maxHeartbeats 8000000 in
set_option maxRecDepth 100000 in
theorem law_loop {p : Program} {e : Env} {s : State} {m : MethodId} {below : List Frame} {meth : Method} {c : Code} (l : Launch) {b L : Nat} {xs : Nat → Int32} (hL : L ≤ 2048) (hx : p.tables.exec = Jvm.exec) (hb : c.code = code) (hr : meth.sig.returnType = ret) (hml : c.maxLocals = 4) (hown : s.vm.findClass "SlotBoardLaw" = some m.cls) (hts : ∀ w ∈ TB, w.before #[Value.ref b] s = true) (hX : va_X b L xs s s.heap) (hbl : b < s.heap.size) (hlocks : meth.locks = false)
    {D : va_G} {cA : ClassId} {a g : Nat → Nat} (hK : va_K D vCl [(cA, .int)] s) (hZB : ZB a s s.heap) (iA : Inj 18 a) (iG : Inj 10 g) (gA : ∀ i, i < 18 → s.heap.size ≤ a i) (gG : ∀ i, i < 10 → s.heap.size ≤ g i) (ap : ∀ i j, i < 18 → j < 10 → a i ≠ g j) :
    ∀ (n k : Nat) (S : SS) (M : MM) (T : SS) (N : MM), L + 4 ≤ n + k → k ≤ L + 4 → Rg S M T N → ∀ (H : Heap) (locs : List Loc) (ls : Array Slot), lv_has ls 4 [(0, .ref b), (1, .ref (a 0)), (2, .ref (g 0)), (3, .int (nI k))] → va_P D vCl (wB cA a S M) H → va_P D vCl (wM cA g T N) H → va_S (fun q => s.heap.size ≤ q) s.heap H locs → W p l e room_1 s m #[Value.ref b] below meth c H locs 28 1486 (lw_Z below #[Value.ref b] s) (F0 m 18 ls []) := by
  have hA0 : ∀ q, AB a q → s.heap.size ≤ q := fun q h => by obtain ⟨i, hi, rfl⟩ := h; exact gA i hi
  have hG0 : ∀ q, AM g q → s.heap.size ≤ q := fun q h => by obtain ⟨i, hi, rfl⟩ := h; exact gG i hi
  have hlt : ∀ q, q < s.heap.size → ¬ (fun q => s.heap.size ≤ q) q := fun q h z => absurd (show s.heap.size ≤ q from z) (by omega)
  have apA : ∀ (T : SS) (N : MM) (k : Nat) (x : Nat × va_E), (wM cA g T N)[k]? = some x → ¬ AB a x.1 := fun T N k x hx z => by obtain ⟨k1, k2⟩ := wM_adr hx; obtain ⟨i, hi, e9⟩ := z; exact ap i k hi k1 (by rw [← e9, k2])
  have apG : ∀ (S : SS) (M : MM) (k : Nat) (x : Nat × va_E), (wB cA a S M)[k]? = some x → ¬ AM g x.1 := fun S M k x hx z => by obtain ⟨k1, k2⟩ := wB_adr hx; obtain ⟨i, hi, e9⟩ := z; exact ap k i k1 hi (by rw [← k2, e9])
  have hbA : ¬ (fun q => s.heap.size ≤ q) b := hlt b hbl
  intro n
  induction n with
  | zero =>
    intro k S M T N h1 h2 hR H locs ls hl hP hP2 hS
    have hk : k = L + 4 := by omega
    subst hk
    have hcmp : nI L - (4 : Int32) < nI (L + 4) := by
      rw [Int32.lt_iff_toInt_lt, show (nI L - (4 : Int32)).toInt = (L : Int) - 4 from pk_sub_toInt (b := 4) (by omega) (by decide), nI_toInt (by omega)]
      omega
    refine lv_iload_n hx hb d_La_18 rfl (lv_at hl 3 rfl) ?_
    refine lv_aload_n hx hb d_La_19 rfl (lv_at hl 0 rfl) ?_
    refine va_slen hx hb hX hbl hbA hS d_La_20 ?_
    refine lv_iconst (v := (4 : Int32)) hx hb d_La_21 (by decide) ?_
    refine lv_isub hx hb d_La_22 ?_
    refine lv_icmp_gt (tgt := 344) hx hb d_La_23 (by decide) (fun hc => ?_) (fun hc => absurd hcmp hc)
    refine va_forget hS.2.2 ?_
    refine lv_iconst (v := (1 : Int32)) hx hb d_La_344 (by decide) ?_
    exact lw_ret hx hb hr hlocks d_La_345
  | succ n ih =>
    intro k S M T N h1 h2 hR H locs ls hl hP hP2 hS
    have b338 : ∀ (S : SS) (M : MM) (T : SS) (N : MM), k ≤ L → Rg S M T N → ∀ (H : Heap) (locs : List Loc) (ls : Array Slot), lv_has ls 4 [(0, .ref b), (1, .ref (a 0)), (2, .ref (g 0)), (3, .int (nI k))] → va_P D vCl (wB cA a S M) H → va_P D vCl (wM cA g T N) H → va_S (fun q => s.heap.size ≤ q) s.heap H locs → W p l e room_1 s m #[Value.ref b] below meth c H locs 28 1486 (lw_Z below #[Value.ref b] s) (F0 m 338 ls []) := by
      intro S M T N hkL hR H locs ls hl hP hP2 hS
      refine lv_iinc (k := 3) (v := nI (k + 4)) (lv' := [(3, .int (nI (k + 4))), (0, .ref b), (1, .ref (a 0)), (2, .ref (g 0))]) hx hb d_La_338 hl rfl (nI_add k 4) (by decide) rfl (fun ls hl => ?_)
      refine lv_goto (tgt := 18) hx hb d_La_341 (by decide) ?_
      exact ih (k + 4) S M T N (by omega) (by omega) hR H locs ls (lv_sub hl [1, 2, 3, 0] rfl) hP hP2 hS
    refine lv_iload_n hx hb d_La_18 rfl (lv_at hl 3 rfl) ?_
    refine lv_aload_n hx hb d_La_19 rfl (lv_at hl 0 rfl) ?_
    refine va_slen hx hb hX hbl hbA hS d_La_20 ?_
    refine lv_iconst (v := (4 : Int32)) hx hb d_La_21 (by decide) ?_
    refine lv_isub hx hb d_La_22 ?_
    refine lv_icmp_gt (tgt := 344) hx hb d_La_23 (by decide) (fun hc => ?_) (fun hc => ?_)
    · refine va_forget hS.2.2 ?_
      refine lv_iconst (v := (1 : Int32)) hx hb d_La_344 (by decide) ?_
      exact lw_ret hx hb hr hlocks d_La_345
    have hk4 : k + 4 ≤ L := by
      rw [Int32.lt_iff_toInt_lt, show (Int32.ofNat L - (4 : Int32)).toInt = (L : Int) - 4 from pk_sub_toInt (a := L) (b := 4) (by omega) (by decide), nI_toInt (by omega)] at hc
      omega
    refine lv_aload_n hx hb d_La_26 rfl (lv_at hl 0 rfl) ?_
    refine lv_iload_n hx hb d_La_27 rfl (lv_at hl 3 rfl) ?_
    refine va_sld hx hb hX hbl hbA hS (vp_in_nI (show k < L by omega) (by omega)) d_La_28 ?_
    refine lv_bipush (v := (15 : Int32)) hx hb d_La_29 (by decide) ?_
    refine lv_iand hx hb d_La_31 ?_
    generalize xs (nI k).toNatClampNeg &&& 15 = v
    by_cases hc0 : v = (0 : Int32)
    · refine cst_i (y := (0 : Int32)) hc0 ?_
      refine lv_tableIn (off := 56) (tgt := 88) hx hb d_La_32 (by decide) (by decide) (by decide +kernel) (by decide) ?_
      obtain ⟨r, S', M', T', N', e1, e2, hR'⟩ := op_access (x1 := (xs (nI (k + 1)).toNatClampNeg)) (x2 := (xs (nI (k + 2)).toNatClampNeg)) (x3 := (xs (nI (k + 3)).toNatClampNeg)) hR
      refine lv_aload_n hx hb d_La_88 rfl (lv_at hl 1 rfl) ?_
      refine lv_aload_n hx hb d_La_89 rfl (lv_at hl 0 rfl) ?_
      refine lv_iload_n hx hb d_La_90 rfl (lv_at hl 3 rfl) ?_
      refine lv_iconst (v := (1 : Int32)) hx hb d_La_91 (by decide) ?_
      refine lv_iadd hx hb d_La_92 ?_
      refine cst_i (y := nI (k + 1)) (nI_add k 1) ?_
      refine va_sld hx hb hX hbl hbA hS (vp_in_nI (show k + 1 < L by omega) (by omega)) d_La_93 ?_
      refine lv_aload_n hx hb d_La_94 rfl (lv_at hl 0 rfl) ?_
      refine lv_iload_n hx hb d_La_95 rfl (lv_at hl 3 rfl) ?_
      refine lv_iconst (v := (2 : Int32)) hx hb d_La_96 (by decide) ?_
      refine lv_iadd hx hb d_La_97 ?_
      refine cst_i (y := nI (k + 2)) (nI_add k 2) ?_
      refine va_sld hx hb hX hbl hbA hS (vp_in_nI (show k + 2 < L by omega) (by omega)) d_La_98 ?_
      refine lv_aload_n hx hb d_La_99 rfl (lv_at hl 0 rfl) ?_
      refine lv_iload_n hx hb d_La_100 rfl (lv_at hl 3 rfl) ?_
      refine lv_iconst (v := (3 : Int32)) hx hb d_La_101 (by decide) ?_
      refine lv_iadd hx hb d_La_102 ?_
      refine cst_i (y := nI (k + 3)) (nI_add k 3) ?_
      refine va_sld hx hb hX hbl hbA hS (vp_in_nI (show k + 3 < L by omega) (by omega)) d_La_103 ?_
      refine lcall (As := [.int (xs (nI (k + 1)).toNatClampNeg), .int (xs (nI (k + 2)).toNatClampNeg), .int (xs (nI (k + 3)).toNatClampNeg)]) (rest := []) ⟨hx, hb, hml, hown, hts⟩ (c_Bd_access l D cA a S M (xs (nI (k + 1)).toNatClampNeg) (xs (nI (k + 2)).toNatClampNeg) (xs (nI (k + 3)).toNatClampNeg) _ e1) ⟨callB_of 3 hts (tb_gi tb_cd_Bd_access) rfl rfl rfl (hts _ tb_in_Bd) (hts _ tb_ml_La_13) yd_Bd_access ⟨Nat.le_of_ble_eq_true rfl, Nat.le_of_ble_eq_true rfl⟩, hts _ tb_im_Bd_access, hts _ tb_se_Bd_access⟩ (ZB_k a) hK hZB hP (wB_D iA) hS hA0 hlt hP2 (apA T N) 0 (wB_at0 _ _ _ _) rfl rfl hl.1 rfl (Nat.le_of_ble_eq_true rfl) d_La_104 ⟨Nat.le_of_ble_eq_true rfl, Nat.le_of_ble_eq_true rfl⟩ (fun H locs hP hP2 hS => ?_)
      refine lv_aload_n hx hb d_La_107 rfl (lv_at hl 2 rfl) ?_
      refine lv_aload_n hx hb d_La_108 rfl (lv_at hl 0 rfl) ?_
      refine lv_iload_n hx hb d_La_109 rfl (lv_at hl 3 rfl) ?_
      refine lv_iconst (v := (1 : Int32)) hx hb d_La_110 (by decide) ?_
      refine lv_iadd hx hb d_La_111 ?_
      refine cst_i (y := nI (k + 1)) (nI_add k 1) ?_
      refine va_sld hx hb hX hbl hbA hS (vp_in_nI (show k + 1 < L by omega) (by omega)) d_La_112 ?_
      refine lv_aload_n hx hb d_La_113 rfl (lv_at hl 0 rfl) ?_
      refine lv_iload_n hx hb d_La_114 rfl (lv_at hl 3 rfl) ?_
      refine lv_iconst (v := (2 : Int32)) hx hb d_La_115 (by decide) ?_
      refine lv_iadd hx hb d_La_116 ?_
      refine cst_i (y := nI (k + 2)) (nI_add k 2) ?_
      refine va_sld hx hb hX hbl hbA hS (vp_in_nI (show k + 2 < L by omega) (by omega)) d_La_117 ?_
      refine lv_aload_n hx hb d_La_118 rfl (lv_at hl 0 rfl) ?_
      refine lv_iload_n hx hb d_La_119 rfl (lv_at hl 3 rfl) ?_
      refine lv_iconst (v := (3 : Int32)) hx hb d_La_120 (by decide) ?_
      refine lv_iadd hx hb d_La_121 ?_
      refine cst_i (y := nI (k + 3)) (nI_add k 3) ?_
      refine va_sld hx hb hX hbl hbA hS (vp_in_nI (show k + 3 < L by omega) (by omega)) d_La_122 ?_
      refine lcall (As := [.int (xs (nI (k + 1)).toNatClampNeg), .int (xs (nI (k + 2)).toNatClampNeg), .int (xs (nI (k + 3)).toNatClampNeg)]) (rest := [.int r]) ⟨hx, hb, hml, hown, hts⟩ (c_Md_access l D cA g T N (xs (nI (k + 1)).toNatClampNeg) (xs (nI (k + 2)).toNatClampNeg) (xs (nI (k + 3)).toNatClampNeg) _ e2) ⟨callB_of 3 hts (tb_gi tb_cd_Md_access) rfl rfl rfl (hts _ tb_in_Md) (hts _ tb_ml_La_17) yd_Md_access ⟨Nat.le_of_ble_eq_true rfl, Nat.le_of_ble_eq_true rfl⟩, hts _ tb_im_Md_access, hts _ tb_se_Md_access⟩ (ZM_k g) hK trivial hP2 (wM_D iG) hS hG0 hlt hP (apG S' M') 0 (wM_at0 _ _ _ _) rfl rfl hl.1 rfl (Nat.le_of_ble_eq_true rfl) d_La_123 ⟨Nat.le_of_ble_eq_true rfl, Nat.le_of_ble_eq_true rfl⟩ (fun H locs hP2 hP hS => ?_)
      refine lv_icmp_eq (tgt := 338) hx hb d_La_126 (by decide) (fun _ => ?_) (fun h9 => absurd rfl h9)
      exact b338 S' M' T' N' (by omega) hR' H locs ls hl hP hP2 hS
    by_cases hc1 : v = (1 : Int32)
    · refine cst_i (y := (1 : Int32)) hc1 ?_
      refine lv_tableIn (off := 99) (tgt := 131) hx hb d_La_32 (by decide) (by decide) (by decide +kernel) (by decide) ?_
      obtain ⟨r, S', M', T', N', e1, e2, hR'⟩ := op_set (x := (xs (nI (k + 1)).toNatClampNeg)) (y := (xs (nI (k + 2)).toNatClampNeg)) hR
      refine lv_aload_n hx hb d_La_131 rfl (lv_at hl 1 rfl) ?_
      refine lv_aload_n hx hb d_La_132 rfl (lv_at hl 0 rfl) ?_
      refine lv_iload_n hx hb d_La_133 rfl (lv_at hl 3 rfl) ?_
      refine lv_iconst (v := (1 : Int32)) hx hb d_La_134 (by decide) ?_
      refine lv_iadd hx hb d_La_135 ?_
      refine cst_i (y := nI (k + 1)) (nI_add k 1) ?_
      refine va_sld hx hb hX hbl hbA hS (vp_in_nI (show k + 1 < L by omega) (by omega)) d_La_136 ?_
      refine lv_aload_n hx hb d_La_137 rfl (lv_at hl 0 rfl) ?_
      refine lv_iload_n hx hb d_La_138 rfl (lv_at hl 3 rfl) ?_
      refine lv_iconst (v := (2 : Int32)) hx hb d_La_139 (by decide) ?_
      refine lv_iadd hx hb d_La_140 ?_
      refine cst_i (y := nI (k + 2)) (nI_add k 2) ?_
      refine va_sld hx hb hX hbl hbA hS (vp_in_nI (show k + 2 < L by omega) (by omega)) d_La_141 ?_
      refine lcall (As := [.int (xs (nI (k + 1)).toNatClampNeg), .int (xs (nI (k + 2)).toNatClampNeg)]) (rest := []) ⟨hx, hb, hml, hown, hts⟩ (c_Bd_set l D cA a S M (xs (nI (k + 1)).toNatClampNeg) (xs (nI (k + 2)).toNatClampNeg) _ e1) ⟨callB_of 2 hts (tb_gi tb_cd_Bd_set) rfl rfl rfl (hts _ tb_in_Bd) (hts _ tb_ml_La_18) yd_Bd_set ⟨Nat.le_of_ble_eq_true rfl, Nat.le_of_ble_eq_true rfl⟩, hts _ tb_im_Bd_set, hts _ tb_se_Bd_set⟩ (ZB_k a) hK hZB hP (wB_D iA) hS hA0 hlt hP2 (apA T N) 0 (wB_at0 _ _ _ _) rfl rfl hl.1 rfl (Nat.le_of_ble_eq_true rfl) d_La_142 ⟨Nat.le_of_ble_eq_true rfl, Nat.le_of_ble_eq_true rfl⟩ (fun H locs hP hP2 hS => ?_)
      refine lv_aload_n hx hb d_La_145 rfl (lv_at hl 2 rfl) ?_
      refine lv_aload_n hx hb d_La_146 rfl (lv_at hl 0 rfl) ?_
      refine lv_iload_n hx hb d_La_147 rfl (lv_at hl 3 rfl) ?_
      refine lv_iconst (v := (1 : Int32)) hx hb d_La_148 (by decide) ?_
      refine lv_iadd hx hb d_La_149 ?_
      refine cst_i (y := nI (k + 1)) (nI_add k 1) ?_
      refine va_sld hx hb hX hbl hbA hS (vp_in_nI (show k + 1 < L by omega) (by omega)) d_La_150 ?_
      refine lv_aload_n hx hb d_La_151 rfl (lv_at hl 0 rfl) ?_
      refine lv_iload_n hx hb d_La_152 rfl (lv_at hl 3 rfl) ?_
      refine lv_iconst (v := (2 : Int32)) hx hb d_La_153 (by decide) ?_
      refine lv_iadd hx hb d_La_154 ?_
      refine cst_i (y := nI (k + 2)) (nI_add k 2) ?_
      refine va_sld hx hb hX hbl hbA hS (vp_in_nI (show k + 2 < L by omega) (by omega)) d_La_155 ?_
      refine lcall (As := [.int (xs (nI (k + 1)).toNatClampNeg), .int (xs (nI (k + 2)).toNatClampNeg)]) (rest := [.int r]) ⟨hx, hb, hml, hown, hts⟩ (c_Md_set l D cA g T N (xs (nI (k + 1)).toNatClampNeg) (xs (nI (k + 2)).toNatClampNeg) _ e2) ⟨callB_of 2 hts (tb_gi tb_cd_Md_set) rfl rfl rfl (hts _ tb_in_Md) (hts _ tb_ml_La_22) yd_Md_set ⟨Nat.le_of_ble_eq_true rfl, Nat.le_of_ble_eq_true rfl⟩, hts _ tb_im_Md_set, hts _ tb_se_Md_set⟩ (ZM_k g) hK trivial hP2 (wM_D iG) hS hG0 hlt hP (apG S' M') 0 (wM_at0 _ _ _ _) rfl rfl hl.1 rfl (Nat.le_of_ble_eq_true rfl) d_La_156 ⟨Nat.le_of_ble_eq_true rfl, Nat.le_of_ble_eq_true rfl⟩ (fun H locs hP2 hP hS => ?_)
      refine lv_icmp_eq (tgt := 338) hx hb d_La_159 (by decide) (fun _ => ?_) (fun h9 => absurd rfl h9)
      exact b338 S' M' T' N' (by omega) hR' H locs ls hl hP hP2 hS
    by_cases hc2 : v = (2 : Int32)
    · refine cst_i (y := (2 : Int32)) hc2 ?_
      refine lv_tableIn (off := 132) (tgt := 164) hx hb d_La_32 (by decide) (by decide) (by decide +kernel) (by decide) ?_
      obtain ⟨r, S', M', T', N', e1, e2, hR'⟩ := op_run (x := (xs (nI (k + 1)).toNatClampNeg)) hR
      refine lv_aload_n hx hb d_La_164 rfl (lv_at hl 1 rfl) ?_
      refine lv_aload_n hx hb d_La_165 rfl (lv_at hl 0 rfl) ?_
      refine lv_iload_n hx hb d_La_166 rfl (lv_at hl 3 rfl) ?_
      refine lv_iconst (v := (1 : Int32)) hx hb d_La_167 (by decide) ?_
      refine lv_iadd hx hb d_La_168 ?_
      refine cst_i (y := nI (k + 1)) (nI_add k 1) ?_
      refine va_sld hx hb hX hbl hbA hS (vp_in_nI (show k + 1 < L by omega) (by omega)) d_La_169 ?_
      refine lcall (As := [.int (xs (nI (k + 1)).toNatClampNeg)]) (rest := []) ⟨hx, hb, hml, hown, hts⟩ (c_Bd_run l D cA a S M (xs (nI (k + 1)).toNatClampNeg) _ e1) ⟨callB_of 1 hts (tb_gi tb_cd_Bd_run) rfl rfl rfl (hts _ tb_in_Bd) (hts _ tb_ml_La_23) yd_Bd_run ⟨Nat.le_of_ble_eq_true rfl, Nat.le_of_ble_eq_true rfl⟩, hts _ tb_im_Bd_run, hts _ tb_se_Bd_run⟩ (ZB_k a) hK hZB hP (wB_D iA) hS hA0 hlt hP2 (apA T N) 0 (wB_at0 _ _ _ _) rfl rfl hl.1 rfl (Nat.le_of_ble_eq_true rfl) d_La_170 ⟨Nat.le_of_ble_eq_true rfl, Nat.le_of_ble_eq_true rfl⟩ (fun H locs hP hP2 hS => ?_)
      refine lv_aload_n hx hb d_La_173 rfl (lv_at hl 2 rfl) ?_
      refine lv_aload_n hx hb d_La_174 rfl (lv_at hl 0 rfl) ?_
      refine lv_iload_n hx hb d_La_175 rfl (lv_at hl 3 rfl) ?_
      refine lv_iconst (v := (1 : Int32)) hx hb d_La_176 (by decide) ?_
      refine lv_iadd hx hb d_La_177 ?_
      refine cst_i (y := nI (k + 1)) (nI_add k 1) ?_
      refine va_sld hx hb hX hbl hbA hS (vp_in_nI (show k + 1 < L by omega) (by omega)) d_La_178 ?_
      refine lcall (As := [.int (xs (nI (k + 1)).toNatClampNeg)]) (rest := [.int r]) ⟨hx, hb, hml, hown, hts⟩ (c_Md_run l D cA g T N (xs (nI (k + 1)).toNatClampNeg) _ e2) ⟨callB_of 1 hts (tb_gi tb_cd_Md_run) rfl rfl rfl (hts _ tb_in_Md) (hts _ tb_ml_La_27) yd_Md_run ⟨Nat.le_of_ble_eq_true rfl, Nat.le_of_ble_eq_true rfl⟩, hts _ tb_im_Md_run, hts _ tb_se_Md_run⟩ (ZM_k g) hK trivial hP2 (wM_D iG) hS hG0 hlt hP (apG S' M') 0 (wM_at0 _ _ _ _) rfl rfl hl.1 rfl (Nat.le_of_ble_eq_true rfl) d_La_179 ⟨Nat.le_of_ble_eq_true rfl, Nat.le_of_ble_eq_true rfl⟩ (fun H locs hP2 hP hS => ?_)
      refine lv_icmp_eq (tgt := 338) hx hb d_La_182 (by decide) (fun _ => ?_) (fun h9 => absurd rfl h9)
      exact b338 S' M' T' N' (by omega) hR' H locs ls hl hP hP2 hS
    by_cases hc3 : v = (3 : Int32)
    · refine cst_i (y := (3 : Int32)) hc3 ?_
      refine lv_tableIn (off := 155) (tgt := 187) hx hb d_La_32 (by decide) (by decide) (by decide +kernel) (by decide) ?_
      obtain ⟨r, S', M', T', N', e1, e2, hR'⟩ := op_word (x := (xs (nI (k + 1)).toNatClampNeg)) hR
      refine lv_aload_n hx hb d_La_187 rfl (lv_at hl 1 rfl) ?_
      refine lv_aload_n hx hb d_La_188 rfl (lv_at hl 0 rfl) ?_
      refine lv_iload_n hx hb d_La_189 rfl (lv_at hl 3 rfl) ?_
      refine lv_iconst (v := (1 : Int32)) hx hb d_La_190 (by decide) ?_
      refine lv_iadd hx hb d_La_191 ?_
      refine cst_i (y := nI (k + 1)) (nI_add k 1) ?_
      refine va_sld hx hb hX hbl hbA hS (vp_in_nI (show k + 1 < L by omega) (by omega)) d_La_192 ?_
      refine lcall (As := [.int (xs (nI (k + 1)).toNatClampNeg)]) (rest := []) ⟨hx, hb, hml, hown, hts⟩ (c_Bd_word l D cA a S M (xs (nI (k + 1)).toNatClampNeg) _ e1) ⟨callB_of 1 hts (tb_gi tb_cd_Bd_word) rfl rfl rfl (hts _ tb_in_Bd) (hts _ tb_ml_La_28) yd_Bd_word ⟨Nat.le_of_ble_eq_true rfl, Nat.le_of_ble_eq_true rfl⟩, hts _ tb_im_Bd_word, hts _ tb_se_Bd_word⟩ (ZB_k a) hK hZB hP (wB_D iA) hS hA0 hlt hP2 (apA T N) 0 (wB_at0 _ _ _ _) rfl rfl hl.1 rfl (Nat.le_of_ble_eq_true rfl) d_La_193 ⟨Nat.le_of_ble_eq_true rfl, Nat.le_of_ble_eq_true rfl⟩ (fun H locs hP hP2 hS => ?_)
      refine lv_aload_n hx hb d_La_196 rfl (lv_at hl 2 rfl) ?_
      refine lv_aload_n hx hb d_La_197 rfl (lv_at hl 0 rfl) ?_
      refine lv_iload_n hx hb d_La_198 rfl (lv_at hl 3 rfl) ?_
      refine lv_iconst (v := (1 : Int32)) hx hb d_La_199 (by decide) ?_
      refine lv_iadd hx hb d_La_200 ?_
      refine cst_i (y := nI (k + 1)) (nI_add k 1) ?_
      refine va_sld hx hb hX hbl hbA hS (vp_in_nI (show k + 1 < L by omega) (by omega)) d_La_201 ?_
      refine lcall (As := [.int (xs (nI (k + 1)).toNatClampNeg)]) (rest := [.int r]) ⟨hx, hb, hml, hown, hts⟩ (c_Md_word l D cA g T N (xs (nI (k + 1)).toNatClampNeg) _ e2) ⟨callB_of 1 hts (tb_gi tb_cd_Md_word) rfl rfl rfl (hts _ tb_in_Md) (hts _ tb_ml_La_31) yd_Md_word ⟨Nat.le_of_ble_eq_true rfl, Nat.le_of_ble_eq_true rfl⟩, hts _ tb_im_Md_word, hts _ tb_se_Md_word⟩ (ZM_k g) hK trivial hP2 (wM_D iG) hS hG0 hlt hP (apG S' M') 0 (wM_at0 _ _ _ _) rfl rfl hl.1 rfl (Nat.le_of_ble_eq_true rfl) d_La_202 ⟨Nat.le_of_ble_eq_true rfl, Nat.le_of_ble_eq_true rfl⟩ (fun H locs hP2 hP hS => ?_)
      refine lv_icmp_eq (tgt := 338) hx hb d_La_205 (by decide) (fun _ => ?_) (fun h9 => absurd rfl h9)
      exact b338 S' M' T' N' (by omega) hR' H locs ls hl hP hP2 hS
    by_cases hc4 : v = (4 : Int32)
    · refine cst_i (y := (4 : Int32)) hc4 ?_
      refine lv_tableIn (off := 178) (tgt := 210) hx hb d_La_32 (by decide) (by decide) (by decide +kernel) (by decide) ?_
      obtain ⟨r, S', M', T', N', e1, e2, hR'⟩ := op_point (x := (xs (nI (k + 1)).toNatClampNeg)) (y := (xs (nI (k + 2)).toNatClampNeg)) hR
      refine lv_aload_n hx hb d_La_210 rfl (lv_at hl 1 rfl) ?_
      refine lv_aload_n hx hb d_La_211 rfl (lv_at hl 0 rfl) ?_
      refine lv_iload_n hx hb d_La_212 rfl (lv_at hl 3 rfl) ?_
      refine lv_iconst (v := (1 : Int32)) hx hb d_La_213 (by decide) ?_
      refine lv_iadd hx hb d_La_214 ?_
      refine cst_i (y := nI (k + 1)) (nI_add k 1) ?_
      refine va_sld hx hb hX hbl hbA hS (vp_in_nI (show k + 1 < L by omega) (by omega)) d_La_215 ?_
      refine lv_aload_n hx hb d_La_216 rfl (lv_at hl 0 rfl) ?_
      refine lv_iload_n hx hb d_La_217 rfl (lv_at hl 3 rfl) ?_
      refine lv_iconst (v := (2 : Int32)) hx hb d_La_218 (by decide) ?_
      refine lv_iadd hx hb d_La_219 ?_
      refine cst_i (y := nI (k + 2)) (nI_add k 2) ?_
      refine va_sld hx hb hX hbl hbA hS (vp_in_nI (show k + 2 < L by omega) (by omega)) d_La_220 ?_
      refine lcall (As := [.int (xs (nI (k + 1)).toNatClampNeg), .int (xs (nI (k + 2)).toNatClampNeg)]) (rest := []) ⟨hx, hb, hml, hown, hts⟩ (c_Bd_point l D cA a S M (xs (nI (k + 1)).toNatClampNeg) (xs (nI (k + 2)).toNatClampNeg) _ e1) ⟨callB_of 2 hts (tb_gi tb_cd_Bd_point) rfl rfl rfl (hts _ tb_in_Bd) (hts _ tb_ml_La_32) yd_Bd_point ⟨Nat.le_of_ble_eq_true rfl, Nat.le_of_ble_eq_true rfl⟩, hts _ tb_im_Bd_point, hts _ tb_se_Bd_point⟩ (ZB_k a) hK hZB hP (wB_D iA) hS hA0 hlt hP2 (apA T N) 0 (wB_at0 _ _ _ _) rfl rfl hl.1 rfl (Nat.le_of_ble_eq_true rfl) d_La_221 ⟨Nat.le_of_ble_eq_true rfl, Nat.le_of_ble_eq_true rfl⟩ (fun H locs hP hP2 hS => ?_)
      refine lv_aload_n hx hb d_La_224 rfl (lv_at hl 2 rfl) ?_
      refine lv_aload_n hx hb d_La_225 rfl (lv_at hl 0 rfl) ?_
      refine lv_iload_n hx hb d_La_226 rfl (lv_at hl 3 rfl) ?_
      refine lv_iconst (v := (1 : Int32)) hx hb d_La_227 (by decide) ?_
      refine lv_iadd hx hb d_La_228 ?_
      refine cst_i (y := nI (k + 1)) (nI_add k 1) ?_
      refine va_sld hx hb hX hbl hbA hS (vp_in_nI (show k + 1 < L by omega) (by omega)) d_La_229 ?_
      refine lv_aload_n hx hb d_La_230 rfl (lv_at hl 0 rfl) ?_
      refine lv_iload_n hx hb d_La_231 rfl (lv_at hl 3 rfl) ?_
      refine lv_iconst (v := (2 : Int32)) hx hb d_La_232 (by decide) ?_
      refine lv_iadd hx hb d_La_233 ?_
      refine cst_i (y := nI (k + 2)) (nI_add k 2) ?_
      refine va_sld hx hb hX hbl hbA hS (vp_in_nI (show k + 2 < L by omega) (by omega)) d_La_234 ?_
      refine lcall (As := [.int (xs (nI (k + 1)).toNatClampNeg), .int (xs (nI (k + 2)).toNatClampNeg)]) (rest := [.int r]) ⟨hx, hb, hml, hown, hts⟩ (c_Md_point l D cA g T N (xs (nI (k + 1)).toNatClampNeg) (xs (nI (k + 2)).toNatClampNeg) _ e2) ⟨callB_of 2 hts (tb_gi tb_cd_Md_point) rfl rfl rfl (hts _ tb_in_Md) (hts _ tb_ml_La_36) yd_Md_point ⟨Nat.le_of_ble_eq_true rfl, Nat.le_of_ble_eq_true rfl⟩, hts _ tb_im_Md_point, hts _ tb_se_Md_point⟩ (ZM_k g) hK trivial hP2 (wM_D iG) hS hG0 hlt hP (apG S' M') 0 (wM_at0 _ _ _ _) rfl rfl hl.1 rfl (Nat.le_of_ble_eq_true rfl) d_La_235 ⟨Nat.le_of_ble_eq_true rfl, Nat.le_of_ble_eq_true rfl⟩ (fun H locs hP2 hP hS => ?_)
      refine lv_icmp_eq (tgt := 338) hx hb d_La_238 (by decide) (fun _ => ?_) (fun h9 => absurd rfl h9)
      exact b338 S' M' T' N' (by omega) hR' H locs ls hl hP hP2 hS
    by_cases hc5 : v = (5 : Int32)
    · refine cst_i (y := (5 : Int32)) hc5 ?_
      refine lv_tableIn (off := 211) (tgt := 243) hx hb d_La_32 (by decide) (by decide) (by decide +kernel) (by decide) ?_
      obtain ⟨r, S', M', T', N', e1, e2, hR'⟩ := op_place hR
      refine lv_aload_n hx hb d_La_243 rfl (lv_at hl 1 rfl) ?_
      refine lcall (As := []) (rest := []) ⟨hx, hb, hml, hown, hts⟩ (c_Bd_place l D cA a S M _ e1) ⟨callB_of 0 hts (tb_gi tb_cd_Bd_place) rfl rfl rfl (hts _ tb_in_Bd) (hts _ tb_ml_La_37) yd_Bd_place ⟨Nat.le_of_ble_eq_true rfl, Nat.le_of_ble_eq_true rfl⟩, hts _ tb_im_Bd_place, hts _ tb_se_Bd_place⟩ (ZB_k a) hK hZB hP (wB_D iA) hS hA0 hlt hP2 (apA T N) 0 (wB_at0 _ _ _ _) rfl rfl hl.1 rfl (Nat.le_of_ble_eq_true rfl) d_La_244 ⟨Nat.le_of_ble_eq_true rfl, Nat.le_of_ble_eq_true rfl⟩ (fun H locs hP hP2 hS => ?_)
      refine lv_aload_n hx hb d_La_247 rfl (lv_at hl 2 rfl) ?_
      refine lcall (As := []) (rest := [.int r]) ⟨hx, hb, hml, hown, hts⟩ (c_Md_place l D cA g T N _ e2) ⟨callB_of 0 hts (tb_gi tb_cd_Md_place) rfl rfl rfl (hts _ tb_in_Md) (hts _ tb_ml_La_41) yd_Md_place ⟨Nat.le_of_ble_eq_true rfl, Nat.le_of_ble_eq_true rfl⟩, hts _ tb_im_Md_place, hts _ tb_se_Md_place⟩ (ZM_k g) hK trivial hP2 (wM_D iG) hS hG0 hlt hP (apG S' M') 0 (wM_at0 _ _ _ _) rfl rfl hl.1 rfl (Nat.le_of_ble_eq_true rfl) d_La_248 ⟨Nat.le_of_ble_eq_true rfl, Nat.le_of_ble_eq_true rfl⟩ (fun H locs hP2 hP hS => ?_)
      refine lv_icmp_eq (tgt := 338) hx hb d_La_251 (by decide) (fun _ => ?_) (fun h9 => absurd rfl h9)
      exact b338 S' M' T' N' (by omega) hR' H locs ls hl hP hP2 hS
    by_cases hc6 : v = (6 : Int32)
    · refine cst_i (y := (6 : Int32)) hc6 ?_
      refine lv_tableIn (off := 224) (tgt := 256) hx hb d_La_32 (by decide) (by decide) (by decide +kernel) (by decide) ?_
      obtain ⟨r, S', M', T', N', e1, e2, hR'⟩ := op_frames hR
      refine lv_aload_n hx hb d_La_256 rfl (lv_at hl 1 rfl) ?_
      refine lcall (As := []) (rest := []) ⟨hx, hb, hml, hown, hts⟩ (c_Bd_frames l D cA a S M _ e1) ⟨callB_of 0 hts (tb_gi tb_cd_Bd_frames) rfl rfl rfl (hts _ tb_in_Bd) (hts _ tb_ml_La_42) yd_Bd_frames ⟨Nat.le_of_ble_eq_true rfl, Nat.le_of_ble_eq_true rfl⟩, hts _ tb_im_Bd_frames, hts _ tb_se_Bd_frames⟩ (ZB_k a) hK hZB hP (wB_D iA) hS hA0 hlt hP2 (apA T N) 0 (wB_at0 _ _ _ _) rfl rfl hl.1 rfl (Nat.le_of_ble_eq_true rfl) d_La_257 ⟨Nat.le_of_ble_eq_true rfl, Nat.le_of_ble_eq_true rfl⟩ (fun H locs hP hP2 hS => ?_)
      refine lv_aload_n hx hb d_La_260 rfl (lv_at hl 2 rfl) ?_
      refine lcall (As := []) (rest := [.int r]) ⟨hx, hb, hml, hown, hts⟩ (c_Md_frames l D cA g T N _ e2) ⟨callB_of 0 hts (tb_gi tb_cd_Md_frames) rfl rfl rfl (hts _ tb_in_Md) (hts _ tb_ml_La_45) yd_Md_frames ⟨Nat.le_of_ble_eq_true rfl, Nat.le_of_ble_eq_true rfl⟩, hts _ tb_im_Md_frames, hts _ tb_se_Md_frames⟩ (ZM_k g) hK trivial hP2 (wM_D iG) hS hG0 hlt hP (apG S' M') 0 (wM_at0 _ _ _ _) rfl rfl hl.1 rfl (Nat.le_of_ble_eq_true rfl) d_La_261 ⟨Nat.le_of_ble_eq_true rfl, Nat.le_of_ble_eq_true rfl⟩ (fun H locs hP2 hP hS => ?_)
      refine lv_icmp_eq (tgt := 338) hx hb d_La_264 (by decide) (fun _ => ?_) (fun h9 => absurd rfl h9)
      exact b338 S' M' T' N' (by omega) hR' H locs ls hl hP hP2 hS
    by_cases hc7 : v = (7 : Int32)
    · refine cst_i (y := (7 : Int32)) hc7 ?_
      refine lv_tableIn (off := 237) (tgt := 269) hx hb d_La_32 (by decide) (by decide) (by decide +kernel) (by decide) ?_
      obtain ⟨r, S', M', T', N', e1, e2, hR'⟩ := op_slots (x := (xs (nI (k + 1)).toNatClampNeg)) hR
      refine lv_aload_n hx hb d_La_269 rfl (lv_at hl 1 rfl) ?_
      refine lv_aload_n hx hb d_La_270 rfl (lv_at hl 0 rfl) ?_
      refine lv_iload_n hx hb d_La_271 rfl (lv_at hl 3 rfl) ?_
      refine lv_iconst (v := (1 : Int32)) hx hb d_La_272 (by decide) ?_
      refine lv_iadd hx hb d_La_273 ?_
      refine cst_i (y := nI (k + 1)) (nI_add k 1) ?_
      refine va_sld hx hb hX hbl hbA hS (vp_in_nI (show k + 1 < L by omega) (by omega)) d_La_274 ?_
      refine lcall (As := [.int (xs (nI (k + 1)).toNatClampNeg)]) (rest := []) ⟨hx, hb, hml, hown, hts⟩ (c_Bd_slots l D cA a S M (xs (nI (k + 1)).toNatClampNeg) _ e1) ⟨callB_of 1 hts (tb_gi tb_cd_Bd_slots) rfl rfl rfl (hts _ tb_in_Bd) (hts _ tb_ml_La_46) yd_Bd_slots ⟨Nat.le_of_ble_eq_true rfl, Nat.le_of_ble_eq_true rfl⟩, hts _ tb_im_Bd_slots, hts _ tb_se_Bd_slots⟩ (ZB_k a) hK hZB hP (wB_D iA) hS hA0 hlt hP2 (apA T N) 0 (wB_at0 _ _ _ _) rfl rfl hl.1 rfl (Nat.le_of_ble_eq_true rfl) d_La_275 ⟨Nat.le_of_ble_eq_true rfl, Nat.le_of_ble_eq_true rfl⟩ (fun H locs hP hP2 hS => ?_)
      refine lv_aload_n hx hb d_La_278 rfl (lv_at hl 2 rfl) ?_
      refine lv_aload_n hx hb d_La_279 rfl (lv_at hl 0 rfl) ?_
      refine lv_iload_n hx hb d_La_280 rfl (lv_at hl 3 rfl) ?_
      refine lv_iconst (v := (1 : Int32)) hx hb d_La_281 (by decide) ?_
      refine lv_iadd hx hb d_La_282 ?_
      refine cst_i (y := nI (k + 1)) (nI_add k 1) ?_
      refine va_sld hx hb hX hbl hbA hS (vp_in_nI (show k + 1 < L by omega) (by omega)) d_La_283 ?_
      refine lcall (As := [.int (xs (nI (k + 1)).toNatClampNeg)]) (rest := [.int r]) ⟨hx, hb, hml, hown, hts⟩ (c_Md_slots l D cA g T N (xs (nI (k + 1)).toNatClampNeg) _ e2) ⟨callB_of 1 hts (tb_gi tb_cd_Md_slots) rfl rfl rfl (hts _ tb_in_Md) (hts _ tb_ml_La_49) yd_Md_slots ⟨Nat.le_of_ble_eq_true rfl, Nat.le_of_ble_eq_true rfl⟩, hts _ tb_im_Md_slots, hts _ tb_se_Md_slots⟩ (ZM_k g) hK trivial hP2 (wM_D iG) hS hG0 hlt hP (apG S' M') 0 (wM_at0 _ _ _ _) rfl rfl hl.1 rfl (Nat.le_of_ble_eq_true rfl) d_La_284 ⟨Nat.le_of_ble_eq_true rfl, Nat.le_of_ble_eq_true rfl⟩ (fun H locs hP2 hP hS => ?_)
      refine lv_icmp_eq (tgt := 338) hx hb d_La_287 (by decide) (fun _ => ?_) (fun h9 => absurd rfl h9)
      exact b338 S' M' T' N' (by omega) hR' H locs ls hl hP hP2 hS
    by_cases hc8 : v = (8 : Int32)
    · refine cst_i (y := (8 : Int32)) hc8 ?_
      refine lv_tableIn (off := 260) (tgt := 292) hx hb d_La_32 (by decide) (by decide) (by decide +kernel) (by decide) ?_
      obtain ⟨r, S', M', T', N', e1, e2, hR'⟩ := op_look (x := (xs (nI (k + 1)).toNatClampNeg)) hR
      refine lv_aload_n hx hb d_La_292 rfl (lv_at hl 1 rfl) ?_
      refine lv_aload_n hx hb d_La_293 rfl (lv_at hl 0 rfl) ?_
      refine lv_iload_n hx hb d_La_294 rfl (lv_at hl 3 rfl) ?_
      refine lv_iconst (v := (1 : Int32)) hx hb d_La_295 (by decide) ?_
      refine lv_iadd hx hb d_La_296 ?_
      refine cst_i (y := nI (k + 1)) (nI_add k 1) ?_
      refine va_sld hx hb hX hbl hbA hS (vp_in_nI (show k + 1 < L by omega) (by omega)) d_La_297 ?_
      refine lcall (As := [.int (xs (nI (k + 1)).toNatClampNeg)]) (rest := []) ⟨hx, hb, hml, hown, hts⟩ (c_Bd_look l D cA a S M (xs (nI (k + 1)).toNatClampNeg) _ e1) ⟨callB_of 1 hts (tb_gi tb_cd_Bd_look) rfl rfl rfl (hts _ tb_in_Bd) (hts _ tb_ml_La_50) yd_Bd_look ⟨Nat.le_of_ble_eq_true rfl, Nat.le_of_ble_eq_true rfl⟩, hts _ tb_im_Bd_look, hts _ tb_se_Bd_look⟩ (ZB_k a) hK hZB hP (wB_D iA) hS hA0 hlt hP2 (apA T N) 0 (wB_at0 _ _ _ _) rfl rfl hl.1 rfl (Nat.le_of_ble_eq_true rfl) d_La_298 ⟨Nat.le_of_ble_eq_true rfl, Nat.le_of_ble_eq_true rfl⟩ (fun H locs hP hP2 hS => ?_)
      refine lv_aload_n hx hb d_La_301 rfl (lv_at hl 2 rfl) ?_
      refine lv_aload_n hx hb d_La_302 rfl (lv_at hl 0 rfl) ?_
      refine lv_iload_n hx hb d_La_303 rfl (lv_at hl 3 rfl) ?_
      refine lv_iconst (v := (1 : Int32)) hx hb d_La_304 (by decide) ?_
      refine lv_iadd hx hb d_La_305 ?_
      refine cst_i (y := nI (k + 1)) (nI_add k 1) ?_
      refine va_sld hx hb hX hbl hbA hS (vp_in_nI (show k + 1 < L by omega) (by omega)) d_La_306 ?_
      refine lcall (As := [.int (xs (nI (k + 1)).toNatClampNeg)]) (rest := [.int r]) ⟨hx, hb, hml, hown, hts⟩ (c_Md_look l D cA g T N (xs (nI (k + 1)).toNatClampNeg) _ e2) ⟨callB_of 1 hts (tb_gi tb_cd_Md_look) rfl rfl rfl (hts _ tb_in_Md) (hts _ tb_ml_La_53) yd_Md_look ⟨Nat.le_of_ble_eq_true rfl, Nat.le_of_ble_eq_true rfl⟩, hts _ tb_im_Md_look, hts _ tb_se_Md_look⟩ (ZM_k g) hK trivial hP2 (wM_D iG) hS hG0 hlt hP (apG S' M') 0 (wM_at0 _ _ _ _) rfl rfl hl.1 rfl (Nat.le_of_ble_eq_true rfl) d_La_307 ⟨Nat.le_of_ble_eq_true rfl, Nat.le_of_ble_eq_true rfl⟩ (fun H locs hP2 hP hS => ?_)
      refine lv_icmp_eq (tgt := 338) hx hb d_La_310 (by decide) (fun _ => ?_) (fun h9 => absurd rfl h9)
      exact b338 S' M' T' N' (by omega) hR' H locs ls hl hP hP2 hS
    by_cases hc9 : v = (9 : Int32)
    · refine cst_i (y := (9 : Int32)) hc9 ?_
      refine lv_tableIn (off := 283) (tgt := 315) hx hb d_La_32 (by decide) (by decide) (by decide +kernel) (by decide) ?_
      obtain ⟨r, S', M', T', N', e1, e2, hR'⟩ := op_register (x := (xs (nI (k + 1)).toNatClampNeg)) hR
      refine lv_aload_n hx hb d_La_315 rfl (lv_at hl 1 rfl) ?_
      refine lv_aload_n hx hb d_La_316 rfl (lv_at hl 0 rfl) ?_
      refine lv_iload_n hx hb d_La_317 rfl (lv_at hl 3 rfl) ?_
      refine lv_iconst (v := (1 : Int32)) hx hb d_La_318 (by decide) ?_
      refine lv_iadd hx hb d_La_319 ?_
      refine cst_i (y := nI (k + 1)) (nI_add k 1) ?_
      refine va_sld hx hb hX hbl hbA hS (vp_in_nI (show k + 1 < L by omega) (by omega)) d_La_320 ?_
      refine lcall (As := [.int (xs (nI (k + 1)).toNatClampNeg)]) (rest := []) ⟨hx, hb, hml, hown, hts⟩ (c_Bd_register l D cA a S M (xs (nI (k + 1)).toNatClampNeg) _ e1) ⟨callB_of 1 hts (tb_gi tb_cd_Bd_register) rfl rfl rfl (hts _ tb_in_Bd) (hts _ tb_ml_La_54) yd_Bd_register ⟨Nat.le_of_ble_eq_true rfl, Nat.le_of_ble_eq_true rfl⟩, hts _ tb_im_Bd_register, hts _ tb_se_Bd_register⟩ (ZB_k a) hK hZB hP (wB_D iA) hS hA0 hlt hP2 (apA T N) 0 (wB_at0 _ _ _ _) rfl rfl hl.1 rfl (Nat.le_of_ble_eq_true rfl) d_La_321 ⟨Nat.le_of_ble_eq_true rfl, Nat.le_of_ble_eq_true rfl⟩ (fun H locs hP hP2 hS => ?_)
      refine lv_aload_n hx hb d_La_324 rfl (lv_at hl 2 rfl) ?_
      refine lv_aload_n hx hb d_La_325 rfl (lv_at hl 0 rfl) ?_
      refine lv_iload_n hx hb d_La_326 rfl (lv_at hl 3 rfl) ?_
      refine lv_iconst (v := (1 : Int32)) hx hb d_La_327 (by decide) ?_
      refine lv_iadd hx hb d_La_328 ?_
      refine cst_i (y := nI (k + 1)) (nI_add k 1) ?_
      refine va_sld hx hb hX hbl hbA hS (vp_in_nI (show k + 1 < L by omega) (by omega)) d_La_329 ?_
      refine lcall (As := [.int (xs (nI (k + 1)).toNatClampNeg)]) (rest := [.int r]) ⟨hx, hb, hml, hown, hts⟩ (c_Md_register l D cA g T N (xs (nI (k + 1)).toNatClampNeg) _ e2) ⟨callB_of 1 hts (tb_gi tb_cd_Md_register) rfl rfl rfl (hts _ tb_in_Md) (hts _ tb_ml_La_57) yd_Md_register ⟨Nat.le_of_ble_eq_true rfl, Nat.le_of_ble_eq_true rfl⟩, hts _ tb_im_Md_register, hts _ tb_se_Md_register⟩ (ZM_k g) hK trivial hP2 (wM_D iG) hS hG0 hlt hP (apG S' M') 0 (wM_at0 _ _ _ _) rfl rfl hl.1 rfl (Nat.le_of_ble_eq_true rfl) d_La_330 ⟨Nat.le_of_ble_eq_true rfl, Nat.le_of_ble_eq_true rfl⟩ (fun H locs hP2 hP hS => ?_)
      refine lv_icmp_eq (tgt := 338) hx hb d_La_333 (by decide) (fun _ => ?_) (fun h9 => absurd rfl h9)
      exact b338 S' M' T' N' (by omega) hR' H locs ls hl hP hP2 hS
    refine lv_tableOut (tgt := 338) hx hb d_La_32 (by have := lv_neT (a := 0) hc0 (by decide); have := lv_neT (a := 1) hc1 (by decide); have := lv_neT (a := 2) hc2 (by decide); have := lv_neT (a := 3) hc3 (by decide); have := lv_neT (a := 4) hc4 (by decide); have := lv_neT (a := 5) hc5 (by decide); have := lv_neT (a := 6) hc6 (by decide); have := lv_neT (a := 7) hc7 (by decide); have := lv_neT (a := 8) hc8 (by decide); have := lv_neT (a := 9) hc9 (by decide); omega) (by decide) ?_
    exact b338 S M T N (by omega) hR H locs ls hl hP hP2 hS
