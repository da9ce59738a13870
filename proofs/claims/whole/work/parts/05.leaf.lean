def w_Me_put : List Cond := Cond.code y_Me_put prog_3_method_3_code 3 none :: TB
def rm_Me_put : Room := { frames := 0, cells := 0, slots := 0, locals := 0 }
theorem d_Me_put_0 : decode prog_3_method_3_code 0 = .ok (.aload_n 0, 1) := by decide +kernel
theorem d_Me_put_1 : decode prog_3_method_3_code 1 = .ok (.getfield 11, 3) := by decide +kernel
theorem d_Me_put_4 : decode prog_3_method_3_code 4 = .ok (.iload_n 1, 1) := by decide +kernel
theorem d_Me_put_5 : decode prog_3_method_3_code 5 = .ok (.sipush 255, 3) := by decide +kernel
theorem d_Me_put_8 : decode prog_3_method_3_code 8 = .ok (.iand, 1) := by decide +kernel
theorem d_Me_put_9 : decode prog_3_method_3_code 9 = .ok (.iload_n 2, 1) := by decide +kernel
theorem d_Me_put_10 : decode prog_3_method_3_code 10 = .ok (.ldc 15, 2) := by decide +kernel
theorem d_Me_put_12 : decode prog_3_method_3_code 12 = .ok (.iand, 1) := by decide +kernel
theorem d_Me_put_13 : decode prog_3_method_3_code 13 = .ok (.iastore, 1) := by decide +kernel
theorem d_Me_put_14 : decode prog_3_method_3_code 14 = .ok (.return_, 1) := by decide +kernel
theorem yd_Me_put : y_Me_put.cls ≠ "java/lang/invoke/MethodHandle" ∧ y_Me_put.cls ≠ "java/lang/invoke/VarHandle" ∧ (parseMethodDescriptor y_Me_put.desc).map (fun d => d.parameters.length) = some 2 := by decide +kernel
def w_Re_request : List Cond := Cond.code y_Re_request prog_7_method_6_code 2 none :: TB
def rm_Re_request : Room := { frames := 0, cells := 0, slots := 0, locals := 0 }
theorem d_Re_request_0 : decode prog_7_method_6_code 0 = .ok (.aload_n 0, 1) := by decide +kernel
theorem d_Re_request_1 : decode prog_7_method_6_code 1 = .ok (.dup, 1) := by decide +kernel
theorem d_Re_request_2 : decode prog_7_method_6_code 2 = .ok (.getfield 16, 3) := by decide +kernel
theorem d_Re_request_5 : decode prog_7_method_6_code 5 = .ok (.iload_n 1, 1) := by decide +kernel
theorem d_Re_request_6 : decode prog_7_method_6_code 6 = .ok (.ior, 1) := by decide +kernel
theorem d_Re_request_7 : decode prog_7_method_6_code 7 = .ok (.putfield 16, 3) := by decide +kernel
theorem d_Re_request_10 : decode prog_7_method_6_code 10 = .ok (.return_, 1) := by decide +kernel
theorem yd_Re_request : y_Re_request.cls ≠ "java/lang/invoke/MethodHandle" ∧ y_Re_request.cls ≠ "java/lang/invoke/VarHandle" ∧ (parseMethodDescriptor y_Re_request.desc).map (fun d => d.parameters.length) = some 1 := by decide +kernel
def w_Re_at : List Cond := Cond.code y_Re_at prog_7_method_2_code 2 (some .int) :: TB
def rm_Re_at : Room := { frames := 0, cells := 0, slots := 0, locals := 0 }
theorem d_Re_at_0 : decode prog_7_method_2_code 0 = .ok (.iload_n 1, 1) := by decide +kernel
theorem d_Re_at_1 : decode prog_7_method_2_code 1 = .ok (.ifCond .lt 9, 3) := by decide +kernel
theorem d_Re_at_4 : decode prog_7_method_2_code 4 = .ok (.iload_n 1, 1) := by decide +kernel
theorem d_Re_at_5 : decode prog_7_method_2_code 5 = .ok (.bipush 28, 2) := by decide +kernel
theorem d_Re_at_7 : decode prog_7_method_2_code 7 = .ok (.if_icmp .lt 7, 3) := by decide +kernel
theorem d_Re_at_10 : decode prog_7_method_2_code 10 = .ok (.iconst 0, 1) := by decide +kernel
theorem d_Re_at_11 : decode prog_7_method_2_code 11 = .ok (.goto 9, 3) := by decide +kernel
theorem d_Re_at_14 : decode prog_7_method_2_code 14 = .ok (.aload_n 0, 1) := by decide +kernel
theorem d_Re_at_15 : decode prog_7_method_2_code 15 = .ok (.getfield 9, 3) := by decide +kernel
theorem d_Re_at_18 : decode prog_7_method_2_code 18 = .ok (.iload_n 1, 1) := by decide +kernel
theorem d_Re_at_19 : decode prog_7_method_2_code 19 = .ok (.iaload, 1) := by decide +kernel
theorem d_Re_at_20 : decode prog_7_method_2_code 20 = .ok (.ireturn, 1) := by decide +kernel
theorem yd_Re_at : y_Re_at.cls ≠ "java/lang/invoke/MethodHandle" ∧ y_Re_at.cls ≠ "java/lang/invoke/VarHandle" ∧ (parseMethodDescriptor y_Re_at.desc).map (fun d => d.parameters.length) = some 1 := by decide +kernel
def w_Re_isOn : List Cond := Cond.code y_Re_isOn prog_7_method_5_code 2 (some .boolean) :: TB
def rm_Re_isOn : Room := { frames := 0, cells := 0, slots := 0, locals := 0 }
theorem d_Re_isOn_0 : decode prog_7_method_5_code 0 = .ok (.aload_n 0, 1) := by decide +kernel
theorem d_Re_isOn_1 : decode prog_7_method_5_code 1 = .ok (.getfield 9, 3) := by decide +kernel
theorem d_Re_isOn_4 : decode prog_7_method_5_code 4 = .ok (.iconst 0, 1) := by decide +kernel
theorem d_Re_isOn_5 : decode prog_7_method_5_code 5 = .ok (.iaload, 1) := by decide +kernel
theorem d_Re_isOn_6 : decode prog_7_method_5_code 6 = .ok (.iload_n 1, 1) := by decide +kernel
theorem d_Re_isOn_7 : decode prog_7_method_5_code 7 = .ok (.iand, 1) := by decide +kernel
theorem d_Re_isOn_8 : decode prog_7_method_5_code 8 = .ok (.ifCond .eq 7, 3) := by decide +kernel
theorem d_Re_isOn_11 : decode prog_7_method_5_code 11 = .ok (.iconst 1, 1) := by decide +kernel
theorem d_Re_isOn_12 : decode prog_7_method_5_code 12 = .ok (.goto 4, 3) := by decide +kernel
theorem d_Re_isOn_15 : decode prog_7_method_5_code 15 = .ok (.iconst 0, 1) := by decide +kernel
theorem d_Re_isOn_16 : decode prog_7_method_5_code 16 = .ok (.ireturn, 1) := by decide +kernel
theorem yd_Re_isOn : y_Re_isOn.cls ≠ "java/lang/invoke/MethodHandle" ∧ y_Re_isOn.cls ≠ "java/lang/invoke/VarHandle" ∧ (parseMethodDescriptor y_Re_isOn.desc).map (fun d => d.parameters.length) = some 1 := by decide +kernel
def w_Me_at : List Cond := Cond.code y_Me_at prog_3_method_2_code 2 (some .int) :: TB
def rm_Me_at : Room := { frames := 0, cells := 0, slots := 0, locals := 0 }
theorem d_Me_at_0 : decode prog_3_method_2_code 0 = .ok (.aload_n 0, 1) := by decide +kernel
theorem d_Me_at_1 : decode prog_3_method_2_code 1 = .ok (.getfield 11, 3) := by decide +kernel
theorem d_Me_at_4 : decode prog_3_method_2_code 4 = .ok (.iload_n 1, 1) := by decide +kernel
theorem d_Me_at_5 : decode prog_3_method_2_code 5 = .ok (.sipush 255, 3) := by decide +kernel
theorem d_Me_at_8 : decode prog_3_method_2_code 8 = .ok (.iand, 1) := by decide +kernel
theorem d_Me_at_9 : decode prog_3_method_2_code 9 = .ok (.iaload, 1) := by decide +kernel
theorem d_Me_at_10 : decode prog_3_method_2_code 10 = .ok (.ireturn, 1) := by decide +kernel
theorem yd_Me_at : y_Me_at.cls ≠ "java/lang/invoke/MethodHandle" ∧ y_Me_at.cls ≠ "java/lang/invoke/VarHandle" ∧ (parseMethodDescriptor y_Me_at.desc).map (fun d => d.parameters.length) = some 1 := by decide +kernel
def w_Re_clearRequests : List Cond := Cond.code y_Re_clearRequests prog_7_method_7_code 2 none :: TB
def rm_Re_clearRequests : Room := { frames := 0, cells := 0, slots := 0, locals := 0 }
theorem d_Re_clearRequests_0 : decode prog_7_method_7_code 0 = .ok (.aload_n 0, 1) := by decide +kernel
theorem d_Re_clearRequests_1 : decode prog_7_method_7_code 1 = .ok (.dup, 1) := by decide +kernel
theorem d_Re_clearRequests_2 : decode prog_7_method_7_code 2 = .ok (.getfield 16, 3) := by decide +kernel
theorem d_Re_clearRequests_5 : decode prog_7_method_7_code 5 = .ok (.iload_n 1, 1) := by decide +kernel
theorem d_Re_clearRequests_6 : decode prog_7_method_7_code 6 = .ok (.iconst (-1), 1) := by decide +kernel
theorem d_Re_clearRequests_7 : decode prog_7_method_7_code 7 = .ok (.ixor, 1) := by decide +kernel
theorem d_Re_clearRequests_8 : decode prog_7_method_7_code 8 = .ok (.iand, 1) := by decide +kernel
theorem d_Re_clearRequests_9 : decode prog_7_method_7_code 9 = .ok (.putfield 16, 3) := by decide +kernel
theorem d_Re_clearRequests_12 : decode prog_7_method_7_code 12 = .ok (.return_, 1) := by decide +kernel
theorem yd_Re_clearRequests : y_Re_clearRequests.cls ≠ "java/lang/invoke/MethodHandle" ∧ y_Re_clearRequests.cls ≠ "java/lang/invoke/VarHandle" ∧ (parseMethodDescriptor y_Re_clearRequests.desc).map (fun d => d.parameters.length) = some 1 := by decide +kernel
def w_Re_put : List Cond := Cond.code y_Re_put prog_7_method_3_code 3 none :: TB
def rm_Re_put : Room := { frames := 0, cells := 0, slots := 0, locals := 0 }
theorem d_Re_put_0 : decode prog_7_method_3_code 0 = .ok (.iload_n 1, 1) := by decide +kernel
theorem d_Re_put_1 : decode prog_7_method_3_code 1 = .ok (.ifCond .lt 22, 3) := by decide +kernel
theorem d_Re_put_4 : decode prog_7_method_3_code 4 = .ok (.iload_n 1, 1) := by decide +kernel
theorem d_Re_put_5 : decode prog_7_method_3_code 5 = .ok (.bipush 28, 2) := by decide +kernel
theorem d_Re_put_7 : decode prog_7_method_3_code 7 = .ok (.if_icmp .ge 16, 3) := by decide +kernel
theorem d_Re_put_10 : decode prog_7_method_3_code 10 = .ok (.aload_n 0, 1) := by decide +kernel
theorem d_Re_put_11 : decode prog_7_method_3_code 11 = .ok (.getfield 9, 3) := by decide +kernel
theorem d_Re_put_14 : decode prog_7_method_3_code 14 = .ok (.iload_n 1, 1) := by decide +kernel
theorem d_Re_put_15 : decode prog_7_method_3_code 15 = .ok (.iload_n 2, 1) := by decide +kernel
theorem d_Re_put_16 : decode prog_7_method_3_code 16 = .ok (.getstatic 13, 3) := by decide +kernel
theorem d_Re_put_19 : decode prog_7_method_3_code 19 = .ok (.iload_n 1, 1) := by decide +kernel
theorem d_Re_put_20 : decode prog_7_method_3_code 20 = .ok (.iaload, 1) := by decide +kernel
theorem d_Re_put_21 : decode prog_7_method_3_code 21 = .ok (.iand, 1) := by decide +kernel
theorem d_Re_put_22 : decode prog_7_method_3_code 22 = .ok (.iastore, 1) := by decide +kernel
theorem d_Re_put_23 : decode prog_7_method_3_code 23 = .ok (.return_, 1) := by decide +kernel
theorem yd_Re_put : y_Re_put.cls ≠ "java/lang/invoke/MethodHandle" ∧ y_Re_put.cls ≠ "java/lang/invoke/VarHandle" ∧ (parseMethodDescriptor y_Re_put.desc).map (fun d => d.parameters.length) = some 2 := by decide +kernel
def w_Re_grow : List Cond := Cond.code y_Re_grow prog_7_method_4_code 3 none :: TB
def rm_Re_grow : Room := { frames := 0, cells := 0, slots := 0, locals := 0 }
theorem d_Re_grow_0 : decode prog_7_method_4_code 0 = .ok (.iload_n 1, 1) := by decide +kernel
theorem d_Re_grow_1 : decode prog_7_method_4_code 1 = .ok (.ifCond .lt 29, 3) := by decide +kernel
theorem d_Re_grow_4 : decode prog_7_method_4_code 4 = .ok (.iload_n 1, 1) := by decide +kernel
theorem d_Re_grow_5 : decode prog_7_method_4_code 5 = .ok (.bipush 28, 2) := by decide +kernel
theorem d_Re_grow_7 : decode prog_7_method_4_code 7 = .ok (.if_icmp .ge 23, 3) := by decide +kernel
theorem d_Re_grow_10 : decode prog_7_method_4_code 10 = .ok (.aload_n 0, 1) := by decide +kernel
theorem d_Re_grow_11 : decode prog_7_method_4_code 11 = .ok (.getfield 9, 3) := by decide +kernel
theorem d_Re_grow_14 : decode prog_7_method_4_code 14 = .ok (.iload_n 1, 1) := by decide +kernel
theorem d_Re_grow_15 : decode prog_7_method_4_code 15 = .ok (.aload_n 0, 1) := by decide +kernel
theorem d_Re_grow_16 : decode prog_7_method_4_code 16 = .ok (.getfield 9, 3) := by decide +kernel
theorem d_Re_grow_19 : decode prog_7_method_4_code 19 = .ok (.iload_n 1, 1) := by decide +kernel
theorem d_Re_grow_20 : decode prog_7_method_4_code 20 = .ok (.iaload, 1) := by decide +kernel
theorem d_Re_grow_21 : decode prog_7_method_4_code 21 = .ok (.iload_n 2, 1) := by decide +kernel
theorem d_Re_grow_22 : decode prog_7_method_4_code 22 = .ok (.iadd, 1) := by decide +kernel
theorem d_Re_grow_23 : decode prog_7_method_4_code 23 = .ok (.getstatic 13, 3) := by decide +kernel
theorem d_Re_grow_26 : decode prog_7_method_4_code 26 = .ok (.iload_n 1, 1) := by decide +kernel
theorem d_Re_grow_27 : decode prog_7_method_4_code 27 = .ok (.iaload, 1) := by decide +kernel
theorem d_Re_grow_28 : decode prog_7_method_4_code 28 = .ok (.iand, 1) := by decide +kernel
theorem d_Re_grow_29 : decode prog_7_method_4_code 29 = .ok (.iastore, 1) := by decide +kernel
theorem d_Re_grow_30 : decode prog_7_method_4_code 30 = .ok (.return_, 1) := by decide +kernel
theorem yd_Re_grow : y_Re_grow.cls ≠ "java/lang/invoke/MethodHandle" ∧ y_Re_grow.cls ≠ "java/lang/invoke/VarHandle" ∧ (parseMethodDescriptor y_Re_grow.desc).map (fun d => d.parameters.length) = some 2 := by decide +kernel
def w_Re_isEnabledRequested : List Cond := Cond.code y_Re_isEnabledRequested prog_7_method_8_code 1 (some .boolean) :: TB
def rm_Re_isEnabledRequested : Room := { frames := 0, cells := 0, slots := 0, locals := 0 }
theorem d_Re_isEnabledRequested_0 : decode prog_7_method_8_code 0 = .ok (.aload_n 0, 1) := by decide +kernel
theorem d_Re_isEnabledRequested_1 : decode prog_7_method_8_code 1 = .ok (.getfield 16, 3) := by decide +kernel
theorem d_Re_isEnabledRequested_4 : decode prog_7_method_8_code 4 = .ok (.aload_n 0, 1) := by decide +kernel
theorem d_Re_isEnabledRequested_5 : decode prog_7_method_8_code 5 = .ok (.getfield 9, 3) := by decide +kernel
theorem d_Re_isEnabledRequested_8 : decode prog_7_method_8_code 8 = .ok (.bipush 26, 2) := by decide +kernel
theorem d_Re_isEnabledRequested_10 : decode prog_7_method_8_code 10 = .ok (.iaload, 1) := by decide +kernel
theorem d_Re_isEnabledRequested_11 : decode prog_7_method_8_code 11 = .ok (.iand, 1) := by decide +kernel
theorem d_Re_isEnabledRequested_12 : decode prog_7_method_8_code 12 = .ok (.ifCond .eq 7, 3) := by decide +kernel
theorem d_Re_isEnabledRequested_15 : decode prog_7_method_8_code 15 = .ok (.iconst 1, 1) := by decide +kernel
theorem d_Re_isEnabledRequested_16 : decode prog_7_method_8_code 16 = .ok (.goto 4, 3) := by decide +kernel
theorem d_Re_isEnabledRequested_19 : decode prog_7_method_8_code 19 = .ok (.iconst 0, 1) := by decide +kernel
theorem d_Re_isEnabledRequested_20 : decode prog_7_method_8_code 20 = .ok (.ireturn, 1) := by decide +kernel
theorem yd_Re_isEnabledRequested : y_Re_isEnabledRequested.cls ≠ "java/lang/invoke/MethodHandle" ∧ y_Re_isEnabledRequested.cls ≠ "java/lang/invoke/VarHandle" ∧ (parseMethodDescriptor y_Re_isEnabledRequested.desc).map (fun d => d.parameters.length) = some 0 := by decide +kernel
theorem tb_cd_Me_put : Cond.code y_Me_put prog_3_method_3_code 3 none ∈ TB := tb_in 209 (by decide +kernel) (by decide +kernel)
theorem tb_in_Me : Cond.initialized "SlotBoard$Memory" ∈ TB := tb_in 2 (by decide +kernel) (by decide +kernel)
theorem tb_im_Me_put : Cond.instanceMethod y_Me_put ∈ TB := tb_in 207 (by decide +kernel) (by decide +kernel)
theorem tb_se_Me_put : Cond.selects "SlotBoard$Memory" y_Me_put y_Me_put ∈ TB := tb_in 208 (by decide +kernel) (by decide +kernel)
theorem tb_fl_Me_11 : Cond.fieldLink "SlotBoard$Memory" 11 "SlotBoard$Memory" "words" "[I" ∈ TB := tb_in 24 (by decide +kernel) (by decide +kernel)
theorem tb_ct_Me_15 : Cond.constant "SlotBoard$Memory" 15 (65535) ∈ TB := tb_in 210 (by decide +kernel) (by decide +kernel)
theorem tb_cd_Re_request : Cond.code y_Re_request prog_7_method_6_code 2 none ∈ TB := tb_in 226 (by decide +kernel) (by decide +kernel)
theorem tb_in_Re : Cond.initialized "SlotBoard$Registers" ∈ TB := tb_in 3 (by decide +kernel) (by decide +kernel)
theorem tb_im_Re_request : Cond.instanceMethod y_Re_request ∈ TB := tb_in 224 (by decide +kernel) (by decide +kernel)
theorem tb_se_Re_request : Cond.selects "SlotBoard$Registers" y_Re_request y_Re_request ∈ TB := tb_in 225 (by decide +kernel) (by decide +kernel)
theorem tb_fl_Re_16 : Cond.fieldLink "SlotBoard$Registers" 16 "SlotBoard$Registers" "requests" "I" ∈ TB := tb_in 36 (by decide +kernel) (by decide +kernel)
theorem tb_cd_Re_at : Cond.code y_Re_at prog_7_method_2_code 2 (some .int) ∈ TB := tb_in 234 (by decide +kernel) (by decide +kernel)
theorem tb_im_Re_at : Cond.instanceMethod y_Re_at ∈ TB := tb_in 232 (by decide +kernel) (by decide +kernel)
theorem tb_se_Re_at : Cond.selects "SlotBoard$Registers" y_Re_at y_Re_at ∈ TB := tb_in 233 (by decide +kernel) (by decide +kernel)
theorem tb_fl_Re_9 : Cond.fieldLink "SlotBoard$Registers" 9 "SlotBoard$Registers" "values" "[I" ∈ TB := tb_in 35 (by decide +kernel) (by decide +kernel)
theorem tb_cd_Re_isOn : Cond.code y_Re_isOn prog_7_method_5_code 2 (some .boolean) ∈ TB := tb_in 238 (by decide +kernel) (by decide +kernel)
theorem tb_im_Re_isOn : Cond.instanceMethod y_Re_isOn ∈ TB := tb_in 236 (by decide +kernel) (by decide +kernel)
theorem tb_se_Re_isOn : Cond.selects "SlotBoard$Registers" y_Re_isOn y_Re_isOn ∈ TB := tb_in 237 (by decide +kernel) (by decide +kernel)
theorem tb_cd_Me_at : Cond.code y_Me_at prog_3_method_2_code 2 (some .int) ∈ TB := tb_in 300 (by decide +kernel) (by decide +kernel)
theorem tb_im_Me_at : Cond.instanceMethod y_Me_at ∈ TB := tb_in 298 (by decide +kernel) (by decide +kernel)
theorem tb_se_Me_at : Cond.selects "SlotBoard$Memory" y_Me_at y_Me_at ∈ TB := tb_in 299 (by decide +kernel) (by decide +kernel)
theorem tb_cd_Re_clearRequests : Cond.code y_Re_clearRequests prog_7_method_7_code 2 none ∈ TB := tb_in 330 (by decide +kernel) (by decide +kernel)
theorem tb_im_Re_clearRequests : Cond.instanceMethod y_Re_clearRequests ∈ TB := tb_in 328 (by decide +kernel) (by decide +kernel)
theorem tb_se_Re_clearRequests : Cond.selects "SlotBoard$Registers" y_Re_clearRequests y_Re_clearRequests ∈ TB := tb_in 329 (by decide +kernel) (by decide +kernel)
theorem tb_cd_Re_put : Cond.code y_Re_put prog_7_method_3_code 3 none ∈ TB := tb_in 334 (by decide +kernel) (by decide +kernel)
theorem tb_im_Re_put : Cond.instanceMethod y_Re_put ∈ TB := tb_in 332 (by decide +kernel) (by decide +kernel)
theorem tb_se_Re_put : Cond.selects "SlotBoard$Registers" y_Re_put y_Re_put ∈ TB := tb_in 333 (by decide +kernel) (by decide +kernel)
theorem tb_fl_Re_13 : Cond.fieldLink "SlotBoard$Registers" 13 "SlotBoard$Registers" "COUNTING_BITS" "[I" ∈ TB := tb_in 335 (by decide +kernel) (by decide +kernel)
theorem tb_cd_Re_grow : Cond.code y_Re_grow prog_7_method_4_code 3 none ∈ TB := tb_in 357 (by decide +kernel) (by decide +kernel)
theorem tb_im_Re_grow : Cond.instanceMethod y_Re_grow ∈ TB := tb_in 355 (by decide +kernel) (by decide +kernel)
theorem tb_se_Re_grow : Cond.selects "SlotBoard$Registers" y_Re_grow y_Re_grow ∈ TB := tb_in 356 (by decide +kernel) (by decide +kernel)
theorem tb_cd_Re_isEnabledRequested : Cond.code y_Re_isEnabledRequested prog_7_method_8_code 1 (some .boolean) ∈ TB := tb_in 441 (by decide +kernel) (by decide +kernel)
theorem tb_im_Re_isEnabledRequested : Cond.instanceMethod y_Re_isEnabledRequested ∈ TB := tb_in 439 (by decide +kernel) (by decide +kernel)
theorem tb_se_Re_isEnabledRequested : Cond.selects "SlotBoard$Registers" y_Re_isEnabledRequested y_Re_isEnabledRequested ∈ TB := tb_in 440 (by decide +kernel) (by decide +kernel)
def f_Me_put (S : SS) (M : MM) (x1 : Int32) (x2 : Int32) : Option RR := if x1 &&& (255 : Int32) < 0 ∨ 256 ≤ (x1 &&& (255 : Int32)).toNatClampNeg then none else some (0, S, (upM M 1 (upd (M 1) (x1 &&& (255 : Int32)).toNatClampNeg (x2 &&& (65535 : Int32)))))
set_option maxHeartbeats 4000000 in
set_option maxRecDepth 100000 in
theorem c_Me_put (l : Launch) (D : va_G) (cA : ClassId) (a : Nat → Nat) (S : SS) (M : MM) (x1 : Int32) (x2 : Int32) (q : RR) (h0 : f_Me_put S M x1 x2 = some q) : Cv l y_Me_put w_Me_put rm_Me_put D vCl [(cA, .int)] (AB a) (ZB a) (wB cA a) [.ref (a 1), .int x1, .int x2] S M q := by
  refine Cv.of (cc := prog_3_method_3_code) (maxL := 3) (by decide) rfl (Nat.le_of_ble_eq_true rfl) ?_
  intro p e s m args below meth c Q hx hb hml hown hts hK hZ ret
  have hown : s.vm.findClass R_Me = some m.cls := hown
  have hts : ∀ w ∈ TB, w.before args s = true := fun w h => hts w (List.mem_cons_of_mem _ h)
  have hZK := ZB_k a
  have k11 := hts _ tb_fl_Me_11
  have k15 := hts _ tb_ct_Me_15
  intro H locs ls hl hP hD hS
  have hl : lv_has ls 3 [(0, .ref (a 1)), (1, .int x1), (2, .int x2)] := hl
  have h := h0
  unfold f_Me_put at h
  refine lv_aload_n hx hb d_Me_put_0 rfl (lv_at hl 0 rfl) ?_
  refine va_get (D := D) (ci := 1) (v := .ref (a 8)) (C := R_Me) (T := T_Me) (N := 1) hx hb hts iMe hown hK hP 1 (wB_at1 _ _ _ _) rfl 0 (by decide) k11 (fun _ h9 => h9) rfl d_Me_put_1 ?_
  refine lv_iload_n hx hb d_Me_put_4 rfl (lv_at hl 1 rfl) ?_
  refine lv_sipush (v := (255 : Int32)) hx hb d_Me_put_5 (by decide) ?_
  refine lv_iand hx hb d_Me_put_8 ?_
  refine lv_iload_n hx hb d_Me_put_9 rfl (lv_at hl 2 rfl) ?_
  refine lv_ldc (v := (65535 : Int32)) hx hb hown k15 d_Me_put_10 ?_
  refine lv_iand hx hb d_Me_put_12 ?_
  obtain ⟨hg1, h⟩ := sg_g h
  refine va_iast (x := x2 &&& (65535 : Int32)) hx hb hK hP hD hS 8 0 (wB_at8 _ _ _ _) rfl hg1 d_Me_put_13 (fun H locs hP hD hS => ?_)
  have hP := wB_set8 hP
  have hD := wB_dset8 hD
  exact ret _ _ _ _ _ _ _ h hP hD hS d_Me_put_14
def f_Re_request (S : SS) (M : MM) (x1 : Int32) : Option RR := some (0, (upd S 2 ((S 2) ||| x1)), M)
set_option maxHeartbeats 4000000 in
set_option maxRecDepth 100000 in
theorem c_Re_request (l : Launch) (D : va_G) (cA : ClassId) (a : Nat → Nat) (S : SS) (M : MM) (x1 : Int32) (q : RR) (h0 : f_Re_request S M x1 = some q) : Cv l y_Re_request w_Re_request rm_Re_request D vCl [(cA, .int)] (AB a) (ZB a) (wB cA a) [.ref (a 2), .int x1] S M q := by
  refine Cv.of (cc := prog_7_method_6_code) (maxL := 2) (by decide) rfl (Nat.le_of_ble_eq_true rfl) ?_
  intro p e s m args below meth c Q hx hb hml hown hts hK hZ ret
  have hown : s.vm.findClass R_Re = some m.cls := hown
  have hts : ∀ w ∈ TB, w.before args s = true := fun w h => hts w (List.mem_cons_of_mem _ h)
  have hZK := ZB_k a
  have k16 := hts _ tb_fl_Re_16
  intro H locs ls hl hP hD hS
  have hl : lv_has ls 2 [(0, .ref (a 2)), (1, .int x1)] := hl
  have h := h0
  unfold f_Re_request at h
  refine lv_aload_n hx hb d_Re_request_0 rfl (lv_at hl 0 rfl) ?_
  refine lv_dup hx hb d_Re_request_1 rfl ?_
  refine va_get (D := D) (ci := 2) (v := .int (S 2)) (C := R_Re) (T := T_Re) (N := 2) hx hb hts iRe hown hK hP 2 (wB_at2 _ _ _ _) rfl 1 (by decide) k16 (fun _ h9 => h9) rfl d_Re_request_2 ?_
  refine lv_iload_n hx hb d_Re_request_5 rfl (lv_at hl 1 rfl) ?_
  refine lv_ior hx hb d_Re_request_6 ?_
  refine puwB_2 (D := D) (x := (S 2) ||| x1) hx hb hts iRe hown hK hP hD hS k16 rfl rfl d_Re_request_7 (fun H locs hP hD hS => ?_)
  exact ret _ _ _ _ _ _ _ h hP hD hS d_Re_request_10
def f_Re_at_20 (S : SS) (M : MM) (x1 : Int32) (y0 : Int32) : Option RR := some (y0, S, M)
def f_Re_at_10 (S : SS) (M : MM) (x1 : Int32) : Option RR := f_Re_at_20 S M x1 (0 : Int32)
def f_Re_at (S : SS) (M : MM) (x1 : Int32) : Option RR := if x1 < 0 then f_Re_at_10 S M x1 else if x1 < (28 : Int32) then if x1 < 0 ∨ 28 ≤ x1.toNatClampNeg then none else f_Re_at_20 S M x1 (M 2 x1.toNatClampNeg) else f_Re_at_10 S M x1
set_option maxHeartbeats 4000000 in
set_option maxRecDepth 100000 in
theorem c_Re_at (l : Launch) (D : va_G) (cA : ClassId) (a : Nat → Nat) (S : SS) (M : MM) (x1 : Int32) (q : RR) (h0 : f_Re_at S M x1 = some q) : Ci l y_Re_at w_Re_at rm_Re_at D vCl [(cA, .int)] (AB a) (ZB a) (wB cA a) [.ref (a 2), .int x1] S M q := by
  refine Ci.of (cc := prog_7_method_2_code) (maxL := 2) (ty := .int) (by decide) rfl (Nat.le_of_ble_eq_true rfl) ?_
  intro p e s m args below meth c Q hx hb hml hown hts hK hZ ret
  have hown : s.vm.findClass R_Re = some m.cls := hown
  have hts : ∀ w ∈ TB, w.before args s = true := fun w h => hts w (List.mem_cons_of_mem _ h)
  have hZK := ZB_k a
  have k9 := hts _ tb_fl_Re_9
  have b20 : ∀ (S : SS) (M : MM) (x1 : Int32) (y0 : Int32), f_Re_at_20 S M x1 y0 = some q → BK p l e rm_Re_at s m args below meth c Q D vCl (AB a) (wB cA a) 2 20 [(0, .ref (a 2)), (1, .int x1)] [.int y0] S M := by
    intro S M x1 y0 h H locs ls hl hP hD hS
    unfold f_Re_at_20 at h
    exact ret _ _ _ _ _ _ _ h rfl hP hD hS d_Re_at_20
  have b10 : ∀ (S : SS) (M : MM) (x1 : Int32), f_Re_at_10 S M x1 = some q → BK p l e rm_Re_at s m args below meth c Q D vCl (AB a) (wB cA a) 2 10 [(0, .ref (a 2)), (1, .int x1)] [] S M := by
    intro S M x1 h H locs ls hl hP hD hS
    unfold f_Re_at_10 at h
    refine lv_iconst (v := (0 : Int32)) hx hb d_Re_at_10 (by decide) ?_
    refine lv_goto (tgt := 20) hx hb d_Re_at_11 (by decide) ?_
    exact b20 _ _ _ _ h _ _ _ (lv_sub hl [0, 1] rfl) hP hD hS
  intro H locs ls hl hP hD hS
  have hl : lv_has ls 2 [(0, .ref (a 2)), (1, .int x1)] := hl
  have h := h0
  unfold f_Re_at at h
  refine lv_iload_n hx hb d_Re_at_0 rfl (lv_at hl 1 rfl) ?_
  refine lv_if_lt (tgt := 10) hx hb d_Re_at_1 (by decide) (fun hc => ?_) (fun hc => ?_)
  · have h := sg_p hc h
    exact b10 _ _ _ h _ _ _ (lv_sub hl [0, 1] rfl) hP hD hS
  · have h := sg_n hc h
    refine lv_iload_n hx hb d_Re_at_4 rfl (lv_at hl 1 rfl) ?_
    refine lv_bipush (v := (28 : Int32)) hx hb d_Re_at_5 (by decide) ?_
    refine lv_icmp_lt (tgt := 14) hx hb d_Re_at_7 (by decide) (fun hc => ?_) (fun hc => ?_)
    · have h := sg_p hc h
      refine lv_aload_n hx hb d_Re_at_14 rfl (lv_at hl 0 rfl) ?_
      refine va_get (D := D) (ci := 2) (v := .ref (a 9)) (C := R_Re) (T := T_Re) (N := 2) hx hb hts iRe hown hK hP 2 (wB_at2 _ _ _ _) rfl 0 (by decide) k9 (fun _ h9 => h9) rfl d_Re_at_15 ?_
      refine lv_iload_n hx hb d_Re_at_18 rfl (lv_at hl 1 rfl) ?_
      obtain ⟨hg1, h⟩ := sg_g h
      refine va_iald hx hb hK hP 9 0 (wB_at9 _ _ _ _) rfl hg1 d_Re_at_19 ?_
      exact b20 _ _ _ _ h _ _ _ (lv_sub hl [0, 1] rfl) hP hD hS
    · have h := sg_n hc h
      exact b10 _ _ _ h _ _ _ (lv_sub hl [0, 1] rfl) hP hD hS
def f_Re_isOn_16 (S : SS) (M : MM) (x1 : Int32) (y0 : Int32) : Option RR := if ¬ (y0 = 0 ∨ y0 = 1) then none else some (y0, S, M)
def f_Re_isOn (S : SS) (M : MM) (x1 : Int32) : Option RR := if (M 2 0) &&& x1 = 0 then f_Re_isOn_16 S M x1 (0 : Int32) else f_Re_isOn_16 S M x1 (1 : Int32)
set_option maxHeartbeats 4000000 in
set_option maxRecDepth 100000 in
theorem c_Re_isOn (l : Launch) (D : va_G) (cA : ClassId) (a : Nat → Nat) (S : SS) (M : MM) (x1 : Int32) (q : RR) (h0 : f_Re_isOn S M x1 = some q) : Ci l y_Re_isOn w_Re_isOn rm_Re_isOn D vCl [(cA, .int)] (AB a) (ZB a) (wB cA a) [.ref (a 2), .int x1] S M q := by
  refine Ci.of (cc := prog_7_method_5_code) (maxL := 2) (ty := .boolean) (by decide) rfl (Nat.le_of_ble_eq_true rfl) ?_
  intro p e s m args below meth c Q hx hb hml hown hts hK hZ ret
  have hown : s.vm.findClass R_Re = some m.cls := hown
  have hts : ∀ w ∈ TB, w.before args s = true := fun w h => hts w (List.mem_cons_of_mem _ h)
  have hZK := ZB_k a
  have k9 := hts _ tb_fl_Re_9
  have b16 : ∀ (S : SS) (M : MM) (x1 : Int32) (y0 : Int32), f_Re_isOn_16 S M x1 y0 = some q → BK p l e rm_Re_isOn s m args below meth c Q D vCl (AB a) (wB cA a) 2 16 [(0, .ref (a 2)), (1, .int x1)] [.int y0] S M := by
    intro S M x1 y0 h H locs ls hl hP hD hS
    unfold f_Re_isOn_16 at h
    obtain ⟨hg1, h⟩ := sg_g h
    exact ret _ _ _ _ _ _ _ h (sg_nb hg1).1 hP hD hS d_Re_isOn_16
  intro H locs ls hl hP hD hS
  have hl : lv_has ls 2 [(0, .ref (a 2)), (1, .int x1)] := hl
  have h := h0
  unfold f_Re_isOn at h
  refine lv_aload_n hx hb d_Re_isOn_0 rfl (lv_at hl 0 rfl) ?_
  refine va_get (D := D) (ci := 2) (v := .ref (a 9)) (C := R_Re) (T := T_Re) (N := 2) hx hb hts iRe hown hK hP 2 (wB_at2 _ _ _ _) rfl 0 (by decide) k9 (fun _ h9 => h9) rfl d_Re_isOn_1 ?_
  refine lv_iconst (v := (0 : Int32)) hx hb d_Re_isOn_4 (by decide) ?_
  refine ialdK hx hb hK hP 9 0 (wB_at9 _ _ _ _) rfl 0 (by decide) (by unfold vp_in; decide) d_Re_isOn_5 ?_
  refine lv_iload_n hx hb d_Re_isOn_6 rfl (lv_at hl 1 rfl) ?_
  refine lv_iand hx hb d_Re_isOn_7 ?_
  refine lv_if_eq (tgt := 15) hx hb d_Re_isOn_8 (by decide) (fun hc => ?_) (fun hc => ?_)
  · have h := sg_p hc h
    refine lv_iconst (v := (0 : Int32)) hx hb d_Re_isOn_15 (by decide) ?_
    exact b16 _ _ _ _ h _ _ _ (lv_sub hl [0, 1] rfl) hP hD hS
  · have h := sg_n hc h
    refine lv_iconst (v := (1 : Int32)) hx hb d_Re_isOn_11 (by decide) ?_
    refine lv_goto (tgt := 16) hx hb d_Re_isOn_12 (by decide) ?_
    exact b16 _ _ _ _ h _ _ _ (lv_sub hl [0, 1] rfl) hP hD hS
def f_Me_at (S : SS) (M : MM) (x1 : Int32) : Option RR := if x1 &&& (255 : Int32) < 0 ∨ 256 ≤ (x1 &&& (255 : Int32)).toNatClampNeg then none else some (M 1 (x1 &&& (255 : Int32)).toNatClampNeg, S, M)
set_option maxHeartbeats 4000000 in
set_option maxRecDepth 100000 in
theorem c_Me_at (l : Launch) (D : va_G) (cA : ClassId) (a : Nat → Nat) (S : SS) (M : MM) (x1 : Int32) (q : RR) (h0 : f_Me_at S M x1 = some q) : Ci l y_Me_at w_Me_at rm_Me_at D vCl [(cA, .int)] (AB a) (ZB a) (wB cA a) [.ref (a 1), .int x1] S M q := by
  refine Ci.of (cc := prog_3_method_2_code) (maxL := 2) (ty := .int) (by decide) rfl (Nat.le_of_ble_eq_true rfl) ?_
  intro p e s m args below meth c Q hx hb hml hown hts hK hZ ret
  have hown : s.vm.findClass R_Me = some m.cls := hown
  have hts : ∀ w ∈ TB, w.before args s = true := fun w h => hts w (List.mem_cons_of_mem _ h)
  have hZK := ZB_k a
  have k11 := hts _ tb_fl_Me_11
  intro H locs ls hl hP hD hS
  have hl : lv_has ls 2 [(0, .ref (a 1)), (1, .int x1)] := hl
  have h := h0
  unfold f_Me_at at h
  refine lv_aload_n hx hb d_Me_at_0 rfl (lv_at hl 0 rfl) ?_
  refine va_get (D := D) (ci := 1) (v := .ref (a 8)) (C := R_Me) (T := T_Me) (N := 1) hx hb hts iMe hown hK hP 1 (wB_at1 _ _ _ _) rfl 0 (by decide) k11 (fun _ h9 => h9) rfl d_Me_at_1 ?_
  refine lv_iload_n hx hb d_Me_at_4 rfl (lv_at hl 1 rfl) ?_
  refine lv_sipush (v := (255 : Int32)) hx hb d_Me_at_5 (by decide) ?_
  refine lv_iand hx hb d_Me_at_8 ?_
  obtain ⟨hg1, h⟩ := sg_g h
  refine va_iald hx hb hK hP 8 0 (wB_at8 _ _ _ _) rfl hg1 d_Me_at_9 ?_
  exact ret _ _ _ _ _ _ _ h rfl hP hD hS d_Me_at_10
def f_Re_clearRequests (S : SS) (M : MM) (x1 : Int32) : Option RR := some (0, (upd S 2 ((S 2) &&& (x1 ^^^ (-1 : Int32)))), M)
set_option maxHeartbeats 4000000 in
set_option maxRecDepth 100000 in
theorem c_Re_clearRequests (l : Launch) (D : va_G) (cA : ClassId) (a : Nat → Nat) (S : SS) (M : MM) (x1 : Int32) (q : RR) (h0 : f_Re_clearRequests S M x1 = some q) : Cv l y_Re_clearRequests w_Re_clearRequests rm_Re_clearRequests D vCl [(cA, .int)] (AB a) (ZB a) (wB cA a) [.ref (a 2), .int x1] S M q := by
  refine Cv.of (cc := prog_7_method_7_code) (maxL := 2) (by decide) rfl (Nat.le_of_ble_eq_true rfl) ?_
  intro p e s m args below meth c Q hx hb hml hown hts hK hZ ret
  have hown : s.vm.findClass R_Re = some m.cls := hown
  have hts : ∀ w ∈ TB, w.before args s = true := fun w h => hts w (List.mem_cons_of_mem _ h)
  have hZK := ZB_k a
  have k16 := hts _ tb_fl_Re_16
  intro H locs ls hl hP hD hS
  have hl : lv_has ls 2 [(0, .ref (a 2)), (1, .int x1)] := hl
  have h := h0
  unfold f_Re_clearRequests at h
  refine lv_aload_n hx hb d_Re_clearRequests_0 rfl (lv_at hl 0 rfl) ?_
  refine lv_dup hx hb d_Re_clearRequests_1 rfl ?_
  refine va_get (D := D) (ci := 2) (v := .int (S 2)) (C := R_Re) (T := T_Re) (N := 2) hx hb hts iRe hown hK hP 2 (wB_at2 _ _ _ _) rfl 1 (by decide) k16 (fun _ h9 => h9) rfl d_Re_clearRequests_2 ?_
  refine lv_iload_n hx hb d_Re_clearRequests_5 rfl (lv_at hl 1 rfl) ?_
  refine lv_iconst (v := (-1 : Int32)) hx hb d_Re_clearRequests_6 (by decide) ?_
  refine lv_ixor hx hb d_Re_clearRequests_7 ?_
  refine lv_iand hx hb d_Re_clearRequests_8 ?_
  refine puwB_2 (D := D) (x := (S 2) &&& (x1 ^^^ (-1 : Int32))) hx hb hts iRe hown hK hP hD hS k16 rfl rfl d_Re_clearRequests_9 (fun H locs hP hD hS => ?_)
  exact ret _ _ _ _ _ _ _ h hP hD hS d_Re_clearRequests_12
def f_Re_put_23 (S : SS) (M : MM) (x1 : Int32) (x2 : Int32) : Option RR := some (0, S, M)
def f_Re_put (S : SS) (M : MM) (x1 : Int32) (x2 : Int32) : Option RR := if x1 < 0 then f_Re_put_23 S M x1 x2 else if (28 : Int32) ≤ x1 then f_Re_put_23 S M x1 x2 else if x1 < 0 ∨ 28 ≤ x1.toNatClampNeg then none else if x1 < 0 ∨ 28 ≤ x1.toNatClampNeg then none else f_Re_put_23 S (upM M 2 (upd (M 2) x1.toNatClampNeg (x2 &&& (cbits x1.toNatClampNeg)))) x1 x2
set_option maxHeartbeats 4000000 in
set_option maxRecDepth 100000 in
theorem c_Re_put (l : Launch) (D : va_G) (cA : ClassId) (a : Nat → Nat) (S : SS) (M : MM) (x1 : Int32) (x2 : Int32) (q : RR) (h0 : f_Re_put S M x1 x2 = some q) : Cv l y_Re_put w_Re_put rm_Re_put D vCl [(cA, .int)] (AB a) (ZB a) (wB cA a) [.ref (a 2), .int x1, .int x2] S M q := by
  refine Cv.of (cc := prog_7_method_3_code) (maxL := 3) (by decide) rfl (Nat.le_of_ble_eq_true rfl) ?_
  intro p e s m args below meth c Q hx hb hml hown hts hK hZ ret
  have hown : s.vm.findClass R_Re = some m.cls := hown
  have hts : ∀ w ∈ TB, w.before args s = true := fun w h => hts w (List.mem_cons_of_mem _ h)
  have hZK := ZB_k a
  obtain ⟨t0, hZ0, hZ1⟩ := hZ.1
  have k9 := hts _ tb_fl_Re_9
  have k13 := hts _ tb_fl_Re_13
  have b23 : ∀ (S : SS) (M : MM) (x1 : Int32) (x2 : Int32), f_Re_put_23 S M x1 x2 = some q → BK p l e rm_Re_put s m args below meth c Q D vCl (AB a) (wB cA a) 3 23 [(0, .ref (a 2)), (1, .int x1), (2, .int x2)] [] S M := by
    intro S M x1 x2 h H locs ls hl hP hD hS
    unfold f_Re_put_23 at h
    exact ret _ _ _ _ _ _ _ h hP hD hS d_Re_put_23
  intro H locs ls hl hP hD hS
  have hl : lv_has ls 3 [(0, .ref (a 2)), (1, .int x1), (2, .int x2)] := hl
  have h := h0
  unfold f_Re_put at h
  refine lv_iload_n hx hb d_Re_put_0 rfl (lv_at hl 1 rfl) ?_
  refine lv_if_lt (tgt := 23) hx hb d_Re_put_1 (by decide) (fun hc => ?_) (fun hc => ?_)
  · have h := sg_p hc h
    exact b23 _ _ _ _ h _ _ _ (lv_sub hl [0, 1, 2] rfl) hP hD hS
  · have h := sg_n hc h
    refine lv_iload_n hx hb d_Re_put_4 rfl (lv_at hl 1 rfl) ?_
    refine lv_bipush (v := (28 : Int32)) hx hb d_Re_put_5 (by decide) ?_
    refine lv_icmp_ge (tgt := 23) hx hb d_Re_put_7 (by decide) (fun hc => ?_) (fun hc => ?_)
    · have h := sg_p hc h
      exact b23 _ _ _ _ h _ _ _ (lv_sub hl [0, 1, 2] rfl) hP hD hS
    · have h := sg_n hc h
      refine lv_aload_n hx hb d_Re_put_10 rfl (lv_at hl 0 rfl) ?_
      refine va_get (D := D) (ci := 2) (v := .ref (a 9)) (C := R_Re) (T := T_Re) (N := 2) hx hb hts iRe hown hK hP 2 (wB_at2 _ _ _ _) rfl 0 (by decide) k9 (fun _ h9 => h9) rfl d_Re_put_11 ?_
      refine lv_iload_n hx hb d_Re_put_14 rfl (lv_at hl 1 rfl) ?_
      refine lv_iload_n hx hb d_Re_put_15 rfl (lv_at hl 2 rfl) ?_
      refine va_gets hx hb hZ0 hS hown k13 (fun _ h9 => h9) d_Re_put_16 ?_
      refine lv_iload_n hx hb d_Re_put_19 rfl (lv_at hl 1 rfl) ?_
      obtain ⟨hg1, h⟩ := sg_g h
      refine va_ti (v := .int (cbits x1.toNatClampNeg)) hx hb hZ1 hS hg1 rfl d_Re_put_20 ?_
      refine lv_iand hx hb d_Re_put_21 ?_
      obtain ⟨hg2, h⟩ := sg_g h
      refine va_iast (x := x2 &&& (cbits x1.toNatClampNeg)) hx hb hK hP hD hS 9 0 (wB_at9 _ _ _ _) rfl hg2 d_Re_put_22 (fun H locs hP hD hS => ?_)
      have hP := wB_set9 hP
      have hD := wB_dset9 hD
      exact b23 _ _ _ _ h _ _ _ (lv_sub hl [0, 1, 2] rfl) hP hD hS
def f_Re_grow_30 (S : SS) (M : MM) (x1 : Int32) (x2 : Int32) : Option RR := some (0, S, M)
def f_Re_grow (S : SS) (M : MM) (x1 : Int32) (x2 : Int32) : Option RR := if x1 < 0 then f_Re_grow_30 S M x1 x2 else if (28 : Int32) ≤ x1 then f_Re_grow_30 S M x1 x2 else if x1 < 0 ∨ 28 ≤ x1.toNatClampNeg then none else if x1 < 0 ∨ 28 ≤ x1.toNatClampNeg then none else if x1 < 0 ∨ 28 ≤ x1.toNatClampNeg then none else f_Re_grow_30 S (upM M 2 (upd (M 2) x1.toNatClampNeg (((M 2 x1.toNatClampNeg) + x2) &&& (cbits x1.toNatClampNeg)))) x1 x2
set_option maxHeartbeats 4000000 in
set_option maxRecDepth 100000 in
theorem c_Re_grow (l : Launch) (D : va_G) (cA : ClassId) (a : Nat → Nat) (S : SS) (M : MM) (x1 : Int32) (x2 : Int32) (q : RR) (h0 : f_Re_grow S M x1 x2 = some q) : Cv l y_Re_grow w_Re_grow rm_Re_grow D vCl [(cA, .int)] (AB a) (ZB a) (wB cA a) [.ref (a 2), .int x1, .int x2] S M q := by
  refine Cv.of (cc := prog_7_method_4_code) (maxL := 3) (by decide) rfl (Nat.le_of_ble_eq_true rfl) ?_
  intro p e s m args below meth c Q hx hb hml hown hts hK hZ ret
  have hown : s.vm.findClass R_Re = some m.cls := hown
  have hts : ∀ w ∈ TB, w.before args s = true := fun w h => hts w (List.mem_cons_of_mem _ h)
  have hZK := ZB_k a
  obtain ⟨t0, hZ0, hZ1⟩ := hZ.1
  have k9 := hts _ tb_fl_Re_9
  have k13 := hts _ tb_fl_Re_13
  have b30 : ∀ (S : SS) (M : MM) (x1 : Int32) (x2 : Int32), f_Re_grow_30 S M x1 x2 = some q → BK p l e rm_Re_grow s m args below meth c Q D vCl (AB a) (wB cA a) 3 30 [(0, .ref (a 2)), (1, .int x1), (2, .int x2)] [] S M := by
    intro S M x1 x2 h H locs ls hl hP hD hS
    unfold f_Re_grow_30 at h
    exact ret _ _ _ _ _ _ _ h hP hD hS d_Re_grow_30
  intro H locs ls hl hP hD hS
  have hl : lv_has ls 3 [(0, .ref (a 2)), (1, .int x1), (2, .int x2)] := hl
  have h := h0
  unfold f_Re_grow at h
  refine lv_iload_n hx hb d_Re_grow_0 rfl (lv_at hl 1 rfl) ?_
  refine lv_if_lt (tgt := 30) hx hb d_Re_grow_1 (by decide) (fun hc => ?_) (fun hc => ?_)
  · have h := sg_p hc h
    exact b30 _ _ _ _ h _ _ _ (lv_sub hl [0, 1, 2] rfl) hP hD hS
  · have h := sg_n hc h
    refine lv_iload_n hx hb d_Re_grow_4 rfl (lv_at hl 1 rfl) ?_
    refine lv_bipush (v := (28 : Int32)) hx hb d_Re_grow_5 (by decide) ?_
    refine lv_icmp_ge (tgt := 30) hx hb d_Re_grow_7 (by decide) (fun hc => ?_) (fun hc => ?_)
    · have h := sg_p hc h
      exact b30 _ _ _ _ h _ _ _ (lv_sub hl [0, 1, 2] rfl) hP hD hS
    · have h := sg_n hc h
      refine lv_aload_n hx hb d_Re_grow_10 rfl (lv_at hl 0 rfl) ?_
      refine va_get (D := D) (ci := 2) (v := .ref (a 9)) (C := R_Re) (T := T_Re) (N := 2) hx hb hts iRe hown hK hP 2 (wB_at2 _ _ _ _) rfl 0 (by decide) k9 (fun _ h9 => h9) rfl d_Re_grow_11 ?_
      refine lv_iload_n hx hb d_Re_grow_14 rfl (lv_at hl 1 rfl) ?_
      refine lv_aload_n hx hb d_Re_grow_15 rfl (lv_at hl 0 rfl) ?_
      refine va_get (D := D) (ci := 2) (v := .ref (a 9)) (C := R_Re) (T := T_Re) (N := 2) hx hb hts iRe hown hK hP 2 (wB_at2 _ _ _ _) rfl 0 (by decide) k9 (fun _ h9 => h9) rfl d_Re_grow_16 ?_
      refine lv_iload_n hx hb d_Re_grow_19 rfl (lv_at hl 1 rfl) ?_
      obtain ⟨hg1, h⟩ := sg_g h
      refine va_iald hx hb hK hP 9 0 (wB_at9 _ _ _ _) rfl hg1 d_Re_grow_20 ?_
      refine lv_iload_n hx hb d_Re_grow_21 rfl (lv_at hl 2 rfl) ?_
      refine lv_iadd hx hb d_Re_grow_22 ?_
      refine va_gets hx hb hZ0 hS hown k13 (fun _ h9 => h9) d_Re_grow_23 ?_
      refine lv_iload_n hx hb d_Re_grow_26 rfl (lv_at hl 1 rfl) ?_
      obtain ⟨hg2, h⟩ := sg_g h
      refine va_ti (v := .int (cbits x1.toNatClampNeg)) hx hb hZ1 hS hg2 rfl d_Re_grow_27 ?_
      refine lv_iand hx hb d_Re_grow_28 ?_
      obtain ⟨hg3, h⟩ := sg_g h
      refine va_iast (x := ((M 2 x1.toNatClampNeg) + x2) &&& (cbits x1.toNatClampNeg)) hx hb hK hP hD hS 9 0 (wB_at9 _ _ _ _) rfl hg3 d_Re_grow_29 (fun H locs hP hD hS => ?_)
      have hP := wB_set9 hP
      have hD := wB_dset9 hD
      exact b30 _ _ _ _ h _ _ _ (lv_sub hl [0, 1, 2] rfl) hP hD hS
def f_Re_isEnabledRequested_20 (S : SS) (M : MM) (y0 : Int32) : Option RR := if ¬ (y0 = 0 ∨ y0 = 1) then none else some (y0, S, M)
def f_Re_isEnabledRequested (S : SS) (M : MM) : Option RR := if (S 2) &&& (M 2 26) = 0 then f_Re_isEnabledRequested_20 S M (0 : Int32) else f_Re_isEnabledRequested_20 S M (1 : Int32)
set_option maxHeartbeats 4000000 in
set_option maxRecDepth 100000 in
theorem c_Re_isEnabledRequested (l : Launch) (D : va_G) (cA : ClassId) (a : Nat → Nat) (S : SS) (M : MM) (q : RR) (h0 : f_Re_isEnabledRequested S M = some q) : Ci l y_Re_isEnabledRequested w_Re_isEnabledRequested rm_Re_isEnabledRequested D vCl [(cA, .int)] (AB a) (ZB a) (wB cA a) [.ref (a 2)] S M q := by
  refine Ci.of (cc := prog_7_method_8_code) (maxL := 1) (ty := .boolean) (by decide) rfl (Nat.le_of_ble_eq_true rfl) ?_
  intro p e s m args below meth c Q hx hb hml hown hts hK hZ ret
  have hown : s.vm.findClass R_Re = some m.cls := hown
  have hts : ∀ w ∈ TB, w.before args s = true := fun w h => hts w (List.mem_cons_of_mem _ h)
  have hZK := ZB_k a
  have k16 := hts _ tb_fl_Re_16
  have k9 := hts _ tb_fl_Re_9
  have b20 : ∀ (S : SS) (M : MM) (y0 : Int32), f_Re_isEnabledRequested_20 S M y0 = some q → BK p l e rm_Re_isEnabledRequested s m args below meth c Q D vCl (AB a) (wB cA a) 1 20 [(0, .ref (a 2))] [.int y0] S M := by
    intro S M y0 h H locs ls hl hP hD hS
    unfold f_Re_isEnabledRequested_20 at h
    obtain ⟨hg1, h⟩ := sg_g h
    exact ret _ _ _ _ _ _ _ h (sg_nb hg1).1 hP hD hS d_Re_isEnabledRequested_20
  intro H locs ls hl hP hD hS
  have hl : lv_has ls 1 [(0, .ref (a 2))] := hl
  have h := h0
  unfold f_Re_isEnabledRequested at h
  refine lv_aload_n hx hb d_Re_isEnabledRequested_0 rfl (lv_at hl 0 rfl) ?_
  refine va_get (D := D) (ci := 2) (v := .int (S 2)) (C := R_Re) (T := T_Re) (N := 2) hx hb hts iRe hown hK hP 2 (wB_at2 _ _ _ _) rfl 1 (by decide) k16 (fun _ h9 => h9) rfl d_Re_isEnabledRequested_1 ?_
  refine lv_aload_n hx hb d_Re_isEnabledRequested_4 rfl (lv_at hl 0 rfl) ?_
  refine va_get (D := D) (ci := 2) (v := .ref (a 9)) (C := R_Re) (T := T_Re) (N := 2) hx hb hts iRe hown hK hP 2 (wB_at2 _ _ _ _) rfl 0 (by decide) k9 (fun _ h9 => h9) rfl d_Re_isEnabledRequested_5 ?_
  refine lv_bipush (v := (26 : Int32)) hx hb d_Re_isEnabledRequested_8 (by decide) ?_
  refine ialdK hx hb hK hP 9 0 (wB_at9 _ _ _ _) rfl 26 (by decide) (by unfold vp_in; decide) d_Re_isEnabledRequested_10 ?_
  refine lv_iand hx hb d_Re_isEnabledRequested_11 ?_
  refine lv_if_eq (tgt := 19) hx hb d_Re_isEnabledRequested_12 (by decide) (fun hc => ?_) (fun hc => ?_)
  · have h := sg_p hc h
    refine lv_iconst (v := (0 : Int32)) hx hb d_Re_isEnabledRequested_19 (by decide) ?_
    exact b20 _ _ _ h _ _ _ (lv_sub hl [0] rfl) hP hD hS
  · have h := sg_n hc h
    refine lv_iconst (v := (1 : Int32)) hx hb d_Re_isEnabledRequested_15 (by decide) ?_
    refine lv_goto (tgt := 20) hx hb d_Re_isEnabledRequested_16 (by decide) ?_
    exact b20 _ _ _ h _ _ _ (lv_sub hl [0] rfl) hP hD hS
