def w_Md_outside : List Cond := Cond.code y_Md_outside prog_9_method_2_code 3 (some .boolean) :: TB
def rm_Md_outside : Room := { frames := 0, cells := 0, slots := 0, locals := 0 }
theorem d_Md_outside_0 : decode prog_9_method_2_code 0 = .ok (.iload_n 0, 1) := by decide +kernel
theorem d_Md_outside_1 : decode prog_9_method_2_code 1 = .ok (.iload_n 1, 1) := by decide +kernel
theorem d_Md_outside_2 : decode prog_9_method_2_code 2 = .ok (.if_icmp .lt 8, 3) := by decide +kernel
theorem d_Md_outside_5 : decode prog_9_method_2_code 5 = .ok (.iload_n 0, 1) := by decide +kernel
theorem d_Md_outside_6 : decode prog_9_method_2_code 6 = .ok (.iload_n 2, 1) := by decide +kernel
theorem d_Md_outside_7 : decode prog_9_method_2_code 7 = .ok (.if_icmp .le 7, 3) := by decide +kernel
theorem d_Md_outside_10 : decode prog_9_method_2_code 10 = .ok (.iconst 1, 1) := by decide +kernel
theorem d_Md_outside_11 : decode prog_9_method_2_code 11 = .ok (.goto 4, 3) := by decide +kernel
theorem d_Md_outside_14 : decode prog_9_method_2_code 14 = .ok (.iconst 0, 1) := by decide +kernel
theorem d_Md_outside_15 : decode prog_9_method_2_code 15 = .ok (.ireturn, 1) := by decide +kernel
theorem yd_Md_outside : y_Md_outside.cls ≠ "java/lang/invoke/MethodHandle" ∧ y_Md_outside.cls ≠ "java/lang/invoke/VarHandle" ∧ (parseMethodDescriptor y_Md_outside.desc).map (fun d => d.parameters.length) = some 3 := by decide +kernel
def w_Md_control : List Cond := Cond.code y_Md_control prog_9_method_3_code 2 (some .boolean) :: TB
def rm_Md_control : Room := { frames := 0, cells := 0, slots := 0, locals := 0 }
theorem d_Md_control_0 : decode prog_9_method_3_code 0 = .ok (.aload_n 0, 1) := by decide +kernel
theorem d_Md_control_1 : decode prog_9_method_3_code 1 = .ok (.getfield 13, 3) := by decide +kernel
theorem d_Md_control_4 : decode prog_9_method_3_code 4 = .ok (.iconst 0, 1) := by decide +kernel
theorem d_Md_control_5 : decode prog_9_method_3_code 5 = .ok (.iaload, 1) := by decide +kernel
theorem d_Md_control_6 : decode prog_9_method_3_code 6 = .ok (.iload_n 1, 1) := by decide +kernel
theorem d_Md_control_7 : decode prog_9_method_3_code 7 = .ok (.ishr, 1) := by decide +kernel
theorem d_Md_control_8 : decode prog_9_method_3_code 8 = .ok (.iconst 1, 1) := by decide +kernel
theorem d_Md_control_9 : decode prog_9_method_3_code 9 = .ok (.iand, 1) := by decide +kernel
theorem d_Md_control_10 : decode prog_9_method_3_code 10 = .ok (.iconst 1, 1) := by decide +kernel
theorem d_Md_control_11 : decode prog_9_method_3_code 11 = .ok (.if_icmp .ne 7, 3) := by decide +kernel
theorem d_Md_control_14 : decode prog_9_method_3_code 14 = .ok (.iconst 1, 1) := by decide +kernel
theorem d_Md_control_15 : decode prog_9_method_3_code 15 = .ok (.goto 4, 3) := by decide +kernel
theorem d_Md_control_18 : decode prog_9_method_3_code 18 = .ok (.iconst 0, 1) := by decide +kernel
theorem d_Md_control_19 : decode prog_9_method_3_code 19 = .ok (.ireturn, 1) := by decide +kernel
theorem yd_Md_control : y_Md_control.cls ≠ "java/lang/invoke/MethodHandle" ∧ y_Md_control.cls ≠ "java/lang/invoke/VarHandle" ∧ (parseMethodDescriptor y_Md_control.desc).map (fun d => d.parameters.length) = some 1 := by decide +kernel
def w_Md_startList : List Cond := Cond.code y_Md_startList prog_9_method_5_code 1 none :: TB
def rm_Md_startList : Room := { frames := 0, cells := 0, slots := 0, locals := 0 }
theorem d_Md_startList_0 : decode prog_9_method_5_code 0 = .ok (.aload_n 0, 1) := by decide +kernel
theorem d_Md_startList_1 : decode prog_9_method_5_code 1 = .ok (.iconst 1, 1) := by decide +kernel
theorem d_Md_startList_2 : decode prog_9_method_5_code 2 = .ok (.putfield 48, 3) := by decide +kernel
theorem d_Md_startList_5 : decode prog_9_method_5_code 5 = .ok (.aload_n 0, 1) := by decide +kernel
theorem d_Md_startList_6 : decode prog_9_method_5_code 6 = .ok (.aload_n 0, 1) := by decide +kernel
theorem d_Md_startList_7 : decode prog_9_method_5_code 7 = .ok (.getfield 13, 3) := by decide +kernel
theorem d_Md_startList_10 : decode prog_9_method_5_code 10 = .ok (.iconst 1, 1) := by decide +kernel
theorem d_Md_startList_11 : decode prog_9_method_5_code 11 = .ok (.iaload, 1) := by decide +kernel
theorem d_Md_startList_12 : decode prog_9_method_5_code 12 = .ok (.putfield 51, 3) := by decide +kernel
theorem d_Md_startList_15 : decode prog_9_method_5_code 15 = .ok (.aload_n 0, 1) := by decide +kernel
theorem d_Md_startList_16 : decode prog_9_method_5_code 16 = .ok (.iconst 0, 1) := by decide +kernel
theorem d_Md_startList_17 : decode prog_9_method_5_code 17 = .ok (.putfield 54, 3) := by decide +kernel
theorem d_Md_startList_20 : decode prog_9_method_5_code 20 = .ok (.aload_n 0, 1) := by decide +kernel
theorem d_Md_startList_21 : decode prog_9_method_5_code 21 = .ok (.iconst 0, 1) := by decide +kernel
theorem d_Md_startList_22 : decode prog_9_method_5_code 22 = .ok (.putfield 58, 3) := by decide +kernel
theorem d_Md_startList_25 : decode prog_9_method_5_code 25 = .ok (.return_, 1) := by decide +kernel
theorem yd_Md_startList : y_Md_startList.cls ≠ "java/lang/invoke/MethodHandle" ∧ y_Md_startList.cls ≠ "java/lang/invoke/VarHandle" ∧ (parseMethodDescriptor y_Md_startList.desc).map (fun d => d.parameters.length) = some 0 := by decide +kernel
def w_Md_begin : List Cond := Cond.code y_Md_begin prog_9_method_6_code 2 none :: TB
def rm_Md_begin : Room := { frames := 0, cells := 0, slots := 0, locals := 0 }
theorem d_Md_begin_0 : decode prog_9_method_6_code 0 = .ok (.aload_n 0, 1) := by decide +kernel
theorem d_Md_begin_1 : decode prog_9_method_6_code 1 = .ok (.iconst 1, 1) := by decide +kernel
theorem d_Md_begin_2 : decode prog_9_method_6_code 2 = .ok (.putfield 61, 3) := by decide +kernel
theorem d_Md_begin_5 : decode prog_9_method_6_code 5 = .ok (.aload_n 0, 1) := by decide +kernel
theorem d_Md_begin_6 : decode prog_9_method_6_code 6 = .ok (.iconst 1, 1) := by decide +kernel
theorem d_Md_begin_7 : decode prog_9_method_6_code 7 = .ok (.putfield 64, 3) := by decide +kernel
theorem d_Md_begin_10 : decode prog_9_method_6_code 10 = .ok (.aload_n 0, 1) := by decide +kernel
theorem d_Md_begin_11 : decode prog_9_method_6_code 11 = .ok (.iload_n 1, 1) := by decide +kernel
theorem d_Md_begin_12 : decode prog_9_method_6_code 12 = .ok (.bipush 7, 2) := by decide +kernel
theorem d_Md_begin_14 : decode prog_9_method_6_code 14 = .ok (.iand, 1) := by decide +kernel
theorem d_Md_begin_15 : decode prog_9_method_6_code 15 = .ok (.ifCond .ne 8, 3) := by decide +kernel
theorem d_Md_begin_18 : decode prog_9_method_6_code 18 = .ok (.bipush 8, 2) := by decide +kernel
theorem d_Md_begin_20 : decode prog_9_method_6_code 20 = .ok (.goto 7, 3) := by decide +kernel
theorem d_Md_begin_23 : decode prog_9_method_6_code 23 = .ok (.iload_n 1, 1) := by decide +kernel
theorem d_Md_begin_24 : decode prog_9_method_6_code 24 = .ok (.bipush 7, 2) := by decide +kernel
theorem d_Md_begin_26 : decode prog_9_method_6_code 26 = .ok (.iand, 1) := by decide +kernel
theorem d_Md_begin_27 : decode prog_9_method_6_code 27 = .ok (.putfield 67, 3) := by decide +kernel
theorem d_Md_begin_30 : decode prog_9_method_6_code 30 = .ok (.aload_n 0, 1) := by decide +kernel
theorem d_Md_begin_31 : decode prog_9_method_6_code 31 = .ok (.iload_n 1, 1) := by decide +kernel
theorem d_Md_begin_32 : decode prog_9_method_6_code 32 = .ok (.iconst 4, 1) := by decide +kernel
theorem d_Md_begin_33 : decode prog_9_method_6_code 33 = .ok (.ishr, 1) := by decide +kernel
theorem d_Md_begin_34 : decode prog_9_method_6_code 34 = .ok (.bipush 15, 2) := by decide +kernel
theorem d_Md_begin_36 : decode prog_9_method_6_code 36 = .ok (.iand, 1) := by decide +kernel
theorem d_Md_begin_37 : decode prog_9_method_6_code 37 = .ok (.ifCond .ne 8, 3) := by decide +kernel
theorem d_Md_begin_40 : decode prog_9_method_6_code 40 = .ok (.bipush 16, 2) := by decide +kernel
theorem d_Md_begin_42 : decode prog_9_method_6_code 42 = .ok (.goto 9, 3) := by decide +kernel
theorem d_Md_begin_45 : decode prog_9_method_6_code 45 = .ok (.iload_n 1, 1) := by decide +kernel
theorem d_Md_begin_46 : decode prog_9_method_6_code 46 = .ok (.iconst 4, 1) := by decide +kernel
theorem d_Md_begin_47 : decode prog_9_method_6_code 47 = .ok (.ishr, 1) := by decide +kernel
theorem d_Md_begin_48 : decode prog_9_method_6_code 48 = .ok (.bipush 15, 2) := by decide +kernel
theorem d_Md_begin_50 : decode prog_9_method_6_code 50 = .ok (.iand, 1) := by decide +kernel
theorem d_Md_begin_51 : decode prog_9_method_6_code 51 = .ok (.putfield 70, 3) := by decide +kernel
theorem d_Md_begin_54 : decode prog_9_method_6_code 54 = .ok (.aload_n 0, 1) := by decide +kernel
theorem d_Md_begin_55 : decode prog_9_method_6_code 55 = .ok (.iconst 0, 1) := by decide +kernel
theorem d_Md_begin_56 : decode prog_9_method_6_code 56 = .ok (.putfield 73, 3) := by decide +kernel
theorem d_Md_begin_59 : decode prog_9_method_6_code 59 = .ok (.aload_n 0, 1) := by decide +kernel
theorem d_Md_begin_60 : decode prog_9_method_6_code 60 = .ok (.iconst 0, 1) := by decide +kernel
theorem d_Md_begin_61 : decode prog_9_method_6_code 61 = .ok (.putfield 76, 3) := by decide +kernel
theorem d_Md_begin_64 : decode prog_9_method_6_code 64 = .ok (.aload_n 0, 1) := by decide +kernel
theorem d_Md_begin_65 : decode prog_9_method_6_code 65 = .ok (.iconst 0, 1) := by decide +kernel
theorem d_Md_begin_66 : decode prog_9_method_6_code 66 = .ok (.putfield 79, 3) := by decide +kernel
theorem d_Md_begin_69 : decode prog_9_method_6_code 69 = .ok (.aload_n 0, 1) := by decide +kernel
theorem d_Md_begin_70 : decode prog_9_method_6_code 70 = .ok (.iconst 0, 1) := by decide +kernel
theorem d_Md_begin_71 : decode prog_9_method_6_code 71 = .ok (.putfield 82, 3) := by decide +kernel
theorem d_Md_begin_74 : decode prog_9_method_6_code 74 = .ok (.aload_n 0, 1) := by decide +kernel
theorem d_Md_begin_75 : decode prog_9_method_6_code 75 = .ok (.iconst 0, 1) := by decide +kernel
theorem d_Md_begin_76 : decode prog_9_method_6_code 76 = .ok (.putfield 85, 3) := by decide +kernel
theorem d_Md_begin_79 : decode prog_9_method_6_code 79 = .ok (.return_, 1) := by decide +kernel
theorem yd_Md_begin : y_Md_begin.cls ≠ "java/lang/invoke/MethodHandle" ∧ y_Md_begin.cls ≠ "java/lang/invoke/VarHandle" ∧ (parseMethodDescriptor y_Md_begin.desc).map (fun d => d.parameters.length) = some 1 := by decide +kernel
def w_Md_write : List Cond := Cond.code y_Md_write prog_9_method_4_code 3 none :: TB
def rm_Md_write : Room := { frames := 1, cells := 0, slots := 0, locals := 21 }
theorem d_Md_write_0 : decode prog_9_method_4_code 0 = .ok (.iload_n 1, 1) := by decide +kernel
theorem d_Md_write_1 : decode prog_9_method_4_code 1 = .ok (.ifCond .ne 16, 3) := by decide +kernel
theorem d_Md_write_4 : decode prog_9_method_4_code 4 = .ok (.aload_n 0, 1) := by decide +kernel
theorem d_Md_write_5 : decode prog_9_method_4_code 5 = .ok (.getfield 13, 3) := by decide +kernel
theorem d_Md_write_8 : decode prog_9_method_4_code 8 = .ok (.iconst 0, 1) := by decide +kernel
theorem d_Md_write_9 : decode prog_9_method_4_code 9 = .ok (.iload_n 2, 1) := by decide +kernel
theorem d_Md_write_10 : decode prog_9_method_4_code 10 = .ok (.bipush 15, 2) := by decide +kernel
theorem d_Md_write_12 : decode prog_9_method_4_code 12 = .ok (.iand, 1) := by decide +kernel
theorem d_Md_write_13 : decode prog_9_method_4_code 13 = .ok (.iastore, 1) := by decide +kernel
theorem d_Md_write_14 : decode prog_9_method_4_code 14 = .ok (.goto 132, 3) := by decide +kernel
theorem d_Md_write_17 : decode prog_9_method_4_code 17 = .ok (.iload_n 1, 1) := by decide +kernel
theorem d_Md_write_18 : decode prog_9_method_4_code 18 = .ok (.iconst 1, 1) := by decide +kernel
theorem d_Md_write_19 : decode prog_9_method_4_code 19 = .ok (.if_icmp .eq 25, 3) := by decide +kernel
theorem d_Md_write_22 : decode prog_9_method_4_code 22 = .ok (.iload_n 1, 1) := by decide +kernel
theorem d_Md_write_23 : decode prog_9_method_4_code 23 = .ok (.iconst 3, 1) := by decide +kernel
theorem d_Md_write_24 : decode prog_9_method_4_code 24 = .ok (.if_icmp .lt 8, 3) := by decide +kernel
theorem d_Md_write_27 : decode prog_9_method_4_code 27 = .ok (.iload_n 1, 1) := by decide +kernel
theorem d_Md_write_28 : decode prog_9_method_4_code 28 = .ok (.iconst 5, 1) := by decide +kernel
theorem d_Md_write_29 : decode prog_9_method_4_code 29 = .ok (.if_icmp .le 15, 3) := by decide +kernel
theorem d_Md_write_32 : decode prog_9_method_4_code 32 = .ok (.iload_n 1, 1) := by decide +kernel
theorem d_Md_write_33 : decode prog_9_method_4_code 33 = .ok (.bipush 12, 2) := by decide +kernel
theorem d_Md_write_35 : decode prog_9_method_4_code 35 = .ok (.if_icmp .lt 23, 3) := by decide +kernel
theorem d_Md_write_38 : decode prog_9_method_4_code 38 = .ok (.iload_n 1, 1) := by decide +kernel
theorem d_Md_write_39 : decode prog_9_method_4_code 39 = .ok (.bipush 19, 2) := by decide +kernel
theorem d_Md_write_41 : decode prog_9_method_4_code 41 = .ok (.if_icmp .gt 17, 3) := by decide +kernel
theorem d_Md_write_44 : decode prog_9_method_4_code 44 = .ok (.aload_n 0, 1) := by decide +kernel
theorem d_Md_write_45 : decode prog_9_method_4_code 45 = .ok (.getfield 13, 3) := by decide +kernel
theorem d_Md_write_48 : decode prog_9_method_4_code 48 = .ok (.iload_n 1, 1) := by decide +kernel
theorem d_Md_write_49 : decode prog_9_method_4_code 49 = .ok (.iload_n 2, 1) := by decide +kernel
theorem d_Md_write_50 : decode prog_9_method_4_code 50 = .ok (.sipush 255, 3) := by decide +kernel
theorem d_Md_write_53 : decode prog_9_method_4_code 53 = .ok (.iand, 1) := by decide +kernel
theorem d_Md_write_54 : decode prog_9_method_4_code 54 = .ok (.iastore, 1) := by decide +kernel
theorem d_Md_write_55 : decode prog_9_method_4_code 55 = .ok (.goto 91, 3) := by decide +kernel
theorem d_Md_write_58 : decode prog_9_method_4_code 58 = .ok (.iload_n 1, 1) := by decide +kernel
theorem d_Md_write_59 : decode prog_9_method_4_code 59 = .ok (.bipush 6, 2) := by decide +kernel
theorem d_Md_write_61 : decode prog_9_method_4_code 61 = .ok (.if_icmp .lt 23, 3) := by decide +kernel
theorem d_Md_write_64 : decode prog_9_method_4_code 64 = .ok (.iload_n 1, 1) := by decide +kernel
theorem d_Md_write_65 : decode prog_9_method_4_code 65 = .ok (.bipush 9, 2) := by decide +kernel
theorem d_Md_write_67 : decode prog_9_method_4_code 67 = .ok (.if_icmp .gt 17, 3) := by decide +kernel
theorem d_Md_write_70 : decode prog_9_method_4_code 70 = .ok (.aload_n 0, 1) := by decide +kernel
theorem d_Md_write_71 : decode prog_9_method_4_code 71 = .ok (.getfield 13, 3) := by decide +kernel
theorem d_Md_write_74 : decode prog_9_method_4_code 74 = .ok (.iload_n 1, 1) := by decide +kernel
theorem d_Md_write_75 : decode prog_9_method_4_code 75 = .ok (.iload_n 2, 1) := by decide +kernel
theorem d_Md_write_76 : decode prog_9_method_4_code 76 = .ok (.sipush 4095, 3) := by decide +kernel
theorem d_Md_write_79 : decode prog_9_method_4_code 79 = .ok (.iand, 1) := by decide +kernel
theorem d_Md_write_80 : decode prog_9_method_4_code 80 = .ok (.iastore, 1) := by decide +kernel
theorem d_Md_write_81 : decode prog_9_method_4_code 81 = .ok (.goto 65, 3) := by decide +kernel
theorem d_Md_write_84 : decode prog_9_method_4_code 84 = .ok (.iload_n 1, 1) := by decide +kernel
theorem d_Md_write_85 : decode prog_9_method_4_code 85 = .ok (.bipush 11, 2) := by decide +kernel
theorem d_Md_write_87 : decode prog_9_method_4_code 87 = .ok (.if_icmp .ne 16, 3) := by decide +kernel
theorem d_Md_write_90 : decode prog_9_method_4_code 90 = .ok (.aload_n 0, 1) := by decide +kernel
theorem d_Md_write_91 : decode prog_9_method_4_code 91 = .ok (.getfield 13, 3) := by decide +kernel
theorem d_Md_write_94 : decode prog_9_method_4_code 94 = .ok (.iload_n 1, 1) := by decide +kernel
theorem d_Md_write_95 : decode prog_9_method_4_code 95 = .ok (.iload_n 2, 1) := by decide +kernel
theorem d_Md_write_96 : decode prog_9_method_4_code 96 = .ok (.bipush 15, 2) := by decide +kernel
theorem d_Md_write_98 : decode prog_9_method_4_code 98 = .ok (.iand, 1) := by decide +kernel
theorem d_Md_write_99 : decode prog_9_method_4_code 99 = .ok (.iastore, 1) := by decide +kernel
theorem d_Md_write_100 : decode prog_9_method_4_code 100 = .ok (.goto 46, 3) := by decide +kernel
theorem d_Md_write_103 : decode prog_9_method_4_code 103 = .ok (.iload_n 1, 1) := by decide +kernel
theorem d_Md_write_104 : decode prog_9_method_4_code 104 = .ok (.bipush 10, 2) := by decide +kernel
theorem d_Md_write_106 : decode prog_9_method_4_code 106 = .ok (.if_icmp .eq 15, 3) := by decide +kernel
theorem d_Md_write_109 : decode prog_9_method_4_code 109 = .ok (.iload_n 1, 1) := by decide +kernel
theorem d_Md_write_110 : decode prog_9_method_4_code 110 = .ok (.bipush 20, 2) := by decide +kernel
theorem d_Md_write_112 : decode prog_9_method_4_code 112 = .ok (.if_icmp .lt 19, 3) := by decide +kernel
theorem d_Md_write_115 : decode prog_9_method_4_code 115 = .ok (.iload_n 1, 1) := by decide +kernel
theorem d_Md_write_116 : decode prog_9_method_4_code 116 = .ok (.bipush 24, 2) := by decide +kernel
theorem d_Md_write_118 : decode prog_9_method_4_code 118 = .ok (.if_icmp .gt 13, 3) := by decide +kernel
theorem d_Md_write_121 : decode prog_9_method_4_code 121 = .ok (.aload_n 0, 1) := by decide +kernel
theorem d_Md_write_122 : decode prog_9_method_4_code 122 = .ok (.getfield 13, 3) := by decide +kernel
theorem d_Md_write_125 : decode prog_9_method_4_code 125 = .ok (.iload_n 1, 1) := by decide +kernel
theorem d_Md_write_126 : decode prog_9_method_4_code 126 = .ok (.iload_n 2, 1) := by decide +kernel
theorem d_Md_write_127 : decode prog_9_method_4_code 127 = .ok (.iastore, 1) := by decide +kernel
theorem d_Md_write_128 : decode prog_9_method_4_code 128 = .ok (.goto 18, 3) := by decide +kernel
theorem d_Md_write_131 : decode prog_9_method_4_code 131 = .ok (.iload_n 1, 1) := by decide +kernel
theorem d_Md_write_132 : decode prog_9_method_4_code 132 = .ok (.bipush 26, 2) := by decide +kernel
theorem d_Md_write_134 : decode prog_9_method_4_code 134 = .ok (.if_icmp .ne 12, 3) := by decide +kernel
theorem d_Md_write_137 : decode prog_9_method_4_code 137 = .ok (.aload_n 0, 1) := by decide +kernel
theorem d_Md_write_138 : decode prog_9_method_4_code 138 = .ok (.getfield 13, 3) := by decide +kernel
theorem d_Md_write_141 : decode prog_9_method_4_code 141 = .ok (.iload_n 1, 1) := by decide +kernel
theorem d_Md_write_142 : decode prog_9_method_4_code 142 = .ok (.iload_n 2, 1) := by decide +kernel
theorem d_Md_write_143 : decode prog_9_method_4_code 143 = .ok (.iconst 3, 1) := by decide +kernel
theorem d_Md_write_144 : decode prog_9_method_4_code 144 = .ok (.iand, 1) := by decide +kernel
theorem d_Md_write_145 : decode prog_9_method_4_code 145 = .ok (.iastore, 1) := by decide +kernel
theorem d_Md_write_146 : decode prog_9_method_4_code 146 = .ok (.iload_n 1, 1) := by decide +kernel
theorem d_Md_write_147 : decode prog_9_method_4_code 147 = .ok (.iconst 2, 1) := by decide +kernel
theorem d_Md_write_148 : decode prog_9_method_4_code 148 = .ok (.if_icmp .ne 7, 3) := by decide +kernel
theorem d_Md_write_151 : decode prog_9_method_4_code 151 = .ok (.aload_n 0, 1) := by decide +kernel
theorem d_Md_write_152 : decode prog_9_method_4_code 152 = .ok (.invokevirtual 37, 3) := by decide +kernel
theorem d_Md_write_155 : decode prog_9_method_4_code 155 = .ok (.iload_n 1, 1) := by decide +kernel
theorem d_Md_write_156 : decode prog_9_method_4_code 156 = .ok (.bipush 25, 2) := by decide +kernel
theorem d_Md_write_158 : decode prog_9_method_4_code 158 = .ok (.if_icmp .ne 8, 3) := by decide +kernel
theorem d_Md_write_161 : decode prog_9_method_4_code 161 = .ok (.aload_n 0, 1) := by decide +kernel
theorem d_Md_write_162 : decode prog_9_method_4_code 162 = .ok (.iload_n 2, 1) := by decide +kernel
theorem d_Md_write_163 : decode prog_9_method_4_code 163 = .ok (.invokevirtual 40, 3) := by decide +kernel
theorem d_Md_write_166 : decode prog_9_method_4_code 166 = .ok (.iload_n 1, 1) := by decide +kernel
theorem d_Md_write_167 : decode prog_9_method_4_code 167 = .ok (.bipush 27, 2) := by decide +kernel
theorem d_Md_write_169 : decode prog_9_method_4_code 169 = .ok (.if_icmp .ne 15, 3) := by decide +kernel
theorem d_Md_write_172 : decode prog_9_method_4_code 172 = .ok (.aload_n 0, 1) := by decide +kernel
theorem d_Md_write_173 : decode prog_9_method_4_code 173 = .ok (.aload_n 0, 1) := by decide +kernel
theorem d_Md_write_174 : decode prog_9_method_4_code 174 = .ok (.getfield 44, 3) := by decide +kernel
theorem d_Md_write_177 : decode prog_9_method_4_code 177 = .ok (.iload_n 2, 1) := by decide +kernel
theorem d_Md_write_178 : decode prog_9_method_4_code 178 = .ok (.iconst (-1), 1) := by decide +kernel
theorem d_Md_write_179 : decode prog_9_method_4_code 179 = .ok (.ixor, 1) := by decide +kernel
theorem d_Md_write_180 : decode prog_9_method_4_code 180 = .ok (.iand, 1) := by decide +kernel
theorem d_Md_write_181 : decode prog_9_method_4_code 181 = .ok (.putfield 44, 3) := by decide +kernel
theorem d_Md_write_184 : decode prog_9_method_4_code 184 = .ok (.return_, 1) := by decide +kernel
theorem yd_Md_write : y_Md_write.cls ≠ "java/lang/invoke/MethodHandle" ∧ y_Md_write.cls ≠ "java/lang/invoke/VarHandle" ∧ (parseMethodDescriptor y_Md_write.desc).map (fun d => d.parameters.length) = some 2 := by decide +kernel
def w_Md_planeAt : List Cond := Cond.code y_Md_planeAt prog_9_method_8_code 3 (some .int) :: TB
def rm_Md_planeAt : Room := { frames := 1, cells := 0, slots := 0, locals := 21 }
theorem d_Md_planeAt_0 : decode prog_9_method_8_code 0 = .ok (.aload_n 0, 1) := by decide +kernel
theorem d_Md_planeAt_1 : decode prog_9_method_8_code 1 = .ok (.iconst 0, 1) := by decide +kernel
theorem d_Md_planeAt_2 : decode prog_9_method_8_code 2 = .ok (.invokevirtual 89, 3) := by decide +kernel
theorem d_Md_planeAt_5 : decode prog_9_method_8_code 5 = .ok (.ifCond .eq 14, 3) := by decide +kernel
theorem d_Md_planeAt_8 : decode prog_9_method_8_code 8 = .ok (.iload_n 1, 1) := by decide +kernel
theorem d_Md_planeAt_9 : decode prog_9_method_8_code 9 = .ok (.iconst 4, 1) := by decide +kernel
theorem d_Md_planeAt_10 : decode prog_9_method_8_code 10 = .ok (.if_icmp .lt 9, 3) := by decide +kernel
theorem d_Md_planeAt_13 : decode prog_9_method_8_code 13 = .ok (.iload_n 1, 1) := by decide +kernel
theorem d_Md_planeAt_14 : decode prog_9_method_8_code 14 = .ok (.bipush 15, 2) := by decide +kernel
theorem d_Md_planeAt_16 : decode prog_9_method_8_code 16 = .ok (.if_icmp .le 5, 3) := by decide +kernel
theorem d_Md_planeAt_19 : decode prog_9_method_8_code 19 = .ok (.iconst (-1), 1) := by decide +kernel
theorem d_Md_planeAt_20 : decode prog_9_method_8_code 20 = .ok (.ireturn, 1) := by decide +kernel
theorem d_Md_planeAt_21 : decode prog_9_method_8_code 21 = .ok (.iload_n 2, 1) := by decide +kernel
theorem d_Md_planeAt_22 : decode prog_9_method_8_code 22 = .ok (.bipush 11, 2) := by decide +kernel
theorem d_Md_planeAt_24 : decode prog_9_method_8_code 24 = .ok (.if_icmp .eq 9, 3) := by decide +kernel
theorem d_Md_planeAt_27 : decode prog_9_method_8_code 27 = .ok (.iload_n 2, 1) := by decide +kernel
theorem d_Md_planeAt_28 : decode prog_9_method_8_code 28 = .ok (.bipush 19, 2) := by decide +kernel
theorem d_Md_planeAt_30 : decode prog_9_method_8_code 30 = .ok (.if_icmp .ne 7, 3) := by decide +kernel
theorem d_Md_planeAt_33 : decode prog_9_method_8_code 33 = .ok (.iconst 1, 1) := by decide +kernel
theorem d_Md_planeAt_34 : decode prog_9_method_8_code 34 = .ok (.goto 20, 3) := by decide +kernel
theorem d_Md_planeAt_37 : decode prog_9_method_8_code 37 = .ok (.iload_n 2, 1) := by decide +kernel
theorem d_Md_planeAt_38 : decode prog_9_method_8_code 38 = .ok (.bipush 15, 2) := by decide +kernel
theorem d_Md_planeAt_40 : decode prog_9_method_8_code 40 = .ok (.if_icmp .eq 9, 3) := by decide +kernel
theorem d_Md_planeAt_43 : decode prog_9_method_8_code 43 = .ok (.iload_n 2, 1) := by decide +kernel
theorem d_Md_planeAt_44 : decode prog_9_method_8_code 44 = .ok (.bipush 23, 2) := by decide +kernel
theorem d_Md_planeAt_46 : decode prog_9_method_8_code 46 = .ok (.if_icmp .ne 7, 3) := by decide +kernel
theorem d_Md_planeAt_49 : decode prog_9_method_8_code 49 = .ok (.iconst 0, 1) := by decide +kernel
theorem d_Md_planeAt_50 : decode prog_9_method_8_code 50 = .ok (.goto 4, 3) := by decide +kernel
theorem d_Md_planeAt_53 : decode prog_9_method_8_code 53 = .ok (.iconst (-1), 1) := by decide +kernel
theorem d_Md_planeAt_54 : decode prog_9_method_8_code 54 = .ok (.ireturn, 1) := by decide +kernel
theorem yd_Md_planeAt : y_Md_planeAt.cls ≠ "java/lang/invoke/MethodHandle" ∧ y_Md_planeAt.cls ≠ "java/lang/invoke/VarHandle" ∧ (parseMethodDescriptor y_Md_planeAt.desc).map (fun d => d.parameters.length) = some 2 := by decide +kernel
def w_Md_fetchPlane : List Cond := Cond.code y_Md_fetchPlane prog_9_method_9_code 4 none :: TB
def rm_Md_fetchPlane : Room := { frames := 0, cells := 0, slots := 0, locals := 0 }
theorem d_Md_fetchPlane_0 : decode prog_9_method_9_code 0 = .ok (.aload_n 0, 1) := by decide +kernel
theorem d_Md_fetchPlane_1 : decode prog_9_method_9_code 1 = .ok (.getfield 25, 3) := by decide +kernel
theorem d_Md_fetchPlane_4 : decode prog_9_method_9_code 4 = .ok (.iload_n 1, 1) := by decide +kernel
theorem d_Md_fetchPlane_5 : decode prog_9_method_9_code 5 = .ok (.aload_n 0, 1) := by decide +kernel
theorem d_Md_fetchPlane_6 : decode prog_9_method_9_code 6 = .ok (.getfield 7, 3) := by decide +kernel
theorem d_Md_fetchPlane_9 : decode prog_9_method_9_code 9 = .ok (.aload_n 0, 1) := by decide +kernel
theorem d_Md_fetchPlane_10 : decode prog_9_method_9_code 10 = .ok (.getfield 22, 3) := by decide +kernel
theorem d_Md_fetchPlane_13 : decode prog_9_method_9_code 13 = .ok (.iload_n 1, 1) := by decide +kernel
theorem d_Md_fetchPlane_14 : decode prog_9_method_9_code 14 = .ok (.iaload, 1) := by decide +kernel
theorem d_Md_fetchPlane_15 : decode prog_9_method_9_code 15 = .ok (.iaload, 1) := by decide +kernel
theorem d_Md_fetchPlane_16 : decode prog_9_method_9_code 16 = .ok (.iastore, 1) := by decide +kernel
theorem d_Md_fetchPlane_17 : decode prog_9_method_9_code 17 = .ok (.aload_n 0, 1) := by decide +kernel
theorem d_Md_fetchPlane_18 : decode prog_9_method_9_code 18 = .ok (.getfield 22, 3) := by decide +kernel
theorem d_Md_fetchPlane_21 : decode prog_9_method_9_code 21 = .ok (.iload_n 1, 1) := by decide +kernel
theorem d_Md_fetchPlane_22 : decode prog_9_method_9_code 22 = .ok (.aload_n 0, 1) := by decide +kernel
theorem d_Md_fetchPlane_23 : decode prog_9_method_9_code 23 = .ok (.getfield 22, 3) := by decide +kernel
theorem d_Md_fetchPlane_26 : decode prog_9_method_9_code 26 = .ok (.iload_n 1, 1) := by decide +kernel
theorem d_Md_fetchPlane_27 : decode prog_9_method_9_code 27 = .ok (.iaload, 1) := by decide +kernel
theorem d_Md_fetchPlane_28 : decode prog_9_method_9_code 28 = .ok (.iconst 1, 1) := by decide +kernel
theorem d_Md_fetchPlane_29 : decode prog_9_method_9_code 29 = .ok (.iadd, 1) := by decide +kernel
theorem d_Md_fetchPlane_30 : decode prog_9_method_9_code 30 = .ok (.sipush 255, 3) := by decide +kernel
theorem d_Md_fetchPlane_33 : decode prog_9_method_9_code 33 = .ok (.iand, 1) := by decide +kernel
theorem d_Md_fetchPlane_34 : decode prog_9_method_9_code 34 = .ok (.iastore, 1) := by decide +kernel
theorem d_Md_fetchPlane_35 : decode prog_9_method_9_code 35 = .ok (.iload_n 2, 1) := by decide +kernel
theorem d_Md_fetchPlane_36 : decode prog_9_method_9_code 36 = .ok (.bipush 23, 2) := by decide +kernel
theorem d_Md_fetchPlane_38 : decode prog_9_method_9_code 38 = .ok (.if_icmp .eq 4, 3) := by decide +kernel
theorem d_Md_fetchPlane_41 : decode prog_9_method_9_code 41 = .ok (.return_, 1) := by decide +kernel
theorem d_Md_fetchPlane_42 : decode prog_9_method_9_code 42 = .ok (.iconst 0, 1) := by decide +kernel
theorem d_Md_fetchPlane_43 : decode prog_9_method_9_code 43 = .ok (.istore_n 3, 1) := by decide +kernel
theorem d_Md_fetchPlane_44 : decode prog_9_method_9_code 44 = .ok (.iload_n 3, 1) := by decide +kernel
theorem d_Md_fetchPlane_45 : decode prog_9_method_9_code 45 = .ok (.iconst 2, 1) := by decide +kernel
theorem d_Md_fetchPlane_46 : decode prog_9_method_9_code 46 = .ok (.if_icmp .ge 32, 3) := by decide +kernel
theorem d_Md_fetchPlane_49 : decode prog_9_method_9_code 49 = .ok (.aload_n 0, 1) := by decide +kernel
theorem d_Md_fetchPlane_50 : decode prog_9_method_9_code 50 = .ok (.getfield 22, 3) := by decide +kernel
theorem d_Md_fetchPlane_53 : decode prog_9_method_9_code 53 = .ok (.iload_n 3, 1) := by decide +kernel
theorem d_Md_fetchPlane_54 : decode prog_9_method_9_code 54 = .ok (.aload_n 0, 1) := by decide +kernel
theorem d_Md_fetchPlane_55 : decode prog_9_method_9_code 55 = .ok (.getfield 22, 3) := by decide +kernel
theorem d_Md_fetchPlane_58 : decode prog_9_method_9_code 58 = .ok (.iload_n 3, 1) := by decide +kernel
theorem d_Md_fetchPlane_59 : decode prog_9_method_9_code 59 = .ok (.iaload, 1) := by decide +kernel
theorem d_Md_fetchPlane_60 : decode prog_9_method_9_code 60 = .ok (.aload_n 0, 1) := by decide +kernel
theorem d_Md_fetchPlane_61 : decode prog_9_method_9_code 61 = .ok (.getfield 13, 3) := by decide +kernel
theorem d_Md_fetchPlane_64 : decode prog_9_method_9_code 64 = .ok (.iconst 5, 1) := by decide +kernel
theorem d_Md_fetchPlane_65 : decode prog_9_method_9_code 65 = .ok (.iaload, 1) := by decide +kernel
theorem d_Md_fetchPlane_66 : decode prog_9_method_9_code 66 = .ok (.iadd, 1) := by decide +kernel
theorem d_Md_fetchPlane_67 : decode prog_9_method_9_code 67 = .ok (.sipush 255, 3) := by decide +kernel
theorem d_Md_fetchPlane_70 : decode prog_9_method_9_code 70 = .ok (.iand, 1) := by decide +kernel
theorem d_Md_fetchPlane_71 : decode prog_9_method_9_code 71 = .ok (.iastore, 1) := by decide +kernel
theorem d_Md_fetchPlane_72 : decode prog_9_method_9_code 72 = .ok (.iinc 3 1, 3) := by decide +kernel
theorem d_Md_fetchPlane_75 : decode prog_9_method_9_code 75 = .ok (.goto (-31), 3) := by decide +kernel
theorem d_Md_fetchPlane_78 : decode prog_9_method_9_code 78 = .ok (.return_, 1) := by decide +kernel
theorem yd_Md_fetchPlane : y_Md_fetchPlane.cls ≠ "java/lang/invoke/MethodHandle" ∧ y_Md_fetchPlane.cls ≠ "java/lang/invoke/VarHandle" ∧ (parseMethodDescriptor y_Md_fetchPlane.desc).map (fun d => d.parameters.length) = some 2 := by decide +kernel
def w_Md_used : List Cond := Cond.code y_Md_used prog_9_method_11_code 2 (some .boolean) :: TB
def rm_Md_used : Room := { frames := 0, cells := 0, slots := 0, locals := 0 }
theorem d_Md_used_0 : decode prog_9_method_11_code 0 = .ok (.aload_n 0, 1) := by decide +kernel
theorem d_Md_used_1 : decode prog_9_method_11_code 1 = .ok (.getfield 13, 3) := by decide +kernel
theorem d_Md_used_4 : decode prog_9_method_11_code 4 = .ok (.bipush 10, 2) := by decide +kernel
theorem d_Md_used_6 : decode prog_9_method_11_code 6 = .ok (.iaload, 1) := by decide +kernel
theorem d_Md_used_7 : decode prog_9_method_11_code 7 = .ok (.bipush 8, 2) := by decide +kernel
theorem d_Md_used_9 : decode prog_9_method_11_code 9 = .ok (.iload_n 1, 1) := by decide +kernel
theorem d_Md_used_10 : decode prog_9_method_11_code 10 = .ok (.iadd, 1) := by decide +kernel
theorem d_Md_used_11 : decode prog_9_method_11_code 11 = .ok (.ishr, 1) := by decide +kernel
theorem d_Md_used_12 : decode prog_9_method_11_code 12 = .ok (.iconst 1, 1) := by decide +kernel
theorem d_Md_used_13 : decode prog_9_method_11_code 13 = .ok (.iand, 1) := by decide +kernel
theorem d_Md_used_14 : decode prog_9_method_11_code 14 = .ok (.iconst 1, 1) := by decide +kernel
theorem d_Md_used_15 : decode prog_9_method_11_code 15 = .ok (.if_icmp .ne 7, 3) := by decide +kernel
theorem d_Md_used_18 : decode prog_9_method_11_code 18 = .ok (.iconst 1, 1) := by decide +kernel
theorem d_Md_used_19 : decode prog_9_method_11_code 19 = .ok (.goto 4, 3) := by decide +kernel
theorem d_Md_used_22 : decode prog_9_method_11_code 22 = .ok (.iconst 0, 1) := by decide +kernel
theorem d_Md_used_23 : decode prog_9_method_11_code 23 = .ok (.ireturn, 1) := by decide +kernel
theorem yd_Md_used : y_Md_used.cls ≠ "java/lang/invoke/MethodHandle" ∧ y_Md_used.cls ≠ "java/lang/invoke/VarHandle" ∧ (parseMethodDescriptor y_Md_used.desc).map (fun d => d.parameters.length) = some 1 := by decide +kernel
def w_Md_nextUsed : List Cond := Cond.code y_Md_nextUsed prog_9_method_12_code 3 (some .int) :: TB
def rm_Md_nextUsed : Room := { frames := 1, cells := 0, slots := 0, locals := 21 }
theorem d_Md_nextUsed_0 : decode prog_9_method_12_code 0 = .ok (.iload_n 1, 1) := by decide +kernel
theorem d_Md_nextUsed_1 : decode prog_9_method_12_code 1 = .ok (.istore_n 2, 1) := by decide +kernel
theorem d_Md_nextUsed_2 : decode prog_9_method_12_code 2 = .ok (.iload_n 2, 1) := by decide +kernel
theorem d_Md_nextUsed_3 : decode prog_9_method_12_code 3 = .ok (.iconst 4, 1) := by decide +kernel
theorem d_Md_nextUsed_4 : decode prog_9_method_12_code 4 = .ok (.if_icmp .ge 17, 3) := by decide +kernel
theorem d_Md_nextUsed_7 : decode prog_9_method_12_code 7 = .ok (.aload_n 0, 1) := by decide +kernel
theorem d_Md_nextUsed_8 : decode prog_9_method_12_code 8 = .ok (.iload_n 2, 1) := by decide +kernel
theorem d_Md_nextUsed_9 : decode prog_9_method_12_code 9 = .ok (.invokevirtual 106, 3) := by decide +kernel
theorem d_Md_nextUsed_12 : decode prog_9_method_12_code 12 = .ok (.ifCond .ne 9, 3) := by decide +kernel
theorem d_Md_nextUsed_15 : decode prog_9_method_12_code 15 = .ok (.iinc 2 1, 3) := by decide +kernel
theorem d_Md_nextUsed_18 : decode prog_9_method_12_code 18 = .ok (.goto (-16), 3) := by decide +kernel
theorem d_Md_nextUsed_21 : decode prog_9_method_12_code 21 = .ok (.iload_n 2, 1) := by decide +kernel
theorem d_Md_nextUsed_22 : decode prog_9_method_12_code 22 = .ok (.ireturn, 1) := by decide +kernel
theorem yd_Md_nextUsed : y_Md_nextUsed.cls ≠ "java/lang/invoke/MethodHandle" ∧ y_Md_nextUsed.cls ≠ "java/lang/invoke/VarHandle" ∧ (parseMethodDescriptor y_Md_nextUsed.desc).map (fun d => d.parameters.length) = some 1 := by decide +kernel
def w_Md_wordOf : List Cond := Cond.code y_Md_wordOf prog_9_method_13_code 2 (some .int) :: TB
def rm_Md_wordOf : Room := { frames := 1, cells := 0, slots := 0, locals := 21 }
theorem d_Md_wordOf_0 : decode prog_9_method_13_code 0 = .ok (.aload_n 0, 1) := by decide +kernel
theorem d_Md_wordOf_1 : decode prog_9_method_13_code 1 = .ok (.iload_n 1, 1) := by decide +kernel
theorem d_Md_wordOf_2 : decode prog_9_method_13_code 2 = .ok (.invokevirtual 106, 3) := by decide +kernel
theorem d_Md_wordOf_5 : decode prog_9_method_13_code 5 = .ok (.ifCond .eq 12, 3) := by decide +kernel
theorem d_Md_wordOf_8 : decode prog_9_method_13_code 8 = .ok (.aload_n 0, 1) := by decide +kernel
theorem d_Md_wordOf_9 : decode prog_9_method_13_code 9 = .ok (.getfield 31, 3) := by decide +kernel
theorem d_Md_wordOf_12 : decode prog_9_method_13_code 12 = .ok (.iload_n 1, 1) := by decide +kernel
theorem d_Md_wordOf_13 : decode prog_9_method_13_code 13 = .ok (.iaload, 1) := by decide +kernel
theorem d_Md_wordOf_14 : decode prog_9_method_13_code 14 = .ok (.goto 12, 3) := by decide +kernel
theorem d_Md_wordOf_17 : decode prog_9_method_13_code 17 = .ok (.aload_n 0, 1) := by decide +kernel
theorem d_Md_wordOf_18 : decode prog_9_method_13_code 18 = .ok (.getfield 13, 3) := by decide +kernel
theorem d_Md_wordOf_21 : decode prog_9_method_13_code 21 = .ok (.bipush 22, 2) := by decide +kernel
theorem d_Md_wordOf_23 : decode prog_9_method_13_code 23 = .ok (.iload_n 1, 1) := by decide +kernel
theorem d_Md_wordOf_24 : decode prog_9_method_13_code 24 = .ok (.iadd, 1) := by decide +kernel
theorem d_Md_wordOf_25 : decode prog_9_method_13_code 25 = .ok (.iaload, 1) := by decide +kernel
theorem d_Md_wordOf_26 : decode prog_9_method_13_code 26 = .ok (.ireturn, 1) := by decide +kernel
theorem yd_Md_wordOf : y_Md_wordOf.cls ≠ "java/lang/invoke/MethodHandle" ∧ y_Md_wordOf.cls ≠ "java/lang/invoke/VarHandle" ∧ (parseMethodDescriptor y_Md_wordOf.desc).map (fun d => d.parameters.length) = some 1 := by decide +kernel
def w_Md_nextWord : List Cond := Cond.code y_Md_nextWord prog_9_method_15_code 2 none :: TB
def rm_Md_nextWord : Room := { frames := 1, cells := 0, slots := 0, locals := 21 }
theorem d_Md_nextWord_0 : decode prog_9_method_15_code 0 = .ok (.aload_n 0, 1) := by decide +kernel
theorem d_Md_nextWord_1 : decode prog_9_method_15_code 1 = .ok (.iconst 0, 1) := by decide +kernel
theorem d_Md_nextWord_2 : decode prog_9_method_15_code 2 = .ok (.putfield 79, 3) := by decide +kernel
theorem d_Md_nextWord_5 : decode prog_9_method_15_code 5 = .ok (.aload_n 0, 1) := by decide +kernel
theorem d_Md_nextWord_6 : decode prog_9_method_15_code 6 = .ok (.dup, 1) := by decide +kernel
theorem d_Md_nextWord_7 : decode prog_9_method_15_code 7 = .ok (.getfield 73, 3) := by decide +kernel
theorem d_Md_nextWord_10 : decode prog_9_method_15_code 10 = .ok (.iconst 1, 1) := by decide +kernel
theorem d_Md_nextWord_11 : decode prog_9_method_15_code 11 = .ok (.iadd, 1) := by decide +kernel
theorem d_Md_nextWord_12 : decode prog_9_method_15_code 12 = .ok (.putfield 73, 3) := by decide +kernel
theorem d_Md_nextWord_15 : decode prog_9_method_15_code 15 = .ok (.aload_n 0, 1) := by decide +kernel
theorem d_Md_nextWord_16 : decode prog_9_method_15_code 16 = .ok (.getfield 73, 3) := by decide +kernel
theorem d_Md_nextWord_19 : decode prog_9_method_15_code 19 = .ok (.aload_n 0, 1) := by decide +kernel
theorem d_Md_nextWord_20 : decode prog_9_method_15_code 20 = .ok (.getfield 67, 3) := by decide +kernel
theorem d_Md_nextWord_23 : decode prog_9_method_15_code 23 = .ok (.if_icmp .ge 4, 3) := by decide +kernel
theorem d_Md_nextWord_26 : decode prog_9_method_15_code 26 = .ok (.return_, 1) := by decide +kernel
theorem d_Md_nextWord_27 : decode prog_9_method_15_code 27 = .ok (.aload_n 0, 1) := by decide +kernel
theorem d_Md_nextWord_28 : decode prog_9_method_15_code 28 = .ok (.iconst 0, 1) := by decide +kernel
theorem d_Md_nextWord_29 : decode prog_9_method_15_code 29 = .ok (.putfield 73, 3) := by decide +kernel
theorem d_Md_nextWord_32 : decode prog_9_method_15_code 32 = .ok (.aload_n 0, 1) := by decide +kernel
theorem d_Md_nextWord_33 : decode prog_9_method_15_code 33 = .ok (.dup, 1) := by decide +kernel
theorem d_Md_nextWord_34 : decode prog_9_method_15_code 34 = .ok (.getfield 76, 3) := by decide +kernel
theorem d_Md_nextWord_37 : decode prog_9_method_15_code 37 = .ok (.iconst 1, 1) := by decide +kernel
theorem d_Md_nextWord_38 : decode prog_9_method_15_code 38 = .ok (.iadd, 1) := by decide +kernel
theorem d_Md_nextWord_39 : decode prog_9_method_15_code 39 = .ok (.putfield 76, 3) := by decide +kernel
theorem d_Md_nextWord_42 : decode prog_9_method_15_code 42 = .ok (.iconst 0, 1) := by decide +kernel
theorem d_Md_nextWord_43 : decode prog_9_method_15_code 43 = .ok (.istore_n 1, 1) := by decide +kernel
theorem d_Md_nextWord_44 : decode prog_9_method_15_code 44 = .ok (.iload_n 1, 1) := by decide +kernel
theorem d_Md_nextWord_45 : decode prog_9_method_15_code 45 = .ok (.iconst 4, 1) := by decide +kernel
theorem d_Md_nextWord_46 : decode prog_9_method_15_code 46 = .ok (.if_icmp .ge 49, 3) := by decide +kernel
theorem d_Md_nextWord_49 : decode prog_9_method_15_code 49 = .ok (.aload_n 0, 1) := by decide +kernel
theorem d_Md_nextWord_50 : decode prog_9_method_15_code 50 = .ok (.iload_n 1, 1) := by decide +kernel
theorem d_Md_nextWord_51 : decode prog_9_method_15_code 51 = .ok (.invokevirtual 106, 3) := by decide +kernel
theorem d_Md_nextWord_54 : decode prog_9_method_15_code 54 = .ok (.ifCond .eq 35, 3) := by decide +kernel
theorem d_Md_nextWord_57 : decode prog_9_method_15_code 57 = .ok (.aload_n 0, 1) := by decide +kernel
theorem d_Md_nextWord_58 : decode prog_9_method_15_code 58 = .ok (.getfield 13, 3) := by decide +kernel
theorem d_Md_nextWord_61 : decode prog_9_method_15_code 61 = .ok (.bipush 12, 2) := by decide +kernel
theorem d_Md_nextWord_63 : decode prog_9_method_15_code 63 = .ok (.iload_n 1, 1) := by decide +kernel
theorem d_Md_nextWord_64 : decode prog_9_method_15_code 64 = .ok (.iadd, 1) := by decide +kernel
theorem d_Md_nextWord_65 : decode prog_9_method_15_code 65 = .ok (.aload_n 0, 1) := by decide +kernel
theorem d_Md_nextWord_66 : decode prog_9_method_15_code 66 = .ok (.getfield 13, 3) := by decide +kernel
theorem d_Md_nextWord_69 : decode prog_9_method_15_code 69 = .ok (.bipush 12, 2) := by decide +kernel
theorem d_Md_nextWord_71 : decode prog_9_method_15_code 71 = .ok (.iload_n 1, 1) := by decide +kernel
theorem d_Md_nextWord_72 : decode prog_9_method_15_code 72 = .ok (.iadd, 1) := by decide +kernel
theorem d_Md_nextWord_73 : decode prog_9_method_15_code 73 = .ok (.iaload, 1) := by decide +kernel
theorem d_Md_nextWord_74 : decode prog_9_method_15_code 74 = .ok (.aload_n 0, 1) := by decide +kernel
theorem d_Md_nextWord_75 : decode prog_9_method_15_code 75 = .ok (.getfield 13, 3) := by decide +kernel
theorem d_Md_nextWord_78 : decode prog_9_method_15_code 78 = .ok (.bipush 16, 2) := by decide +kernel
theorem d_Md_nextWord_80 : decode prog_9_method_15_code 80 = .ok (.iload_n 1, 1) := by decide +kernel
theorem d_Md_nextWord_81 : decode prog_9_method_15_code 81 = .ok (.iadd, 1) := by decide +kernel
theorem d_Md_nextWord_82 : decode prog_9_method_15_code 82 = .ok (.iaload, 1) := by decide +kernel
theorem d_Md_nextWord_83 : decode prog_9_method_15_code 83 = .ok (.iadd, 1) := by decide +kernel
theorem d_Md_nextWord_84 : decode prog_9_method_15_code 84 = .ok (.sipush 255, 3) := by decide +kernel
theorem d_Md_nextWord_87 : decode prog_9_method_15_code 87 = .ok (.iand, 1) := by decide +kernel
theorem d_Md_nextWord_88 : decode prog_9_method_15_code 88 = .ok (.iastore, 1) := by decide +kernel
theorem d_Md_nextWord_89 : decode prog_9_method_15_code 89 = .ok (.iinc 1 1, 3) := by decide +kernel
theorem d_Md_nextWord_92 : decode prog_9_method_15_code 92 = .ok (.goto (-48), 3) := by decide +kernel
theorem d_Md_nextWord_95 : decode prog_9_method_15_code 95 = .ok (.aload_n 0, 1) := by decide +kernel
theorem d_Md_nextWord_96 : decode prog_9_method_15_code 96 = .ok (.getfield 76, 3) := by decide +kernel
theorem d_Md_nextWord_99 : decode prog_9_method_15_code 99 = .ok (.aload_n 0, 1) := by decide +kernel
theorem d_Md_nextWord_100 : decode prog_9_method_15_code 100 = .ok (.getfield 70, 3) := by decide +kernel
theorem d_Md_nextWord_103 : decode prog_9_method_15_code 103 = .ok (.if_icmp .ge 4, 3) := by decide +kernel
theorem d_Md_nextWord_106 : decode prog_9_method_15_code 106 = .ok (.return_, 1) := by decide +kernel
theorem d_Md_nextWord_107 : decode prog_9_method_15_code 107 = .ok (.aload_n 0, 1) := by decide +kernel
theorem d_Md_nextWord_108 : decode prog_9_method_15_code 108 = .ok (.iconst 0, 1) := by decide +kernel
theorem d_Md_nextWord_109 : decode prog_9_method_15_code 109 = .ok (.putfield 61, 3) := by decide +kernel
theorem d_Md_nextWord_112 : decode prog_9_method_15_code 112 = .ok (.aload_n 0, 1) := by decide +kernel
theorem d_Md_nextWord_113 : decode prog_9_method_15_code 113 = .ok (.dup, 1) := by decide +kernel
theorem d_Md_nextWord_114 : decode prog_9_method_15_code 114 = .ok (.getfield 44, 3) := by decide +kernel
theorem d_Md_nextWord_117 : decode prog_9_method_15_code 117 = .ok (.iconst 1, 1) := by decide +kernel
theorem d_Md_nextWord_118 : decode prog_9_method_15_code 118 = .ok (.ior, 1) := by decide +kernel
theorem d_Md_nextWord_119 : decode prog_9_method_15_code 119 = .ok (.putfield 44, 3) := by decide +kernel
theorem d_Md_nextWord_122 : decode prog_9_method_15_code 122 = .ok (.return_, 1) := by decide +kernel
theorem yd_Md_nextWord : y_Md_nextWord.cls ≠ "java/lang/invoke/MethodHandle" ∧ y_Md_nextWord.cls ≠ "java/lang/invoke/VarHandle" ∧ (parseMethodDescriptor y_Md_nextWord.desc).map (fun d => d.parameters.length) = some 0 := by decide +kernel
theorem tb_cd_Md_outside : Cond.code y_Md_outside prog_9_method_2_code 3 (some .boolean) ∈ TB := tb_in 555 (by decide +kernel) (by decide +kernel)
theorem tb_in_Md : Cond.initialized "SlotBoardModel" ∈ TB := tb_in 8 (by decide +kernel) (by decide +kernel)
theorem tb_st_Md_outside : Cond.static y_Md_outside ∈ TB := tb_in 554 (by decide +kernel) (by decide +kernel)
theorem tb_cd_Md_control : Cond.code y_Md_control prog_9_method_3_code 2 (some .boolean) ∈ TB := tb_in 563 (by decide +kernel) (by decide +kernel)
theorem tb_im_Md_control : Cond.instanceMethod y_Md_control ∈ TB := tb_in 562 (by decide +kernel) (by decide +kernel)
theorem tb_se_Md_control : Cond.selects "SlotBoardModel" y_Md_control y_Md_control ∈ TB := tb_inS 16 (by decide +kernel) (by decide +kernel)
theorem tb_fl_Md_13 : Cond.fieldLink "SlotBoardModel" 13 "SlotBoardModel" "has" "[I" ∈ TB := tb_in 456 (by decide +kernel) (by decide +kernel)
theorem tb_cd_Md_startList : Cond.code y_Md_startList prog_9_method_5_code 1 none ∈ TB := tb_in 567 (by decide +kernel) (by decide +kernel)
theorem tb_im_Md_startList : Cond.instanceMethod y_Md_startList ∈ TB := tb_in 566 (by decide +kernel) (by decide +kernel)
theorem tb_se_Md_startList : Cond.selects "SlotBoardModel" y_Md_startList y_Md_startList ∈ TB := tb_inS 17 (by decide +kernel) (by decide +kernel)
theorem tb_fl_Md_48 : Cond.fieldLink "SlotBoardModel" 48 "SlotBoardModel" "list" "I" ∈ TB := tb_in 465 (by decide +kernel) (by decide +kernel)
theorem tb_fl_Md_51 : Cond.fieldLink "SlotBoardModel" 51 "SlotBoardModel" "listPlace" "I" ∈ TB := tb_in 466 (by decide +kernel) (by decide +kernel)
theorem tb_fl_Md_54 : Cond.fieldLink "SlotBoardModel" 54 "SlotBoardModel" "second" "Z" ∈ TB := tb_in 468 (by decide +kernel) (by decide +kernel)
theorem tb_fl_Md_58 : Cond.fieldLink "SlotBoardModel" 58 "SlotBoardModel" "skips" "Z" ∈ TB := tb_in 469 (by decide +kernel) (by decide +kernel)
theorem tb_cd_Md_begin : Cond.code y_Md_begin prog_9_method_6_code 2 none ∈ TB := tb_in 596 (by decide +kernel) (by decide +kernel)
theorem tb_im_Md_begin : Cond.instanceMethod y_Md_begin ∈ TB := tb_in 595 (by decide +kernel) (by decide +kernel)
theorem tb_se_Md_begin : Cond.selects "SlotBoardModel" y_Md_begin y_Md_begin ∈ TB := tb_inS 24 (by decide +kernel) (by decide +kernel)
theorem tb_fl_Md_61 : Cond.fieldLink "SlotBoardModel" 61 "SlotBoardModel" "busy" "Z" ∈ TB := tb_in 471 (by decide +kernel) (by decide +kernel)
theorem tb_fl_Md_64 : Cond.fieldLink "SlotBoardModel" 64 "SlotBoardModel" "zero" "Z" ∈ TB := tb_in 472 (by decide +kernel) (by decide +kernel)
theorem tb_fl_Md_67 : Cond.fieldLink "SlotBoardModel" 67 "SlotBoardModel" "width" "I" ∈ TB := tb_in 473 (by decide +kernel) (by decide +kernel)
theorem tb_fl_Md_70 : Cond.fieldLink "SlotBoardModel" 70 "SlotBoardModel" "height" "I" ∈ TB := tb_in 474 (by decide +kernel) (by decide +kernel)
theorem tb_fl_Md_73 : Cond.fieldLink "SlotBoardModel" 73 "SlotBoardModel" "column" "I" ∈ TB := tb_in 475 (by decide +kernel) (by decide +kernel)
theorem tb_fl_Md_76 : Cond.fieldLink "SlotBoardModel" 76 "SlotBoardModel" "row" "I" ∈ TB := tb_in 476 (by decide +kernel) (by decide +kernel)
theorem tb_fl_Md_79 : Cond.fieldLink "SlotBoardModel" 79 "SlotBoardModel" "channel" "I" ∈ TB := tb_in 477 (by decide +kernel) (by decide +kernel)
theorem tb_fl_Md_82 : Cond.fieldLink "SlotBoardModel" 82 "SlotBoardModel" "beforeA" "I" ∈ TB := tb_in 478 (by decide +kernel) (by decide +kernel)
theorem tb_fl_Md_85 : Cond.fieldLink "SlotBoardModel" 85 "SlotBoardModel" "beforeB" "I" ∈ TB := tb_in 479 (by decide +kernel) (by decide +kernel)
theorem tb_cd_Md_write : Cond.code y_Md_write prog_9_method_4_code 3 none ∈ TB := tb_in 592 (by decide +kernel) (by decide +kernel)
theorem tb_im_Md_write : Cond.instanceMethod y_Md_write ∈ TB := tb_in 591 (by decide +kernel) (by decide +kernel)
theorem tb_se_Md_write : Cond.selects "SlotBoardModel" y_Md_write y_Md_write ∈ TB := tb_inS 23 (by decide +kernel) (by decide +kernel)
theorem tb_ml_Md_37 : Cond.methodLink "SlotBoardModel" 37 y_Md_startList ∈ TB := tb_in 564 (by decide +kernel) (by decide +kernel)
theorem tb_ml_Md_40 : Cond.methodLink "SlotBoardModel" 40 y_Md_begin ∈ TB := tb_in 593 (by decide +kernel) (by decide +kernel)
theorem tb_fl_Md_44 : Cond.fieldLink "SlotBoardModel" 44 "SlotBoardModel" "requests" "I" ∈ TB := tb_in 460 (by decide +kernel) (by decide +kernel)
theorem tb_cd_Md_planeAt : Cond.code y_Md_planeAt prog_9_method_8_code 3 (some .int) ∈ TB := tb_in 580 (by decide +kernel) (by decide +kernel)
theorem tb_im_Md_planeAt : Cond.instanceMethod y_Md_planeAt ∈ TB := tb_in 579 (by decide +kernel) (by decide +kernel)
theorem tb_se_Md_planeAt : Cond.selects "SlotBoardModel" y_Md_planeAt y_Md_planeAt ∈ TB := tb_inS 20 (by decide +kernel) (by decide +kernel)
theorem tb_ml_Md_89 : Cond.methodLink "SlotBoardModel" 89 y_Md_control ∈ TB := tb_in 560 (by decide +kernel) (by decide +kernel)
theorem tb_cd_Md_fetchPlane : Cond.code y_Md_fetchPlane prog_9_method_9_code 4 none ∈ TB := tb_in 584 (by decide +kernel) (by decide +kernel)
theorem tb_im_Md_fetchPlane : Cond.instanceMethod y_Md_fetchPlane ∈ TB := tb_in 583 (by decide +kernel) (by decide +kernel)
theorem tb_se_Md_fetchPlane : Cond.selects "SlotBoardModel" y_Md_fetchPlane y_Md_fetchPlane ∈ TB := tb_inS 21 (by decide +kernel) (by decide +kernel)
theorem tb_fl_Md_25 : Cond.fieldLink "SlotBoardModel" 25 "SlotBoardModel" "latch" "[I" ∈ TB := tb_in 463 (by decide +kernel) (by decide +kernel)
theorem tb_fl_Md_7 : Cond.fieldLink "SlotBoardModel" 7 "SlotBoardModel" "memory" "[I" ∈ TB := tb_in 455 (by decide +kernel) (by decide +kernel)
theorem tb_fl_Md_22 : Cond.fieldLink "SlotBoardModel" 22 "SlotBoardModel" "planePlace" "[I" ∈ TB := tb_in 462 (by decide +kernel) (by decide +kernel)
theorem tb_cd_Md_used : Cond.code y_Md_used prog_9_method_11_code 2 (some .boolean) ∈ TB := tb_in 608 (by decide +kernel) (by decide +kernel)
theorem tb_im_Md_used : Cond.instanceMethod y_Md_used ∈ TB := tb_in 607 (by decide +kernel) (by decide +kernel)
theorem tb_se_Md_used : Cond.selects "SlotBoardModel" y_Md_used y_Md_used ∈ TB := tb_inS 27 (by decide +kernel) (by decide +kernel)
theorem tb_cd_Md_nextUsed : Cond.code y_Md_nextUsed prog_9_method_12_code 3 (some .int) ∈ TB := tb_in 604 (by decide +kernel) (by decide +kernel)
theorem tb_im_Md_nextUsed : Cond.instanceMethod y_Md_nextUsed ∈ TB := tb_in 603 (by decide +kernel) (by decide +kernel)
theorem tb_se_Md_nextUsed : Cond.selects "SlotBoardModel" y_Md_nextUsed y_Md_nextUsed ∈ TB := tb_inS 26 (by decide +kernel) (by decide +kernel)
theorem tb_ml_Md_106 : Cond.methodLink "SlotBoardModel" 106 y_Md_used ∈ TB := tb_in 605 (by decide +kernel) (by decide +kernel)
theorem tb_cd_Md_wordOf : Cond.code y_Md_wordOf prog_9_method_13_code 2 (some .int) ∈ TB := tb_in 612 (by decide +kernel) (by decide +kernel)
theorem tb_im_Md_wordOf : Cond.instanceMethod y_Md_wordOf ∈ TB := tb_in 611 (by decide +kernel) (by decide +kernel)
theorem tb_se_Md_wordOf : Cond.selects "SlotBoardModel" y_Md_wordOf y_Md_wordOf ∈ TB := tb_inS 28 (by decide +kernel) (by decide +kernel)
theorem tb_fl_Md_31 : Cond.fieldLink "SlotBoardModel" 31 "SlotBoardModel" "fetched" "[I" ∈ TB := tb_in 480 (by decide +kernel) (by decide +kernel)
theorem tb_cd_Md_nextWord : Cond.code y_Md_nextWord prog_9_method_15_code 2 none ∈ TB := tb_in 616 (by decide +kernel) (by decide +kernel)
theorem tb_im_Md_nextWord : Cond.instanceMethod y_Md_nextWord ∈ TB := tb_in 615 (by decide +kernel) (by decide +kernel)
theorem tb_se_Md_nextWord : Cond.selects "SlotBoardModel" y_Md_nextWord y_Md_nextWord ∈ TB := tb_inS 29 (by decide +kernel) (by decide +kernel)
def f_Md_outside_15 (S : SS) (M : MM) (x0 : Int32) (x1 : Int32) (x2 : Int32) (y0 : Int32) : Option RR := if ¬ (y0 = 0 ∨ y0 = 1) then none else some (y0, S, M)
def f_Md_outside_10 (S : SS) (M : MM) (x0 : Int32) (x1 : Int32) (x2 : Int32) : Option RR := f_Md_outside_15 S M x0 x1 x2 (1 : Int32)
def f_Md_outside (S : SS) (M : MM) (x0 : Int32) (x1 : Int32) (x2 : Int32) : Option RR := if x0 < x1 then f_Md_outside_10 S M x0 x1 x2 else if x0 ≤ x2 then f_Md_outside_15 S M x0 x1 x2 (0 : Int32) else f_Md_outside_10 S M x0 x1 x2
set_option maxHeartbeats 4000000 in
set_option maxRecDepth 100000 in
theorem c_Md_outside (l : Launch) (D : va_G) (cA : ClassId) (b : Nat → Nat) (S : SS) (M : MM) (x0 : Int32) (x1 : Int32) (x2 : Int32) (q : RR) (h0 : f_Md_outside S M x0 x1 x2 = some q) : Ci l y_Md_outside w_Md_outside rm_Md_outside D vCl [(cA, .int)] (AM b) (ZM b) (wM cA b) [.int x0, .int x1, .int x2] S M q := by
  refine Ci.of (cc := prog_9_method_2_code) (maxL := 3) (ty := .boolean) (by decide) rfl (Nat.le_of_ble_eq_true rfl) ?_
  intro p e s m args below meth c Q hx hb hml hown hts hK hZ ret
  have hown : s.vm.findClass R_Md = some m.cls := hown
  have hts : ∀ w ∈ TB, w.before args s = true := fun w h => hts w (List.mem_cons_of_mem _ h)
  have hZK := ZM_k b
  have b15 : ∀ (S : SS) (M : MM) (x0 : Int32) (x1 : Int32) (x2 : Int32) (y0 : Int32), f_Md_outside_15 S M x0 x1 x2 y0 = some q → BK p l e rm_Md_outside s m args below meth c Q D vCl (AM b) (wM cA b) 3 15 [(0, .int x0), (1, .int x1), (2, .int x2)] [.int y0] S M := by
    intro S M x0 x1 x2 y0 h H locs ls hl hP hD hS
    unfold f_Md_outside_15 at h
    obtain ⟨hg1, h⟩ := sg_g h
    exact ret _ _ _ _ _ _ _ h (sg_nb hg1).1 hP hD hS d_Md_outside_15
  have b10 : ∀ (S : SS) (M : MM) (x0 : Int32) (x1 : Int32) (x2 : Int32), f_Md_outside_10 S M x0 x1 x2 = some q → BK p l e rm_Md_outside s m args below meth c Q D vCl (AM b) (wM cA b) 3 10 [(0, .int x0), (1, .int x1), (2, .int x2)] [] S M := by
    intro S M x0 x1 x2 h H locs ls hl hP hD hS
    unfold f_Md_outside_10 at h
    refine lv_iconst (v := (1 : Int32)) hx hb d_Md_outside_10 (by decide) ?_
    refine lv_goto (tgt := 15) hx hb d_Md_outside_11 (by decide) ?_
    exact b15 _ _ _ _ _ _ h _ _ _ (lv_sub hl [0, 1, 2] rfl) hP hD hS
  intro H locs ls hl hP hD hS
  have hl : lv_has ls 3 [(0, .int x0), (1, .int x1), (2, .int x2)] := hl
  have h := h0
  unfold f_Md_outside at h
  refine lv_iload_n hx hb d_Md_outside_0 rfl (lv_at hl 0 rfl) ?_
  refine lv_iload_n hx hb d_Md_outside_1 rfl (lv_at hl 1 rfl) ?_
  refine lv_icmp_lt (tgt := 10) hx hb d_Md_outside_2 (by decide) (fun hc => ?_) (fun hc => ?_)
  · have h := sg_p hc h
    exact b10 _ _ _ _ _ h _ _ _ (lv_sub hl [0, 1, 2] rfl) hP hD hS
  · have h := sg_n hc h
    refine lv_iload_n hx hb d_Md_outside_5 rfl (lv_at hl 0 rfl) ?_
    refine lv_iload_n hx hb d_Md_outside_6 rfl (lv_at hl 2 rfl) ?_
    refine lv_icmp_le (tgt := 14) hx hb d_Md_outside_7 (by decide) (fun hc => ?_) (fun hc => ?_)
    · have h := sg_p hc h
      refine lv_iconst (v := (0 : Int32)) hx hb d_Md_outside_14 (by decide) ?_
      exact b15 _ _ _ _ _ _ h _ _ _ (lv_sub hl [0, 1, 2] rfl) hP hD hS
    · have h := sg_n hc h
      exact b10 _ _ _ _ _ h _ _ _ (lv_sub hl [0, 1, 2] rfl) hP hD hS
def f_Md_control_19 (S : SS) (M : MM) (x1 : Int32) (y0 : Int32) : Option RR := if ¬ (y0 = 0 ∨ y0 = 1) then none else some (y0, S, M)
def f_Md_control (S : SS) (M : MM) (x1 : Int32) : Option RR := if ((M 1 0) >>> (x1 &&& 31)) &&& (1 : Int32) = (1 : Int32) then f_Md_control_19 S M x1 (1 : Int32) else f_Md_control_19 S M x1 (0 : Int32)
set_option maxHeartbeats 4000000 in
set_option maxRecDepth 100000 in
theorem c_Md_control (l : Launch) (D : va_G) (cA : ClassId) (b : Nat → Nat) (S : SS) (M : MM) (x1 : Int32) (q : RR) (h0 : f_Md_control S M x1 = some q) : Ci l y_Md_control w_Md_control rm_Md_control D vCl [(cA, .int)] (AM b) (ZM b) (wM cA b) [.ref (b 0), .int x1] S M q := by
  refine Ci.of (cc := prog_9_method_3_code) (maxL := 2) (ty := .boolean) (by decide) rfl (Nat.le_of_ble_eq_true rfl) ?_
  intro p e s m args below meth c Q hx hb hml hown hts hK hZ ret
  have hown : s.vm.findClass R_Md = some m.cls := hown
  have hts : ∀ w ∈ TB, w.before args s = true := fun w h => hts w (List.mem_cons_of_mem _ h)
  have hZK := ZM_k b
  have k13 := hts _ tb_fl_Md_13
  have b19 : ∀ (S : SS) (M : MM) (x1 : Int32) (y0 : Int32), f_Md_control_19 S M x1 y0 = some q → BK p l e rm_Md_control s m args below meth c Q D vCl (AM b) (wM cA b) 2 19 [(0, .ref (b 0)), (1, .int x1)] [.int y0] S M := by
    intro S M x1 y0 h H locs ls hl hP hD hS
    unfold f_Md_control_19 at h
    obtain ⟨hg1, h⟩ := sg_g h
    exact ret _ _ _ _ _ _ _ h (sg_nb hg1).1 hP hD hS d_Md_control_19
  intro H locs ls hl hP hD hS
  have hl : lv_has ls 2 [(0, .ref (b 0)), (1, .int x1)] := hl
  have h := h0
  unfold f_Md_control at h
  refine lv_aload_n hx hb d_Md_control_0 rfl (lv_at hl 0 rfl) ?_
  refine va_get (D := D) (ci := 7) (v := .ref (b 2)) (C := R_Md) (T := T_Md) (N := 31) hx hb hts iMd hown hK hP 0 (wM_at0 _ _ _ _) rfl 1 (by decide) k13 (fun _ h9 => h9) rfl d_Md_control_1 ?_
  refine lv_iconst (v := (0 : Int32)) hx hb d_Md_control_4 (by decide) ?_
  refine ialdK hx hb hK hP 2 0 (wM_at2 _ _ _ _) rfl 0 (by decide) (by unfold vp_in; decide) d_Md_control_5 ?_
  refine lv_iload_n hx hb d_Md_control_6 rfl (lv_at hl 1 rfl) ?_
  refine lv_ishr hx hb d_Md_control_7 ?_
  refine lv_iconst (v := (1 : Int32)) hx hb d_Md_control_8 (by decide) ?_
  refine lv_iand hx hb d_Md_control_9 ?_
  refine lv_iconst (v := (1 : Int32)) hx hb d_Md_control_10 (by decide) ?_
  refine lv_icmp_ne (tgt := 18) hx hb d_Md_control_11 (by decide) (fun hc => ?_) (fun hc => ?_)
  · have h := sg_n hc h
    refine lv_iconst (v := (0 : Int32)) hx hb d_Md_control_18 (by decide) ?_
    exact b19 _ _ _ _ h _ _ _ (lv_sub hl [0, 1] rfl) hP hD hS
  · have h := sg_p hc h
    refine lv_iconst (v := (1 : Int32)) hx hb d_Md_control_14 (by decide) ?_
    refine lv_goto (tgt := 19) hx hb d_Md_control_15 (by decide) ?_
    exact b19 _ _ _ _ h _ _ _ (lv_sub hl [0, 1] rfl) hP hD hS
def f_Md_startList (S : SS) (M : MM) : Option RR := some (0, (upd (upd (upd (upd S 3 (1 : Int32)) 4 (M 1 1)) 6 (0 : Int32)) 7 (0 : Int32)), M)
set_option maxHeartbeats 4000000 in
set_option maxRecDepth 100000 in
theorem c_Md_startList (l : Launch) (D : va_G) (cA : ClassId) (b : Nat → Nat) (S : SS) (M : MM) (q : RR) (h0 : f_Md_startList S M = some q) : Cv l y_Md_startList w_Md_startList rm_Md_startList D vCl [(cA, .int)] (AM b) (ZM b) (wM cA b) [.ref (b 0)] S M q := by
  refine Cv.of (cc := prog_9_method_5_code) (maxL := 1) (by decide) rfl (Nat.le_of_ble_eq_true rfl) ?_
  intro p e s m args below meth c Q hx hb hml hown hts hK hZ ret
  have hown : s.vm.findClass R_Md = some m.cls := hown
  have hts : ∀ w ∈ TB, w.before args s = true := fun w h => hts w (List.mem_cons_of_mem _ h)
  have hZK := ZM_k b
  have k48 := hts _ tb_fl_Md_48
  have k13 := hts _ tb_fl_Md_13
  have k51 := hts _ tb_fl_Md_51
  have k54 := hts _ tb_fl_Md_54
  have k58 := hts _ tb_fl_Md_58
  intro H locs ls hl hP hD hS
  have hl : lv_has ls 1 [(0, .ref (b 0))] := hl
  have h := h0
  unfold f_Md_startList at h
  refine lv_aload_n hx hb d_Md_startList_0 rfl (lv_at hl 0 rfl) ?_
  refine lv_iconst (v := (1 : Int32)) hx hb d_Md_startList_1 (by decide) ?_
  refine puwM_3 (D := D) (x := (1 : Int32)) hx hb hts iMd hown hK hP hD hS k48 rfl rfl d_Md_startList_2 (fun H locs hP hD hS => ?_)
  refine lv_aload_n hx hb d_Md_startList_5 rfl (lv_at hl 0 rfl) ?_
  refine lv_aload_n hx hb d_Md_startList_6 rfl (lv_at hl 0 rfl) ?_
  refine va_get (D := D) (ci := 7) (v := .ref (b 2)) (C := R_Md) (T := T_Md) (N := 31) hx hb hts iMd hown hK hP 0 (wM_at0 _ _ _ _) rfl 1 (by decide) k13 (fun _ h9 => h9) rfl d_Md_startList_7 ?_
  refine lv_iconst (v := (1 : Int32)) hx hb d_Md_startList_10 (by decide) ?_
  refine ialdK hx hb hK hP 2 0 (wM_at2 _ _ _ _) rfl 1 (by decide) (by unfold vp_in; decide) d_Md_startList_11 ?_
  refine puwM_4 (D := D) (x := M 1 1) hx hb hts iMd hown hK hP hD hS k51 rfl rfl d_Md_startList_12 (fun H locs hP hD hS => ?_)
  refine lv_aload_n hx hb d_Md_startList_15 rfl (lv_at hl 0 rfl) ?_
  refine lv_iconst (v := (0 : Int32)) hx hb d_Md_startList_16 (by decide) ?_
  refine puwM_6 (D := D) (x := (0 : Int32)) hx hb hts iMd hown hK hP hD hS k54 (by decide +kernel) (by decide +kernel) d_Md_startList_17 (fun H locs hP hD hS => ?_)
  refine lv_aload_n hx hb d_Md_startList_20 rfl (lv_at hl 0 rfl) ?_
  refine lv_iconst (v := (0 : Int32)) hx hb d_Md_startList_21 (by decide) ?_
  refine puwM_7 (D := D) (x := (0 : Int32)) hx hb hts iMd hown hK hP hD hS k58 (by decide +kernel) (by decide +kernel) d_Md_startList_22 (fun H locs hP hD hS => ?_)
  exact ret _ _ _ _ _ _ _ h hP hD hS d_Md_startList_25
def f_Md_begin_51 (S : SS) (M : MM) (x1 : Int32) (y1 : Int32) : Option RR := some (0, (upd (upd (upd (upd (upd (upd S 12 y1) 13 (0 : Int32)) 14 (0 : Int32)) 15 (0 : Int32)) 16 (0 : Int32)) 17 (0 : Int32)), M)
def f_Md_begin_27 (S : SS) (M : MM) (x1 : Int32) (y1 : Int32) : Option RR := if (x1 >>> ((4 : Int32) &&& 31)) &&& (15 : Int32) = 0 then f_Md_begin_51 (upd S 11 y1) M x1 (16 : Int32) else f_Md_begin_51 (upd S 11 y1) M x1 ((x1 >>> ((4 : Int32) &&& 31)) &&& (15 : Int32))
def f_Md_begin (S : SS) (M : MM) (x1 : Int32) : Option RR := if x1 &&& (7 : Int32) = 0 then f_Md_begin_27 (upd (upd S 9 (1 : Int32)) 10 (1 : Int32)) M x1 (8 : Int32) else f_Md_begin_27 (upd (upd S 9 (1 : Int32)) 10 (1 : Int32)) M x1 (x1 &&& (7 : Int32))
set_option maxHeartbeats 4000000 in
set_option maxRecDepth 100000 in
theorem c_Md_begin (l : Launch) (D : va_G) (cA : ClassId) (b : Nat → Nat) (S : SS) (M : MM) (x1 : Int32) (q : RR) (h0 : f_Md_begin S M x1 = some q) : Cv l y_Md_begin w_Md_begin rm_Md_begin D vCl [(cA, .int)] (AM b) (ZM b) (wM cA b) [.ref (b 0), .int x1] S M q := by
  refine Cv.of (cc := prog_9_method_6_code) (maxL := 2) (by decide) rfl (Nat.le_of_ble_eq_true rfl) ?_
  intro p e s m args below meth c Q hx hb hml hown hts hK hZ ret
  have hown : s.vm.findClass R_Md = some m.cls := hown
  have hts : ∀ w ∈ TB, w.before args s = true := fun w h => hts w (List.mem_cons_of_mem _ h)
  have hZK := ZM_k b
  have k61 := hts _ tb_fl_Md_61
  have k64 := hts _ tb_fl_Md_64
  have k67 := hts _ tb_fl_Md_67
  have k70 := hts _ tb_fl_Md_70
  have k73 := hts _ tb_fl_Md_73
  have k76 := hts _ tb_fl_Md_76
  have k79 := hts _ tb_fl_Md_79
  have k82 := hts _ tb_fl_Md_82
  have k85 := hts _ tb_fl_Md_85
  have b51 : ∀ (S : SS) (M : MM) (x1 : Int32) (y1 : Int32), f_Md_begin_51 S M x1 y1 = some q → BK p l e rm_Md_begin s m args below meth c Q D vCl (AM b) (wM cA b) 2 51 [(0, .ref (b 0)), (1, .int x1)] [.int y1, .ref (b 0)] S M := by
    intro S M x1 y1 h H locs ls hl hP hD hS
    unfold f_Md_begin_51 at h
    refine puwM_12 (D := D) (x := y1) hx hb hts iMd hown hK hP hD hS k70 rfl rfl d_Md_begin_51 (fun H locs hP hD hS => ?_)
    refine lv_aload_n hx hb d_Md_begin_54 rfl (lv_at hl 0 rfl) ?_
    refine lv_iconst (v := (0 : Int32)) hx hb d_Md_begin_55 (by decide) ?_
    refine puwM_13 (D := D) (x := (0 : Int32)) hx hb hts iMd hown hK hP hD hS k73 rfl rfl d_Md_begin_56 (fun H locs hP hD hS => ?_)
    refine lv_aload_n hx hb d_Md_begin_59 rfl (lv_at hl 0 rfl) ?_
    refine lv_iconst (v := (0 : Int32)) hx hb d_Md_begin_60 (by decide) ?_
    refine puwM_14 (D := D) (x := (0 : Int32)) hx hb hts iMd hown hK hP hD hS k76 rfl rfl d_Md_begin_61 (fun H locs hP hD hS => ?_)
    refine lv_aload_n hx hb d_Md_begin_64 rfl (lv_at hl 0 rfl) ?_
    refine lv_iconst (v := (0 : Int32)) hx hb d_Md_begin_65 (by decide) ?_
    refine puwM_15 (D := D) (x := (0 : Int32)) hx hb hts iMd hown hK hP hD hS k79 rfl rfl d_Md_begin_66 (fun H locs hP hD hS => ?_)
    refine lv_aload_n hx hb d_Md_begin_69 rfl (lv_at hl 0 rfl) ?_
    refine lv_iconst (v := (0 : Int32)) hx hb d_Md_begin_70 (by decide) ?_
    refine puwM_16 (D := D) (x := (0 : Int32)) hx hb hts iMd hown hK hP hD hS k82 rfl rfl d_Md_begin_71 (fun H locs hP hD hS => ?_)
    refine lv_aload_n hx hb d_Md_begin_74 rfl (lv_at hl 0 rfl) ?_
    refine lv_iconst (v := (0 : Int32)) hx hb d_Md_begin_75 (by decide) ?_
    refine puwM_17 (D := D) (x := (0 : Int32)) hx hb hts iMd hown hK hP hD hS k85 rfl rfl d_Md_begin_76 (fun H locs hP hD hS => ?_)
    exact ret _ _ _ _ _ _ _ h hP hD hS d_Md_begin_79
  have b27 : ∀ (S : SS) (M : MM) (x1 : Int32) (y1 : Int32), f_Md_begin_27 S M x1 y1 = some q → BK p l e rm_Md_begin s m args below meth c Q D vCl (AM b) (wM cA b) 2 27 [(0, .ref (b 0)), (1, .int x1)] [.int y1, .ref (b 0)] S M := by
    intro S M x1 y1 h H locs ls hl hP hD hS
    unfold f_Md_begin_27 at h
    refine puwM_11 (D := D) (x := y1) hx hb hts iMd hown hK hP hD hS k67 rfl rfl d_Md_begin_27 (fun H locs hP hD hS => ?_)
    refine lv_aload_n hx hb d_Md_begin_30 rfl (lv_at hl 0 rfl) ?_
    refine lv_iload_n hx hb d_Md_begin_31 rfl (lv_at hl 1 rfl) ?_
    refine lv_iconst (v := (4 : Int32)) hx hb d_Md_begin_32 (by decide) ?_
    refine lv_ishr hx hb d_Md_begin_33 ?_
    refine lv_bipush (v := (15 : Int32)) hx hb d_Md_begin_34 (by decide) ?_
    refine lv_iand hx hb d_Md_begin_36 ?_
    refine lv_if_ne (tgt := 45) hx hb d_Md_begin_37 (by decide) (fun hc => ?_) (fun hc => ?_)
    · have h := sg_n hc h
      refine lv_iload_n hx hb d_Md_begin_45 rfl (lv_at hl 1 rfl) ?_
      refine lv_iconst (v := (4 : Int32)) hx hb d_Md_begin_46 (by decide) ?_
      refine lv_ishr hx hb d_Md_begin_47 ?_
      refine lv_bipush (v := (15 : Int32)) hx hb d_Md_begin_48 (by decide) ?_
      refine lv_iand hx hb d_Md_begin_50 ?_
      exact b51 _ _ _ _ h _ _ _ (lv_sub hl [0, 1] rfl) hP hD hS
    · have h := sg_p hc h
      refine lv_bipush (v := (16 : Int32)) hx hb d_Md_begin_40 (by decide) ?_
      refine lv_goto (tgt := 51) hx hb d_Md_begin_42 (by decide) ?_
      exact b51 _ _ _ _ h _ _ _ (lv_sub hl [0, 1] rfl) hP hD hS
  intro H locs ls hl hP hD hS
  have hl : lv_has ls 2 [(0, .ref (b 0)), (1, .int x1)] := hl
  have h := h0
  unfold f_Md_begin at h
  refine lv_aload_n hx hb d_Md_begin_0 rfl (lv_at hl 0 rfl) ?_
  refine lv_iconst (v := (1 : Int32)) hx hb d_Md_begin_1 (by decide) ?_
  refine puwM_9 (D := D) (x := (1 : Int32)) hx hb hts iMd hown hK hP hD hS k61 (by decide +kernel) (by decide +kernel) d_Md_begin_2 (fun H locs hP hD hS => ?_)
  refine lv_aload_n hx hb d_Md_begin_5 rfl (lv_at hl 0 rfl) ?_
  refine lv_iconst (v := (1 : Int32)) hx hb d_Md_begin_6 (by decide) ?_
  refine puwM_10 (D := D) (x := (1 : Int32)) hx hb hts iMd hown hK hP hD hS k64 (by decide +kernel) (by decide +kernel) d_Md_begin_7 (fun H locs hP hD hS => ?_)
  refine lv_aload_n hx hb d_Md_begin_10 rfl (lv_at hl 0 rfl) ?_
  refine lv_iload_n hx hb d_Md_begin_11 rfl (lv_at hl 1 rfl) ?_
  refine lv_bipush (v := (7 : Int32)) hx hb d_Md_begin_12 (by decide) ?_
  refine lv_iand hx hb d_Md_begin_14 ?_
  refine lv_if_ne (tgt := 23) hx hb d_Md_begin_15 (by decide) (fun hc => ?_) (fun hc => ?_)
  · have h := sg_n hc h
    refine lv_iload_n hx hb d_Md_begin_23 rfl (lv_at hl 1 rfl) ?_
    refine lv_bipush (v := (7 : Int32)) hx hb d_Md_begin_24 (by decide) ?_
    refine lv_iand hx hb d_Md_begin_26 ?_
    exact b27 _ _ _ _ h _ _ _ (lv_sub hl [0, 1] rfl) hP hD hS
  · have h := sg_p hc h
    refine lv_bipush (v := (8 : Int32)) hx hb d_Md_begin_18 (by decide) ?_
    refine lv_goto (tgt := 27) hx hb d_Md_begin_20 (by decide) ?_
    exact b27 _ _ _ _ h _ _ _ (lv_sub hl [0, 1] rfl) hP hD hS
def f_Md_write_184 (S : SS) (M : MM) (x1 : Int32) (x2 : Int32) : Option RR := some (0, S, M)
def f_Md_write_166 (S : SS) (M : MM) (x1 : Int32) (x2 : Int32) : Option RR := if x1 = (27 : Int32) then f_Md_write_184 (upd S 2 ((S 2) &&& (x2 ^^^ (-1 : Int32)))) M x1 x2 else f_Md_write_184 S M x1 x2
def f_Md_write_155 (S : SS) (M : MM) (x1 : Int32) (x2 : Int32) : Option RR := if x1 = (25 : Int32) then (f_Md_begin S M x2).bind (fun q1 => f_Md_write_166 q1.2.1 q1.2.2 x1 x2) else f_Md_write_166 S M x1 x2
def f_Md_write_146 (S : SS) (M : MM) (x1 : Int32) (x2 : Int32) : Option RR := if x1 = (2 : Int32) then (f_Md_startList S M).bind (fun q2 => f_Md_write_155 q2.2.1 q2.2.2 x1 x2) else f_Md_write_155 S M x1 x2
def f_Md_write_44 (S : SS) (M : MM) (x1 : Int32) (x2 : Int32) : Option RR := if x1 < 0 ∨ 28 ≤ x1.toNatClampNeg then none else f_Md_write_146 S (upM M 1 (upd (M 1) x1.toNatClampNeg (x2 &&& (255 : Int32)))) x1 x2
def f_Md_write_121 (S : SS) (M : MM) (x1 : Int32) (x2 : Int32) : Option RR := if x1 < 0 ∨ 28 ≤ x1.toNatClampNeg then none else f_Md_write_146 S (upM M 1 (upd (M 1) x1.toNatClampNeg x2)) x1 x2
def f_Md_write_131 (S : SS) (M : MM) (x1 : Int32) (x2 : Int32) : Option RR := if x1 = (26 : Int32) then if x1 < 0 ∨ 28 ≤ x1.toNatClampNeg then none else f_Md_write_146 S (upM M 1 (upd (M 1) x1.toNatClampNeg (x2 &&& (3 : Int32)))) x1 x2 else f_Md_write_146 S M x1 x2
def f_Md_write_84 (S : SS) (M : MM) (x1 : Int32) (x2 : Int32) : Option RR := if x1 = (11 : Int32) then if x1 < 0 ∨ 28 ≤ x1.toNatClampNeg then none else f_Md_write_146 S (upM M 1 (upd (M 1) x1.toNatClampNeg (x2 &&& (15 : Int32)))) x1 x2 else if x1 = (10 : Int32) then f_Md_write_121 S M x1 x2 else if x1 < (20 : Int32) then f_Md_write_131 S M x1 x2 else if (24 : Int32) < x1 then f_Md_write_131 S M x1 x2 else f_Md_write_121 S M x1 x2
def f_Md_write_58 (S : SS) (M : MM) (x1 : Int32) (x2 : Int32) : Option RR := if x1 < (6 : Int32) then f_Md_write_84 S M x1 x2 else if (9 : Int32) < x1 then f_Md_write_84 S M x1 x2 else if x1 < 0 ∨ 28 ≤ x1.toNatClampNeg then none else f_Md_write_146 S (upM M 1 (upd (M 1) x1.toNatClampNeg (x2 &&& (4095 : Int32)))) x1 x2
def f_Md_write_32 (S : SS) (M : MM) (x1 : Int32) (x2 : Int32) : Option RR := if x1 < (12 : Int32) then f_Md_write_58 S M x1 x2 else if (19 : Int32) < x1 then f_Md_write_58 S M x1 x2 else f_Md_write_44 S M x1 x2
def f_Md_write (S : SS) (M : MM) (x1 : Int32) (x2 : Int32) : Option RR := if x1 = 0 then f_Md_write_146 S (upM M 1 (upd (M 1) 0 (x2 &&& (15 : Int32)))) x1 x2 else if x1 = (1 : Int32) then f_Md_write_44 S M x1 x2 else if x1 < (3 : Int32) then f_Md_write_32 S M x1 x2 else if x1 ≤ (5 : Int32) then f_Md_write_44 S M x1 x2 else f_Md_write_32 S M x1 x2
set_option maxHeartbeats 4000000 in
set_option maxRecDepth 100000 in
theorem c_Md_write (l : Launch) (D : va_G) (cA : ClassId) (b : Nat → Nat) (S : SS) (M : MM) (x1 : Int32) (x2 : Int32) (q : RR) (h0 : f_Md_write S M x1 x2 = some q) : Cv l y_Md_write w_Md_write rm_Md_write D vCl [(cA, .int)] (AM b) (ZM b) (wM cA b) [.ref (b 0), .int x1, .int x2] S M q := by
  refine Cv.of (cc := prog_9_method_4_code) (maxL := 3) (by decide) rfl (Nat.le_of_ble_eq_true rfl) ?_
  intro p e s m args below meth c Q hx hb hml hown hts hK hZ ret
  have hown : s.vm.findClass R_Md = some m.cls := hown
  have hts : ∀ w ∈ TB, w.before args s = true := fun w h => hts w (List.mem_cons_of_mem _ h)
  have hZK := ZM_k b
  have k13 := hts _ tb_fl_Md_13
  have k44 := hts _ tb_fl_Md_44
  have b184 : ∀ (S : SS) (M : MM) (x1 : Int32) (x2 : Int32), f_Md_write_184 S M x1 x2 = some q → BK p l e rm_Md_write s m args below meth c Q D vCl (AM b) (wM cA b) 3 184 [(0, .ref (b 0)), (1, .int x1), (2, .int x2)] [] S M := by
    intro S M x1 x2 h H locs ls hl hP hD hS
    unfold f_Md_write_184 at h
    exact ret _ _ _ _ _ _ _ h hP hD hS d_Md_write_184
  have b166 : ∀ (S : SS) (M : MM) (x1 : Int32) (x2 : Int32), f_Md_write_166 S M x1 x2 = some q → BK p l e rm_Md_write s m args below meth c Q D vCl (AM b) (wM cA b) 3 166 [(0, .ref (b 0)), (1, .int x1), (2, .int x2)] [] S M := by
    intro S M x1 x2 h H locs ls hl hP hD hS
    unfold f_Md_write_166 at h
    refine lv_iload_n hx hb d_Md_write_166 rfl (lv_at hl 1 rfl) ?_
    refine lv_bipush (v := (27 : Int32)) hx hb d_Md_write_167 (by decide) ?_
    refine lv_icmp_ne (tgt := 184) hx hb d_Md_write_169 (by decide) (fun hc => ?_) (fun hc => ?_)
    · have h := sg_n hc h
      exact b184 _ _ _ _ h _ _ _ (lv_sub hl [0, 1, 2] rfl) hP hD hS
    · have h := sg_p hc h
      refine lv_aload_n hx hb d_Md_write_172 rfl (lv_at hl 0 rfl) ?_
      refine lv_aload_n hx hb d_Md_write_173 rfl (lv_at hl 0 rfl) ?_
      refine va_get (D := D) (ci := 7) (v := .int (S 2)) (C := R_Md) (T := T_Md) (N := 31) hx hb hts iMd hown hK hP 0 (wM_at0 _ _ _ _) rfl 5 (by decide) k44 (fun _ h9 => h9) rfl d_Md_write_174 ?_
      refine lv_iload_n hx hb d_Md_write_177 rfl (lv_at hl 2 rfl) ?_
      refine lv_iconst (v := (-1 : Int32)) hx hb d_Md_write_178 (by decide) ?_
      refine lv_ixor hx hb d_Md_write_179 ?_
      refine lv_iand hx hb d_Md_write_180 ?_
      refine puwM_2 (D := D) (x := (S 2) &&& (x2 ^^^ (-1 : Int32))) hx hb hts iMd hown hK hP hD hS k44 rfl rfl d_Md_write_181 (fun H locs hP hD hS => ?_)
      exact b184 _ _ _ _ h _ _ _ (lv_sub hl [0, 1, 2] rfl) hP hD hS
  have b155 : ∀ (S : SS) (M : MM) (x1 : Int32) (x2 : Int32), f_Md_write_155 S M x1 x2 = some q → BK p l e rm_Md_write s m args below meth c Q D vCl (AM b) (wM cA b) 3 155 [(0, .ref (b 0)), (1, .int x1), (2, .int x2)] [] S M := by
    intro S M x1 x2 h H locs ls hl hP hD hS
    unfold f_Md_write_155 at h
    refine lv_iload_n hx hb d_Md_write_155 rfl (lv_at hl 1 rfl) ?_
    refine lv_bipush (v := (25 : Int32)) hx hb d_Md_write_156 (by decide) ?_
    refine lv_icmp_ne (tgt := 166) hx hb d_Md_write_158 (by decide) (fun hc => ?_) (fun hc => ?_)
    · have h := sg_n hc h
      exact b166 _ _ _ _ h _ _ _ (lv_sub hl [0, 1, 2] rfl) hP hD hS
    · have h := sg_p hc h
      refine lv_aload_n hx hb d_Md_write_161 rfl (lv_at hl 0 rfl) ?_
      refine lv_iload_n hx hb d_Md_write_162 rfl (lv_at hl 2 rfl) ?_
      obtain ⟨⟨r1, S1, M1⟩, hc1, h⟩ := sg_b h
      dsimp only at h
      refine cvv (As := [.int x2]) (rest := []) ⟨hx, hb, hml, hown, hts⟩ (c_Md_begin l D cA b S M x2 _ hc1) ⟨callB_of 1 hts (tb_gi tb_cd_Md_begin) rfl rfl rfl (hts _ tb_in_Md) (hts _ tb_ml_Md_40) yd_Md_begin ⟨Nat.le_of_ble_eq_true rfl, Nat.le_of_ble_eq_true rfl⟩, hts _ tb_im_Md_begin, hts _ tb_se_Md_begin⟩ hZK hK hZ hP hD hS 0 (wM_at0 _ _ _ _) rfl rfl hl.1 rfl (Nat.le_of_ble_eq_true rfl) d_Md_write_163 (fun H locs hP hD hS => ?_)
      exact b166 _ _ _ _ h _ _ _ (lv_sub hl [0, 1, 2] rfl) hP hD hS
  have b146 : ∀ (S : SS) (M : MM) (x1 : Int32) (x2 : Int32), f_Md_write_146 S M x1 x2 = some q → BK p l e rm_Md_write s m args below meth c Q D vCl (AM b) (wM cA b) 3 146 [(0, .ref (b 0)), (1, .int x1), (2, .int x2)] [] S M := by
    intro S M x1 x2 h H locs ls hl hP hD hS
    unfold f_Md_write_146 at h
    refine lv_iload_n hx hb d_Md_write_146 rfl (lv_at hl 1 rfl) ?_
    refine lv_iconst (v := (2 : Int32)) hx hb d_Md_write_147 (by decide) ?_
    refine lv_icmp_ne (tgt := 155) hx hb d_Md_write_148 (by decide) (fun hc => ?_) (fun hc => ?_)
    · have h := sg_n hc h
      exact b155 _ _ _ _ h _ _ _ (lv_sub hl [0, 1, 2] rfl) hP hD hS
    · have h := sg_p hc h
      refine lv_aload_n hx hb d_Md_write_151 rfl (lv_at hl 0 rfl) ?_
      obtain ⟨⟨r2, S2, M2⟩, hc2, h⟩ := sg_b h
      dsimp only at h
      refine cvv (As := []) (rest := []) ⟨hx, hb, hml, hown, hts⟩ (c_Md_startList l D cA b S M _ hc2) ⟨callB_of 0 hts (tb_gi tb_cd_Md_startList) rfl rfl rfl (hts _ tb_in_Md) (hts _ tb_ml_Md_37) yd_Md_startList ⟨Nat.le_of_ble_eq_true rfl, Nat.le_of_ble_eq_true rfl⟩, hts _ tb_im_Md_startList, hts _ tb_se_Md_startList⟩ hZK hK hZ hP hD hS 0 (wM_at0 _ _ _ _) rfl rfl hl.1 rfl (Nat.le_of_ble_eq_true rfl) d_Md_write_152 (fun H locs hP hD hS => ?_)
      exact b155 _ _ _ _ h _ _ _ (lv_sub hl [0, 1, 2] rfl) hP hD hS
  have b44 : ∀ (S : SS) (M : MM) (x1 : Int32) (x2 : Int32), f_Md_write_44 S M x1 x2 = some q → BK p l e rm_Md_write s m args below meth c Q D vCl (AM b) (wM cA b) 3 44 [(0, .ref (b 0)), (1, .int x1), (2, .int x2)] [] S M := by
    intro S M x1 x2 h H locs ls hl hP hD hS
    unfold f_Md_write_44 at h
    refine lv_aload_n hx hb d_Md_write_44 rfl (lv_at hl 0 rfl) ?_
    refine va_get (D := D) (ci := 7) (v := .ref (b 2)) (C := R_Md) (T := T_Md) (N := 31) hx hb hts iMd hown hK hP 0 (wM_at0 _ _ _ _) rfl 1 (by decide) k13 (fun _ h9 => h9) rfl d_Md_write_45 ?_
    refine lv_iload_n hx hb d_Md_write_48 rfl (lv_at hl 1 rfl) ?_
    refine lv_iload_n hx hb d_Md_write_49 rfl (lv_at hl 2 rfl) ?_
    refine lv_sipush (v := (255 : Int32)) hx hb d_Md_write_50 (by decide) ?_
    refine lv_iand hx hb d_Md_write_53 ?_
    obtain ⟨hg3, h⟩ := sg_g h
    refine va_iast (x := x2 &&& (255 : Int32)) hx hb hK hP hD hS 2 0 (wM_at2 _ _ _ _) rfl hg3 d_Md_write_54 (fun H locs hP hD hS => ?_)
    have hP := wM_set2 hP
    have hD := wM_dset2 hD
    refine lv_goto (tgt := 146) hx hb d_Md_write_55 (by decide) ?_
    exact b146 _ _ _ _ h _ _ _ (lv_sub hl [0, 1, 2] rfl) hP hD hS
  have b121 : ∀ (S : SS) (M : MM) (x1 : Int32) (x2 : Int32), f_Md_write_121 S M x1 x2 = some q → BK p l e rm_Md_write s m args below meth c Q D vCl (AM b) (wM cA b) 3 121 [(0, .ref (b 0)), (1, .int x1), (2, .int x2)] [] S M := by
    intro S M x1 x2 h H locs ls hl hP hD hS
    unfold f_Md_write_121 at h
    refine lv_aload_n hx hb d_Md_write_121 rfl (lv_at hl 0 rfl) ?_
    refine va_get (D := D) (ci := 7) (v := .ref (b 2)) (C := R_Md) (T := T_Md) (N := 31) hx hb hts iMd hown hK hP 0 (wM_at0 _ _ _ _) rfl 1 (by decide) k13 (fun _ h9 => h9) rfl d_Md_write_122 ?_
    refine lv_iload_n hx hb d_Md_write_125 rfl (lv_at hl 1 rfl) ?_
    refine lv_iload_n hx hb d_Md_write_126 rfl (lv_at hl 2 rfl) ?_
    obtain ⟨hg4, h⟩ := sg_g h
    refine va_iast (x := x2) hx hb hK hP hD hS 2 0 (wM_at2 _ _ _ _) rfl hg4 d_Md_write_127 (fun H locs hP hD hS => ?_)
    have hP := wM_set2 hP
    have hD := wM_dset2 hD
    refine lv_goto (tgt := 146) hx hb d_Md_write_128 (by decide) ?_
    exact b146 _ _ _ _ h _ _ _ (lv_sub hl [0, 1, 2] rfl) hP hD hS
  have b131 : ∀ (S : SS) (M : MM) (x1 : Int32) (x2 : Int32), f_Md_write_131 S M x1 x2 = some q → BK p l e rm_Md_write s m args below meth c Q D vCl (AM b) (wM cA b) 3 131 [(0, .ref (b 0)), (1, .int x1), (2, .int x2)] [] S M := by
    intro S M x1 x2 h H locs ls hl hP hD hS
    unfold f_Md_write_131 at h
    refine lv_iload_n hx hb d_Md_write_131 rfl (lv_at hl 1 rfl) ?_
    refine lv_bipush (v := (26 : Int32)) hx hb d_Md_write_132 (by decide) ?_
    refine lv_icmp_ne (tgt := 146) hx hb d_Md_write_134 (by decide) (fun hc => ?_) (fun hc => ?_)
    · have h := sg_n hc h
      exact b146 _ _ _ _ h _ _ _ (lv_sub hl [0, 1, 2] rfl) hP hD hS
    · have h := sg_p hc h
      refine lv_aload_n hx hb d_Md_write_137 rfl (lv_at hl 0 rfl) ?_
      refine va_get (D := D) (ci := 7) (v := .ref (b 2)) (C := R_Md) (T := T_Md) (N := 31) hx hb hts iMd hown hK hP 0 (wM_at0 _ _ _ _) rfl 1 (by decide) k13 (fun _ h9 => h9) rfl d_Md_write_138 ?_
      refine lv_iload_n hx hb d_Md_write_141 rfl (lv_at hl 1 rfl) ?_
      refine lv_iload_n hx hb d_Md_write_142 rfl (lv_at hl 2 rfl) ?_
      refine lv_iconst (v := (3 : Int32)) hx hb d_Md_write_143 (by decide) ?_
      refine lv_iand hx hb d_Md_write_144 ?_
      obtain ⟨hg5, h⟩ := sg_g h
      refine va_iast (x := x2 &&& (3 : Int32)) hx hb hK hP hD hS 2 0 (wM_at2 _ _ _ _) rfl hg5 d_Md_write_145 (fun H locs hP hD hS => ?_)
      have hP := wM_set2 hP
      have hD := wM_dset2 hD
      exact b146 _ _ _ _ h _ _ _ (lv_sub hl [0, 1, 2] rfl) hP hD hS
  have b84 : ∀ (S : SS) (M : MM) (x1 : Int32) (x2 : Int32), f_Md_write_84 S M x1 x2 = some q → BK p l e rm_Md_write s m args below meth c Q D vCl (AM b) (wM cA b) 3 84 [(0, .ref (b 0)), (1, .int x1), (2, .int x2)] [] S M := by
    intro S M x1 x2 h H locs ls hl hP hD hS
    unfold f_Md_write_84 at h
    refine lv_iload_n hx hb d_Md_write_84 rfl (lv_at hl 1 rfl) ?_
    refine lv_bipush (v := (11 : Int32)) hx hb d_Md_write_85 (by decide) ?_
    refine lv_icmp_ne (tgt := 103) hx hb d_Md_write_87 (by decide) (fun hc => ?_) (fun hc => ?_)
    · have h := sg_n hc h
      refine lv_iload_n hx hb d_Md_write_103 rfl (lv_at hl 1 rfl) ?_
      refine lv_bipush (v := (10 : Int32)) hx hb d_Md_write_104 (by decide) ?_
      refine lv_icmp_eq (tgt := 121) hx hb d_Md_write_106 (by decide) (fun hc => ?_) (fun hc => ?_)
      · have h := sg_p hc h
        exact b121 _ _ _ _ h _ _ _ (lv_sub hl [0, 1, 2] rfl) hP hD hS
      · have h := sg_n hc h
        refine lv_iload_n hx hb d_Md_write_109 rfl (lv_at hl 1 rfl) ?_
        refine lv_bipush (v := (20 : Int32)) hx hb d_Md_write_110 (by decide) ?_
        refine lv_icmp_lt (tgt := 131) hx hb d_Md_write_112 (by decide) (fun hc => ?_) (fun hc => ?_)
        · have h := sg_p hc h
          exact b131 _ _ _ _ h _ _ _ (lv_sub hl [0, 1, 2] rfl) hP hD hS
        · have h := sg_n hc h
          refine lv_iload_n hx hb d_Md_write_115 rfl (lv_at hl 1 rfl) ?_
          refine lv_bipush (v := (24 : Int32)) hx hb d_Md_write_116 (by decide) ?_
          refine lv_icmp_gt (tgt := 131) hx hb d_Md_write_118 (by decide) (fun hc => ?_) (fun hc => ?_)
          · have h := sg_p hc h
            exact b131 _ _ _ _ h _ _ _ (lv_sub hl [0, 1, 2] rfl) hP hD hS
          · have h := sg_n hc h
            exact b121 _ _ _ _ h _ _ _ (lv_sub hl [0, 1, 2] rfl) hP hD hS
    · have h := sg_p hc h
      refine lv_aload_n hx hb d_Md_write_90 rfl (lv_at hl 0 rfl) ?_
      refine va_get (D := D) (ci := 7) (v := .ref (b 2)) (C := R_Md) (T := T_Md) (N := 31) hx hb hts iMd hown hK hP 0 (wM_at0 _ _ _ _) rfl 1 (by decide) k13 (fun _ h9 => h9) rfl d_Md_write_91 ?_
      refine lv_iload_n hx hb d_Md_write_94 rfl (lv_at hl 1 rfl) ?_
      refine lv_iload_n hx hb d_Md_write_95 rfl (lv_at hl 2 rfl) ?_
      refine lv_bipush (v := (15 : Int32)) hx hb d_Md_write_96 (by decide) ?_
      refine lv_iand hx hb d_Md_write_98 ?_
      obtain ⟨hg6, h⟩ := sg_g h
      refine va_iast (x := x2 &&& (15 : Int32)) hx hb hK hP hD hS 2 0 (wM_at2 _ _ _ _) rfl hg6 d_Md_write_99 (fun H locs hP hD hS => ?_)
      have hP := wM_set2 hP
      have hD := wM_dset2 hD
      refine lv_goto (tgt := 146) hx hb d_Md_write_100 (by decide) ?_
      exact b146 _ _ _ _ h _ _ _ (lv_sub hl [0, 1, 2] rfl) hP hD hS
  have b58 : ∀ (S : SS) (M : MM) (x1 : Int32) (x2 : Int32), f_Md_write_58 S M x1 x2 = some q → BK p l e rm_Md_write s m args below meth c Q D vCl (AM b) (wM cA b) 3 58 [(0, .ref (b 0)), (1, .int x1), (2, .int x2)] [] S M := by
    intro S M x1 x2 h H locs ls hl hP hD hS
    unfold f_Md_write_58 at h
    refine lv_iload_n hx hb d_Md_write_58 rfl (lv_at hl 1 rfl) ?_
    refine lv_bipush (v := (6 : Int32)) hx hb d_Md_write_59 (by decide) ?_
    refine lv_icmp_lt (tgt := 84) hx hb d_Md_write_61 (by decide) (fun hc => ?_) (fun hc => ?_)
    · have h := sg_p hc h
      exact b84 _ _ _ _ h _ _ _ (lv_sub hl [0, 1, 2] rfl) hP hD hS
    · have h := sg_n hc h
      refine lv_iload_n hx hb d_Md_write_64 rfl (lv_at hl 1 rfl) ?_
      refine lv_bipush (v := (9 : Int32)) hx hb d_Md_write_65 (by decide) ?_
      refine lv_icmp_gt (tgt := 84) hx hb d_Md_write_67 (by decide) (fun hc => ?_) (fun hc => ?_)
      · have h := sg_p hc h
        exact b84 _ _ _ _ h _ _ _ (lv_sub hl [0, 1, 2] rfl) hP hD hS
      · have h := sg_n hc h
        refine lv_aload_n hx hb d_Md_write_70 rfl (lv_at hl 0 rfl) ?_
        refine va_get (D := D) (ci := 7) (v := .ref (b 2)) (C := R_Md) (T := T_Md) (N := 31) hx hb hts iMd hown hK hP 0 (wM_at0 _ _ _ _) rfl 1 (by decide) k13 (fun _ h9 => h9) rfl d_Md_write_71 ?_
        refine lv_iload_n hx hb d_Md_write_74 rfl (lv_at hl 1 rfl) ?_
        refine lv_iload_n hx hb d_Md_write_75 rfl (lv_at hl 2 rfl) ?_
        refine lv_sipush (v := (4095 : Int32)) hx hb d_Md_write_76 (by decide) ?_
        refine lv_iand hx hb d_Md_write_79 ?_
        obtain ⟨hg7, h⟩ := sg_g h
        refine va_iast (x := x2 &&& (4095 : Int32)) hx hb hK hP hD hS 2 0 (wM_at2 _ _ _ _) rfl hg7 d_Md_write_80 (fun H locs hP hD hS => ?_)
        have hP := wM_set2 hP
        have hD := wM_dset2 hD
        refine lv_goto (tgt := 146) hx hb d_Md_write_81 (by decide) ?_
        exact b146 _ _ _ _ h _ _ _ (lv_sub hl [0, 1, 2] rfl) hP hD hS
  have b32 : ∀ (S : SS) (M : MM) (x1 : Int32) (x2 : Int32), f_Md_write_32 S M x1 x2 = some q → BK p l e rm_Md_write s m args below meth c Q D vCl (AM b) (wM cA b) 3 32 [(0, .ref (b 0)), (1, .int x1), (2, .int x2)] [] S M := by
    intro S M x1 x2 h H locs ls hl hP hD hS
    unfold f_Md_write_32 at h
    refine lv_iload_n hx hb d_Md_write_32 rfl (lv_at hl 1 rfl) ?_
    refine lv_bipush (v := (12 : Int32)) hx hb d_Md_write_33 (by decide) ?_
    refine lv_icmp_lt (tgt := 58) hx hb d_Md_write_35 (by decide) (fun hc => ?_) (fun hc => ?_)
    · have h := sg_p hc h
      exact b58 _ _ _ _ h _ _ _ (lv_sub hl [0, 1, 2] rfl) hP hD hS
    · have h := sg_n hc h
      refine lv_iload_n hx hb d_Md_write_38 rfl (lv_at hl 1 rfl) ?_
      refine lv_bipush (v := (19 : Int32)) hx hb d_Md_write_39 (by decide) ?_
      refine lv_icmp_gt (tgt := 58) hx hb d_Md_write_41 (by decide) (fun hc => ?_) (fun hc => ?_)
      · have h := sg_p hc h
        exact b58 _ _ _ _ h _ _ _ (lv_sub hl [0, 1, 2] rfl) hP hD hS
      · have h := sg_n hc h
        exact b44 _ _ _ _ h _ _ _ (lv_sub hl [0, 1, 2] rfl) hP hD hS
  intro H locs ls hl hP hD hS
  have hl : lv_has ls 3 [(0, .ref (b 0)), (1, .int x1), (2, .int x2)] := hl
  have h := h0
  unfold f_Md_write at h
  refine lv_iload_n hx hb d_Md_write_0 rfl (lv_at hl 1 rfl) ?_
  refine lv_if_ne (tgt := 17) hx hb d_Md_write_1 (by decide) (fun hc => ?_) (fun hc => ?_)
  · have h := sg_n hc h
    refine lv_iload_n hx hb d_Md_write_17 rfl (lv_at hl 1 rfl) ?_
    refine lv_iconst (v := (1 : Int32)) hx hb d_Md_write_18 (by decide) ?_
    refine lv_icmp_eq (tgt := 44) hx hb d_Md_write_19 (by decide) (fun hc => ?_) (fun hc => ?_)
    · have h := sg_p hc h
      exact b44 _ _ _ _ h _ _ _ (lv_sub hl [0, 1, 2] rfl) hP hD hS
    · have h := sg_n hc h
      refine lv_iload_n hx hb d_Md_write_22 rfl (lv_at hl 1 rfl) ?_
      refine lv_iconst (v := (3 : Int32)) hx hb d_Md_write_23 (by decide) ?_
      refine lv_icmp_lt (tgt := 32) hx hb d_Md_write_24 (by decide) (fun hc => ?_) (fun hc => ?_)
      · have h := sg_p hc h
        exact b32 _ _ _ _ h _ _ _ (lv_sub hl [0, 1, 2] rfl) hP hD hS
      · have h := sg_n hc h
        refine lv_iload_n hx hb d_Md_write_27 rfl (lv_at hl 1 rfl) ?_
        refine lv_iconst (v := (5 : Int32)) hx hb d_Md_write_28 (by decide) ?_
        refine lv_icmp_le (tgt := 44) hx hb d_Md_write_29 (by decide) (fun hc => ?_) (fun hc => ?_)
        · have h := sg_p hc h
          exact b44 _ _ _ _ h _ _ _ (lv_sub hl [0, 1, 2] rfl) hP hD hS
        · have h := sg_n hc h
          exact b32 _ _ _ _ h _ _ _ (lv_sub hl [0, 1, 2] rfl) hP hD hS
  · have h := sg_p hc h
    refine lv_aload_n hx hb d_Md_write_4 rfl (lv_at hl 0 rfl) ?_
    refine va_get (D := D) (ci := 7) (v := .ref (b 2)) (C := R_Md) (T := T_Md) (N := 31) hx hb hts iMd hown hK hP 0 (wM_at0 _ _ _ _) rfl 1 (by decide) k13 (fun _ h9 => h9) rfl d_Md_write_5 ?_
    refine lv_iconst (v := (0 : Int32)) hx hb d_Md_write_8 (by decide) ?_
    refine lv_iload_n hx hb d_Md_write_9 rfl (lv_at hl 2 rfl) ?_
    refine lv_bipush (v := (15 : Int32)) hx hb d_Md_write_10 (by decide) ?_
    refine lv_iand hx hb d_Md_write_12 ?_
    refine iastK (x := x2 &&& (15 : Int32)) hx hb hK hP hD hS 2 0 (wM_at2 _ _ _ _) rfl 0 (by decide) (by unfold vp_in; decide) d_Md_write_13 (fun H locs hP hD hS => ?_)
    have hP := wM_set2 hP
    have hD := wM_dset2 hD
    refine lv_goto (tgt := 146) hx hb d_Md_write_14 (by decide) ?_
    exact b146 _ _ _ _ h _ _ _ (lv_sub hl [0, 1, 2] rfl) hP hD hS
def f_Md_planeAt_19 (S : SS) (M : MM) (x1 : Int32) (x2 : Int32) : Option RR := some ((-1 : Int32), S, M)
def f_Md_planeAt_54 (S : SS) (M : MM) (x1 : Int32) (x2 : Int32) (y0 : Int32) : Option RR := some (y0, S, M)
def f_Md_planeAt_33 (S : SS) (M : MM) (x1 : Int32) (x2 : Int32) : Option RR := f_Md_planeAt_54 S M x1 x2 (1 : Int32)
def f_Md_planeAt_49 (S : SS) (M : MM) (x1 : Int32) (x2 : Int32) : Option RR := f_Md_planeAt_54 S M x1 x2 (0 : Int32)
def f_Md_planeAt (S : SS) (M : MM) (x1 : Int32) (x2 : Int32) : Option RR := (f_Md_control S M (0 : Int32)).bind (fun q1 => if q1.1 = 0 then f_Md_planeAt_19 q1.2.1 q1.2.2 x1 x2 else if x1 < (4 : Int32) then f_Md_planeAt_19 q1.2.1 q1.2.2 x1 x2 else if x1 ≤ (15 : Int32) then if x2 = (11 : Int32) then f_Md_planeAt_33 q1.2.1 q1.2.2 x1 x2 else if x2 = (19 : Int32) then f_Md_planeAt_33 q1.2.1 q1.2.2 x1 x2 else if x2 = (15 : Int32) then f_Md_planeAt_49 q1.2.1 q1.2.2 x1 x2 else if x2 = (23 : Int32) then f_Md_planeAt_49 q1.2.1 q1.2.2 x1 x2 else f_Md_planeAt_54 q1.2.1 q1.2.2 x1 x2 (-1 : Int32) else f_Md_planeAt_19 q1.2.1 q1.2.2 x1 x2)
set_option maxHeartbeats 4000000 in
set_option maxRecDepth 100000 in
theorem c_Md_planeAt (l : Launch) (D : va_G) (cA : ClassId) (b : Nat → Nat) (S : SS) (M : MM) (x1 : Int32) (x2 : Int32) (q : RR) (h0 : f_Md_planeAt S M x1 x2 = some q) : Ci l y_Md_planeAt w_Md_planeAt rm_Md_planeAt D vCl [(cA, .int)] (AM b) (ZM b) (wM cA b) [.ref (b 0), .int x1, .int x2] S M q := by
  refine Ci.of (cc := prog_9_method_8_code) (maxL := 3) (ty := .int) (by decide) rfl (Nat.le_of_ble_eq_true rfl) ?_
  intro p e s m args below meth c Q hx hb hml hown hts hK hZ ret
  have hown : s.vm.findClass R_Md = some m.cls := hown
  have hts : ∀ w ∈ TB, w.before args s = true := fun w h => hts w (List.mem_cons_of_mem _ h)
  have hZK := ZM_k b
  have b19 : ∀ (S : SS) (M : MM) (x1 : Int32) (x2 : Int32), f_Md_planeAt_19 S M x1 x2 = some q → BK p l e rm_Md_planeAt s m args below meth c Q D vCl (AM b) (wM cA b) 3 19 [(0, .ref (b 0)), (1, .int x1), (2, .int x2)] [] S M := by
    intro S M x1 x2 h H locs ls hl hP hD hS
    unfold f_Md_planeAt_19 at h
    refine lv_iconst (v := (-1 : Int32)) hx hb d_Md_planeAt_19 (by decide) ?_
    exact ret _ _ _ _ _ _ _ h rfl hP hD hS d_Md_planeAt_20
  have b54 : ∀ (S : SS) (M : MM) (x1 : Int32) (x2 : Int32) (y0 : Int32), f_Md_planeAt_54 S M x1 x2 y0 = some q → BK p l e rm_Md_planeAt s m args below meth c Q D vCl (AM b) (wM cA b) 3 54 [(0, .ref (b 0)), (1, .int x1), (2, .int x2)] [.int y0] S M := by
    intro S M x1 x2 y0 h H locs ls hl hP hD hS
    unfold f_Md_planeAt_54 at h
    exact ret _ _ _ _ _ _ _ h rfl hP hD hS d_Md_planeAt_54
  have b33 : ∀ (S : SS) (M : MM) (x1 : Int32) (x2 : Int32), f_Md_planeAt_33 S M x1 x2 = some q → BK p l e rm_Md_planeAt s m args below meth c Q D vCl (AM b) (wM cA b) 3 33 [(0, .ref (b 0)), (1, .int x1), (2, .int x2)] [] S M := by
    intro S M x1 x2 h H locs ls hl hP hD hS
    unfold f_Md_planeAt_33 at h
    refine lv_iconst (v := (1 : Int32)) hx hb d_Md_planeAt_33 (by decide) ?_
    refine lv_goto (tgt := 54) hx hb d_Md_planeAt_34 (by decide) ?_
    exact b54 _ _ _ _ _ h _ _ _ (lv_sub hl [0, 1, 2] rfl) hP hD hS
  have b49 : ∀ (S : SS) (M : MM) (x1 : Int32) (x2 : Int32), f_Md_planeAt_49 S M x1 x2 = some q → BK p l e rm_Md_planeAt s m args below meth c Q D vCl (AM b) (wM cA b) 3 49 [(0, .ref (b 0)), (1, .int x1), (2, .int x2)] [] S M := by
    intro S M x1 x2 h H locs ls hl hP hD hS
    unfold f_Md_planeAt_49 at h
    refine lv_iconst (v := (0 : Int32)) hx hb d_Md_planeAt_49 (by decide) ?_
    refine lv_goto (tgt := 54) hx hb d_Md_planeAt_50 (by decide) ?_
    exact b54 _ _ _ _ _ h _ _ _ (lv_sub hl [0, 1, 2] rfl) hP hD hS
  intro H locs ls hl hP hD hS
  have hl : lv_has ls 3 [(0, .ref (b 0)), (1, .int x1), (2, .int x2)] := hl
  have h := h0
  unfold f_Md_planeAt at h
  refine lv_aload_n hx hb d_Md_planeAt_0 rfl (lv_at hl 0 rfl) ?_
  refine lv_iconst (v := (0 : Int32)) hx hb d_Md_planeAt_1 (by decide) ?_
  obtain ⟨⟨r1, S1, M1⟩, hc1, h⟩ := sg_b h
  dsimp only at h
  refine cvi (As := [.int (0 : Int32)]) (rest := []) ⟨hx, hb, hml, hown, hts⟩ (c_Md_control l D cA b S M (0 : Int32) _ hc1) ⟨callB_of 1 hts (tb_gi tb_cd_Md_control) rfl rfl rfl (hts _ tb_in_Md) (hts _ tb_ml_Md_89) yd_Md_control ⟨Nat.le_of_ble_eq_true rfl, Nat.le_of_ble_eq_true rfl⟩, hts _ tb_im_Md_control, hts _ tb_se_Md_control⟩ hZK hK hZ hP hD hS 0 (wM_at0 _ _ _ _) rfl rfl hl.1 rfl (Nat.le_of_ble_eq_true rfl) d_Md_planeAt_2 (fun H locs hP hD hS => ?_)
  refine lv_if_eq (tgt := 19) hx hb d_Md_planeAt_5 (by decide) (fun hc => ?_) (fun hc => ?_)
  · have h := sg_p hc h
    exact b19 _ _ _ _ h _ _ _ (lv_sub hl [0, 1, 2] rfl) hP hD hS
  · have h := sg_n hc h
    refine lv_iload_n hx hb d_Md_planeAt_8 rfl (lv_at hl 1 rfl) ?_
    refine lv_iconst (v := (4 : Int32)) hx hb d_Md_planeAt_9 (by decide) ?_
    refine lv_icmp_lt (tgt := 19) hx hb d_Md_planeAt_10 (by decide) (fun hc => ?_) (fun hc => ?_)
    · have h := sg_p hc h
      exact b19 _ _ _ _ h _ _ _ (lv_sub hl [0, 1, 2] rfl) hP hD hS
    · have h := sg_n hc h
      refine lv_iload_n hx hb d_Md_planeAt_13 rfl (lv_at hl 1 rfl) ?_
      refine lv_bipush (v := (15 : Int32)) hx hb d_Md_planeAt_14 (by decide) ?_
      refine lv_icmp_le (tgt := 21) hx hb d_Md_planeAt_16 (by decide) (fun hc => ?_) (fun hc => ?_)
      · have h := sg_p hc h
        refine lv_iload_n hx hb d_Md_planeAt_21 rfl (lv_at hl 2 rfl) ?_
        refine lv_bipush (v := (11 : Int32)) hx hb d_Md_planeAt_22 (by decide) ?_
        refine lv_icmp_eq (tgt := 33) hx hb d_Md_planeAt_24 (by decide) (fun hc => ?_) (fun hc => ?_)
        · have h := sg_p hc h
          exact b33 _ _ _ _ h _ _ _ (lv_sub hl [0, 1, 2] rfl) hP hD hS
        · have h := sg_n hc h
          refine lv_iload_n hx hb d_Md_planeAt_27 rfl (lv_at hl 2 rfl) ?_
          refine lv_bipush (v := (19 : Int32)) hx hb d_Md_planeAt_28 (by decide) ?_
          refine lv_icmp_ne (tgt := 37) hx hb d_Md_planeAt_30 (by decide) (fun hc => ?_) (fun hc => ?_)
          · have h := sg_n hc h
            refine lv_iload_n hx hb d_Md_planeAt_37 rfl (lv_at hl 2 rfl) ?_
            refine lv_bipush (v := (15 : Int32)) hx hb d_Md_planeAt_38 (by decide) ?_
            refine lv_icmp_eq (tgt := 49) hx hb d_Md_planeAt_40 (by decide) (fun hc => ?_) (fun hc => ?_)
            · have h := sg_p hc h
              exact b49 _ _ _ _ h _ _ _ (lv_sub hl [0, 1, 2] rfl) hP hD hS
            · have h := sg_n hc h
              refine lv_iload_n hx hb d_Md_planeAt_43 rfl (lv_at hl 2 rfl) ?_
              refine lv_bipush (v := (23 : Int32)) hx hb d_Md_planeAt_44 (by decide) ?_
              refine lv_icmp_ne (tgt := 53) hx hb d_Md_planeAt_46 (by decide) (fun hc => ?_) (fun hc => ?_)
              · have h := sg_n hc h
                refine lv_iconst (v := (-1 : Int32)) hx hb d_Md_planeAt_53 (by decide) ?_
                exact b54 _ _ _ _ _ h _ _ _ (lv_sub hl [0, 1, 2] rfl) hP hD hS
              · have h := sg_p hc h
                exact b49 _ _ _ _ h _ _ _ (lv_sub hl [0, 1, 2] rfl) hP hD hS
          · have h := sg_p hc h
            exact b33 _ _ _ _ h _ _ _ (lv_sub hl [0, 1, 2] rfl) hP hD hS
      · have h := sg_n hc h
        exact b19 _ _ _ _ h _ _ _ (lv_sub hl [0, 1, 2] rfl) hP hD hS
def f_Md_fetchPlane_44_3_2 (S : SS) (M : MM) (x1 : Int32) (x2 : Int32) : Option RR := some (0, S, M)
def f_Md_fetchPlane_44_3_1 (S : SS) (M : MM) (x1 : Int32) (x2 : Int32) : Option RR := f_Md_fetchPlane_44_3_2 S (upM M 4 (upd (M 4) 1 (((M 4 1) + (M 1 5)) &&& (255 : Int32)))) x1 x2
def f_Md_fetchPlane_44_3_0 (S : SS) (M : MM) (x1 : Int32) (x2 : Int32) : Option RR := f_Md_fetchPlane_44_3_1 S (upM M 4 (upd (M 4) 0 (((M 4 0) + (M 1 5)) &&& (255 : Int32)))) x1 x2
def f_Md_fetchPlane (S : SS) (M : MM) (x1 : Int32) (x2 : Int32) : Option RR := if x1 < 0 ∨ 2 ≤ x1.toNatClampNeg then none else if M 4 x1.toNatClampNeg < 0 ∨ 256 ≤ (M 4 x1.toNatClampNeg).toNatClampNeg then none else if x1 < 0 ∨ 2 ≤ x1.toNatClampNeg then none else if x1 < 0 ∨ 2 ≤ x1.toNatClampNeg then none else if x1 < 0 ∨ 2 ≤ x1.toNatClampNeg then none else if x2 = (23 : Int32) then f_Md_fetchPlane_44_3_0 S (upM (upM M 5 (upd (M 5) x1.toNatClampNeg (M 0 (M 4 x1.toNatClampNeg).toNatClampNeg))) 4 (upd ((upM M 5 (upd (M 5) x1.toNatClampNeg (M 0 (M 4 x1.toNatClampNeg).toNatClampNeg))) 4) x1.toNatClampNeg ((((upM M 5 (upd (M 5) x1.toNatClampNeg (M 0 (M 4 x1.toNatClampNeg).toNatClampNeg))) 4 x1.toNatClampNeg) + (1 : Int32)) &&& (255 : Int32)))) x1 x2 else some (0, S, (upM (upM M 5 (upd (M 5) x1.toNatClampNeg (M 0 (M 4 x1.toNatClampNeg).toNatClampNeg))) 4 (upd ((upM M 5 (upd (M 5) x1.toNatClampNeg (M 0 (M 4 x1.toNatClampNeg).toNatClampNeg))) 4) x1.toNatClampNeg ((((upM M 5 (upd (M 5) x1.toNatClampNeg (M 0 (M 4 x1.toNatClampNeg).toNatClampNeg))) 4 x1.toNatClampNeg) + (1 : Int32)) &&& (255 : Int32)))))
set_option maxHeartbeats 4000000 in
set_option maxRecDepth 100000 in
theorem c_Md_fetchPlane (l : Launch) (D : va_G) (cA : ClassId) (b : Nat → Nat) (S : SS) (M : MM) (x1 : Int32) (x2 : Int32) (q : RR) (h0 : f_Md_fetchPlane S M x1 x2 = some q) : Cv l y_Md_fetchPlane w_Md_fetchPlane rm_Md_fetchPlane D vCl [(cA, .int)] (AM b) (ZM b) (wM cA b) [.ref (b 0), .int x1, .int x2] S M q := by
  refine Cv.of (cc := prog_9_method_9_code) (maxL := 4) (by decide) rfl (Nat.le_of_ble_eq_true rfl) ?_
  intro p e s m args below meth c Q hx hb hml hown hts hK hZ ret
  have hown : s.vm.findClass R_Md = some m.cls := hown
  have hts : ∀ w ∈ TB, w.before args s = true := fun w h => hts w (List.mem_cons_of_mem _ h)
  have hZK := ZM_k b
  have k25 := hts _ tb_fl_Md_25
  have k7 := hts _ tb_fl_Md_7
  have k22 := hts _ tb_fl_Md_22
  have k13 := hts _ tb_fl_Md_13
  have b44_3_2 : ∀ (S : SS) (M : MM) (x1 : Int32) (x2 : Int32), f_Md_fetchPlane_44_3_2 S M x1 x2 = some q → BK p l e rm_Md_fetchPlane s m args below meth c Q D vCl (AM b) (wM cA b) 4 44 [(0, .ref (b 0)), (1, .int x1), (2, .int x2), (3, .int (2 : Int32))] [] S M := by
    intro S M x1 x2 h H locs ls hl hP hD hS
    unfold f_Md_fetchPlane_44_3_2 at h
    refine lv_iload_n hx hb d_Md_fetchPlane_44 rfl (lv_at hl 3 rfl) ?_
    refine lv_iconst (v := (2 : Int32)) hx hb d_Md_fetchPlane_45 (by decide) ?_
    refine lv_icmp_ge (tgt := 78) hx hb d_Md_fetchPlane_46 (by decide) (fun _ => ?_) (fun h9 => absurd h9 (by decide))
    exact ret _ _ _ _ _ _ _ h hP hD hS d_Md_fetchPlane_78
  have b44_3_1 : ∀ (S : SS) (M : MM) (x1 : Int32) (x2 : Int32), f_Md_fetchPlane_44_3_1 S M x1 x2 = some q → BK p l e rm_Md_fetchPlane s m args below meth c Q D vCl (AM b) (wM cA b) 4 44 [(0, .ref (b 0)), (1, .int x1), (2, .int x2), (3, .int (1 : Int32))] [] S M := by
    intro S M x1 x2 h H locs ls hl hP hD hS
    unfold f_Md_fetchPlane_44_3_1 at h
    refine lv_iload_n hx hb d_Md_fetchPlane_44 rfl (lv_at hl 3 rfl) ?_
    refine lv_iconst (v := (2 : Int32)) hx hb d_Md_fetchPlane_45 (by decide) ?_
    refine lv_icmp_ge (tgt := 78) hx hb d_Md_fetchPlane_46 (by decide) (fun h9 => absurd h9 (by decide)) (fun _ => ?_)
    refine lv_aload_n hx hb d_Md_fetchPlane_49 rfl (lv_at hl 0 rfl) ?_
    refine va_get (D := D) (ci := 7) (v := .ref (b 5)) (C := R_Md) (T := T_Md) (N := 31) hx hb hts iMd hown hK hP 0 (wM_at0 _ _ _ _) rfl 7 (by decide) k22 (fun _ h9 => h9) rfl d_Md_fetchPlane_50 ?_
    refine lv_iload_n hx hb d_Md_fetchPlane_53 rfl (lv_at hl 3 rfl) ?_
    refine lv_aload_n hx hb d_Md_fetchPlane_54 rfl (lv_at hl 0 rfl) ?_
    refine va_get (D := D) (ci := 7) (v := .ref (b 5)) (C := R_Md) (T := T_Md) (N := 31) hx hb hts iMd hown hK hP 0 (wM_at0 _ _ _ _) rfl 7 (by decide) k22 (fun _ h9 => h9) rfl d_Md_fetchPlane_55 ?_
    refine lv_iload_n hx hb d_Md_fetchPlane_58 rfl (lv_at hl 3 rfl) ?_
    refine ialdK hx hb hK hP 5 0 (wM_at5 _ _ _ _) rfl 1 (by decide) (by unfold vp_in; decide) d_Md_fetchPlane_59 ?_
    refine lv_aload_n hx hb d_Md_fetchPlane_60 rfl (lv_at hl 0 rfl) ?_
    refine va_get (D := D) (ci := 7) (v := .ref (b 2)) (C := R_Md) (T := T_Md) (N := 31) hx hb hts iMd hown hK hP 0 (wM_at0 _ _ _ _) rfl 1 (by decide) k13 (fun _ h9 => h9) rfl d_Md_fetchPlane_61 ?_
    refine lv_iconst (v := (5 : Int32)) hx hb d_Md_fetchPlane_64 (by decide) ?_
    refine ialdK hx hb hK hP 2 0 (wM_at2 _ _ _ _) rfl 5 (by decide) (by unfold vp_in; decide) d_Md_fetchPlane_65 ?_
    refine lv_iadd hx hb d_Md_fetchPlane_66 ?_
    refine lv_sipush (v := (255 : Int32)) hx hb d_Md_fetchPlane_67 (by decide) ?_
    refine lv_iand hx hb d_Md_fetchPlane_70 ?_
    refine iastK (x := ((M 4 1) + (M 1 5)) &&& (255 : Int32)) hx hb hK hP hD hS 5 0 (wM_at5 _ _ _ _) rfl 1 (by decide) (by unfold vp_in; decide) d_Md_fetchPlane_71 (fun H locs hP hD hS => ?_)
    have hP := wM_set5 hP
    have hD := wM_dset5 hD
    refine lv_iinc (k := 3) (v := (2 : Int32)) (lv' := [(3, .int (2 : Int32)), (0, .ref (b 0)), (1, .int x1), (2, .int x2)]) hx hb d_Md_fetchPlane_72 hl rfl (by decide) (by decide) rfl (fun ls hl => ?_)
    refine lv_goto (tgt := 44) hx hb d_Md_fetchPlane_75 (by decide) ?_
    exact b44_3_2 _ _ _ _ h _ _ _ (lv_sub hl [1, 2, 3, 0] rfl) hP hD hS
  have b44_3_0 : ∀ (S : SS) (M : MM) (x1 : Int32) (x2 : Int32), f_Md_fetchPlane_44_3_0 S M x1 x2 = some q → BK p l e rm_Md_fetchPlane s m args below meth c Q D vCl (AM b) (wM cA b) 4 44 [(0, .ref (b 0)), (1, .int x1), (2, .int x2), (3, .int (0 : Int32))] [] S M := by
    intro S M x1 x2 h H locs ls hl hP hD hS
    unfold f_Md_fetchPlane_44_3_0 at h
    refine lv_iload_n hx hb d_Md_fetchPlane_44 rfl (lv_at hl 3 rfl) ?_
    refine lv_iconst (v := (2 : Int32)) hx hb d_Md_fetchPlane_45 (by decide) ?_
    refine lv_icmp_ge (tgt := 78) hx hb d_Md_fetchPlane_46 (by decide) (fun h9 => absurd h9 (by decide)) (fun _ => ?_)
    refine lv_aload_n hx hb d_Md_fetchPlane_49 rfl (lv_at hl 0 rfl) ?_
    refine va_get (D := D) (ci := 7) (v := .ref (b 5)) (C := R_Md) (T := T_Md) (N := 31) hx hb hts iMd hown hK hP 0 (wM_at0 _ _ _ _) rfl 7 (by decide) k22 (fun _ h9 => h9) rfl d_Md_fetchPlane_50 ?_
    refine lv_iload_n hx hb d_Md_fetchPlane_53 rfl (lv_at hl 3 rfl) ?_
    refine lv_aload_n hx hb d_Md_fetchPlane_54 rfl (lv_at hl 0 rfl) ?_
    refine va_get (D := D) (ci := 7) (v := .ref (b 5)) (C := R_Md) (T := T_Md) (N := 31) hx hb hts iMd hown hK hP 0 (wM_at0 _ _ _ _) rfl 7 (by decide) k22 (fun _ h9 => h9) rfl d_Md_fetchPlane_55 ?_
    refine lv_iload_n hx hb d_Md_fetchPlane_58 rfl (lv_at hl 3 rfl) ?_
    refine ialdK hx hb hK hP 5 0 (wM_at5 _ _ _ _) rfl 0 (by decide) (by unfold vp_in; decide) d_Md_fetchPlane_59 ?_
    refine lv_aload_n hx hb d_Md_fetchPlane_60 rfl (lv_at hl 0 rfl) ?_
    refine va_get (D := D) (ci := 7) (v := .ref (b 2)) (C := R_Md) (T := T_Md) (N := 31) hx hb hts iMd hown hK hP 0 (wM_at0 _ _ _ _) rfl 1 (by decide) k13 (fun _ h9 => h9) rfl d_Md_fetchPlane_61 ?_
    refine lv_iconst (v := (5 : Int32)) hx hb d_Md_fetchPlane_64 (by decide) ?_
    refine ialdK hx hb hK hP 2 0 (wM_at2 _ _ _ _) rfl 5 (by decide) (by unfold vp_in; decide) d_Md_fetchPlane_65 ?_
    refine lv_iadd hx hb d_Md_fetchPlane_66 ?_
    refine lv_sipush (v := (255 : Int32)) hx hb d_Md_fetchPlane_67 (by decide) ?_
    refine lv_iand hx hb d_Md_fetchPlane_70 ?_
    refine iastK (x := ((M 4 0) + (M 1 5)) &&& (255 : Int32)) hx hb hK hP hD hS 5 0 (wM_at5 _ _ _ _) rfl 0 (by decide) (by unfold vp_in; decide) d_Md_fetchPlane_71 (fun H locs hP hD hS => ?_)
    have hP := wM_set5 hP
    have hD := wM_dset5 hD
    refine lv_iinc (k := 3) (v := (1 : Int32)) (lv' := [(3, .int (1 : Int32)), (0, .ref (b 0)), (1, .int x1), (2, .int x2)]) hx hb d_Md_fetchPlane_72 hl rfl (by decide) (by decide) rfl (fun ls hl => ?_)
    refine lv_goto (tgt := 44) hx hb d_Md_fetchPlane_75 (by decide) ?_
    exact b44_3_1 _ _ _ _ h _ _ _ (lv_sub hl [1, 2, 3, 0] rfl) hP hD hS
  intro H locs ls hl hP hD hS
  have hl : lv_has ls 4 [(0, .ref (b 0)), (1, .int x1), (2, .int x2)] := hl
  have h := h0
  unfold f_Md_fetchPlane at h
  refine lv_aload_n hx hb d_Md_fetchPlane_0 rfl (lv_at hl 0 rfl) ?_
  refine va_get (D := D) (ci := 7) (v := .ref (b 6)) (C := R_Md) (T := T_Md) (N := 31) hx hb hts iMd hown hK hP 0 (wM_at0 _ _ _ _) rfl 8 (by decide) k25 (fun _ h9 => h9) rfl d_Md_fetchPlane_1 ?_
  refine lv_iload_n hx hb d_Md_fetchPlane_4 rfl (lv_at hl 1 rfl) ?_
  refine lv_aload_n hx hb d_Md_fetchPlane_5 rfl (lv_at hl 0 rfl) ?_
  refine va_get (D := D) (ci := 7) (v := .ref (b 1)) (C := R_Md) (T := T_Md) (N := 31) hx hb hts iMd hown hK hP 0 (wM_at0 _ _ _ _) rfl 0 (by decide) k7 (fun _ h9 => h9) rfl d_Md_fetchPlane_6 ?_
  refine lv_aload_n hx hb d_Md_fetchPlane_9 rfl (lv_at hl 0 rfl) ?_
  refine va_get (D := D) (ci := 7) (v := .ref (b 5)) (C := R_Md) (T := T_Md) (N := 31) hx hb hts iMd hown hK hP 0 (wM_at0 _ _ _ _) rfl 7 (by decide) k22 (fun _ h9 => h9) rfl d_Md_fetchPlane_10 ?_
  refine lv_iload_n hx hb d_Md_fetchPlane_13 rfl (lv_at hl 1 rfl) ?_
  obtain ⟨hg1, h⟩ := sg_g h
  refine va_iald hx hb hK hP 5 0 (wM_at5 _ _ _ _) rfl hg1 d_Md_fetchPlane_14 ?_
  obtain ⟨hg2, h⟩ := sg_g h
  refine va_iald hx hb hK hP 1 0 (wM_at1 _ _ _ _) rfl hg2 d_Md_fetchPlane_15 ?_
  obtain ⟨hg3, h⟩ := sg_g h
  refine va_iast (x := M 0 (M 4 x1.toNatClampNeg).toNatClampNeg) hx hb hK hP hD hS 6 0 (wM_at6 _ _ _ _) rfl hg3 d_Md_fetchPlane_16 (fun H locs hP hD hS => ?_)
  have hP := wM_set6 hP
  have hD := wM_dset6 hD
  refine lv_aload_n hx hb d_Md_fetchPlane_17 rfl (lv_at hl 0 rfl) ?_
  refine va_get (D := D) (ci := 7) (v := .ref (b 5)) (C := R_Md) (T := T_Md) (N := 31) hx hb hts iMd hown hK hP 0 (wM_at0 _ _ _ _) rfl 7 (by decide) k22 (fun _ h9 => h9) rfl d_Md_fetchPlane_18 ?_
  refine lv_iload_n hx hb d_Md_fetchPlane_21 rfl (lv_at hl 1 rfl) ?_
  refine lv_aload_n hx hb d_Md_fetchPlane_22 rfl (lv_at hl 0 rfl) ?_
  refine va_get (D := D) (ci := 7) (v := .ref (b 5)) (C := R_Md) (T := T_Md) (N := 31) hx hb hts iMd hown hK hP 0 (wM_at0 _ _ _ _) rfl 7 (by decide) k22 (fun _ h9 => h9) rfl d_Md_fetchPlane_23 ?_
  refine lv_iload_n hx hb d_Md_fetchPlane_26 rfl (lv_at hl 1 rfl) ?_
  obtain ⟨hg4, h⟩ := sg_g h
  refine va_iald hx hb hK hP 5 0 (wM_at5 _ _ _ _) rfl hg4 d_Md_fetchPlane_27 ?_
  refine lv_iconst (v := (1 : Int32)) hx hb d_Md_fetchPlane_28 (by decide) ?_
  refine lv_iadd hx hb d_Md_fetchPlane_29 ?_
  refine lv_sipush (v := (255 : Int32)) hx hb d_Md_fetchPlane_30 (by decide) ?_
  refine lv_iand hx hb d_Md_fetchPlane_33 ?_
  obtain ⟨hg5, h⟩ := sg_g h
  refine va_iast (x := (((upM M 5 (upd (M 5) x1.toNatClampNeg (M 0 (M 4 x1.toNatClampNeg).toNatClampNeg))) 4 x1.toNatClampNeg) + (1 : Int32)) &&& (255 : Int32)) hx hb hK hP hD hS 5 0 (wM_at5 _ _ _ _) rfl hg5 d_Md_fetchPlane_34 (fun H locs hP hD hS => ?_)
  have hP := wM_set5 hP
  have hD := wM_dset5 hD
  refine lv_iload_n hx hb d_Md_fetchPlane_35 rfl (lv_at hl 2 rfl) ?_
  refine lv_bipush (v := (23 : Int32)) hx hb d_Md_fetchPlane_36 (by decide) ?_
  refine lv_icmp_eq (tgt := 42) hx hb d_Md_fetchPlane_38 (by decide) (fun hc => ?_) (fun hc => ?_)
  · have h := sg_p hc h
    refine lv_iconst (v := (0 : Int32)) hx hb d_Md_fetchPlane_42 (by decide) ?_
    refine lv_istore_n (lv' := [(3, .int (0 : Int32)), (0, .ref (b 0)), (1, .int x1), (2, .int x2)]) hx hb d_Md_fetchPlane_43 rfl hl (by decide) rfl (fun ls hl => ?_)
    exact b44_3_0 _ _ _ _ h _ _ _ (lv_sub hl [1, 2, 3, 0] rfl) hP hD hS
  · have h := sg_n hc h
    exact ret _ _ _ _ _ _ _ h hP hD hS d_Md_fetchPlane_41
def f_Md_used_23 (S : SS) (M : MM) (x1 : Int32) (y0 : Int32) : Option RR := if ¬ (y0 = 0 ∨ y0 = 1) then none else some (y0, S, M)
def f_Md_used (S : SS) (M : MM) (x1 : Int32) : Option RR := if ((M 1 10) >>> (((8 : Int32) + x1) &&& 31)) &&& (1 : Int32) = (1 : Int32) then f_Md_used_23 S M x1 (1 : Int32) else f_Md_used_23 S M x1 (0 : Int32)
set_option maxHeartbeats 4000000 in
set_option maxRecDepth 100000 in
theorem c_Md_used (l : Launch) (D : va_G) (cA : ClassId) (b : Nat → Nat) (S : SS) (M : MM) (x1 : Int32) (q : RR) (h0 : f_Md_used S M x1 = some q) : Ci l y_Md_used w_Md_used rm_Md_used D vCl [(cA, .int)] (AM b) (ZM b) (wM cA b) [.ref (b 0), .int x1] S M q := by
  refine Ci.of (cc := prog_9_method_11_code) (maxL := 2) (ty := .boolean) (by decide) rfl (Nat.le_of_ble_eq_true rfl) ?_
  intro p e s m args below meth c Q hx hb hml hown hts hK hZ ret
  have hown : s.vm.findClass R_Md = some m.cls := hown
  have hts : ∀ w ∈ TB, w.before args s = true := fun w h => hts w (List.mem_cons_of_mem _ h)
  have hZK := ZM_k b
  have k13 := hts _ tb_fl_Md_13
  have b23 : ∀ (S : SS) (M : MM) (x1 : Int32) (y0 : Int32), f_Md_used_23 S M x1 y0 = some q → BK p l e rm_Md_used s m args below meth c Q D vCl (AM b) (wM cA b) 2 23 [(0, .ref (b 0)), (1, .int x1)] [.int y0] S M := by
    intro S M x1 y0 h H locs ls hl hP hD hS
    unfold f_Md_used_23 at h
    obtain ⟨hg1, h⟩ := sg_g h
    exact ret _ _ _ _ _ _ _ h (sg_nb hg1).1 hP hD hS d_Md_used_23
  intro H locs ls hl hP hD hS
  have hl : lv_has ls 2 [(0, .ref (b 0)), (1, .int x1)] := hl
  have h := h0
  unfold f_Md_used at h
  refine lv_aload_n hx hb d_Md_used_0 rfl (lv_at hl 0 rfl) ?_
  refine va_get (D := D) (ci := 7) (v := .ref (b 2)) (C := R_Md) (T := T_Md) (N := 31) hx hb hts iMd hown hK hP 0 (wM_at0 _ _ _ _) rfl 1 (by decide) k13 (fun _ h9 => h9) rfl d_Md_used_1 ?_
  refine lv_bipush (v := (10 : Int32)) hx hb d_Md_used_4 (by decide) ?_
  refine ialdK hx hb hK hP 2 0 (wM_at2 _ _ _ _) rfl 10 (by decide) (by unfold vp_in; decide) d_Md_used_6 ?_
  refine lv_bipush (v := (8 : Int32)) hx hb d_Md_used_7 (by decide) ?_
  refine lv_iload_n hx hb d_Md_used_9 rfl (lv_at hl 1 rfl) ?_
  refine lv_iadd hx hb d_Md_used_10 ?_
  refine lv_ishr hx hb d_Md_used_11 ?_
  refine lv_iconst (v := (1 : Int32)) hx hb d_Md_used_12 (by decide) ?_
  refine lv_iand hx hb d_Md_used_13 ?_
  refine lv_iconst (v := (1 : Int32)) hx hb d_Md_used_14 (by decide) ?_
  refine lv_icmp_ne (tgt := 22) hx hb d_Md_used_15 (by decide) (fun hc => ?_) (fun hc => ?_)
  · have h := sg_n hc h
    refine lv_iconst (v := (0 : Int32)) hx hb d_Md_used_22 (by decide) ?_
    exact b23 _ _ _ _ h _ _ _ (lv_sub hl [0, 1] rfl) hP hD hS
  · have h := sg_p hc h
    refine lv_iconst (v := (1 : Int32)) hx hb d_Md_used_18 (by decide) ?_
    refine lv_goto (tgt := 23) hx hb d_Md_used_19 (by decide) ?_
    exact b23 _ _ _ _ h _ _ _ (lv_sub hl [0, 1] rfl) hP hD hS
def f_Md_nextUsed_21 (S : SS) (M : MM) (x1 : Int32) (x2 : Int32) : Option RR := some (x2, S, M)
def f_Md_nextUsed_2_b (rec : SS → MM → Int32 → Int32 → Option RR) (S : SS) (M : MM) (x1 : Int32) (x2 : Int32) : Option RR := if (4 : Int32) ≤ x2 then f_Md_nextUsed_21 S M x1 x2 else (f_Md_used S M x2).bind (fun q1 => if q1.1 = 0 then rec q1.2.1 q1.2.2 x1 (x2 + (1 : Int32)) else f_Md_nextUsed_21 q1.2.1 q1.2.2 x1 x2)
def f_Md_nextUsed_2 : Nat → SS → MM → Int32 → Int32 → Option RR
  | 0 => fun _ _ _ _ => none
  | n + 1 => f_Md_nextUsed_2_b (f_Md_nextUsed_2 n)
def f_Md_nextUsed (S : SS) (M : MM) (x1 : Int32) : Option RR := f_Md_nextUsed_2 6 S M x1 x1
set_option maxHeartbeats 4000000 in
set_option maxRecDepth 100000 in
theorem c_Md_nextUsed (l : Launch) (D : va_G) (cA : ClassId) (b : Nat → Nat) (S : SS) (M : MM) (x1 : Int32) (q : RR) (h0 : f_Md_nextUsed S M x1 = some q) : Ci l y_Md_nextUsed w_Md_nextUsed rm_Md_nextUsed D vCl [(cA, .int)] (AM b) (ZM b) (wM cA b) [.ref (b 0), .int x1] S M q := by
  refine Ci.of (cc := prog_9_method_12_code) (maxL := 3) (ty := .int) (by decide) rfl (Nat.le_of_ble_eq_true rfl) ?_
  intro p e s m args below meth c Q hx hb hml hown hts hK hZ ret
  have hown : s.vm.findClass R_Md = some m.cls := hown
  have hts : ∀ w ∈ TB, w.before args s = true := fun w h => hts w (List.mem_cons_of_mem _ h)
  have hZK := ZM_k b
  have b21 : ∀ (S : SS) (M : MM) (x1 : Int32) (x2 : Int32), f_Md_nextUsed_21 S M x1 x2 = some q → BK p l e rm_Md_nextUsed s m args below meth c Q D vCl (AM b) (wM cA b) 3 21 [(0, .ref (b 0)), (1, .int x1), (2, .int x2)] [] S M := by
    intro S M x1 x2 h H locs ls hl hP hD hS
    unfold f_Md_nextUsed_21 at h
    refine lv_iload_n hx hb d_Md_nextUsed_21 rfl (lv_at hl 2 rfl) ?_
    exact ret _ _ _ _ _ _ _ h rfl hP hD hS d_Md_nextUsed_22
  have b2 : ∀ (n : Nat) (S : SS) (M : MM) (x1 : Int32) (x2 : Int32), f_Md_nextUsed_2 n S M x1 x2 = some q → BK p l e rm_Md_nextUsed s m args below meth c Q D vCl (AM b) (wM cA b) 3 2 [(0, .ref (b 0)), (1, .int x1), (2, .int x2)] [] S M := by
   intro n
   induction n with
   | zero => intro S M x1 x2 h; cases h
   | succ n hrec =>
    intro S M x1 x2 h H locs ls hl hP hD hS
    have h : f_Md_nextUsed_2_b (f_Md_nextUsed_2 n) S M x1 x2 = some q := h
    unfold f_Md_nextUsed_2_b at h
    refine lv_iload_n hx hb d_Md_nextUsed_2 rfl (lv_at hl 2 rfl) ?_
    refine lv_iconst (v := (4 : Int32)) hx hb d_Md_nextUsed_3 (by decide) ?_
    refine lv_icmp_ge (tgt := 21) hx hb d_Md_nextUsed_4 (by decide) (fun hc => ?_) (fun hc => ?_)
    · have h := sg_p hc h
      exact b21 _ _ _ _ h _ _ _ (lv_sub hl [0, 1, 2] rfl) hP hD hS
    · have h := sg_n hc h
      refine lv_aload_n hx hb d_Md_nextUsed_7 rfl (lv_at hl 0 rfl) ?_
      refine lv_iload_n hx hb d_Md_nextUsed_8 rfl (lv_at hl 2 rfl) ?_
      obtain ⟨⟨r1, S1, M1⟩, hc1, h⟩ := sg_b h
      dsimp only at h
      refine cvi (As := [.int x2]) (rest := []) ⟨hx, hb, hml, hown, hts⟩ (c_Md_used l D cA b S M x2 _ hc1) ⟨callB_of 1 hts (tb_gi tb_cd_Md_used) rfl rfl rfl (hts _ tb_in_Md) (hts _ tb_ml_Md_106) yd_Md_used ⟨Nat.le_of_ble_eq_true rfl, Nat.le_of_ble_eq_true rfl⟩, hts _ tb_im_Md_used, hts _ tb_se_Md_used⟩ hZK hK hZ hP hD hS 0 (wM_at0 _ _ _ _) rfl rfl hl.1 rfl (Nat.le_of_ble_eq_true rfl) d_Md_nextUsed_9 (fun H locs hP hD hS => ?_)
      refine lv_if_ne (tgt := 21) hx hb d_Md_nextUsed_12 (by decide) (fun hc => ?_) (fun hc => ?_)
      · have h := sg_n hc h
        exact b21 _ _ _ _ h _ _ _ (lv_sub hl [0, 1, 2] rfl) hP hD hS
      · have h := sg_p hc h
        refine lv_iinc (k := 2) (v := x2 + (1 : Int32)) (lv' := [(2, .int (x2 + (1 : Int32))), (0, .ref (b 0)), (1, .int x1)]) hx hb d_Md_nextUsed_15 hl rfl rfl (by decide) rfl (fun ls hl => ?_)
        refine lv_goto (tgt := 2) hx hb d_Md_nextUsed_18 (by decide) ?_
        exact hrec _ _ _ _ h _ _ _ (lv_sub hl [1, 2, 0] rfl) hP hD hS
  intro H locs ls hl hP hD hS
  have hl : lv_has ls 3 [(0, .ref (b 0)), (1, .int x1)] := hl
  have h := h0
  unfold f_Md_nextUsed at h
  refine lv_iload_n hx hb d_Md_nextUsed_0 rfl (lv_at hl 1 rfl) ?_
  refine lv_istore_n (lv' := [(2, .int x1), (0, .ref (b 0)), (1, .int x1)]) hx hb d_Md_nextUsed_1 rfl hl (by decide) rfl (fun ls hl => ?_)
  exact b2 6 _ _ _ _ h _ _ _ (lv_sub hl [1, 2, 0] rfl) hP hD hS
def f_Md_wordOf_26 (S : SS) (M : MM) (x1 : Int32) (y0 : Int32) : Option RR := some (y0, S, M)
def f_Md_wordOf (S : SS) (M : MM) (x1 : Int32) : Option RR := (f_Md_used S M x1).bind (fun q1 => if q1.1 = 0 then if (22 : Int32) + x1 < 0 ∨ 28 ≤ ((22 : Int32) + x1).toNatClampNeg then none else f_Md_wordOf_26 q1.2.1 q1.2.2 x1 (q1.2.2 1 ((22 : Int32) + x1).toNatClampNeg) else if x1 < 0 ∨ 4 ≤ x1.toNatClampNeg then none else f_Md_wordOf_26 q1.2.1 q1.2.2 x1 (q1.2.2 7 x1.toNatClampNeg))
set_option maxHeartbeats 4000000 in
set_option maxRecDepth 100000 in
theorem c_Md_wordOf (l : Launch) (D : va_G) (cA : ClassId) (b : Nat → Nat) (S : SS) (M : MM) (x1 : Int32) (q : RR) (h0 : f_Md_wordOf S M x1 = some q) : Ci l y_Md_wordOf w_Md_wordOf rm_Md_wordOf D vCl [(cA, .int)] (AM b) (ZM b) (wM cA b) [.ref (b 0), .int x1] S M q := by
  refine Ci.of (cc := prog_9_method_13_code) (maxL := 2) (ty := .int) (by decide) rfl (Nat.le_of_ble_eq_true rfl) ?_
  intro p e s m args below meth c Q hx hb hml hown hts hK hZ ret
  have hown : s.vm.findClass R_Md = some m.cls := hown
  have hts : ∀ w ∈ TB, w.before args s = true := fun w h => hts w (List.mem_cons_of_mem _ h)
  have hZK := ZM_k b
  have k13 := hts _ tb_fl_Md_13
  have k31 := hts _ tb_fl_Md_31
  have b26 : ∀ (S : SS) (M : MM) (x1 : Int32) (y0 : Int32), f_Md_wordOf_26 S M x1 y0 = some q → BK p l e rm_Md_wordOf s m args below meth c Q D vCl (AM b) (wM cA b) 2 26 [(0, .ref (b 0)), (1, .int x1)] [.int y0] S M := by
    intro S M x1 y0 h H locs ls hl hP hD hS
    unfold f_Md_wordOf_26 at h
    exact ret _ _ _ _ _ _ _ h rfl hP hD hS d_Md_wordOf_26
  intro H locs ls hl hP hD hS
  have hl : lv_has ls 2 [(0, .ref (b 0)), (1, .int x1)] := hl
  have h := h0
  unfold f_Md_wordOf at h
  refine lv_aload_n hx hb d_Md_wordOf_0 rfl (lv_at hl 0 rfl) ?_
  refine lv_iload_n hx hb d_Md_wordOf_1 rfl (lv_at hl 1 rfl) ?_
  obtain ⟨⟨r1, S1, M1⟩, hc1, h⟩ := sg_b h
  dsimp only at h
  refine cvi (As := [.int x1]) (rest := []) ⟨hx, hb, hml, hown, hts⟩ (c_Md_used l D cA b S M x1 _ hc1) ⟨callB_of 1 hts (tb_gi tb_cd_Md_used) rfl rfl rfl (hts _ tb_in_Md) (hts _ tb_ml_Md_106) yd_Md_used ⟨Nat.le_of_ble_eq_true rfl, Nat.le_of_ble_eq_true rfl⟩, hts _ tb_im_Md_used, hts _ tb_se_Md_used⟩ hZK hK hZ hP hD hS 0 (wM_at0 _ _ _ _) rfl rfl hl.1 rfl (Nat.le_of_ble_eq_true rfl) d_Md_wordOf_2 (fun H locs hP hD hS => ?_)
  refine lv_if_eq (tgt := 17) hx hb d_Md_wordOf_5 (by decide) (fun hc => ?_) (fun hc => ?_)
  · have h := sg_p hc h
    refine lv_aload_n hx hb d_Md_wordOf_17 rfl (lv_at hl 0 rfl) ?_
    refine va_get (D := D) (ci := 7) (v := .ref (b 2)) (C := R_Md) (T := T_Md) (N := 31) hx hb hts iMd hown hK hP 0 (wM_at0 _ _ _ _) rfl 1 (by decide) k13 (fun _ h9 => h9) rfl d_Md_wordOf_18 ?_
    refine lv_bipush (v := (22 : Int32)) hx hb d_Md_wordOf_21 (by decide) ?_
    refine lv_iload_n hx hb d_Md_wordOf_23 rfl (lv_at hl 1 rfl) ?_
    refine lv_iadd hx hb d_Md_wordOf_24 ?_
    obtain ⟨hg2, h⟩ := sg_g h
    refine va_iald hx hb hK hP 2 0 (wM_at2 _ _ _ _) rfl hg2 d_Md_wordOf_25 ?_
    exact b26 _ _ _ _ h _ _ _ (lv_sub hl [0, 1] rfl) hP hD hS
  · have h := sg_n hc h
    refine lv_aload_n hx hb d_Md_wordOf_8 rfl (lv_at hl 0 rfl) ?_
    refine va_get (D := D) (ci := 7) (v := .ref (b 8)) (C := R_Md) (T := T_Md) (N := 31) hx hb hts iMd hown hK hP 0 (wM_at0 _ _ _ _) rfl 25 (by decide) k31 (fun _ h9 => h9) rfl d_Md_wordOf_9 ?_
    refine lv_iload_n hx hb d_Md_wordOf_12 rfl (lv_at hl 1 rfl) ?_
    obtain ⟨hg3, h⟩ := sg_g h
    refine va_iald hx hb hK hP 8 0 (wM_at8 _ _ _ _) rfl hg3 d_Md_wordOf_13 ?_
    refine lv_goto (tgt := 26) hx hb d_Md_wordOf_14 (by decide) ?_
    exact b26 _ _ _ _ h _ _ _ (lv_sub hl [0, 1] rfl) hP hD hS
def f_Md_nextWord_44_1_4 (S : SS) (M : MM) : Option RR := if S 12 ≤ S 14 then some (0, (upd (upd S 9 (0 : Int32)) 2 (((upd S 9 (0 : Int32)) 2) ||| (1 : Int32))), M) else some (0, S, M)
def f_Md_nextWord_89_1_3 (S : SS) (M : MM) : Option RR := f_Md_nextWord_44_1_4 S M
def f_Md_nextWord_44_1_3 (S : SS) (M : MM) : Option RR := (f_Md_used S M (3 : Int32)).bind (fun q1 => if q1.1 = 0 then f_Md_nextWord_89_1_3 q1.2.1 q1.2.2 else f_Md_nextWord_89_1_3 q1.2.1 (upM q1.2.2 1 (upd (q1.2.2 1) 15 (((q1.2.2 1 15) + (q1.2.2 1 19)) &&& (255 : Int32)))))
def f_Md_nextWord_89_1_2 (S : SS) (M : MM) : Option RR := f_Md_nextWord_44_1_3 S M
def f_Md_nextWord_44_1_2 (S : SS) (M : MM) : Option RR := (f_Md_used S M (2 : Int32)).bind (fun q2 => if q2.1 = 0 then f_Md_nextWord_89_1_2 q2.2.1 q2.2.2 else f_Md_nextWord_89_1_2 q2.2.1 (upM q2.2.2 1 (upd (q2.2.2 1) 14 (((q2.2.2 1 14) + (q2.2.2 1 18)) &&& (255 : Int32)))))
def f_Md_nextWord_89_1_1 (S : SS) (M : MM) : Option RR := f_Md_nextWord_44_1_2 S M
def f_Md_nextWord_44_1_1 (S : SS) (M : MM) : Option RR := (f_Md_used S M (1 : Int32)).bind (fun q3 => if q3.1 = 0 then f_Md_nextWord_89_1_1 q3.2.1 q3.2.2 else f_Md_nextWord_89_1_1 q3.2.1 (upM q3.2.2 1 (upd (q3.2.2 1) 13 (((q3.2.2 1 13) + (q3.2.2 1 17)) &&& (255 : Int32)))))
def f_Md_nextWord_89_1_0 (S : SS) (M : MM) : Option RR := f_Md_nextWord_44_1_1 S M
def f_Md_nextWord_44_1_0 (S : SS) (M : MM) : Option RR := (f_Md_used S M (0 : Int32)).bind (fun q4 => if q4.1 = 0 then f_Md_nextWord_89_1_0 q4.2.1 q4.2.2 else f_Md_nextWord_89_1_0 q4.2.1 (upM q4.2.2 1 (upd (q4.2.2 1) 12 (((q4.2.2 1 12) + (q4.2.2 1 16)) &&& (255 : Int32)))))
def f_Md_nextWord (S : SS) (M : MM) : Option RR := if (upd (upd S 15 (0 : Int32)) 13 (((upd S 15 (0 : Int32)) 13) + (1 : Int32))) 11 ≤ (upd (upd S 15 (0 : Int32)) 13 (((upd S 15 (0 : Int32)) 13) + (1 : Int32))) 13 then f_Md_nextWord_44_1_0 (upd (upd (upd (upd S 15 (0 : Int32)) 13 (((upd S 15 (0 : Int32)) 13) + (1 : Int32))) 13 (0 : Int32)) 14 (((upd (upd (upd S 15 (0 : Int32)) 13 (((upd S 15 (0 : Int32)) 13) + (1 : Int32))) 13 (0 : Int32)) 14) + (1 : Int32))) M else some (0, (upd (upd S 15 (0 : Int32)) 13 (((upd S 15 (0 : Int32)) 13) + (1 : Int32))), M)
set_option maxHeartbeats 4000000 in
set_option maxRecDepth 100000 in
theorem c_Md_nextWord (l : Launch) (D : va_G) (cA : ClassId) (b : Nat → Nat) (S : SS) (M : MM) (q : RR) (h0 : f_Md_nextWord S M = some q) : Cv l y_Md_nextWord w_Md_nextWord rm_Md_nextWord D vCl [(cA, .int)] (AM b) (ZM b) (wM cA b) [.ref (b 0)] S M q := by
  refine Cv.of (cc := prog_9_method_15_code) (maxL := 2) (by decide) rfl (Nat.le_of_ble_eq_true rfl) ?_
  intro p e s m args below meth c Q hx hb hml hown hts hK hZ ret
  have hown : s.vm.findClass R_Md = some m.cls := hown
  have hts : ∀ w ∈ TB, w.before args s = true := fun w h => hts w (List.mem_cons_of_mem _ h)
  have hZK := ZM_k b
  have k79 := hts _ tb_fl_Md_79
  have k73 := hts _ tb_fl_Md_73
  have k67 := hts _ tb_fl_Md_67
  have k76 := hts _ tb_fl_Md_76
  have k13 := hts _ tb_fl_Md_13
  have k70 := hts _ tb_fl_Md_70
  have k61 := hts _ tb_fl_Md_61
  have k44 := hts _ tb_fl_Md_44
  have b44_1_4 : ∀ (S : SS) (M : MM), f_Md_nextWord_44_1_4 S M = some q → BK p l e rm_Md_nextWord s m args below meth c Q D vCl (AM b) (wM cA b) 2 44 [(0, .ref (b 0)), (1, .int (4 : Int32))] [] S M := by
    intro S M h H locs ls hl hP hD hS
    unfold f_Md_nextWord_44_1_4 at h
    refine lv_iload_n hx hb d_Md_nextWord_44 rfl (lv_at hl 1 rfl) ?_
    refine lv_iconst (v := (4 : Int32)) hx hb d_Md_nextWord_45 (by decide) ?_
    refine lv_icmp_ge (tgt := 95) hx hb d_Md_nextWord_46 (by decide) (fun _ => ?_) (fun h9 => absurd h9 (by decide))
    refine lv_aload_n hx hb d_Md_nextWord_95 rfl (lv_at hl 0 rfl) ?_
    refine va_get (D := D) (ci := 7) (v := .int (S 14)) (C := R_Md) (T := T_Md) (N := 31) hx hb hts iMd hown hK hP 0 (wM_at0 _ _ _ _) rfl 21 (by decide) k76 (fun _ h9 => h9) rfl d_Md_nextWord_96 ?_
    refine lv_aload_n hx hb d_Md_nextWord_99 rfl (lv_at hl 0 rfl) ?_
    refine va_get (D := D) (ci := 7) (v := .int (S 12)) (C := R_Md) (T := T_Md) (N := 31) hx hb hts iMd hown hK hP 0 (wM_at0 _ _ _ _) rfl 19 (by decide) k70 (fun _ h9 => h9) rfl d_Md_nextWord_100 ?_
    refine lv_icmp_ge (tgt := 107) hx hb d_Md_nextWord_103 (by decide) (fun hc => ?_) (fun hc => ?_)
    · have h := sg_p hc h
      refine lv_aload_n hx hb d_Md_nextWord_107 rfl (lv_at hl 0 rfl) ?_
      refine lv_iconst (v := (0 : Int32)) hx hb d_Md_nextWord_108 (by decide) ?_
      refine puwM_9 (D := D) (x := (0 : Int32)) hx hb hts iMd hown hK hP hD hS k61 (by decide +kernel) (by decide +kernel) d_Md_nextWord_109 (fun H locs hP hD hS => ?_)
      refine lv_aload_n hx hb d_Md_nextWord_112 rfl (lv_at hl 0 rfl) ?_
      refine lv_dup hx hb d_Md_nextWord_113 rfl ?_
      refine va_get (D := D) (ci := 7) (v := .int ((upd S 9 (0 : Int32)) 2)) (C := R_Md) (T := T_Md) (N := 31) hx hb hts iMd hown hK hP 0 (wM_at0 _ _ _ _) rfl 5 (by decide) k44 (fun _ h9 => h9) rfl d_Md_nextWord_114 ?_
      refine lv_iconst (v := (1 : Int32)) hx hb d_Md_nextWord_117 (by decide) ?_
      refine lv_ior hx hb d_Md_nextWord_118 ?_
      refine puwM_2 (D := D) (x := ((upd S 9 (0 : Int32)) 2) ||| (1 : Int32)) hx hb hts iMd hown hK hP hD hS k44 rfl rfl d_Md_nextWord_119 (fun H locs hP hD hS => ?_)
      exact ret _ _ _ _ _ _ _ h hP hD hS d_Md_nextWord_122
    · have h := sg_n hc h
      exact ret _ _ _ _ _ _ _ h hP hD hS d_Md_nextWord_106
  have b89_1_3 : ∀ (S : SS) (M : MM), f_Md_nextWord_89_1_3 S M = some q → BK p l e rm_Md_nextWord s m args below meth c Q D vCl (AM b) (wM cA b) 2 89 [(0, .ref (b 0)), (1, .int (3 : Int32))] [] S M := by
    intro S M h H locs ls hl hP hD hS
    unfold f_Md_nextWord_89_1_3 at h
    refine lv_iinc (k := 1) (v := (4 : Int32)) (lv' := [(1, .int (4 : Int32)), (0, .ref (b 0))]) hx hb d_Md_nextWord_89 hl rfl (by decide) (by decide) rfl (fun ls hl => ?_)
    refine lv_goto (tgt := 44) hx hb d_Md_nextWord_92 (by decide) ?_
    exact b44_1_4 _ _ h _ _ _ (lv_sub hl [1, 0] rfl) hP hD hS
  have b44_1_3 : ∀ (S : SS) (M : MM), f_Md_nextWord_44_1_3 S M = some q → BK p l e rm_Md_nextWord s m args below meth c Q D vCl (AM b) (wM cA b) 2 44 [(0, .ref (b 0)), (1, .int (3 : Int32))] [] S M := by
    intro S M h H locs ls hl hP hD hS
    unfold f_Md_nextWord_44_1_3 at h
    refine lv_iload_n hx hb d_Md_nextWord_44 rfl (lv_at hl 1 rfl) ?_
    refine lv_iconst (v := (4 : Int32)) hx hb d_Md_nextWord_45 (by decide) ?_
    refine lv_icmp_ge (tgt := 95) hx hb d_Md_nextWord_46 (by decide) (fun h9 => absurd h9 (by decide)) (fun _ => ?_)
    refine lv_aload_n hx hb d_Md_nextWord_49 rfl (lv_at hl 0 rfl) ?_
    refine lv_iload_n hx hb d_Md_nextWord_50 rfl (lv_at hl 1 rfl) ?_
    obtain ⟨⟨r1, S1, M1⟩, hc1, h⟩ := sg_b h
    dsimp only at h
    refine cvi (As := [.int (3 : Int32)]) (rest := []) ⟨hx, hb, hml, hown, hts⟩ (c_Md_used l D cA b S M (3 : Int32) _ hc1) ⟨callB_of 1 hts (tb_gi tb_cd_Md_used) rfl rfl rfl (hts _ tb_in_Md) (hts _ tb_ml_Md_106) yd_Md_used ⟨Nat.le_of_ble_eq_true rfl, Nat.le_of_ble_eq_true rfl⟩, hts _ tb_im_Md_used, hts _ tb_se_Md_used⟩ hZK hK hZ hP hD hS 0 (wM_at0 _ _ _ _) rfl rfl hl.1 rfl (Nat.le_of_ble_eq_true rfl) d_Md_nextWord_51 (fun H locs hP hD hS => ?_)
    refine lv_if_eq (tgt := 89) hx hb d_Md_nextWord_54 (by decide) (fun hc => ?_) (fun hc => ?_)
    · have h := sg_p hc h
      exact b89_1_3 _ _ h _ _ _ (lv_sub hl [0, 1] rfl) hP hD hS
    · have h := sg_n hc h
      refine lv_aload_n hx hb d_Md_nextWord_57 rfl (lv_at hl 0 rfl) ?_
      refine va_get (D := D) (ci := 7) (v := .ref (b 2)) (C := R_Md) (T := T_Md) (N := 31) hx hb hts iMd hown hK hP 0 (wM_at0 _ _ _ _) rfl 1 (by decide) k13 (fun _ h9 => h9) rfl d_Md_nextWord_58 ?_
      refine lv_bipush (v := (12 : Int32)) hx hb d_Md_nextWord_61 (by decide) ?_
      refine lv_iload_n hx hb d_Md_nextWord_63 rfl (lv_at hl 1 rfl) ?_
      refine lv_iadd hx hb d_Md_nextWord_64 ?_
      refine cst_i (y := (15 : Int32)) (by decide) ?_
      refine lv_aload_n hx hb d_Md_nextWord_65 rfl (lv_at hl 0 rfl) ?_
      refine va_get (D := D) (ci := 7) (v := .ref (b 2)) (C := R_Md) (T := T_Md) (N := 31) hx hb hts iMd hown hK hP 0 (wM_at0 _ _ _ _) rfl 1 (by decide) k13 (fun _ h9 => h9) rfl d_Md_nextWord_66 ?_
      refine lv_bipush (v := (12 : Int32)) hx hb d_Md_nextWord_69 (by decide) ?_
      refine lv_iload_n hx hb d_Md_nextWord_71 rfl (lv_at hl 1 rfl) ?_
      refine lv_iadd hx hb d_Md_nextWord_72 ?_
      refine cst_i (y := (15 : Int32)) (by decide) ?_
      refine ialdK hx hb hK hP 2 0 (wM_at2 _ _ _ _) rfl 15 (by decide) (by unfold vp_in; decide) d_Md_nextWord_73 ?_
      refine lv_aload_n hx hb d_Md_nextWord_74 rfl (lv_at hl 0 rfl) ?_
      refine va_get (D := D) (ci := 7) (v := .ref (b 2)) (C := R_Md) (T := T_Md) (N := 31) hx hb hts iMd hown hK hP 0 (wM_at0 _ _ _ _) rfl 1 (by decide) k13 (fun _ h9 => h9) rfl d_Md_nextWord_75 ?_
      refine lv_bipush (v := (16 : Int32)) hx hb d_Md_nextWord_78 (by decide) ?_
      refine lv_iload_n hx hb d_Md_nextWord_80 rfl (lv_at hl 1 rfl) ?_
      refine lv_iadd hx hb d_Md_nextWord_81 ?_
      refine cst_i (y := (19 : Int32)) (by decide) ?_
      refine ialdK hx hb hK hP 2 0 (wM_at2 _ _ _ _) rfl 19 (by decide) (by unfold vp_in; decide) d_Md_nextWord_82 ?_
      refine lv_iadd hx hb d_Md_nextWord_83 ?_
      refine lv_sipush (v := (255 : Int32)) hx hb d_Md_nextWord_84 (by decide) ?_
      refine lv_iand hx hb d_Md_nextWord_87 ?_
      refine iastK (x := ((M1 1 15) + (M1 1 19)) &&& (255 : Int32)) hx hb hK hP hD hS 2 0 (wM_at2 _ _ _ _) rfl 15 (by decide) (by unfold vp_in; decide) d_Md_nextWord_88 (fun H locs hP hD hS => ?_)
      have hP := wM_set2 hP
      have hD := wM_dset2 hD
      exact b89_1_3 _ _ h _ _ _ (lv_sub hl [0, 1] rfl) hP hD hS
  have b89_1_2 : ∀ (S : SS) (M : MM), f_Md_nextWord_89_1_2 S M = some q → BK p l e rm_Md_nextWord s m args below meth c Q D vCl (AM b) (wM cA b) 2 89 [(0, .ref (b 0)), (1, .int (2 : Int32))] [] S M := by
    intro S M h H locs ls hl hP hD hS
    unfold f_Md_nextWord_89_1_2 at h
    refine lv_iinc (k := 1) (v := (3 : Int32)) (lv' := [(1, .int (3 : Int32)), (0, .ref (b 0))]) hx hb d_Md_nextWord_89 hl rfl (by decide) (by decide) rfl (fun ls hl => ?_)
    refine lv_goto (tgt := 44) hx hb d_Md_nextWord_92 (by decide) ?_
    exact b44_1_3 _ _ h _ _ _ (lv_sub hl [1, 0] rfl) hP hD hS
  have b44_1_2 : ∀ (S : SS) (M : MM), f_Md_nextWord_44_1_2 S M = some q → BK p l e rm_Md_nextWord s m args below meth c Q D vCl (AM b) (wM cA b) 2 44 [(0, .ref (b 0)), (1, .int (2 : Int32))] [] S M := by
    intro S M h H locs ls hl hP hD hS
    unfold f_Md_nextWord_44_1_2 at h
    refine lv_iload_n hx hb d_Md_nextWord_44 rfl (lv_at hl 1 rfl) ?_
    refine lv_iconst (v := (4 : Int32)) hx hb d_Md_nextWord_45 (by decide) ?_
    refine lv_icmp_ge (tgt := 95) hx hb d_Md_nextWord_46 (by decide) (fun h9 => absurd h9 (by decide)) (fun _ => ?_)
    refine lv_aload_n hx hb d_Md_nextWord_49 rfl (lv_at hl 0 rfl) ?_
    refine lv_iload_n hx hb d_Md_nextWord_50 rfl (lv_at hl 1 rfl) ?_
    obtain ⟨⟨r2, S2, M2⟩, hc2, h⟩ := sg_b h
    dsimp only at h
    refine cvi (As := [.int (2 : Int32)]) (rest := []) ⟨hx, hb, hml, hown, hts⟩ (c_Md_used l D cA b S M (2 : Int32) _ hc2) ⟨callB_of 1 hts (tb_gi tb_cd_Md_used) rfl rfl rfl (hts _ tb_in_Md) (hts _ tb_ml_Md_106) yd_Md_used ⟨Nat.le_of_ble_eq_true rfl, Nat.le_of_ble_eq_true rfl⟩, hts _ tb_im_Md_used, hts _ tb_se_Md_used⟩ hZK hK hZ hP hD hS 0 (wM_at0 _ _ _ _) rfl rfl hl.1 rfl (Nat.le_of_ble_eq_true rfl) d_Md_nextWord_51 (fun H locs hP hD hS => ?_)
    refine lv_if_eq (tgt := 89) hx hb d_Md_nextWord_54 (by decide) (fun hc => ?_) (fun hc => ?_)
    · have h := sg_p hc h
      exact b89_1_2 _ _ h _ _ _ (lv_sub hl [0, 1] rfl) hP hD hS
    · have h := sg_n hc h
      refine lv_aload_n hx hb d_Md_nextWord_57 rfl (lv_at hl 0 rfl) ?_
      refine va_get (D := D) (ci := 7) (v := .ref (b 2)) (C := R_Md) (T := T_Md) (N := 31) hx hb hts iMd hown hK hP 0 (wM_at0 _ _ _ _) rfl 1 (by decide) k13 (fun _ h9 => h9) rfl d_Md_nextWord_58 ?_
      refine lv_bipush (v := (12 : Int32)) hx hb d_Md_nextWord_61 (by decide) ?_
      refine lv_iload_n hx hb d_Md_nextWord_63 rfl (lv_at hl 1 rfl) ?_
      refine lv_iadd hx hb d_Md_nextWord_64 ?_
      refine cst_i (y := (14 : Int32)) (by decide) ?_
      refine lv_aload_n hx hb d_Md_nextWord_65 rfl (lv_at hl 0 rfl) ?_
      refine va_get (D := D) (ci := 7) (v := .ref (b 2)) (C := R_Md) (T := T_Md) (N := 31) hx hb hts iMd hown hK hP 0 (wM_at0 _ _ _ _) rfl 1 (by decide) k13 (fun _ h9 => h9) rfl d_Md_nextWord_66 ?_
      refine lv_bipush (v := (12 : Int32)) hx hb d_Md_nextWord_69 (by decide) ?_
      refine lv_iload_n hx hb d_Md_nextWord_71 rfl (lv_at hl 1 rfl) ?_
      refine lv_iadd hx hb d_Md_nextWord_72 ?_
      refine cst_i (y := (14 : Int32)) (by decide) ?_
      refine ialdK hx hb hK hP 2 0 (wM_at2 _ _ _ _) rfl 14 (by decide) (by unfold vp_in; decide) d_Md_nextWord_73 ?_
      refine lv_aload_n hx hb d_Md_nextWord_74 rfl (lv_at hl 0 rfl) ?_
      refine va_get (D := D) (ci := 7) (v := .ref (b 2)) (C := R_Md) (T := T_Md) (N := 31) hx hb hts iMd hown hK hP 0 (wM_at0 _ _ _ _) rfl 1 (by decide) k13 (fun _ h9 => h9) rfl d_Md_nextWord_75 ?_
      refine lv_bipush (v := (16 : Int32)) hx hb d_Md_nextWord_78 (by decide) ?_
      refine lv_iload_n hx hb d_Md_nextWord_80 rfl (lv_at hl 1 rfl) ?_
      refine lv_iadd hx hb d_Md_nextWord_81 ?_
      refine cst_i (y := (18 : Int32)) (by decide) ?_
      refine ialdK hx hb hK hP 2 0 (wM_at2 _ _ _ _) rfl 18 (by decide) (by unfold vp_in; decide) d_Md_nextWord_82 ?_
      refine lv_iadd hx hb d_Md_nextWord_83 ?_
      refine lv_sipush (v := (255 : Int32)) hx hb d_Md_nextWord_84 (by decide) ?_
      refine lv_iand hx hb d_Md_nextWord_87 ?_
      refine iastK (x := ((M2 1 14) + (M2 1 18)) &&& (255 : Int32)) hx hb hK hP hD hS 2 0 (wM_at2 _ _ _ _) rfl 14 (by decide) (by unfold vp_in; decide) d_Md_nextWord_88 (fun H locs hP hD hS => ?_)
      have hP := wM_set2 hP
      have hD := wM_dset2 hD
      exact b89_1_2 _ _ h _ _ _ (lv_sub hl [0, 1] rfl) hP hD hS
  have b89_1_1 : ∀ (S : SS) (M : MM), f_Md_nextWord_89_1_1 S M = some q → BK p l e rm_Md_nextWord s m args below meth c Q D vCl (AM b) (wM cA b) 2 89 [(0, .ref (b 0)), (1, .int (1 : Int32))] [] S M := by
    intro S M h H locs ls hl hP hD hS
    unfold f_Md_nextWord_89_1_1 at h
    refine lv_iinc (k := 1) (v := (2 : Int32)) (lv' := [(1, .int (2 : Int32)), (0, .ref (b 0))]) hx hb d_Md_nextWord_89 hl rfl (by decide) (by decide) rfl (fun ls hl => ?_)
    refine lv_goto (tgt := 44) hx hb d_Md_nextWord_92 (by decide) ?_
    exact b44_1_2 _ _ h _ _ _ (lv_sub hl [1, 0] rfl) hP hD hS
  have b44_1_1 : ∀ (S : SS) (M : MM), f_Md_nextWord_44_1_1 S M = some q → BK p l e rm_Md_nextWord s m args below meth c Q D vCl (AM b) (wM cA b) 2 44 [(0, .ref (b 0)), (1, .int (1 : Int32))] [] S M := by
    intro S M h H locs ls hl hP hD hS
    unfold f_Md_nextWord_44_1_1 at h
    refine lv_iload_n hx hb d_Md_nextWord_44 rfl (lv_at hl 1 rfl) ?_
    refine lv_iconst (v := (4 : Int32)) hx hb d_Md_nextWord_45 (by decide) ?_
    refine lv_icmp_ge (tgt := 95) hx hb d_Md_nextWord_46 (by decide) (fun h9 => absurd h9 (by decide)) (fun _ => ?_)
    refine lv_aload_n hx hb d_Md_nextWord_49 rfl (lv_at hl 0 rfl) ?_
    refine lv_iload_n hx hb d_Md_nextWord_50 rfl (lv_at hl 1 rfl) ?_
    obtain ⟨⟨r3, S3, M3⟩, hc3, h⟩ := sg_b h
    dsimp only at h
    refine cvi (As := [.int (1 : Int32)]) (rest := []) ⟨hx, hb, hml, hown, hts⟩ (c_Md_used l D cA b S M (1 : Int32) _ hc3) ⟨callB_of 1 hts (tb_gi tb_cd_Md_used) rfl rfl rfl (hts _ tb_in_Md) (hts _ tb_ml_Md_106) yd_Md_used ⟨Nat.le_of_ble_eq_true rfl, Nat.le_of_ble_eq_true rfl⟩, hts _ tb_im_Md_used, hts _ tb_se_Md_used⟩ hZK hK hZ hP hD hS 0 (wM_at0 _ _ _ _) rfl rfl hl.1 rfl (Nat.le_of_ble_eq_true rfl) d_Md_nextWord_51 (fun H locs hP hD hS => ?_)
    refine lv_if_eq (tgt := 89) hx hb d_Md_nextWord_54 (by decide) (fun hc => ?_) (fun hc => ?_)
    · have h := sg_p hc h
      exact b89_1_1 _ _ h _ _ _ (lv_sub hl [0, 1] rfl) hP hD hS
    · have h := sg_n hc h
      refine lv_aload_n hx hb d_Md_nextWord_57 rfl (lv_at hl 0 rfl) ?_
      refine va_get (D := D) (ci := 7) (v := .ref (b 2)) (C := R_Md) (T := T_Md) (N := 31) hx hb hts iMd hown hK hP 0 (wM_at0 _ _ _ _) rfl 1 (by decide) k13 (fun _ h9 => h9) rfl d_Md_nextWord_58 ?_
      refine lv_bipush (v := (12 : Int32)) hx hb d_Md_nextWord_61 (by decide) ?_
      refine lv_iload_n hx hb d_Md_nextWord_63 rfl (lv_at hl 1 rfl) ?_
      refine lv_iadd hx hb d_Md_nextWord_64 ?_
      refine cst_i (y := (13 : Int32)) (by decide) ?_
      refine lv_aload_n hx hb d_Md_nextWord_65 rfl (lv_at hl 0 rfl) ?_
      refine va_get (D := D) (ci := 7) (v := .ref (b 2)) (C := R_Md) (T := T_Md) (N := 31) hx hb hts iMd hown hK hP 0 (wM_at0 _ _ _ _) rfl 1 (by decide) k13 (fun _ h9 => h9) rfl d_Md_nextWord_66 ?_
      refine lv_bipush (v := (12 : Int32)) hx hb d_Md_nextWord_69 (by decide) ?_
      refine lv_iload_n hx hb d_Md_nextWord_71 rfl (lv_at hl 1 rfl) ?_
      refine lv_iadd hx hb d_Md_nextWord_72 ?_
      refine cst_i (y := (13 : Int32)) (by decide) ?_
      refine ialdK hx hb hK hP 2 0 (wM_at2 _ _ _ _) rfl 13 (by decide) (by unfold vp_in; decide) d_Md_nextWord_73 ?_
      refine lv_aload_n hx hb d_Md_nextWord_74 rfl (lv_at hl 0 rfl) ?_
      refine va_get (D := D) (ci := 7) (v := .ref (b 2)) (C := R_Md) (T := T_Md) (N := 31) hx hb hts iMd hown hK hP 0 (wM_at0 _ _ _ _) rfl 1 (by decide) k13 (fun _ h9 => h9) rfl d_Md_nextWord_75 ?_
      refine lv_bipush (v := (16 : Int32)) hx hb d_Md_nextWord_78 (by decide) ?_
      refine lv_iload_n hx hb d_Md_nextWord_80 rfl (lv_at hl 1 rfl) ?_
      refine lv_iadd hx hb d_Md_nextWord_81 ?_
      refine cst_i (y := (17 : Int32)) (by decide) ?_
      refine ialdK hx hb hK hP 2 0 (wM_at2 _ _ _ _) rfl 17 (by decide) (by unfold vp_in; decide) d_Md_nextWord_82 ?_
      refine lv_iadd hx hb d_Md_nextWord_83 ?_
      refine lv_sipush (v := (255 : Int32)) hx hb d_Md_nextWord_84 (by decide) ?_
      refine lv_iand hx hb d_Md_nextWord_87 ?_
      refine iastK (x := ((M3 1 13) + (M3 1 17)) &&& (255 : Int32)) hx hb hK hP hD hS 2 0 (wM_at2 _ _ _ _) rfl 13 (by decide) (by unfold vp_in; decide) d_Md_nextWord_88 (fun H locs hP hD hS => ?_)
      have hP := wM_set2 hP
      have hD := wM_dset2 hD
      exact b89_1_1 _ _ h _ _ _ (lv_sub hl [0, 1] rfl) hP hD hS
  have b89_1_0 : ∀ (S : SS) (M : MM), f_Md_nextWord_89_1_0 S M = some q → BK p l e rm_Md_nextWord s m args below meth c Q D vCl (AM b) (wM cA b) 2 89 [(0, .ref (b 0)), (1, .int (0 : Int32))] [] S M := by
    intro S M h H locs ls hl hP hD hS
    unfold f_Md_nextWord_89_1_0 at h
    refine lv_iinc (k := 1) (v := (1 : Int32)) (lv' := [(1, .int (1 : Int32)), (0, .ref (b 0))]) hx hb d_Md_nextWord_89 hl rfl (by decide) (by decide) rfl (fun ls hl => ?_)
    refine lv_goto (tgt := 44) hx hb d_Md_nextWord_92 (by decide) ?_
    exact b44_1_1 _ _ h _ _ _ (lv_sub hl [1, 0] rfl) hP hD hS
  have b44_1_0 : ∀ (S : SS) (M : MM), f_Md_nextWord_44_1_0 S M = some q → BK p l e rm_Md_nextWord s m args below meth c Q D vCl (AM b) (wM cA b) 2 44 [(0, .ref (b 0)), (1, .int (0 : Int32))] [] S M := by
    intro S M h H locs ls hl hP hD hS
    unfold f_Md_nextWord_44_1_0 at h
    refine lv_iload_n hx hb d_Md_nextWord_44 rfl (lv_at hl 1 rfl) ?_
    refine lv_iconst (v := (4 : Int32)) hx hb d_Md_nextWord_45 (by decide) ?_
    refine lv_icmp_ge (tgt := 95) hx hb d_Md_nextWord_46 (by decide) (fun h9 => absurd h9 (by decide)) (fun _ => ?_)
    refine lv_aload_n hx hb d_Md_nextWord_49 rfl (lv_at hl 0 rfl) ?_
    refine lv_iload_n hx hb d_Md_nextWord_50 rfl (lv_at hl 1 rfl) ?_
    obtain ⟨⟨r4, S4, M4⟩, hc4, h⟩ := sg_b h
    dsimp only at h
    refine cvi (As := [.int (0 : Int32)]) (rest := []) ⟨hx, hb, hml, hown, hts⟩ (c_Md_used l D cA b S M (0 : Int32) _ hc4) ⟨callB_of 1 hts (tb_gi tb_cd_Md_used) rfl rfl rfl (hts _ tb_in_Md) (hts _ tb_ml_Md_106) yd_Md_used ⟨Nat.le_of_ble_eq_true rfl, Nat.le_of_ble_eq_true rfl⟩, hts _ tb_im_Md_used, hts _ tb_se_Md_used⟩ hZK hK hZ hP hD hS 0 (wM_at0 _ _ _ _) rfl rfl hl.1 rfl (Nat.le_of_ble_eq_true rfl) d_Md_nextWord_51 (fun H locs hP hD hS => ?_)
    refine lv_if_eq (tgt := 89) hx hb d_Md_nextWord_54 (by decide) (fun hc => ?_) (fun hc => ?_)
    · have h := sg_p hc h
      exact b89_1_0 _ _ h _ _ _ (lv_sub hl [0, 1] rfl) hP hD hS
    · have h := sg_n hc h
      refine lv_aload_n hx hb d_Md_nextWord_57 rfl (lv_at hl 0 rfl) ?_
      refine va_get (D := D) (ci := 7) (v := .ref (b 2)) (C := R_Md) (T := T_Md) (N := 31) hx hb hts iMd hown hK hP 0 (wM_at0 _ _ _ _) rfl 1 (by decide) k13 (fun _ h9 => h9) rfl d_Md_nextWord_58 ?_
      refine lv_bipush (v := (12 : Int32)) hx hb d_Md_nextWord_61 (by decide) ?_
      refine lv_iload_n hx hb d_Md_nextWord_63 rfl (lv_at hl 1 rfl) ?_
      refine lv_iadd hx hb d_Md_nextWord_64 ?_
      refine cst_i (y := (12 : Int32)) (by decide) ?_
      refine lv_aload_n hx hb d_Md_nextWord_65 rfl (lv_at hl 0 rfl) ?_
      refine va_get (D := D) (ci := 7) (v := .ref (b 2)) (C := R_Md) (T := T_Md) (N := 31) hx hb hts iMd hown hK hP 0 (wM_at0 _ _ _ _) rfl 1 (by decide) k13 (fun _ h9 => h9) rfl d_Md_nextWord_66 ?_
      refine lv_bipush (v := (12 : Int32)) hx hb d_Md_nextWord_69 (by decide) ?_
      refine lv_iload_n hx hb d_Md_nextWord_71 rfl (lv_at hl 1 rfl) ?_
      refine lv_iadd hx hb d_Md_nextWord_72 ?_
      refine cst_i (y := (12 : Int32)) (by decide) ?_
      refine ialdK hx hb hK hP 2 0 (wM_at2 _ _ _ _) rfl 12 (by decide) (by unfold vp_in; decide) d_Md_nextWord_73 ?_
      refine lv_aload_n hx hb d_Md_nextWord_74 rfl (lv_at hl 0 rfl) ?_
      refine va_get (D := D) (ci := 7) (v := .ref (b 2)) (C := R_Md) (T := T_Md) (N := 31) hx hb hts iMd hown hK hP 0 (wM_at0 _ _ _ _) rfl 1 (by decide) k13 (fun _ h9 => h9) rfl d_Md_nextWord_75 ?_
      refine lv_bipush (v := (16 : Int32)) hx hb d_Md_nextWord_78 (by decide) ?_
      refine lv_iload_n hx hb d_Md_nextWord_80 rfl (lv_at hl 1 rfl) ?_
      refine lv_iadd hx hb d_Md_nextWord_81 ?_
      refine cst_i (y := (16 : Int32)) (by decide) ?_
      refine ialdK hx hb hK hP 2 0 (wM_at2 _ _ _ _) rfl 16 (by decide) (by unfold vp_in; decide) d_Md_nextWord_82 ?_
      refine lv_iadd hx hb d_Md_nextWord_83 ?_
      refine lv_sipush (v := (255 : Int32)) hx hb d_Md_nextWord_84 (by decide) ?_
      refine lv_iand hx hb d_Md_nextWord_87 ?_
      refine iastK (x := ((M4 1 12) + (M4 1 16)) &&& (255 : Int32)) hx hb hK hP hD hS 2 0 (wM_at2 _ _ _ _) rfl 12 (by decide) (by unfold vp_in; decide) d_Md_nextWord_88 (fun H locs hP hD hS => ?_)
      have hP := wM_set2 hP
      have hD := wM_dset2 hD
      exact b89_1_0 _ _ h _ _ _ (lv_sub hl [0, 1] rfl) hP hD hS
  intro H locs ls hl hP hD hS
  have hl : lv_has ls 2 [(0, .ref (b 0))] := hl
  have h := h0
  unfold f_Md_nextWord at h
  refine lv_aload_n hx hb d_Md_nextWord_0 rfl (lv_at hl 0 rfl) ?_
  refine lv_iconst (v := (0 : Int32)) hx hb d_Md_nextWord_1 (by decide) ?_
  refine puwM_15 (D := D) (x := (0 : Int32)) hx hb hts iMd hown hK hP hD hS k79 rfl rfl d_Md_nextWord_2 (fun H locs hP hD hS => ?_)
  refine lv_aload_n hx hb d_Md_nextWord_5 rfl (lv_at hl 0 rfl) ?_
  refine lv_dup hx hb d_Md_nextWord_6 rfl ?_
  refine va_get (D := D) (ci := 7) (v := .int ((upd S 15 (0 : Int32)) 13)) (C := R_Md) (T := T_Md) (N := 31) hx hb hts iMd hown hK hP 0 (wM_at0 _ _ _ _) rfl 20 (by decide) k73 (fun _ h9 => h9) rfl d_Md_nextWord_7 ?_
  refine lv_iconst (v := (1 : Int32)) hx hb d_Md_nextWord_10 (by decide) ?_
  refine lv_iadd hx hb d_Md_nextWord_11 ?_
  refine puwM_13 (D := D) (x := ((upd S 15 (0 : Int32)) 13) + (1 : Int32)) hx hb hts iMd hown hK hP hD hS k73 rfl rfl d_Md_nextWord_12 (fun H locs hP hD hS => ?_)
  refine lv_aload_n hx hb d_Md_nextWord_15 rfl (lv_at hl 0 rfl) ?_
  refine va_get (D := D) (ci := 7) (v := .int ((upd (upd S 15 (0 : Int32)) 13 (((upd S 15 (0 : Int32)) 13) + (1 : Int32))) 13)) (C := R_Md) (T := T_Md) (N := 31) hx hb hts iMd hown hK hP 0 (wM_at0 _ _ _ _) rfl 20 (by decide) k73 (fun _ h9 => h9) rfl d_Md_nextWord_16 ?_
  refine lv_aload_n hx hb d_Md_nextWord_19 rfl (lv_at hl 0 rfl) ?_
  refine va_get (D := D) (ci := 7) (v := .int ((upd (upd S 15 (0 : Int32)) 13 (((upd S 15 (0 : Int32)) 13) + (1 : Int32))) 11)) (C := R_Md) (T := T_Md) (N := 31) hx hb hts iMd hown hK hP 0 (wM_at0 _ _ _ _) rfl 18 (by decide) k67 (fun _ h9 => h9) rfl d_Md_nextWord_20 ?_
  refine lv_icmp_ge (tgt := 27) hx hb d_Md_nextWord_23 (by decide) (fun hc => ?_) (fun hc => ?_)
  · have h := sg_p hc h
    refine lv_aload_n hx hb d_Md_nextWord_27 rfl (lv_at hl 0 rfl) ?_
    refine lv_iconst (v := (0 : Int32)) hx hb d_Md_nextWord_28 (by decide) ?_
    refine puwM_13 (D := D) (x := (0 : Int32)) hx hb hts iMd hown hK hP hD hS k73 rfl rfl d_Md_nextWord_29 (fun H locs hP hD hS => ?_)
    refine lv_aload_n hx hb d_Md_nextWord_32 rfl (lv_at hl 0 rfl) ?_
    refine lv_dup hx hb d_Md_nextWord_33 rfl ?_
    refine va_get (D := D) (ci := 7) (v := .int ((upd (upd (upd S 15 (0 : Int32)) 13 (((upd S 15 (0 : Int32)) 13) + (1 : Int32))) 13 (0 : Int32)) 14)) (C := R_Md) (T := T_Md) (N := 31) hx hb hts iMd hown hK hP 0 (wM_at0 _ _ _ _) rfl 21 (by decide) k76 (fun _ h9 => h9) rfl d_Md_nextWord_34 ?_
    refine lv_iconst (v := (1 : Int32)) hx hb d_Md_nextWord_37 (by decide) ?_
    refine lv_iadd hx hb d_Md_nextWord_38 ?_
    refine puwM_14 (D := D) (x := ((upd (upd (upd S 15 (0 : Int32)) 13 (((upd S 15 (0 : Int32)) 13) + (1 : Int32))) 13 (0 : Int32)) 14) + (1 : Int32)) hx hb hts iMd hown hK hP hD hS k76 rfl rfl d_Md_nextWord_39 (fun H locs hP hD hS => ?_)
    refine lv_iconst (v := (0 : Int32)) hx hb d_Md_nextWord_42 (by decide) ?_
    refine lv_istore_n (lv' := [(1, .int (0 : Int32)), (0, .ref (b 0))]) hx hb d_Md_nextWord_43 rfl hl (by decide) rfl (fun ls hl => ?_)
    exact b44_1_0 _ _ h _ _ _ (lv_sub hl [1, 0] rfl) hP hD hS
  · have h := sg_n hc h
    exact ret _ _ _ _ _ _ _ h hP hD hS d_Md_nextWord_26
