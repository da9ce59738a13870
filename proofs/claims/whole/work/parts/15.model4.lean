def w_Md_process : List Cond := Cond.code y_Md_process prog_9_method_16_code 5 none :: TB
def rm_Md_process : Room := { frames := 2, cells := 0, slots := 0, locals := 43 }
theorem d_Md_process_0 : decode prog_9_method_16_code 0 = .ok (.aload_n 0, 1) := by decide +kernel
theorem d_Md_process_1 : decode prog_9_method_16_code 1 = .ok (.getfield 34, 3) := by decide +kernel
theorem d_Md_process_4 : decode prog_9_method_16_code 4 = .ok (.iconst 0, 1) := by decide +kernel
theorem d_Md_process_5 : decode prog_9_method_16_code 5 = .ok (.iaload, 1) := by decide +kernel
theorem d_Md_process_6 : decode prog_9_method_16_code 6 = .ok (.istore_n 1, 1) := by decide +kernel
theorem d_Md_process_7 : decode prog_9_method_16_code 7 = .ok (.aload_n 0, 1) := by decide +kernel
theorem d_Md_process_8 : decode prog_9_method_16_code 8 = .ok (.getfield 34, 3) := by decide +kernel
theorem d_Md_process_11 : decode prog_9_method_16_code 11 = .ok (.iconst 1, 1) := by decide +kernel
theorem d_Md_process_12 : decode prog_9_method_16_code 12 = .ok (.iaload, 1) := by decide +kernel
theorem d_Md_process_13 : decode prog_9_method_16_code 13 = .ok (.istore_n 2, 1) := by decide +kernel
theorem d_Md_process_14 : decode prog_9_method_16_code 14 = .ok (.aload_n 0, 1) := by decide +kernel
theorem d_Md_process_15 : decode prog_9_method_16_code 15 = .ok (.getfield 34, 3) := by decide +kernel
theorem d_Md_process_18 : decode prog_9_method_16_code 18 = .ok (.iconst 2, 1) := by decide +kernel
theorem d_Md_process_19 : decode prog_9_method_16_code 19 = .ok (.iaload, 1) := by decide +kernel
theorem d_Md_process_20 : decode prog_9_method_16_code 20 = .ok (.istore_n 3, 1) := by decide +kernel
theorem d_Md_process_21 : decode prog_9_method_16_code 21 = .ok (.aload_n 0, 1) := by decide +kernel
theorem d_Md_process_22 : decode prog_9_method_16_code 22 = .ok (.dup, 1) := by decide +kernel
theorem d_Md_process_23 : decode prog_9_method_16_code 23 = .ok (.getfield 119, 3) := by decide +kernel
theorem d_Md_process_26 : decode prog_9_method_16_code 26 = .ok (.iconst 1, 1) := by decide +kernel
theorem d_Md_process_27 : decode prog_9_method_16_code 27 = .ok (.isub, 1) := by decide +kernel
theorem d_Md_process_28 : decode prog_9_method_16_code 28 = .ok (.putfield 119, 3) := by decide +kernel
theorem d_Md_process_31 : decode prog_9_method_16_code 31 = .ok (.iconst 0, 1) := by decide +kernel
theorem d_Md_process_32 : decode prog_9_method_16_code 32 = .ok (.istore 4, 2) := by decide +kernel
theorem d_Md_process_34 : decode prog_9_method_16_code 34 = .ok (.iload 4, 2) := by decide +kernel
theorem d_Md_process_36 : decode prog_9_method_16_code 36 = .ok (.iconst 3, 1) := by decide +kernel
theorem d_Md_process_37 : decode prog_9_method_16_code 37 = .ok (.aload_n 0, 1) := by decide +kernel
theorem d_Md_process_38 : decode prog_9_method_16_code 38 = .ok (.getfield 119, 3) := by decide +kernel
theorem d_Md_process_41 : decode prog_9_method_16_code 41 = .ok (.imul, 1) := by decide +kernel
theorem d_Md_process_42 : decode prog_9_method_16_code 42 = .ok (.if_icmp .ge 25, 3) := by decide +kernel
theorem d_Md_process_45 : decode prog_9_method_16_code 45 = .ok (.aload_n 0, 1) := by decide +kernel
theorem d_Md_process_46 : decode prog_9_method_16_code 46 = .ok (.getfield 34, 3) := by decide +kernel
theorem d_Md_process_49 : decode prog_9_method_16_code 49 = .ok (.iload 4, 2) := by decide +kernel
theorem d_Md_process_51 : decode prog_9_method_16_code 51 = .ok (.aload_n 0, 1) := by decide +kernel
theorem d_Md_process_52 : decode prog_9_method_16_code 52 = .ok (.getfield 34, 3) := by decide +kernel
theorem d_Md_process_55 : decode prog_9_method_16_code 55 = .ok (.iload 4, 2) := by decide +kernel
theorem d_Md_process_57 : decode prog_9_method_16_code 57 = .ok (.iconst 3, 1) := by decide +kernel
theorem d_Md_process_58 : decode prog_9_method_16_code 58 = .ok (.iadd, 1) := by decide +kernel
theorem d_Md_process_59 : decode prog_9_method_16_code 59 = .ok (.iaload, 1) := by decide +kernel
theorem d_Md_process_60 : decode prog_9_method_16_code 60 = .ok (.iastore, 1) := by decide +kernel
theorem d_Md_process_61 : decode prog_9_method_16_code 61 = .ok (.iinc 4 1, 3) := by decide +kernel
theorem d_Md_process_64 : decode prog_9_method_16_code 64 = .ok (.goto (-30), 3) := by decide +kernel
theorem d_Md_process_67 : decode prog_9_method_16_code 67 = .ok (.iload_n 1, 1) := by decide +kernel
theorem d_Md_process_68 : decode prog_9_method_16_code 68 = .ok (.ifCond .ne 13, 3) := by decide +kernel
theorem d_Md_process_71 : decode prog_9_method_16_code 71 = .ok (.aload_n 0, 1) := by decide +kernel
theorem d_Md_process_72 : decode prog_9_method_16_code 72 = .ok (.getfield 7, 3) := by decide +kernel
theorem d_Md_process_75 : decode prog_9_method_16_code 75 = .ok (.iload_n 2, 1) := by decide +kernel
theorem d_Md_process_76 : decode prog_9_method_16_code 76 = .ok (.iload_n 3, 1) := by decide +kernel
theorem d_Md_process_77 : decode prog_9_method_16_code 77 = .ok (.iastore, 1) := by decide +kernel
theorem d_Md_process_78 : decode prog_9_method_16_code 78 = .ok (.goto 37, 3) := by decide +kernel
theorem d_Md_process_81 : decode prog_9_method_16_code 81 = .ok (.iload_n 1, 1) := by decide +kernel
theorem d_Md_process_82 : decode prog_9_method_16_code 82 = .ok (.iconst 1, 1) := by decide +kernel
theorem d_Md_process_83 : decode prog_9_method_16_code 83 = .ok (.if_icmp .ne 26, 3) := by decide +kernel
theorem d_Md_process_86 : decode prog_9_method_16_code 86 = .ok (.aload_n 0, 1) := by decide +kernel
theorem d_Md_process_87 : decode prog_9_method_16_code 87 = .ok (.aload_n 0, 1) := by decide +kernel
theorem d_Md_process_88 : decode prog_9_method_16_code 88 = .ok (.getfield 7, 3) := by decide +kernel
theorem d_Md_process_91 : decode prog_9_method_16_code 91 = .ok (.iload_n 2, 1) := by decide +kernel
theorem d_Md_process_92 : decode prog_9_method_16_code 92 = .ok (.iaload, 1) := by decide +kernel
theorem d_Md_process_93 : decode prog_9_method_16_code 93 = .ok (.putfield 122, 3) := by decide +kernel
theorem d_Md_process_96 : decode prog_9_method_16_code 96 = .ok (.aload_n 0, 1) := by decide +kernel
theorem d_Md_process_97 : decode prog_9_method_16_code 97 = .ok (.dup, 1) := by decide +kernel
theorem d_Md_process_98 : decode prog_9_method_16_code 98 = .ok (.getfield 125, 3) := by decide +kernel
theorem d_Md_process_101 : decode prog_9_method_16_code 101 = .ok (.iconst 1, 1) := by decide +kernel
theorem d_Md_process_102 : decode prog_9_method_16_code 102 = .ok (.iadd, 1) := by decide +kernel
theorem d_Md_process_103 : decode prog_9_method_16_code 103 = .ok (.putfield 125, 3) := by decide +kernel
theorem d_Md_process_106 : decode prog_9_method_16_code 106 = .ok (.goto 9, 3) := by decide +kernel
theorem d_Md_process_109 : decode prog_9_method_16_code 109 = .ok (.aload_n 0, 1) := by decide +kernel
theorem d_Md_process_110 : decode prog_9_method_16_code 110 = .ok (.iload_n 2, 1) := by decide +kernel
theorem d_Md_process_111 : decode prog_9_method_16_code 111 = .ok (.iload_n 3, 1) := by decide +kernel
theorem d_Md_process_112 : decode prog_9_method_16_code 112 = .ok (.invokevirtual 96, 3) := by decide +kernel
theorem d_Md_process_115 : decode prog_9_method_16_code 115 = .ok (.return_, 1) := by decide +kernel
theorem yd_Md_process : y_Md_process.cls ≠ "java/lang/invoke/MethodHandle" ∧ y_Md_process.cls ≠ "java/lang/invoke/VarHandle" ∧ (parseMethodDescriptor y_Md_process.desc).map (fun d => d.parameters.length) = some 0 := by decide +kernel
def w_Md_give : List Cond := Cond.code y_Md_give prog_9_method_17_code 6 (some .int) :: TB
def rm_Md_give : Room := { frames := 3, cells := 0, slots := 0, locals := 72 }
theorem d_Md_give_0 : decode prog_9_method_17_code 0 = .ok (.iload_n 2, 1) := by decide +kernel
theorem d_Md_give_1 : decode prog_9_method_17_code 1 = .ok (.ifCond .eq 8, 3) := by decide +kernel
theorem d_Md_give_4 : decode prog_9_method_17_code 4 = .ok (.iload_n 2, 1) := by decide +kernel
theorem d_Md_give_5 : decode prog_9_method_17_code 5 = .ok (.iconst 2, 1) := by decide +kernel
theorem d_Md_give_6 : decode prog_9_method_17_code 6 = .ok (.if_icmp .ne 5, 3) := by decide +kernel
theorem d_Md_give_9 : decode prog_9_method_17_code 9 = .ok (.iconst 1, 1) := by decide +kernel
theorem d_Md_give_10 : decode prog_9_method_17_code 10 = .ok (.ireturn, 1) := by decide +kernel
theorem d_Md_give_11 : decode prog_9_method_17_code 11 = .ok (.aload_n 0, 1) := by decide +kernel
theorem d_Md_give_12 : decode prog_9_method_17_code 12 = .ok (.iload_n 1, 1) := by decide +kernel
theorem d_Md_give_13 : decode prog_9_method_17_code 13 = .ok (.iload_n 2, 1) := by decide +kernel
theorem d_Md_give_14 : decode prog_9_method_17_code 14 = .ok (.invokevirtual 128, 3) := by decide +kernel
theorem d_Md_give_17 : decode prog_9_method_17_code 17 = .ok (.istore_n 3, 1) := by decide +kernel
theorem d_Md_give_18 : decode prog_9_method_17_code 18 = .ok (.iload_n 3, 1) := by decide +kernel
theorem d_Md_give_19 : decode prog_9_method_17_code 19 = .ok (.ifCond .lt 11, 3) := by decide +kernel
theorem d_Md_give_22 : decode prog_9_method_17_code 22 = .ok (.aload_n 0, 1) := by decide +kernel
theorem d_Md_give_23 : decode prog_9_method_17_code 23 = .ok (.iload_n 3, 1) := by decide +kernel
theorem d_Md_give_24 : decode prog_9_method_17_code 24 = .ok (.iload_n 2, 1) := by decide +kernel
theorem d_Md_give_25 : decode prog_9_method_17_code 25 = .ok (.invokevirtual 132, 3) := by decide +kernel
theorem d_Md_give_28 : decode prog_9_method_17_code 28 = .ok (.iconst 2, 1) := by decide +kernel
theorem d_Md_give_29 : decode prog_9_method_17_code 29 = .ok (.ireturn, 1) := by decide +kernel
theorem d_Md_give_30 : decode prog_9_method_17_code 30 = .ok (.iload_n 2, 1) := by decide +kernel
theorem d_Md_give_31 : decode prog_9_method_17_code 31 = .ok (.iconst 2, 1) := by decide +kernel
theorem d_Md_give_32 : decode prog_9_method_17_code 32 = .ok (.irem, 1) := by decide +kernel
theorem d_Md_give_33 : decode prog_9_method_17_code 33 = .ok (.ifCond .ne 25, 3) := by decide +kernel
theorem d_Md_give_36 : decode prog_9_method_17_code 36 = .ok (.aload_n 0, 1) := by decide +kernel
theorem d_Md_give_37 : decode prog_9_method_17_code 37 = .ok (.iconst 1, 1) := by decide +kernel
theorem d_Md_give_38 : decode prog_9_method_17_code 38 = .ok (.invokevirtual 89, 3) := by decide +kernel
theorem d_Md_give_41 : decode prog_9_method_17_code 41 = .ok (.ifCond .eq 17, 3) := by decide +kernel
theorem d_Md_give_44 : decode prog_9_method_17_code 44 = .ok (.aload_n 0, 1) := by decide +kernel
theorem d_Md_give_45 : decode prog_9_method_17_code 45 = .ok (.getfield 48, 3) := by decide +kernel
theorem d_Md_give_48 : decode prog_9_method_17_code 48 = .ok (.iconst 1, 1) := by decide +kernel
theorem d_Md_give_49 : decode prog_9_method_17_code 49 = .ok (.if_icmp .ne 9, 3) := by decide +kernel
theorem d_Md_give_52 : decode prog_9_method_17_code 52 = .ok (.aload_n 0, 1) := by decide +kernel
theorem d_Md_give_53 : decode prog_9_method_17_code 53 = .ok (.invokevirtual 135, 3) := by decide +kernel
theorem d_Md_give_56 : decode prog_9_method_17_code 56 = .ok (.iconst 3, 1) := by decide +kernel
theorem d_Md_give_57 : decode prog_9_method_17_code 57 = .ok (.ireturn, 1) := by decide +kernel
theorem d_Md_give_58 : decode prog_9_method_17_code 58 = .ok (.aload_n 0, 1) := by decide +kernel
theorem d_Md_give_59 : decode prog_9_method_17_code 59 = .ok (.getfield 61, 3) := by decide +kernel
theorem d_Md_give_62 : decode prog_9_method_17_code 62 = .ok (.ifCond .eq 15, 3) := by decide +kernel
theorem d_Md_give_65 : decode prog_9_method_17_code 65 = .ok (.aload_n 0, 1) := by decide +kernel
theorem d_Md_give_66 : decode prog_9_method_17_code 66 = .ok (.iconst 2, 1) := by decide +kernel
theorem d_Md_give_67 : decode prog_9_method_17_code 67 = .ok (.invokevirtual 89, 3) := by decide +kernel
theorem d_Md_give_70 : decode prog_9_method_17_code 70 = .ok (.ifCond .eq 7, 3) := by decide +kernel
theorem d_Md_give_73 : decode prog_9_method_17_code 73 = .ok (.iconst 1, 1) := by decide +kernel
theorem d_Md_give_74 : decode prog_9_method_17_code 74 = .ok (.goto 4, 3) := by decide +kernel
theorem d_Md_give_77 : decode prog_9_method_17_code 77 = .ok (.iconst 0, 1) := by decide +kernel
theorem d_Md_give_78 : decode prog_9_method_17_code 78 = .ok (.istore 4, 2) := by decide +kernel
theorem d_Md_give_80 : decode prog_9_method_17_code 80 = .ok (.aload_n 0, 1) := by decide +kernel
theorem d_Md_give_81 : decode prog_9_method_17_code 81 = .ok (.getfield 119, 3) := by decide +kernel
theorem d_Md_give_84 : decode prog_9_method_17_code 84 = .ok (.ifCond .le 7, 3) := by decide +kernel
theorem d_Md_give_87 : decode prog_9_method_17_code 87 = .ok (.iconst 1, 1) := by decide +kernel
theorem d_Md_give_88 : decode prog_9_method_17_code 88 = .ok (.goto 4, 3) := by decide +kernel
theorem d_Md_give_91 : decode prog_9_method_17_code 91 = .ok (.iconst 0, 1) := by decide +kernel
theorem d_Md_give_92 : decode prog_9_method_17_code 92 = .ok (.istore 5, 2) := by decide +kernel
theorem d_Md_give_94 : decode prog_9_method_17_code 94 = .ok (.iload 4, 2) := by decide +kernel
theorem d_Md_give_96 : decode prog_9_method_17_code 96 = .ok (.ifCond .eq 49, 3) := by decide +kernel
theorem d_Md_give_99 : decode prog_9_method_17_code 99 = .ok (.iload 5, 2) := by decide +kernel
theorem d_Md_give_101 : decode prog_9_method_17_code 101 = .ok (.ifCond .eq 19, 3) := by decide +kernel
theorem d_Md_give_104 : decode prog_9_method_17_code 104 = .ok (.aload_n 0, 1) := by decide +kernel
theorem d_Md_give_105 : decode prog_9_method_17_code 105 = .ok (.iconst 3, 1) := by decide +kernel
theorem d_Md_give_106 : decode prog_9_method_17_code 106 = .ok (.invokevirtual 89, 3) := by decide +kernel
theorem d_Md_give_109 : decode prog_9_method_17_code 109 = .ok (.ifCond .ne 11, 3) := by decide +kernel
theorem d_Md_give_112 : decode prog_9_method_17_code 112 = .ok (.aload_n 0, 1) := by decide +kernel
theorem d_Md_give_113 : decode prog_9_method_17_code 113 = .ok (.getfield 138, 3) := by decide +kernel
theorem d_Md_give_116 : decode prog_9_method_17_code 116 = .ok (.iconst 3, 1) := by decide +kernel
theorem d_Md_give_117 : decode prog_9_method_17_code 117 = .ok (.if_icmp .ge 28, 3) := by decide +kernel
theorem d_Md_give_120 : decode prog_9_method_17_code 120 = .ok (.aload_n 0, 1) := by decide +kernel
theorem d_Md_give_121 : decode prog_9_method_17_code 121 = .ok (.iload 5, 2) := by decide +kernel
theorem d_Md_give_123 : decode prog_9_method_17_code 123 = .ok (.ifCond .eq 12, 3) := by decide +kernel
theorem d_Md_give_126 : decode prog_9_method_17_code 126 = .ok (.aload_n 0, 1) := by decide +kernel
theorem d_Md_give_127 : decode prog_9_method_17_code 127 = .ok (.getfield 138, 3) := by decide +kernel
theorem d_Md_give_130 : decode prog_9_method_17_code 130 = .ok (.iconst 1, 1) := by decide +kernel
theorem d_Md_give_131 : decode prog_9_method_17_code 131 = .ok (.iadd, 1) := by decide +kernel
theorem d_Md_give_132 : decode prog_9_method_17_code 132 = .ok (.goto 4, 3) := by decide +kernel
theorem d_Md_give_135 : decode prog_9_method_17_code 135 = .ok (.iconst 0, 1) := by decide +kernel
theorem d_Md_give_136 : decode prog_9_method_17_code 136 = .ok (.putfield 138, 3) := by decide +kernel
theorem d_Md_give_139 : decode prog_9_method_17_code 139 = .ok (.aload_n 0, 1) := by decide +kernel
theorem d_Md_give_140 : decode prog_9_method_17_code 140 = .ok (.invokevirtual 141, 3) := by decide +kernel
theorem d_Md_give_143 : decode prog_9_method_17_code 143 = .ok (.iconst 4, 1) := by decide +kernel
theorem d_Md_give_144 : decode prog_9_method_17_code 144 = .ok (.ireturn, 1) := by decide +kernel
theorem d_Md_give_145 : decode prog_9_method_17_code 145 = .ok (.iload 5, 2) := by decide +kernel
theorem d_Md_give_147 : decode prog_9_method_17_code 147 = .ok (.ifCond .ne 5, 3) := by decide +kernel
theorem d_Md_give_150 : decode prog_9_method_17_code 150 = .ok (.iconst 0, 1) := by decide +kernel
theorem d_Md_give_151 : decode prog_9_method_17_code 151 = .ok (.ireturn, 1) := by decide +kernel
theorem d_Md_give_152 : decode prog_9_method_17_code 152 = .ok (.aload_n 0, 1) := by decide +kernel
theorem d_Md_give_153 : decode prog_9_method_17_code 153 = .ok (.iconst 0, 1) := by decide +kernel
theorem d_Md_give_154 : decode prog_9_method_17_code 154 = .ok (.putfield 138, 3) := by decide +kernel
theorem d_Md_give_157 : decode prog_9_method_17_code 157 = .ok (.aload_n 0, 1) := by decide +kernel
theorem d_Md_give_158 : decode prog_9_method_17_code 158 = .ok (.invokevirtual 144, 3) := by decide +kernel
theorem d_Md_give_161 : decode prog_9_method_17_code 161 = .ok (.iconst 5, 1) := by decide +kernel
theorem d_Md_give_162 : decode prog_9_method_17_code 162 = .ok (.ireturn, 1) := by decide +kernel
theorem yd_Md_give : y_Md_give.cls ≠ "java/lang/invoke/MethodHandle" ∧ y_Md_give.cls ≠ "java/lang/invoke/VarHandle" ∧ (parseMethodDescriptor y_Md_give.desc).map (fun d => d.parameters.length) = some 2 := by decide +kernel
def w_Md_clock : List Cond := Cond.code y_Md_clock prog_9_method_18_code 4 (some .int) :: TB
def rm_Md_clock : Room := { frames := 4, cells := 0, slots := 0, locals := 97 }
theorem d_Md_clock_0 : decode prog_9_method_18_code 0 = .ok (.aload_n 0, 1) := by decide +kernel
theorem d_Md_clock_1 : decode prog_9_method_18_code 1 = .ok (.getfield 103, 3) := by decide +kernel
theorem d_Md_clock_4 : decode prog_9_method_18_code 4 = .ok (.bipush 32, 2) := by decide +kernel
theorem d_Md_clock_6 : decode prog_9_method_18_code 6 = .ok (.idiv, 1) := by decide +kernel
theorem d_Md_clock_7 : decode prog_9_method_18_code 7 = .ok (.istore_n 1, 1) := by decide +kernel
theorem d_Md_clock_8 : decode prog_9_method_18_code 8 = .ok (.aload_n 0, 1) := by decide +kernel
theorem d_Md_clock_9 : decode prog_9_method_18_code 9 = .ok (.getfield 103, 3) := by decide +kernel
theorem d_Md_clock_12 : decode prog_9_method_18_code 12 = .ok (.bipush 32, 2) := by decide +kernel
theorem d_Md_clock_14 : decode prog_9_method_18_code 14 = .ok (.irem, 1) := by decide +kernel
theorem d_Md_clock_15 : decode prog_9_method_18_code 15 = .ok (.istore_n 2, 1) := by decide +kernel
theorem d_Md_clock_16 : decode prog_9_method_18_code 16 = .ok (.aload_n 0, 1) := by decide +kernel
theorem d_Md_clock_17 : decode prog_9_method_18_code 17 = .ok (.getfield 103, 3) := by decide +kernel
theorem d_Md_clock_20 : decode prog_9_method_18_code 20 = .ok (.ifCond .ne 59, 3) := by decide +kernel
theorem d_Md_clock_23 : decode prog_9_method_18_code 23 = .ok (.aload_n 0, 1) := by decide +kernel
theorem d_Md_clock_24 : decode prog_9_method_18_code 24 = .ok (.dup, 1) := by decide +kernel
theorem d_Md_clock_25 : decode prog_9_method_18_code 25 = .ok (.getfield 147, 3) := by decide +kernel
theorem d_Md_clock_28 : decode prog_9_method_18_code 28 = .ok (.iconst 1, 1) := by decide +kernel
theorem d_Md_clock_29 : decode prog_9_method_18_code 29 = .ok (.iadd, 1) := by decide +kernel
theorem d_Md_clock_30 : decode prog_9_method_18_code 30 = .ok (.putfield 147, 3) := by decide +kernel
theorem d_Md_clock_33 : decode prog_9_method_18_code 33 = .ok (.aload_n 0, 1) := by decide +kernel
theorem d_Md_clock_34 : decode prog_9_method_18_code 34 = .ok (.dup, 1) := by decide +kernel
theorem d_Md_clock_35 : decode prog_9_method_18_code 35 = .ok (.getfield 44, 3) := by decide +kernel
theorem d_Md_clock_38 : decode prog_9_method_18_code 38 = .ok (.iconst 2, 1) := by decide +kernel
theorem d_Md_clock_39 : decode prog_9_method_18_code 39 = .ok (.ior, 1) := by decide +kernel
theorem d_Md_clock_40 : decode prog_9_method_18_code 40 = .ok (.putfield 44, 3) := by decide +kernel
theorem d_Md_clock_43 : decode prog_9_method_18_code 43 = .ok (.aload_n 0, 1) := by decide +kernel
theorem d_Md_clock_44 : decode prog_9_method_18_code 44 = .ok (.getfield 22, 3) := by decide +kernel
theorem d_Md_clock_47 : decode prog_9_method_18_code 47 = .ok (.iconst 0, 1) := by decide +kernel
theorem d_Md_clock_48 : decode prog_9_method_18_code 48 = .ok (.aload_n 0, 1) := by decide +kernel
theorem d_Md_clock_49 : decode prog_9_method_18_code 49 = .ok (.getfield 13, 3) := by decide +kernel
theorem d_Md_clock_52 : decode prog_9_method_18_code 52 = .ok (.iconst 3, 1) := by decide +kernel
theorem d_Md_clock_53 : decode prog_9_method_18_code 53 = .ok (.iaload, 1) := by decide +kernel
theorem d_Md_clock_54 : decode prog_9_method_18_code 54 = .ok (.iastore, 1) := by decide +kernel
theorem d_Md_clock_55 : decode prog_9_method_18_code 55 = .ok (.aload_n 0, 1) := by decide +kernel
theorem d_Md_clock_56 : decode prog_9_method_18_code 56 = .ok (.getfield 22, 3) := by decide +kernel
theorem d_Md_clock_59 : decode prog_9_method_18_code 59 = .ok (.iconst 1, 1) := by decide +kernel
theorem d_Md_clock_60 : decode prog_9_method_18_code 60 = .ok (.aload_n 0, 1) := by decide +kernel
theorem d_Md_clock_61 : decode prog_9_method_18_code 61 = .ok (.getfield 13, 3) := by decide +kernel
theorem d_Md_clock_64 : decode prog_9_method_18_code 64 = .ok (.iconst 4, 1) := by decide +kernel
theorem d_Md_clock_65 : decode prog_9_method_18_code 65 = .ok (.iaload, 1) := by decide +kernel
theorem d_Md_clock_66 : decode prog_9_method_18_code 66 = .ok (.iastore, 1) := by decide +kernel
theorem d_Md_clock_67 : decode prog_9_method_18_code 67 = .ok (.aload_n 0, 1) := by decide +kernel
theorem d_Md_clock_68 : decode prog_9_method_18_code 68 = .ok (.iconst 1, 1) := by decide +kernel
theorem d_Md_clock_69 : decode prog_9_method_18_code 69 = .ok (.invokevirtual 89, 3) := by decide +kernel
theorem d_Md_clock_72 : decode prog_9_method_18_code 72 = .ok (.ifCond .eq 7, 3) := by decide +kernel
theorem d_Md_clock_75 : decode prog_9_method_18_code 75 = .ok (.aload_n 0, 1) := by decide +kernel
theorem d_Md_clock_76 : decode prog_9_method_18_code 76 = .ok (.invokevirtual 37, 3) := by decide +kernel
theorem d_Md_clock_79 : decode prog_9_method_18_code 79 = .ok (.aload_n 0, 1) := by decide +kernel
theorem d_Md_clock_80 : decode prog_9_method_18_code 80 = .ok (.iload_n 1, 1) := by decide +kernel
theorem d_Md_clock_81 : decode prog_9_method_18_code 81 = .ok (.iload_n 2, 1) := by decide +kernel
theorem d_Md_clock_82 : decode prog_9_method_18_code 82 = .ok (.invokevirtual 150, 3) := by decide +kernel
theorem d_Md_clock_85 : decode prog_9_method_18_code 85 = .ok (.aload_n 0, 1) := by decide +kernel
theorem d_Md_clock_86 : decode prog_9_method_18_code 86 = .ok (.getfield 48, 3) := by decide +kernel
theorem d_Md_clock_89 : decode prog_9_method_18_code 89 = .ok (.iconst 2, 1) := by decide +kernel
theorem d_Md_clock_90 : decode prog_9_method_18_code 90 = .ok (.if_icmp .ne 27, 3) := by decide +kernel
theorem d_Md_clock_93 : decode prog_9_method_18_code 93 = .ok (.aload_n 0, 1) := by decide +kernel
theorem d_Md_clock_94 : decode prog_9_method_18_code 94 = .ok (.getfield 103, 3) := by decide +kernel
theorem d_Md_clock_97 : decode prog_9_method_18_code 97 = .ok (.aload_n 0, 1) := by decide +kernel
theorem d_Md_clock_98 : decode prog_9_method_18_code 98 = .ok (.getfield 100, 3) := by decide +kernel
theorem d_Md_clock_101 : decode prog_9_method_18_code 101 = .ok (.if_icmp .lt 16, 3) := by decide +kernel
theorem d_Md_clock_104 : decode prog_9_method_18_code 104 = .ok (.aload_n 0, 1) := by decide +kernel
theorem d_Md_clock_105 : decode prog_9_method_18_code 105 = .ok (.iconst 1, 1) := by decide +kernel
theorem d_Md_clock_106 : decode prog_9_method_18_code 106 = .ok (.invokevirtual 89, 3) := by decide +kernel
theorem d_Md_clock_109 : decode prog_9_method_18_code 109 = .ok (.ifCond .eq 8, 3) := by decide +kernel
theorem d_Md_clock_112 : decode prog_9_method_18_code 112 = .ok (.aload_n 0, 1) := by decide +kernel
theorem d_Md_clock_113 : decode prog_9_method_18_code 113 = .ok (.iconst 1, 1) := by decide +kernel
theorem d_Md_clock_114 : decode prog_9_method_18_code 114 = .ok (.putfield 48, 3) := by decide +kernel
theorem d_Md_clock_117 : decode prog_9_method_18_code 117 = .ok (.aload_n 0, 1) := by decide +kernel
theorem d_Md_clock_118 : decode prog_9_method_18_code 118 = .ok (.iload_n 1, 1) := by decide +kernel
theorem d_Md_clock_119 : decode prog_9_method_18_code 119 = .ok (.iload_n 2, 1) := by decide +kernel
theorem d_Md_clock_120 : decode prog_9_method_18_code 120 = .ok (.invokevirtual 153, 3) := by decide +kernel
theorem d_Md_clock_123 : decode prog_9_method_18_code 123 = .ok (.istore_n 3, 1) := by decide +kernel
theorem d_Md_clock_124 : decode prog_9_method_18_code 124 = .ok (.aload_n 0, 1) := by decide +kernel
theorem d_Md_clock_125 : decode prog_9_method_18_code 125 = .ok (.getfield 19, 3) := by decide +kernel
theorem d_Md_clock_128 : decode prog_9_method_18_code 128 = .ok (.iload_n 3, 1) := by decide +kernel
theorem d_Md_clock_129 : decode prog_9_method_18_code 129 = .ok (.dup2, 1) := by decide +kernel
theorem d_Md_clock_130 : decode prog_9_method_18_code 130 = .ok (.iaload, 1) := by decide +kernel
theorem d_Md_clock_131 : decode prog_9_method_18_code 131 = .ok (.iconst 1, 1) := by decide +kernel
theorem d_Md_clock_132 : decode prog_9_method_18_code 132 = .ok (.iadd, 1) := by decide +kernel
theorem d_Md_clock_133 : decode prog_9_method_18_code 133 = .ok (.iastore, 1) := by decide +kernel
theorem d_Md_clock_134 : decode prog_9_method_18_code 134 = .ok (.aload_n 0, 1) := by decide +kernel
theorem d_Md_clock_135 : decode prog_9_method_18_code 135 = .ok (.aload_n 0, 1) := by decide +kernel
theorem d_Md_clock_136 : decode prog_9_method_18_code 136 = .ok (.getfield 103, 3) := by decide +kernel
theorem d_Md_clock_139 : decode prog_9_method_18_code 139 = .ok (.iconst 1, 1) := by decide +kernel
theorem d_Md_clock_140 : decode prog_9_method_18_code 140 = .ok (.iadd, 1) := by decide +kernel
theorem d_Md_clock_141 : decode prog_9_method_18_code 141 = .ok (.sipush 640, 3) := by decide +kernel
theorem d_Md_clock_144 : decode prog_9_method_18_code 144 = .ok (.irem, 1) := by decide +kernel
theorem d_Md_clock_145 : decode prog_9_method_18_code 145 = .ok (.putfield 103, 3) := by decide +kernel
theorem d_Md_clock_148 : decode prog_9_method_18_code 148 = .ok (.iload_n 3, 1) := by decide +kernel
theorem d_Md_clock_149 : decode prog_9_method_18_code 149 = .ok (.ireturn, 1) := by decide +kernel
theorem yd_Md_clock : y_Md_clock.cls ≠ "java/lang/invoke/MethodHandle" ∧ y_Md_clock.cls ≠ "java/lang/invoke/VarHandle" ∧ (parseMethodDescriptor y_Md_clock.desc).map (fun d => d.parameters.length) = some 0 := by decide +kernel
def w_Md_run : List Cond := Cond.code y_Md_run prog_9_method_19_code 4 (some .int) :: TB
def rm_Md_run : Room := { frames := 5, cells := 0, slots := 0, locals := 120 }
theorem d_Md_run_0 : decode prog_9_method_19_code 0 = .ok (.iload_n 1, 1) := by decide +kernel
theorem d_Md_run_1 : decode prog_9_method_19_code 1 = .ok (.iconst 1, 1) := by decide +kernel
theorem d_Md_run_2 : decode prog_9_method_19_code 2 = .ok (.sipush 700, 3) := by decide +kernel
theorem d_Md_run_5 : decode prog_9_method_19_code 5 = .ok (.invokestatic 156, 3) := by decide +kernel
theorem d_Md_run_8 : decode prog_9_method_19_code 8 = .ok (.ifCond .eq 5, 3) := by decide +kernel
theorem d_Md_run_11 : decode prog_9_method_19_code 11 = .ok (.iconst (-1), 1) := by decide +kernel
theorem d_Md_run_12 : decode prog_9_method_19_code 12 = .ok (.ireturn, 1) := by decide +kernel
theorem d_Md_run_13 : decode prog_9_method_19_code 13 = .ok (.iconst 0, 1) := by decide +kernel
theorem d_Md_run_14 : decode prog_9_method_19_code 14 = .ok (.istore_n 2, 1) := by decide +kernel
theorem d_Md_run_15 : decode prog_9_method_19_code 15 = .ok (.iconst 0, 1) := by decide +kernel
theorem d_Md_run_16 : decode prog_9_method_19_code 16 = .ok (.istore_n 3, 1) := by decide +kernel
theorem d_Md_run_17 : decode prog_9_method_19_code 17 = .ok (.iload_n 3, 1) := by decide +kernel
theorem d_Md_run_18 : decode prog_9_method_19_code 18 = .ok (.iload_n 1, 1) := by decide +kernel
theorem d_Md_run_19 : decode prog_9_method_19_code 19 = .ok (.if_icmp .ge 24, 3) := by decide +kernel
theorem d_Md_run_22 : decode prog_9_method_19_code 22 = .ok (.iload_n 2, 1) := by decide +kernel
theorem d_Md_run_23 : decode prog_9_method_19_code 23 = .ok (.aload_n 0, 1) := by decide +kernel
theorem d_Md_run_24 : decode prog_9_method_19_code 24 = .ok (.invokevirtual 160, 3) := by decide +kernel
theorem d_Md_run_27 : decode prog_9_method_19_code 27 = .ok (.ifCond .ne 7, 3) := by decide +kernel
theorem d_Md_run_30 : decode prog_9_method_19_code 30 = .ok (.iconst 1, 1) := by decide +kernel
theorem d_Md_run_31 : decode prog_9_method_19_code 31 = .ok (.goto 4, 3) := by decide +kernel
theorem d_Md_run_34 : decode prog_9_method_19_code 34 = .ok (.iconst 0, 1) := by decide +kernel
theorem d_Md_run_35 : decode prog_9_method_19_code 35 = .ok (.iadd, 1) := by decide +kernel
theorem d_Md_run_36 : decode prog_9_method_19_code 36 = .ok (.istore_n 2, 1) := by decide +kernel
theorem d_Md_run_37 : decode prog_9_method_19_code 37 = .ok (.iinc 3 1, 3) := by decide +kernel
theorem d_Md_run_40 : decode prog_9_method_19_code 40 = .ok (.goto (-23), 3) := by decide +kernel
theorem d_Md_run_43 : decode prog_9_method_19_code 43 = .ok (.iload_n 2, 1) := by decide +kernel
theorem d_Md_run_44 : decode prog_9_method_19_code 44 = .ok (.ireturn, 1) := by decide +kernel
theorem yd_Md_run : y_Md_run.cls ≠ "java/lang/invoke/MethodHandle" ∧ y_Md_run.cls ≠ "java/lang/invoke/VarHandle" ∧ (parseMethodDescriptor y_Md_run.desc).map (fun d => d.parameters.length) = some 1 := by decide +kernel
def w_Md_access : List Cond := Cond.code y_Md_access prog_9_method_20_code 4 (some .boolean) :: TB
def rm_Md_access : Room := { frames := 1, cells := 0, slots := 0, locals := 22 }
theorem d_Md_access_0 : decode prog_9_method_20_code 0 = .ok (.aload_n 0, 1) := by decide +kernel
theorem d_Md_access_1 : decode prog_9_method_20_code 1 = .ok (.getfield 119, 3) := by decide +kernel
theorem d_Md_access_4 : decode prog_9_method_20_code 4 = .ok (.bipush 8, 2) := by decide +kernel
theorem d_Md_access_6 : decode prog_9_method_20_code 6 = .ok (.if_icmp .eq 33, 3) := by decide +kernel
theorem d_Md_access_9 : decode prog_9_method_20_code 9 = .ok (.iload_n 1, 1) := by decide +kernel
theorem d_Md_access_10 : decode prog_9_method_20_code 10 = .ok (.iconst 0, 1) := by decide +kernel
theorem d_Md_access_11 : decode prog_9_method_20_code 11 = .ok (.iconst 2, 1) := by decide +kernel
theorem d_Md_access_12 : decode prog_9_method_20_code 12 = .ok (.invokestatic 156, 3) := by decide +kernel
theorem d_Md_access_15 : decode prog_9_method_20_code 15 = .ok (.ifCond .ne 24, 3) := by decide +kernel
theorem d_Md_access_18 : decode prog_9_method_20_code 18 = .ok (.iload_n 2, 1) := by decide +kernel
theorem d_Md_access_19 : decode prog_9_method_20_code 19 = .ok (.iconst 0, 1) := by decide +kernel
theorem d_Md_access_20 : decode prog_9_method_20_code 20 = .ok (.iload_n 1, 1) := by decide +kernel
theorem d_Md_access_21 : decode prog_9_method_20_code 21 = .ok (.iconst 2, 1) := by decide +kernel
theorem d_Md_access_22 : decode prog_9_method_20_code 22 = .ok (.if_icmp .ne 8, 3) := by decide +kernel
theorem d_Md_access_25 : decode prog_9_method_20_code 25 = .ok (.bipush 31, 2) := by decide +kernel
theorem d_Md_access_27 : decode prog_9_method_20_code 27 = .ok (.goto 6, 3) := by decide +kernel
theorem d_Md_access_30 : decode prog_9_method_20_code 30 = .ok (.sipush 255, 3) := by decide +kernel
theorem d_Md_access_33 : decode prog_9_method_20_code 33 = .ok (.invokestatic 156, 3) := by decide +kernel
theorem d_Md_access_36 : decode prog_9_method_20_code 36 = .ok (.ifCond .eq 5, 3) := by decide +kernel
theorem d_Md_access_39 : decode prog_9_method_20_code 39 = .ok (.iconst 0, 1) := by decide +kernel
theorem d_Md_access_40 : decode prog_9_method_20_code 40 = .ok (.ireturn, 1) := by decide +kernel
theorem d_Md_access_41 : decode prog_9_method_20_code 41 = .ok (.aload_n 0, 1) := by decide +kernel
theorem d_Md_access_42 : decode prog_9_method_20_code 42 = .ok (.getfield 34, 3) := by decide +kernel
theorem d_Md_access_45 : decode prog_9_method_20_code 45 = .ok (.iconst 3, 1) := by decide +kernel
theorem d_Md_access_46 : decode prog_9_method_20_code 46 = .ok (.aload_n 0, 1) := by decide +kernel
theorem d_Md_access_47 : decode prog_9_method_20_code 47 = .ok (.getfield 119, 3) := by decide +kernel
theorem d_Md_access_50 : decode prog_9_method_20_code 50 = .ok (.imul, 1) := by decide +kernel
theorem d_Md_access_51 : decode prog_9_method_20_code 51 = .ok (.iload_n 1, 1) := by decide +kernel
theorem d_Md_access_52 : decode prog_9_method_20_code 52 = .ok (.iastore, 1) := by decide +kernel
theorem d_Md_access_53 : decode prog_9_method_20_code 53 = .ok (.aload_n 0, 1) := by decide +kernel
theorem d_Md_access_54 : decode prog_9_method_20_code 54 = .ok (.getfield 34, 3) := by decide +kernel
theorem d_Md_access_57 : decode prog_9_method_20_code 57 = .ok (.iconst 3, 1) := by decide +kernel
theorem d_Md_access_58 : decode prog_9_method_20_code 58 = .ok (.aload_n 0, 1) := by decide +kernel
theorem d_Md_access_59 : decode prog_9_method_20_code 59 = .ok (.getfield 119, 3) := by decide +kernel
theorem d_Md_access_62 : decode prog_9_method_20_code 62 = .ok (.imul, 1) := by decide +kernel
theorem d_Md_access_63 : decode prog_9_method_20_code 63 = .ok (.iconst 1, 1) := by decide +kernel
theorem d_Md_access_64 : decode prog_9_method_20_code 64 = .ok (.iadd, 1) := by decide +kernel
theorem d_Md_access_65 : decode prog_9_method_20_code 65 = .ok (.iload_n 2, 1) := by decide +kernel
theorem d_Md_access_66 : decode prog_9_method_20_code 66 = .ok (.iastore, 1) := by decide +kernel
theorem d_Md_access_67 : decode prog_9_method_20_code 67 = .ok (.aload_n 0, 1) := by decide +kernel
theorem d_Md_access_68 : decode prog_9_method_20_code 68 = .ok (.getfield 34, 3) := by decide +kernel
theorem d_Md_access_71 : decode prog_9_method_20_code 71 = .ok (.iconst 3, 1) := by decide +kernel
theorem d_Md_access_72 : decode prog_9_method_20_code 72 = .ok (.aload_n 0, 1) := by decide +kernel
theorem d_Md_access_73 : decode prog_9_method_20_code 73 = .ok (.getfield 119, 3) := by decide +kernel
theorem d_Md_access_76 : decode prog_9_method_20_code 76 = .ok (.imul, 1) := by decide +kernel
theorem d_Md_access_77 : decode prog_9_method_20_code 77 = .ok (.iconst 2, 1) := by decide +kernel
theorem d_Md_access_78 : decode prog_9_method_20_code 78 = .ok (.iadd, 1) := by decide +kernel
theorem d_Md_access_79 : decode prog_9_method_20_code 79 = .ok (.iload_n 3, 1) := by decide +kernel
theorem d_Md_access_80 : decode prog_9_method_20_code 80 = .ok (.ldc 88, 2) := by decide +kernel
theorem d_Md_access_82 : decode prog_9_method_20_code 82 = .ok (.iand, 1) := by decide +kernel
theorem d_Md_access_83 : decode prog_9_method_20_code 83 = .ok (.iastore, 1) := by decide +kernel
theorem d_Md_access_84 : decode prog_9_method_20_code 84 = .ok (.aload_n 0, 1) := by decide +kernel
theorem d_Md_access_85 : decode prog_9_method_20_code 85 = .ok (.dup, 1) := by decide +kernel
theorem d_Md_access_86 : decode prog_9_method_20_code 86 = .ok (.getfield 119, 3) := by decide +kernel
theorem d_Md_access_89 : decode prog_9_method_20_code 89 = .ok (.iconst 1, 1) := by decide +kernel
theorem d_Md_access_90 : decode prog_9_method_20_code 90 = .ok (.iadd, 1) := by decide +kernel
theorem d_Md_access_91 : decode prog_9_method_20_code 91 = .ok (.putfield 119, 3) := by decide +kernel
theorem d_Md_access_94 : decode prog_9_method_20_code 94 = .ok (.iconst 1, 1) := by decide +kernel
theorem d_Md_access_95 : decode prog_9_method_20_code 95 = .ok (.ireturn, 1) := by decide +kernel
theorem yd_Md_access : y_Md_access.cls ≠ "java/lang/invoke/MethodHandle" ∧ y_Md_access.cls ≠ "java/lang/invoke/VarHandle" ∧ (parseMethodDescriptor y_Md_access.desc).map (fun d => d.parameters.length) = some 3 := by decide +kernel
def w_Md_set : List Cond := Cond.code y_Md_set prog_9_method_21_code 3 (some .boolean) :: TB
def rm_Md_set : Room := { frames := 1, cells := 0, slots := 0, locals := 22 }
theorem d_Md_set_0 : decode prog_9_method_21_code 0 = .ok (.iload_n 1, 1) := by decide +kernel
theorem d_Md_set_1 : decode prog_9_method_21_code 1 = .ok (.iconst 0, 1) := by decide +kernel
theorem d_Md_set_2 : decode prog_9_method_21_code 2 = .ok (.sipush 255, 3) := by decide +kernel
theorem d_Md_set_5 : decode prog_9_method_21_code 5 = .ok (.invokestatic 156, 3) := by decide +kernel
theorem d_Md_set_8 : decode prog_9_method_21_code 8 = .ok (.ifCond .eq 5, 3) := by decide +kernel
theorem d_Md_set_11 : decode prog_9_method_21_code 11 = .ok (.iconst 0, 1) := by decide +kernel
theorem d_Md_set_12 : decode prog_9_method_21_code 12 = .ok (.ireturn, 1) := by decide +kernel
theorem d_Md_set_13 : decode prog_9_method_21_code 13 = .ok (.aload_n 0, 1) := by decide +kernel
theorem d_Md_set_14 : decode prog_9_method_21_code 14 = .ok (.getfield 7, 3) := by decide +kernel
theorem d_Md_set_17 : decode prog_9_method_21_code 17 = .ok (.iload_n 1, 1) := by decide +kernel
theorem d_Md_set_18 : decode prog_9_method_21_code 18 = .ok (.iload_n 2, 1) := by decide +kernel
theorem d_Md_set_19 : decode prog_9_method_21_code 19 = .ok (.ldc 88, 2) := by decide +kernel
theorem d_Md_set_21 : decode prog_9_method_21_code 21 = .ok (.iand, 1) := by decide +kernel
theorem d_Md_set_22 : decode prog_9_method_21_code 22 = .ok (.iastore, 1) := by decide +kernel
theorem d_Md_set_23 : decode prog_9_method_21_code 23 = .ok (.iconst 1, 1) := by decide +kernel
theorem d_Md_set_24 : decode prog_9_method_21_code 24 = .ok (.ireturn, 1) := by decide +kernel
theorem yd_Md_set : y_Md_set.cls ≠ "java/lang/invoke/MethodHandle" ∧ y_Md_set.cls ≠ "java/lang/invoke/VarHandle" ∧ (parseMethodDescriptor y_Md_set.desc).map (fun d => d.parameters.length) = some 2 := by decide +kernel
def w_Md_word : List Cond := Cond.code y_Md_word prog_9_method_22_code 2 (some .int) :: TB
def rm_Md_word : Room := { frames := 1, cells := 0, slots := 0, locals := 22 }
theorem d_Md_word_0 : decode prog_9_method_22_code 0 = .ok (.iload_n 1, 1) := by decide +kernel
theorem d_Md_word_1 : decode prog_9_method_22_code 1 = .ok (.iconst 0, 1) := by decide +kernel
theorem d_Md_word_2 : decode prog_9_method_22_code 2 = .ok (.sipush 255, 3) := by decide +kernel
theorem d_Md_word_5 : decode prog_9_method_22_code 5 = .ok (.invokestatic 156, 3) := by decide +kernel
theorem d_Md_word_8 : decode prog_9_method_22_code 8 = .ok (.ifCond .eq 7, 3) := by decide +kernel
theorem d_Md_word_11 : decode prog_9_method_22_code 11 = .ok (.iconst (-1), 1) := by decide +kernel
theorem d_Md_word_12 : decode prog_9_method_22_code 12 = .ok (.goto 9, 3) := by decide +kernel
theorem d_Md_word_15 : decode prog_9_method_22_code 15 = .ok (.aload_n 0, 1) := by decide +kernel
theorem d_Md_word_16 : decode prog_9_method_22_code 16 = .ok (.getfield 7, 3) := by decide +kernel
theorem d_Md_word_19 : decode prog_9_method_22_code 19 = .ok (.iload_n 1, 1) := by decide +kernel
theorem d_Md_word_20 : decode prog_9_method_22_code 20 = .ok (.iaload, 1) := by decide +kernel
theorem d_Md_word_21 : decode prog_9_method_22_code 21 = .ok (.ireturn, 1) := by decide +kernel
theorem yd_Md_word : y_Md_word.cls ≠ "java/lang/invoke/MethodHandle" ∧ y_Md_word.cls ≠ "java/lang/invoke/VarHandle" ∧ (parseMethodDescriptor y_Md_word.desc).map (fun d => d.parameters.length) = some 1 := by decide +kernel
def w_Md_point : List Cond := Cond.code y_Md_point prog_9_method_23_code 3 (some .int) :: TB
def rm_Md_point : Room := { frames := 1, cells := 0, slots := 0, locals := 22 }
theorem d_Md_point_0 : decode prog_9_method_23_code 0 = .ok (.iload_n 1, 1) := by decide +kernel
theorem d_Md_point_1 : decode prog_9_method_23_code 1 = .ok (.iconst 0, 1) := by decide +kernel
theorem d_Md_point_2 : decode prog_9_method_23_code 2 = .ok (.bipush 31, 2) := by decide +kernel
theorem d_Md_point_4 : decode prog_9_method_23_code 4 = .ok (.invokestatic 156, 3) := by decide +kernel
theorem d_Md_point_7 : decode prog_9_method_23_code 7 = .ok (.ifCond .ne 13, 3) := by decide +kernel
theorem d_Md_point_10 : decode prog_9_method_23_code 10 = .ok (.iload_n 2, 1) := by decide +kernel
theorem d_Md_point_11 : decode prog_9_method_23_code 11 = .ok (.iconst 0, 1) := by decide +kernel
theorem d_Md_point_12 : decode prog_9_method_23_code 12 = .ok (.bipush 11, 2) := by decide +kernel
theorem d_Md_point_14 : decode prog_9_method_23_code 14 = .ok (.invokestatic 156, 3) := by decide +kernel
theorem d_Md_point_17 : decode prog_9_method_23_code 17 = .ok (.ifCond .eq 7, 3) := by decide +kernel
theorem d_Md_point_20 : decode prog_9_method_23_code 20 = .ok (.iconst (-1), 1) := by decide +kernel
theorem d_Md_point_21 : decode prog_9_method_23_code 21 = .ok (.goto 14, 3) := by decide +kernel
theorem d_Md_point_24 : decode prog_9_method_23_code 24 = .ok (.aload_n 0, 1) := by decide +kernel
theorem d_Md_point_25 : decode prog_9_method_23_code 25 = .ok (.getfield 16, 3) := by decide +kernel
theorem d_Md_point_28 : decode prog_9_method_23_code 28 = .ok (.bipush 32, 2) := by decide +kernel
theorem d_Md_point_30 : decode prog_9_method_23_code 30 = .ok (.iload_n 2, 1) := by decide +kernel
theorem d_Md_point_31 : decode prog_9_method_23_code 31 = .ok (.imul, 1) := by decide +kernel
theorem d_Md_point_32 : decode prog_9_method_23_code 32 = .ok (.iload_n 1, 1) := by decide +kernel
theorem d_Md_point_33 : decode prog_9_method_23_code 33 = .ok (.iadd, 1) := by decide +kernel
theorem d_Md_point_34 : decode prog_9_method_23_code 34 = .ok (.iaload, 1) := by decide +kernel
theorem d_Md_point_35 : decode prog_9_method_23_code 35 = .ok (.ireturn, 1) := by decide +kernel
theorem yd_Md_point : y_Md_point.cls ≠ "java/lang/invoke/MethodHandle" ∧ y_Md_point.cls ≠ "java/lang/invoke/VarHandle" ∧ (parseMethodDescriptor y_Md_point.desc).map (fun d => d.parameters.length) = some 2 := by decide +kernel
def w_Md_place : List Cond := Cond.code y_Md_place prog_9_method_24_code 1 (some .int) :: TB
def rm_Md_place : Room := { frames := 0, cells := 0, slots := 0, locals := 0 }
theorem d_Md_place_0 : decode prog_9_method_24_code 0 = .ok (.aload_n 0, 1) := by decide +kernel
theorem d_Md_place_1 : decode prog_9_method_24_code 1 = .ok (.getfield 103, 3) := by decide +kernel
theorem d_Md_place_4 : decode prog_9_method_24_code 4 = .ok (.ireturn, 1) := by decide +kernel
theorem yd_Md_place : y_Md_place.cls ≠ "java/lang/invoke/MethodHandle" ∧ y_Md_place.cls ≠ "java/lang/invoke/VarHandle" ∧ (parseMethodDescriptor y_Md_place.desc).map (fun d => d.parameters.length) = some 0 := by decide +kernel
def w_Md_frames : List Cond := Cond.code y_Md_frames prog_9_method_25_code 1 (some .int) :: TB
def rm_Md_frames : Room := { frames := 0, cells := 0, slots := 0, locals := 0 }
theorem d_Md_frames_0 : decode prog_9_method_25_code 0 = .ok (.aload_n 0, 1) := by decide +kernel
theorem d_Md_frames_1 : decode prog_9_method_25_code 1 = .ok (.getfield 147, 3) := by decide +kernel
theorem d_Md_frames_4 : decode prog_9_method_25_code 4 = .ok (.ireturn, 1) := by decide +kernel
theorem yd_Md_frames : y_Md_frames.cls ≠ "java/lang/invoke/MethodHandle" ∧ y_Md_frames.cls ≠ "java/lang/invoke/VarHandle" ∧ (parseMethodDescriptor y_Md_frames.desc).map (fun d => d.parameters.length) = some 0 := by decide +kernel
def w_Md_slots : List Cond := Cond.code y_Md_slots prog_9_method_26_code 2 (some .int) :: TB
def rm_Md_slots : Room := { frames := 1, cells := 0, slots := 0, locals := 22 }
theorem d_Md_slots_0 : decode prog_9_method_26_code 0 = .ok (.iload_n 1, 1) := by decide +kernel
theorem d_Md_slots_1 : decode prog_9_method_26_code 1 = .ok (.iconst 0, 1) := by decide +kernel
theorem d_Md_slots_2 : decode prog_9_method_26_code 2 = .ok (.iconst 5, 1) := by decide +kernel
theorem d_Md_slots_3 : decode prog_9_method_26_code 3 = .ok (.invokestatic 156, 3) := by decide +kernel
theorem d_Md_slots_6 : decode prog_9_method_26_code 6 = .ok (.ifCond .eq 7, 3) := by decide +kernel
theorem d_Md_slots_9 : decode prog_9_method_26_code 9 = .ok (.iconst (-1), 1) := by decide +kernel
theorem d_Md_slots_10 : decode prog_9_method_26_code 10 = .ok (.goto 9, 3) := by decide +kernel
theorem d_Md_slots_13 : decode prog_9_method_26_code 13 = .ok (.aload_n 0, 1) := by decide +kernel
theorem d_Md_slots_14 : decode prog_9_method_26_code 14 = .ok (.getfield 19, 3) := by decide +kernel
theorem d_Md_slots_17 : decode prog_9_method_26_code 17 = .ok (.iload_n 1, 1) := by decide +kernel
theorem d_Md_slots_18 : decode prog_9_method_26_code 18 = .ok (.iaload, 1) := by decide +kernel
theorem d_Md_slots_19 : decode prog_9_method_26_code 19 = .ok (.ireturn, 1) := by decide +kernel
theorem yd_Md_slots : y_Md_slots.cls ≠ "java/lang/invoke/MethodHandle" ∧ y_Md_slots.cls ≠ "java/lang/invoke/VarHandle" ∧ (parseMethodDescriptor y_Md_slots.desc).map (fun d => d.parameters.length) = some 1 := by decide +kernel
def w_Md_look : List Cond := Cond.code y_Md_look prog_9_method_27_code 2 (some .int) :: TB
def rm_Md_look : Room := { frames := 0, cells := 0, slots := 0, locals := 0 }
theorem d_Md_look_0 : decode prog_9_method_27_code 0 = .ok (.iload_n 1, 1) := by decide +kernel
theorem d_Md_look_1 : decode prog_9_method_27_code 1 = .ok (.tableswitch 128 0 8 #[51, 56, 77, 90, 103, 108, 113, 118, 123], 51) := by decide +kernel
theorem d_Md_look_52 : decode prog_9_method_27_code 52 = .ok (.aload_n 0, 1) := by decide +kernel
theorem d_Md_look_53 : decode prog_9_method_27_code 53 = .ok (.getfield 44, 3) := by decide +kernel
theorem d_Md_look_56 : decode prog_9_method_27_code 56 = .ok (.ireturn, 1) := by decide +kernel
theorem d_Md_look_57 : decode prog_9_method_27_code 57 = .ok (.aload_n 0, 1) := by decide +kernel
theorem d_Md_look_58 : decode prog_9_method_27_code 58 = .ok (.getfield 44, 3) := by decide +kernel
theorem d_Md_look_61 : decode prog_9_method_27_code 61 = .ok (.aload_n 0, 1) := by decide +kernel
theorem d_Md_look_62 : decode prog_9_method_27_code 62 = .ok (.getfield 13, 3) := by decide +kernel
theorem d_Md_look_65 : decode prog_9_method_27_code 65 = .ok (.bipush 26, 2) := by decide +kernel
theorem d_Md_look_67 : decode prog_9_method_27_code 67 = .ok (.iaload, 1) := by decide +kernel
theorem d_Md_look_68 : decode prog_9_method_27_code 68 = .ok (.iand, 1) := by decide +kernel
theorem d_Md_look_69 : decode prog_9_method_27_code 69 = .ok (.ifCond .eq 7, 3) := by decide +kernel
theorem d_Md_look_72 : decode prog_9_method_27_code 72 = .ok (.iconst 1, 1) := by decide +kernel
theorem d_Md_look_73 : decode prog_9_method_27_code 73 = .ok (.goto 4, 3) := by decide +kernel
theorem d_Md_look_76 : decode prog_9_method_27_code 76 = .ok (.iconst 0, 1) := by decide +kernel
theorem d_Md_look_77 : decode prog_9_method_27_code 77 = .ok (.ireturn, 1) := by decide +kernel
theorem d_Md_look_78 : decode prog_9_method_27_code 78 = .ok (.aload_n 0, 1) := by decide +kernel
theorem d_Md_look_79 : decode prog_9_method_27_code 79 = .ok (.getfield 61, 3) := by decide +kernel
theorem d_Md_look_82 : decode prog_9_method_27_code 82 = .ok (.ifCond .eq 7, 3) := by decide +kernel
theorem d_Md_look_85 : decode prog_9_method_27_code 85 = .ok (.iconst 1, 1) := by decide +kernel
theorem d_Md_look_86 : decode prog_9_method_27_code 86 = .ok (.goto 4, 3) := by decide +kernel
theorem d_Md_look_89 : decode prog_9_method_27_code 89 = .ok (.iconst 0, 1) := by decide +kernel
theorem d_Md_look_90 : decode prog_9_method_27_code 90 = .ok (.ireturn, 1) := by decide +kernel
theorem d_Md_look_91 : decode prog_9_method_27_code 91 = .ok (.aload_n 0, 1) := by decide +kernel
theorem d_Md_look_92 : decode prog_9_method_27_code 92 = .ok (.getfield 64, 3) := by decide +kernel
theorem d_Md_look_95 : decode prog_9_method_27_code 95 = .ok (.ifCond .eq 7, 3) := by decide +kernel
theorem d_Md_look_98 : decode prog_9_method_27_code 98 = .ok (.iconst 1, 1) := by decide +kernel
theorem d_Md_look_99 : decode prog_9_method_27_code 99 = .ok (.goto 4, 3) := by decide +kernel
theorem d_Md_look_102 : decode prog_9_method_27_code 102 = .ok (.iconst 0, 1) := by decide +kernel
theorem d_Md_look_103 : decode prog_9_method_27_code 103 = .ok (.ireturn, 1) := by decide +kernel
theorem d_Md_look_104 : decode prog_9_method_27_code 104 = .ok (.aload_n 0, 1) := by decide +kernel
theorem d_Md_look_105 : decode prog_9_method_27_code 105 = .ok (.getfield 119, 3) := by decide +kernel
theorem d_Md_look_108 : decode prog_9_method_27_code 108 = .ok (.ireturn, 1) := by decide +kernel
theorem d_Md_look_109 : decode prog_9_method_27_code 109 = .ok (.aload_n 0, 1) := by decide +kernel
theorem d_Md_look_110 : decode prog_9_method_27_code 110 = .ok (.getfield 122, 3) := by decide +kernel
theorem d_Md_look_113 : decode prog_9_method_27_code 113 = .ok (.ireturn, 1) := by decide +kernel
theorem d_Md_look_114 : decode prog_9_method_27_code 114 = .ok (.aload_n 0, 1) := by decide +kernel
theorem d_Md_look_115 : decode prog_9_method_27_code 115 = .ok (.getfield 125, 3) := by decide +kernel
theorem d_Md_look_118 : decode prog_9_method_27_code 118 = .ok (.ireturn, 1) := by decide +kernel
theorem d_Md_look_119 : decode prog_9_method_27_code 119 = .ok (.aload_n 0, 1) := by decide +kernel
theorem d_Md_look_120 : decode prog_9_method_27_code 120 = .ok (.getfield 48, 3) := by decide +kernel
theorem d_Md_look_123 : decode prog_9_method_27_code 123 = .ok (.ireturn, 1) := by decide +kernel
theorem d_Md_look_124 : decode prog_9_method_27_code 124 = .ok (.aload_n 0, 1) := by decide +kernel
theorem d_Md_look_125 : decode prog_9_method_27_code 125 = .ok (.getfield 51, 3) := by decide +kernel
theorem d_Md_look_128 : decode prog_9_method_27_code 128 = .ok (.ireturn, 1) := by decide +kernel
theorem d_Md_look_129 : decode prog_9_method_27_code 129 = .ok (.iconst (-1), 1) := by decide +kernel
theorem d_Md_look_130 : decode prog_9_method_27_code 130 = .ok (.ireturn, 1) := by decide +kernel
theorem yd_Md_look : y_Md_look.cls ≠ "java/lang/invoke/MethodHandle" ∧ y_Md_look.cls ≠ "java/lang/invoke/VarHandle" ∧ (parseMethodDescriptor y_Md_look.desc).map (fun d => d.parameters.length) = some 1 := by decide +kernel
def w_Md_register : List Cond := Cond.code y_Md_register prog_9_method_28_code 2 (some .int) :: TB
def rm_Md_register : Room := { frames := 1, cells := 0, slots := 0, locals := 22 }
theorem d_Md_register_0 : decode prog_9_method_28_code 0 = .ok (.iload_n 1, 1) := by decide +kernel
theorem d_Md_register_1 : decode prog_9_method_28_code 1 = .ok (.iconst 0, 1) := by decide +kernel
theorem d_Md_register_2 : decode prog_9_method_28_code 2 = .ok (.bipush 27, 2) := by decide +kernel
theorem d_Md_register_4 : decode prog_9_method_28_code 4 = .ok (.invokestatic 156, 3) := by decide +kernel
theorem d_Md_register_7 : decode prog_9_method_28_code 7 = .ok (.ifCond .eq 7, 3) := by decide +kernel
theorem d_Md_register_10 : decode prog_9_method_28_code 10 = .ok (.iconst (-1), 1) := by decide +kernel
theorem d_Md_register_11 : decode prog_9_method_28_code 11 = .ok (.goto 9, 3) := by decide +kernel
theorem d_Md_register_14 : decode prog_9_method_28_code 14 = .ok (.aload_n 0, 1) := by decide +kernel
theorem d_Md_register_15 : decode prog_9_method_28_code 15 = .ok (.getfield 13, 3) := by decide +kernel
theorem d_Md_register_18 : decode prog_9_method_28_code 18 = .ok (.iload_n 1, 1) := by decide +kernel
theorem d_Md_register_19 : decode prog_9_method_28_code 19 = .ok (.iaload, 1) := by decide +kernel
theorem d_Md_register_20 : decode prog_9_method_28_code 20 = .ok (.ireturn, 1) := by decide +kernel
theorem yd_Md_register : y_Md_register.cls ≠ "java/lang/invoke/MethodHandle" ∧ y_Md_register.cls ≠ "java/lang/invoke/VarHandle" ∧ (parseMethodDescriptor y_Md_register.desc).map (fun d => d.parameters.length) = some 1 := by decide +kernel
theorem tb_cd_Md_process : Cond.code y_Md_process prog_9_method_16_code 5 none ∈ TB := tb_in 620 (by decide +kernel) (by decide +kernel)
theorem tb_im_Md_process : Cond.instanceMethod y_Md_process ∈ TB := tb_in 619 (by decide +kernel) (by decide +kernel)
theorem tb_se_Md_process : Cond.selects "SlotBoardModel" y_Md_process y_Md_process ∈ TB := tb_inS 30 (by decide +kernel) (by decide +kernel)
theorem tb_fl_Md_34 : Cond.fieldLink "SlotBoardModel" 34 "SlotBoardModel" "queue" "[I" ∈ TB := tb_in 483 (by decide +kernel) (by decide +kernel)
theorem tb_fl_Md_119 : Cond.fieldLink "SlotBoardModel" 119 "SlotBoardModel" "queued" "I" ∈ TB := tb_in 482 (by decide +kernel) (by decide +kernel)
theorem tb_fl_Md_122 : Cond.fieldLink "SlotBoardModel" 122 "SlotBoardModel" "loaded" "I" ∈ TB := tb_in 484 (by decide +kernel) (by decide +kernel)
theorem tb_fl_Md_125 : Cond.fieldLink "SlotBoardModel" 125 "SlotBoardModel" "loads" "I" ∈ TB := tb_in 485 (by decide +kernel) (by decide +kernel)
theorem tb_cd_Md_give : Cond.code y_Md_give prog_9_method_17_code 6 (some .int) ∈ TB := tb_in 576 (by decide +kernel) (by decide +kernel)
theorem tb_im_Md_give : Cond.instanceMethod y_Md_give ∈ TB := tb_in 575 (by decide +kernel) (by decide +kernel)
theorem tb_se_Md_give : Cond.selects "SlotBoardModel" y_Md_give y_Md_give ∈ TB := tb_inS 19 (by decide +kernel) (by decide +kernel)
theorem tb_ml_Md_128 : Cond.methodLink "SlotBoardModel" 128 y_Md_planeAt ∈ TB := tb_in 577 (by decide +kernel) (by decide +kernel)
theorem tb_ml_Md_135 : Cond.methodLink "SlotBoardModel" 135 y_Md_fetchList ∈ TB := tb_in 585 (by decide +kernel) (by decide +kernel)
theorem tb_ml_Md_132 : Cond.methodLink "SlotBoardModel" 132 y_Md_fetchPlane ∈ TB := tb_in 581 (by decide +kernel) (by decide +kernel)
theorem tb_fl_Md_138 : Cond.fieldLink "SlotBoardModel" 138 "SlotBoardModel" "lost" "I" ∈ TB := tb_in 481 (by decide +kernel) (by decide +kernel)
theorem tb_ml_Md_141 : Cond.methodLink "SlotBoardModel" 141 y_Md_move ∈ TB := tb_in 597 (by decide +kernel) (by decide +kernel)
theorem tb_ml_Md_144 : Cond.methodLink "SlotBoardModel" 144 y_Md_process ∈ TB := tb_in 617 (by decide +kernel) (by decide +kernel)
theorem tb_cd_Md_clock : Cond.code y_Md_clock prog_9_method_18_code 4 (some .int) ∈ TB := tb_in 559 (by decide +kernel) (by decide +kernel)
theorem tb_im_Md_clock : Cond.instanceMethod y_Md_clock ∈ TB := tb_in 558 (by decide +kernel) (by decide +kernel)
theorem tb_se_Md_clock : Cond.selects "SlotBoardModel" y_Md_clock y_Md_clock ∈ TB := tb_inS 15 (by decide +kernel) (by decide +kernel)
theorem tb_fl_Md_147 : Cond.fieldLink "SlotBoardModel" 147 "SlotBoardModel" "frames" "I" ∈ TB := tb_in 459 (by decide +kernel) (by decide +kernel)
theorem tb_ml_Md_150 : Cond.methodLink "SlotBoardModel" 150 y_Md_show ∈ TB := tb_in 568 (by decide +kernel) (by decide +kernel)
theorem tb_ml_Md_153 : Cond.methodLink "SlotBoardModel" 153 y_Md_give ∈ TB := tb_in 573 (by decide +kernel) (by decide +kernel)
theorem tb_fl_Md_19 : Cond.fieldLink "SlotBoardModel" 19 "SlotBoardModel" "owned" "[I" ∈ TB := tb_in 461 (by decide +kernel) (by decide +kernel)
theorem tb_cd_Md_run : Cond.code y_Md_run prog_9_method_19_code 4 (some .int) ∈ TB := tb_in 552 (by decide +kernel) (by decide +kernel)
theorem tb_im_Md_run : Cond.instanceMethod y_Md_run ∈ TB := tb_in 550 (by decide +kernel) (by decide +kernel)
theorem tb_se_Md_run : Cond.selects "SlotBoardModel" y_Md_run y_Md_run ∈ TB := tb_in 551 (by decide +kernel) (by decide +kernel)
theorem tb_ml_Md_156 : Cond.methodLink "SlotBoardModel" 156 y_Md_outside ∈ TB := tb_in 553 (by decide +kernel) (by decide +kernel)
theorem tb_ml_Md_160 : Cond.methodLink "SlotBoardModel" 160 y_Md_clock ∈ TB := tb_in 556 (by decide +kernel) (by decide +kernel)
theorem tb_cd_Md_access : Cond.code y_Md_access prog_9_method_20_code 4 (some .boolean) ∈ TB := tb_in 624 (by decide +kernel) (by decide +kernel)
theorem tb_im_Md_access : Cond.instanceMethod y_Md_access ∈ TB := tb_in 622 (by decide +kernel) (by decide +kernel)
theorem tb_se_Md_access : Cond.selects "SlotBoardModel" y_Md_access y_Md_access ∈ TB := tb_in 623 (by decide +kernel) (by decide +kernel)
theorem tb_cd_Md_set : Cond.code y_Md_set prog_9_method_21_code 3 (some .boolean) ∈ TB := tb_in 628 (by decide +kernel) (by decide +kernel)
theorem tb_im_Md_set : Cond.instanceMethod y_Md_set ∈ TB := tb_in 626 (by decide +kernel) (by decide +kernel)
theorem tb_se_Md_set : Cond.selects "SlotBoardModel" y_Md_set y_Md_set ∈ TB := tb_in 627 (by decide +kernel) (by decide +kernel)
theorem tb_cd_Md_word : Cond.code y_Md_word prog_9_method_22_code 2 (some .int) ∈ TB := tb_in 632 (by decide +kernel) (by decide +kernel)
theorem tb_im_Md_word : Cond.instanceMethod y_Md_word ∈ TB := tb_in 630 (by decide +kernel) (by decide +kernel)
theorem tb_se_Md_word : Cond.selects "SlotBoardModel" y_Md_word y_Md_word ∈ TB := tb_in 631 (by decide +kernel) (by decide +kernel)
theorem tb_cd_Md_point : Cond.code y_Md_point prog_9_method_23_code 3 (some .int) ∈ TB := tb_in 636 (by decide +kernel) (by decide +kernel)
theorem tb_im_Md_point : Cond.instanceMethod y_Md_point ∈ TB := tb_in 634 (by decide +kernel) (by decide +kernel)
theorem tb_se_Md_point : Cond.selects "SlotBoardModel" y_Md_point y_Md_point ∈ TB := tb_in 635 (by decide +kernel) (by decide +kernel)
theorem tb_cd_Md_place : Cond.code y_Md_place prog_9_method_24_code 1 (some .int) ∈ TB := tb_in 640 (by decide +kernel) (by decide +kernel)
theorem tb_im_Md_place : Cond.instanceMethod y_Md_place ∈ TB := tb_in 638 (by decide +kernel) (by decide +kernel)
theorem tb_se_Md_place : Cond.selects "SlotBoardModel" y_Md_place y_Md_place ∈ TB := tb_in 639 (by decide +kernel) (by decide +kernel)
theorem tb_cd_Md_frames : Cond.code y_Md_frames prog_9_method_25_code 1 (some .int) ∈ TB := tb_in 644 (by decide +kernel) (by decide +kernel)
theorem tb_im_Md_frames : Cond.instanceMethod y_Md_frames ∈ TB := tb_in 642 (by decide +kernel) (by decide +kernel)
theorem tb_se_Md_frames : Cond.selects "SlotBoardModel" y_Md_frames y_Md_frames ∈ TB := tb_in 643 (by decide +kernel) (by decide +kernel)
theorem tb_cd_Md_slots : Cond.code y_Md_slots prog_9_method_26_code 2 (some .int) ∈ TB := tb_in 648 (by decide +kernel) (by decide +kernel)
theorem tb_im_Md_slots : Cond.instanceMethod y_Md_slots ∈ TB := tb_in 646 (by decide +kernel) (by decide +kernel)
theorem tb_se_Md_slots : Cond.selects "SlotBoardModel" y_Md_slots y_Md_slots ∈ TB := tb_in 647 (by decide +kernel) (by decide +kernel)
theorem tb_cd_Md_look : Cond.code y_Md_look prog_9_method_27_code 2 (some .int) ∈ TB := tb_in 652 (by decide +kernel) (by decide +kernel)
theorem tb_im_Md_look : Cond.instanceMethod y_Md_look ∈ TB := tb_in 650 (by decide +kernel) (by decide +kernel)
theorem tb_se_Md_look : Cond.selects "SlotBoardModel" y_Md_look y_Md_look ∈ TB := tb_in 651 (by decide +kernel) (by decide +kernel)
theorem tb_cd_Md_register : Cond.code y_Md_register prog_9_method_28_code 2 (some .int) ∈ TB := tb_in 656 (by decide +kernel) (by decide +kernel)
theorem tb_im_Md_register : Cond.instanceMethod y_Md_register ∈ TB := tb_in 654 (by decide +kernel) (by decide +kernel)
theorem tb_se_Md_register : Cond.selects "SlotBoardModel" y_Md_register y_Md_register ∈ TB := tb_in 655 (by decide +kernel) (by decide +kernel)
def f_Md_process_115 (S : SS) (M : MM) (x1 : Int32) (x2 : Int32) (x3 : Int32) (x4 : Int32) : Option RR := some (0, S, M)
def f_Md_process_34_b (rec : SS → MM → Int32 → Int32 → Int32 → Int32 → Option RR) (S : SS) (M : MM) (x1 : Int32) (x2 : Int32) (x3 : Int32) (x4 : Int32) : Option RR := if (3 : Int32) * (S 19) ≤ x4 then if x1 = 0 then if x2 < 0 ∨ 256 ≤ x2.toNatClampNeg then none else f_Md_process_115 S (upM M 0 (upd (M 0) x2.toNatClampNeg x3)) x1 x2 x3 x4 else if x1 = (1 : Int32) then if x2 < 0 ∨ 256 ≤ x2.toNatClampNeg then none else f_Md_process_115 (upd (upd S 20 (M 0 x2.toNatClampNeg)) 21 (((upd S 20 (M 0 x2.toNatClampNeg)) 21) + (1 : Int32))) M x1 x2 x3 x4 else (f_Md_write S M x2 x3).bind (fun q1 => f_Md_process_115 q1.2.1 q1.2.2 x1 x2 x3 x4) else if x4 + (3 : Int32) < 0 ∨ 24 ≤ (x4 + (3 : Int32)).toNatClampNeg then none else if x4 < 0 ∨ 24 ≤ x4.toNatClampNeg then none else rec S (upM M 8 (upd (M 8) x4.toNatClampNeg (M 8 (x4 + (3 : Int32)).toNatClampNeg))) x1 x2 x3 (x4 + (1 : Int32))
def f_Md_process_34 : Nat → SS → MM → Int32 → Int32 → Int32 → Int32 → Option RR
  | 0 => fun _ _ _ _ _ _ => none
  | n + 1 => f_Md_process_34_b (f_Md_process_34 n)
def f_Md_process (S : SS) (M : MM) : Option RR := f_Md_process_34 26 (upd S 19 ((S 19) - (1 : Int32))) M (M 8 0) (M 8 1) (M 8 2) (0 : Int32)
set_option maxHeartbeats 4000000 in
set_option maxRecDepth 100000 in
theorem c_Md_process (l : Launch) (D : va_G) (cA : ClassId) (b : Nat → Nat) (S : SS) (M : MM) (q : RR) (h0 : f_Md_process S M = some q) : Cv l y_Md_process w_Md_process rm_Md_process D vCl [(cA, .int)] (AM b) (ZM b) (wM cA b) [.ref (b 0)] S M q := by
  refine Cv.of (cc := prog_9_method_16_code) (maxL := 5) (by decide) rfl (Nat.le_of_ble_eq_true rfl) ?_
  intro p e s m args below meth c Q hx hb hml hown hts hK hZ ret
  have hown : s.vm.findClass R_Md = some m.cls := hown
  have hts : ∀ w ∈ TB, w.before args s = true := fun w h => hts w (List.mem_cons_of_mem _ h)
  have hZK := ZM_k b
  have k34 := hts _ tb_fl_Md_34
  have k119 := hts _ tb_fl_Md_119
  have k7 := hts _ tb_fl_Md_7
  have k122 := hts _ tb_fl_Md_122
  have k125 := hts _ tb_fl_Md_125
  have b115 : ∀ (S : SS) (M : MM) (x1 : Int32) (x2 : Int32) (x3 : Int32) (x4 : Int32), f_Md_process_115 S M x1 x2 x3 x4 = some q → BK p l e rm_Md_process s m args below meth c Q D vCl (AM b) (wM cA b) 5 115 [(0, .ref (b 0)), (1, .int x1), (2, .int x2), (3, .int x3), (4, .int x4)] [] S M := by
    intro S M x1 x2 x3 x4 h H locs ls hl hP hD hS
    unfold f_Md_process_115 at h
    exact ret _ _ _ _ _ _ _ h hP hD hS d_Md_process_115
  have b34 : ∀ (n : Nat) (S : SS) (M : MM) (x1 : Int32) (x2 : Int32) (x3 : Int32) (x4 : Int32), f_Md_process_34 n S M x1 x2 x3 x4 = some q → BK p l e rm_Md_process s m args below meth c Q D vCl (AM b) (wM cA b) 5 34 [(0, .ref (b 0)), (1, .int x1), (2, .int x2), (3, .int x3), (4, .int x4)] [] S M := by
   intro n
   induction n with
   | zero => intro S M x1 x2 x3 x4 h; cases h
   | succ n hrec =>
    intro S M x1 x2 x3 x4 h H locs ls hl hP hD hS
    have h : f_Md_process_34_b (f_Md_process_34 n) S M x1 x2 x3 x4 = some q := h
    unfold f_Md_process_34_b at h
    refine lv_iload hx hb d_Md_process_34 (lv_at hl 4 rfl) ?_
    refine lv_iconst (v := (3 : Int32)) hx hb d_Md_process_36 (by decide) ?_
    refine lv_aload_n hx hb d_Md_process_37 rfl (lv_at hl 0 rfl) ?_
    refine va_get (D := D) (ci := 7) (v := .int (S 19)) (C := R_Md) (T := T_Md) (N := 31) hx hb hts iMd hown hK hP 0 (wM_at0 _ _ _ _) rfl 27 (by decide) k119 (fun _ h9 => h9) rfl d_Md_process_38 ?_
    refine lv_imul hx hb d_Md_process_41 ?_
    refine lv_icmp_ge (tgt := 67) hx hb d_Md_process_42 (by decide) (fun hc => ?_) (fun hc => ?_)
    · have h := sg_p hc h
      refine lv_iload_n hx hb d_Md_process_67 rfl (lv_at hl 1 rfl) ?_
      refine lv_if_ne (tgt := 81) hx hb d_Md_process_68 (by decide) (fun hc => ?_) (fun hc => ?_)
      · have h := sg_n hc h
        refine lv_iload_n hx hb d_Md_process_81 rfl (lv_at hl 1 rfl) ?_
        refine lv_iconst (v := (1 : Int32)) hx hb d_Md_process_82 (by decide) ?_
        refine lv_icmp_ne (tgt := 109) hx hb d_Md_process_83 (by decide) (fun hc => ?_) (fun hc => ?_)
        · have h := sg_n hc h
          refine lv_aload_n hx hb d_Md_process_109 rfl (lv_at hl 0 rfl) ?_
          refine lv_iload_n hx hb d_Md_process_110 rfl (lv_at hl 2 rfl) ?_
          refine lv_iload_n hx hb d_Md_process_111 rfl (lv_at hl 3 rfl) ?_
          obtain ⟨⟨r1, S1, M1⟩, hc1, h⟩ := sg_b h
          dsimp only at h
          refine cvv (As := [.int x2, .int x3]) (rest := []) ⟨hx, hb, hml, hown, hts⟩ (c_Md_write l D cA b S M x2 x3 _ hc1) ⟨callB_of 2 hts (tb_gi tb_cd_Md_write) rfl rfl rfl (hts _ tb_in_Md) (hts _ tb_ml_Md_96) yd_Md_write ⟨Nat.le_of_ble_eq_true rfl, Nat.le_of_ble_eq_true rfl⟩, hts _ tb_im_Md_write, hts _ tb_se_Md_write⟩ hZK hK hZ hP hD hS 0 (wM_at0 _ _ _ _) rfl rfl hl.1 rfl (Nat.le_of_ble_eq_true rfl) d_Md_process_112 (fun H locs hP hD hS => ?_)
          exact b115 _ _ _ _ _ _ h _ _ _ (lv_sub hl [0, 1, 2, 3, 4] rfl) hP hD hS
        · have h := sg_p hc h
          refine lv_aload_n hx hb d_Md_process_86 rfl (lv_at hl 0 rfl) ?_
          refine lv_aload_n hx hb d_Md_process_87 rfl (lv_at hl 0 rfl) ?_
          refine va_get (D := D) (ci := 7) (v := .ref (b 1)) (C := R_Md) (T := T_Md) (N := 31) hx hb hts iMd hown hK hP 0 (wM_at0 _ _ _ _) rfl 0 (by decide) k7 (fun _ h9 => h9) rfl d_Md_process_88 ?_
          refine lv_iload_n hx hb d_Md_process_91 rfl (lv_at hl 2 rfl) ?_
          obtain ⟨hg2, h⟩ := sg_g h
          refine va_iald hx hb hK hP 1 0 (wM_at1 _ _ _ _) rfl hg2 d_Md_process_92 ?_
          refine puwM_20 (D := D) (x := M 0 x2.toNatClampNeg) hx hb hts iMd hown hK hP hD hS k122 rfl rfl d_Md_process_93 (fun H locs hP hD hS => ?_)
          refine lv_aload_n hx hb d_Md_process_96 rfl (lv_at hl 0 rfl) ?_
          refine lv_dup hx hb d_Md_process_97 rfl ?_
          refine va_get (D := D) (ci := 7) (v := .int ((upd S 20 (M 0 x2.toNatClampNeg)) 21)) (C := R_Md) (T := T_Md) (N := 31) hx hb hts iMd hown hK hP 0 (wM_at0 _ _ _ _) rfl 30 (by decide) k125 (fun _ h9 => h9) rfl d_Md_process_98 ?_
          refine lv_iconst (v := (1 : Int32)) hx hb d_Md_process_101 (by decide) ?_
          refine lv_iadd hx hb d_Md_process_102 ?_
          refine puwM_21 (D := D) (x := ((upd S 20 (M 0 x2.toNatClampNeg)) 21) + (1 : Int32)) hx hb hts iMd hown hK hP hD hS k125 rfl rfl d_Md_process_103 (fun H locs hP hD hS => ?_)
          refine lv_goto (tgt := 115) hx hb d_Md_process_106 (by decide) ?_
          exact b115 _ _ _ _ _ _ h _ _ _ (lv_sub hl [0, 1, 2, 3, 4] rfl) hP hD hS
      · have h := sg_p hc h
        refine lv_aload_n hx hb d_Md_process_71 rfl (lv_at hl 0 rfl) ?_
        refine va_get (D := D) (ci := 7) (v := .ref (b 1)) (C := R_Md) (T := T_Md) (N := 31) hx hb hts iMd hown hK hP 0 (wM_at0 _ _ _ _) rfl 0 (by decide) k7 (fun _ h9 => h9) rfl d_Md_process_72 ?_
        refine lv_iload_n hx hb d_Md_process_75 rfl (lv_at hl 2 rfl) ?_
        refine lv_iload_n hx hb d_Md_process_76 rfl (lv_at hl 3 rfl) ?_
        obtain ⟨hg3, h⟩ := sg_g h
        refine va_iast (x := x3) hx hb hK hP hD hS 1 0 (wM_at1 _ _ _ _) rfl hg3 d_Md_process_77 (fun H locs hP hD hS => ?_)
        have hP := wM_set1 hP
        have hD := wM_dset1 hD
        refine lv_goto (tgt := 115) hx hb d_Md_process_78 (by decide) ?_
        exact b115 _ _ _ _ _ _ h _ _ _ (lv_sub hl [0, 1, 2, 3, 4] rfl) hP hD hS
    · have h := sg_n hc h
      refine lv_aload_n hx hb d_Md_process_45 rfl (lv_at hl 0 rfl) ?_
      refine va_get (D := D) (ci := 7) (v := .ref (b 9)) (C := R_Md) (T := T_Md) (N := 31) hx hb hts iMd hown hK hP 0 (wM_at0 _ _ _ _) rfl 28 (by decide) k34 (fun _ h9 => h9) rfl d_Md_process_46 ?_
      refine lv_iload hx hb d_Md_process_49 (lv_at hl 4 rfl) ?_
      refine lv_aload_n hx hb d_Md_process_51 rfl (lv_at hl 0 rfl) ?_
      refine va_get (D := D) (ci := 7) (v := .ref (b 9)) (C := R_Md) (T := T_Md) (N := 31) hx hb hts iMd hown hK hP 0 (wM_at0 _ _ _ _) rfl 28 (by decide) k34 (fun _ h9 => h9) rfl d_Md_process_52 ?_
      refine lv_iload hx hb d_Md_process_55 (lv_at hl 4 rfl) ?_
      refine lv_iconst (v := (3 : Int32)) hx hb d_Md_process_57 (by decide) ?_
      refine lv_iadd hx hb d_Md_process_58 ?_
      obtain ⟨hg4, h⟩ := sg_g h
      refine va_iald hx hb hK hP 9 0 (wM_at9 _ _ _ _) rfl hg4 d_Md_process_59 ?_
      obtain ⟨hg5, h⟩ := sg_g h
      refine va_iast (x := M 8 (x4 + (3 : Int32)).toNatClampNeg) hx hb hK hP hD hS 9 0 (wM_at9 _ _ _ _) rfl hg5 d_Md_process_60 (fun H locs hP hD hS => ?_)
      have hP := wM_set9 hP
      have hD := wM_dset9 hD
      refine lv_iinc (k := 4) (v := x4 + (1 : Int32)) (lv' := [(4, .int (x4 + (1 : Int32))), (0, .ref (b 0)), (1, .int x1), (2, .int x2), (3, .int x3)]) hx hb d_Md_process_61 hl rfl rfl (by decide) rfl (fun ls hl => ?_)
      refine lv_goto (tgt := 34) hx hb d_Md_process_64 (by decide) ?_
      exact hrec _ _ _ _ _ _ h _ _ _ (lv_sub hl [1, 2, 3, 4, 0] rfl) hP hD hS
  intro H locs ls hl hP hD hS
  have hl : lv_has ls 5 [(0, .ref (b 0))] := hl
  have h := h0
  unfold f_Md_process at h
  refine lv_aload_n hx hb d_Md_process_0 rfl (lv_at hl 0 rfl) ?_
  refine va_get (D := D) (ci := 7) (v := .ref (b 9)) (C := R_Md) (T := T_Md) (N := 31) hx hb hts iMd hown hK hP 0 (wM_at0 _ _ _ _) rfl 28 (by decide) k34 (fun _ h9 => h9) rfl d_Md_process_1 ?_
  refine lv_iconst (v := (0 : Int32)) hx hb d_Md_process_4 (by decide) ?_
  refine ialdK hx hb hK hP 9 0 (wM_at9 _ _ _ _) rfl 0 (by decide) (by unfold vp_in; decide) d_Md_process_5 ?_
  refine lv_istore_n (lv' := [(1, .int (M 8 0)), (0, .ref (b 0))]) hx hb d_Md_process_6 rfl hl (by decide) rfl (fun ls hl => ?_)
  refine lv_aload_n hx hb d_Md_process_7 rfl (lv_at hl 1 rfl) ?_
  refine va_get (D := D) (ci := 7) (v := .ref (b 9)) (C := R_Md) (T := T_Md) (N := 31) hx hb hts iMd hown hK hP 0 (wM_at0 _ _ _ _) rfl 28 (by decide) k34 (fun _ h9 => h9) rfl d_Md_process_8 ?_
  refine lv_iconst (v := (1 : Int32)) hx hb d_Md_process_11 (by decide) ?_
  refine ialdK hx hb hK hP 9 0 (wM_at9 _ _ _ _) rfl 1 (by decide) (by unfold vp_in; decide) d_Md_process_12 ?_
  refine lv_istore_n (lv' := [(2, .int (M 8 1)), (1, .int (M 8 0)), (0, .ref (b 0))]) hx hb d_Md_process_13 rfl hl (by decide) rfl (fun ls hl => ?_)
  refine lv_aload_n hx hb d_Md_process_14 rfl (lv_at hl 2 rfl) ?_
  refine va_get (D := D) (ci := 7) (v := .ref (b 9)) (C := R_Md) (T := T_Md) (N := 31) hx hb hts iMd hown hK hP 0 (wM_at0 _ _ _ _) rfl 28 (by decide) k34 (fun _ h9 => h9) rfl d_Md_process_15 ?_
  refine lv_iconst (v := (2 : Int32)) hx hb d_Md_process_18 (by decide) ?_
  refine ialdK hx hb hK hP 9 0 (wM_at9 _ _ _ _) rfl 2 (by decide) (by unfold vp_in; decide) d_Md_process_19 ?_
  refine lv_istore_n (lv' := [(3, .int (M 8 2)), (2, .int (M 8 1)), (1, .int (M 8 0)), (0, .ref (b 0))]) hx hb d_Md_process_20 rfl hl (by decide) rfl (fun ls hl => ?_)
  refine lv_aload_n hx hb d_Md_process_21 rfl (lv_at hl 3 rfl) ?_
  refine lv_dup hx hb d_Md_process_22 rfl ?_
  refine va_get (D := D) (ci := 7) (v := .int (S 19)) (C := R_Md) (T := T_Md) (N := 31) hx hb hts iMd hown hK hP 0 (wM_at0 _ _ _ _) rfl 27 (by decide) k119 (fun _ h9 => h9) rfl d_Md_process_23 ?_
  refine lv_iconst (v := (1 : Int32)) hx hb d_Md_process_26 (by decide) ?_
  refine lv_isub hx hb d_Md_process_27 ?_
  refine puwM_19 (D := D) (x := (S 19) - (1 : Int32)) hx hb hts iMd hown hK hP hD hS k119 rfl rfl d_Md_process_28 (fun H locs hP hD hS => ?_)
  refine lv_iconst (v := (0 : Int32)) hx hb d_Md_process_31 (by decide) ?_
  refine lv_istore (lv' := [(4, .int (0 : Int32)), (3, .int (M 8 2)), (2, .int (M 8 1)), (1, .int (M 8 0)), (0, .ref (b 0))]) hx hb d_Md_process_32 hl (by decide) rfl (fun ls hl => ?_)
  exact b34 26 _ _ _ _ _ _ h _ _ _ (lv_sub hl [4, 3, 2, 1, 0] rfl) hP hD hS
def f_Md_give_9 (S : SS) (M : MM) (x1 : Int32) (x2 : Int32) : Option RR := some ((1 : Int32), S, M)
def f_Md_give_136 (S : SS) (M : MM) (x1 : Int32) (x2 : Int32) (x3 : Int32) (x4 : Int32) (x5 : Int32) (y1 : Int32) : Option RR := (f_Md_move (upd S 18 y1) M).bind (fun q1 => some ((4 : Int32), q1.2.1, q1.2.2))
def f_Md_give_120 (S : SS) (M : MM) (x1 : Int32) (x2 : Int32) (x3 : Int32) (x4 : Int32) (x5 : Int32) : Option RR := if x5 = 0 then f_Md_give_136 S M x1 x2 x3 x4 x5 (0 : Int32) else f_Md_give_136 S M x1 x2 x3 x4 x5 ((S 18) + (1 : Int32))
def f_Md_give_145 (S : SS) (M : MM) (x1 : Int32) (x2 : Int32) (x3 : Int32) (x4 : Int32) (x5 : Int32) : Option RR := if x5 = 0 then some ((0 : Int32), S, M) else (f_Md_process (upd S 18 (0 : Int32)) M).bind (fun q2 => some ((5 : Int32), q2.2.1, q2.2.2))
def f_Md_give_92 (S : SS) (M : MM) (x1 : Int32) (x2 : Int32) (x3 : Int32) (x4 : Int32) (y0 : Int32) : Option RR := if x4 = 0 then f_Md_give_145 S M x1 x2 x3 x4 y0 else if y0 = 0 then f_Md_give_120 S M x1 x2 x3 x4 y0 else (f_Md_control S M (3 : Int32)).bind (fun q3 => if q3.1 = 0 then if (3 : Int32) ≤ q3.2.1 18 then f_Md_give_145 q3.2.1 q3.2.2 x1 x2 x3 x4 y0 else f_Md_give_120 q3.2.1 q3.2.2 x1 x2 x3 x4 y0 else f_Md_give_120 q3.2.1 q3.2.2 x1 x2 x3 x4 y0)
def f_Md_give_78 (S : SS) (M : MM) (x1 : Int32) (x2 : Int32) (x3 : Int32) (y0 : Int32) : Option RR := if S 19 ≤ 0 then f_Md_give_92 S M x1 x2 x3 y0 (0 : Int32) else f_Md_give_92 S M x1 x2 x3 y0 (1 : Int32)
def f_Md_give_77 (S : SS) (M : MM) (x1 : Int32) (x2 : Int32) (x3 : Int32) : Option RR := f_Md_give_78 S M x1 x2 x3 (0 : Int32)
def f_Md_give_58 (S : SS) (M : MM) (x1 : Int32) (x2 : Int32) (x3 : Int32) : Option RR := if S 9 = 0 then f_Md_give_77 S M x1 x2 x3 else (f_Md_control S M (2 : Int32)).bind (fun q4 => if q4.1 = 0 then f_Md_give_77 q4.2.1 q4.2.2 x1 x2 x3 else f_Md_give_78 q4.2.1 q4.2.2 x1 x2 x3 (1 : Int32))
def f_Md_give (S : SS) (M : MM) (x1 : Int32) (x2 : Int32) : Option RR := if x2 = 0 then f_Md_give_9 S M x1 x2 else if x2 = (2 : Int32) then f_Md_give_9 S M x1 x2 else (f_Md_planeAt S M x1 x2).bind (fun q5 => if q5.1 < 0 then if x2 - x2 / (2 : Int32) * (2 : Int32) = 0 then (f_Md_control q5.2.1 q5.2.2 (1 : Int32)).bind (fun q6 => if q6.1 = 0 then f_Md_give_58 q6.2.1 q6.2.2 x1 x2 q5.1 else if q6.2.1 3 = (1 : Int32) then (f_Md_fetchList q6.2.1 q6.2.2).bind (fun q7 => some ((3 : Int32), q7.2.1, q7.2.2)) else f_Md_give_58 q6.2.1 q6.2.2 x1 x2 q5.1) else f_Md_give_58 q5.2.1 q5.2.2 x1 x2 q5.1 else (f_Md_fetchPlane q5.2.1 q5.2.2 q5.1 x2).bind (fun q8 => some ((2 : Int32), q8.2.1, q8.2.2)))
set_option maxHeartbeats 4000000 in
set_option maxRecDepth 100000 in
theorem c_Md_give (l : Launch) (D : va_G) (cA : ClassId) (b : Nat → Nat) (S : SS) (M : MM) (x1 : Int32) (x2 : Int32) (q : RR) (h0 : f_Md_give S M x1 x2 = some q) : Ci l y_Md_give w_Md_give rm_Md_give D vCl [(cA, .int)] (AM b) (ZM b) (wM cA b) [.ref (b 0), .int x1, .int x2] S M q := by
  refine Ci.of (cc := prog_9_method_17_code) (maxL := 6) (ty := .int) (by decide) rfl (Nat.le_of_ble_eq_true rfl) ?_
  intro p e s m args below meth c Q hx hb hml hown hts hK hZ ret
  have hown : s.vm.findClass R_Md = some m.cls := hown
  have hts : ∀ w ∈ TB, w.before args s = true := fun w h => hts w (List.mem_cons_of_mem _ h)
  have hZK := ZM_k b
  have k48 := hts _ tb_fl_Md_48
  have k61 := hts _ tb_fl_Md_61
  have k119 := hts _ tb_fl_Md_119
  have k138 := hts _ tb_fl_Md_138
  have b9 : ∀ (S : SS) (M : MM) (x1 : Int32) (x2 : Int32), f_Md_give_9 S M x1 x2 = some q → BK p l e rm_Md_give s m args below meth c Q D vCl (AM b) (wM cA b) 6 9 [(0, .ref (b 0)), (1, .int x1), (2, .int x2)] [] S M := by
    intro S M x1 x2 h H locs ls hl hP hD hS
    unfold f_Md_give_9 at h
    refine lv_iconst (v := (1 : Int32)) hx hb d_Md_give_9 (by decide) ?_
    exact ret _ _ _ _ _ _ _ h rfl hP hD hS d_Md_give_10
  have b136 : ∀ (S : SS) (M : MM) (x1 : Int32) (x2 : Int32) (x3 : Int32) (x4 : Int32) (x5 : Int32) (y1 : Int32), f_Md_give_136 S M x1 x2 x3 x4 x5 y1 = some q → BK p l e rm_Md_give s m args below meth c Q D vCl (AM b) (wM cA b) 6 136 [(0, .ref (b 0)), (1, .int x1), (2, .int x2), (3, .int x3), (4, .int x4), (5, .int x5)] [.int y1, .ref (b 0)] S M := by
    intro S M x1 x2 x3 x4 x5 y1 h H locs ls hl hP hD hS
    unfold f_Md_give_136 at h
    refine puwM_18 (D := D) (x := y1) hx hb hts iMd hown hK hP hD hS k138 rfl rfl d_Md_give_136 (fun H locs hP hD hS => ?_)
    refine lv_aload_n hx hb d_Md_give_139 rfl (lv_at hl 0 rfl) ?_
    obtain ⟨⟨r1, S1, M1⟩, hc1, h⟩ := sg_b h
    dsimp only at h
    refine cvv (As := []) (rest := []) ⟨hx, hb, hml, hown, hts⟩ (c_Md_move l D cA b (upd S 18 y1) M _ hc1) ⟨callB_of 0 hts (tb_gi tb_cd_Md_move) rfl rfl rfl (hts _ tb_in_Md) (hts _ tb_ml_Md_141) yd_Md_move ⟨Nat.le_of_ble_eq_true rfl, Nat.le_of_ble_eq_true rfl⟩, hts _ tb_im_Md_move, hts _ tb_se_Md_move⟩ hZK hK hZ hP hD hS 0 (wM_at0 _ _ _ _) rfl rfl hl.1 rfl (Nat.le_of_ble_eq_true rfl) d_Md_give_140 (fun H locs hP hD hS => ?_)
    refine lv_iconst (v := (4 : Int32)) hx hb d_Md_give_143 (by decide) ?_
    exact ret _ _ _ _ _ _ _ h rfl hP hD hS d_Md_give_144
  have b120 : ∀ (S : SS) (M : MM) (x1 : Int32) (x2 : Int32) (x3 : Int32) (x4 : Int32) (x5 : Int32), f_Md_give_120 S M x1 x2 x3 x4 x5 = some q → BK p l e rm_Md_give s m args below meth c Q D vCl (AM b) (wM cA b) 6 120 [(0, .ref (b 0)), (1, .int x1), (2, .int x2), (3, .int x3), (4, .int x4), (5, .int x5)] [] S M := by
    intro S M x1 x2 x3 x4 x5 h H locs ls hl hP hD hS
    unfold f_Md_give_120 at h
    refine lv_aload_n hx hb d_Md_give_120 rfl (lv_at hl 0 rfl) ?_
    refine lv_iload hx hb d_Md_give_121 (lv_at hl 5 rfl) ?_
    refine lv_if_eq (tgt := 135) hx hb d_Md_give_123 (by decide) (fun hc => ?_) (fun hc => ?_)
    · have h := sg_p hc h
      refine lv_iconst (v := (0 : Int32)) hx hb d_Md_give_135 (by decide) ?_
      exact b136 _ _ _ _ _ _ _ _ h _ _ _ (lv_sub hl [0, 1, 2, 3, 4, 5] rfl) hP hD hS
    · have h := sg_n hc h
      refine lv_aload_n hx hb d_Md_give_126 rfl (lv_at hl 0 rfl) ?_
      refine va_get (D := D) (ci := 7) (v := .int (S 18)) (C := R_Md) (T := T_Md) (N := 31) hx hb hts iMd hown hK hP 0 (wM_at0 _ _ _ _) rfl 26 (by decide) k138 (fun _ h9 => h9) rfl d_Md_give_127 ?_
      refine lv_iconst (v := (1 : Int32)) hx hb d_Md_give_130 (by decide) ?_
      refine lv_iadd hx hb d_Md_give_131 ?_
      refine lv_goto (tgt := 136) hx hb d_Md_give_132 (by decide) ?_
      exact b136 _ _ _ _ _ _ _ _ h _ _ _ (lv_sub hl [0, 1, 2, 3, 4, 5] rfl) hP hD hS
  have b145 : ∀ (S : SS) (M : MM) (x1 : Int32) (x2 : Int32) (x3 : Int32) (x4 : Int32) (x5 : Int32), f_Md_give_145 S M x1 x2 x3 x4 x5 = some q → BK p l e rm_Md_give s m args below meth c Q D vCl (AM b) (wM cA b) 6 145 [(0, .ref (b 0)), (1, .int x1), (2, .int x2), (3, .int x3), (4, .int x4), (5, .int x5)] [] S M := by
    intro S M x1 x2 x3 x4 x5 h H locs ls hl hP hD hS
    unfold f_Md_give_145 at h
    refine lv_iload hx hb d_Md_give_145 (lv_at hl 5 rfl) ?_
    refine lv_if_ne (tgt := 152) hx hb d_Md_give_147 (by decide) (fun hc => ?_) (fun hc => ?_)
    · have h := sg_n hc h
      refine lv_aload_n hx hb d_Md_give_152 rfl (lv_at hl 0 rfl) ?_
      refine lv_iconst (v := (0 : Int32)) hx hb d_Md_give_153 (by decide) ?_
      refine puwM_18 (D := D) (x := (0 : Int32)) hx hb hts iMd hown hK hP hD hS k138 rfl rfl d_Md_give_154 (fun H locs hP hD hS => ?_)
      refine lv_aload_n hx hb d_Md_give_157 rfl (lv_at hl 0 rfl) ?_
      obtain ⟨⟨r2, S2, M2⟩, hc2, h⟩ := sg_b h
      dsimp only at h
      refine cvv (As := []) (rest := []) ⟨hx, hb, hml, hown, hts⟩ (c_Md_process l D cA b (upd S 18 (0 : Int32)) M _ hc2) ⟨callB_of 0 hts (tb_gi tb_cd_Md_process) rfl rfl rfl (hts _ tb_in_Md) (hts _ tb_ml_Md_144) yd_Md_process ⟨Nat.le_of_ble_eq_true rfl, Nat.le_of_ble_eq_true rfl⟩, hts _ tb_im_Md_process, hts _ tb_se_Md_process⟩ hZK hK hZ hP hD hS 0 (wM_at0 _ _ _ _) rfl rfl hl.1 rfl (Nat.le_of_ble_eq_true rfl) d_Md_give_158 (fun H locs hP hD hS => ?_)
      refine lv_iconst (v := (5 : Int32)) hx hb d_Md_give_161 (by decide) ?_
      exact ret _ _ _ _ _ _ _ h rfl hP hD hS d_Md_give_162
    · have h := sg_p hc h
      refine lv_iconst (v := (0 : Int32)) hx hb d_Md_give_150 (by decide) ?_
      exact ret _ _ _ _ _ _ _ h rfl hP hD hS d_Md_give_151
  have b92 : ∀ (S : SS) (M : MM) (x1 : Int32) (x2 : Int32) (x3 : Int32) (x4 : Int32) (y0 : Int32), f_Md_give_92 S M x1 x2 x3 x4 y0 = some q → BK p l e rm_Md_give s m args below meth c Q D vCl (AM b) (wM cA b) 6 92 [(0, .ref (b 0)), (1, .int x1), (2, .int x2), (3, .int x3), (4, .int x4)] [.int y0] S M := by
    intro S M x1 x2 x3 x4 y0 h H locs ls hl hP hD hS
    unfold f_Md_give_92 at h
    refine lv_istore (lv' := [(5, .int y0), (0, .ref (b 0)), (1, .int x1), (2, .int x2), (3, .int x3), (4, .int x4)]) hx hb d_Md_give_92 hl (by decide) rfl (fun ls hl => ?_)
    refine lv_iload hx hb d_Md_give_94 (lv_at hl 5 rfl) ?_
    refine lv_if_eq (tgt := 145) hx hb d_Md_give_96 (by decide) (fun hc => ?_) (fun hc => ?_)
    · have h := sg_p hc h
      exact b145 _ _ _ _ _ _ _ h _ _ _ (lv_sub hl [1, 2, 3, 4, 5, 0] rfl) hP hD hS
    · have h := sg_n hc h
      refine lv_iload hx hb d_Md_give_99 (lv_at hl 0 rfl) ?_
      refine lv_if_eq (tgt := 120) hx hb d_Md_give_101 (by decide) (fun hc => ?_) (fun hc => ?_)
      · have h := sg_p hc h
        exact b120 _ _ _ _ _ _ _ h _ _ _ (lv_sub hl [1, 2, 3, 4, 5, 0] rfl) hP hD hS
      · have h := sg_n hc h
        refine lv_aload_n hx hb d_Md_give_104 rfl (lv_at hl 1 rfl) ?_
        refine lv_iconst (v := (3 : Int32)) hx hb d_Md_give_105 (by decide) ?_
        obtain ⟨⟨r3, S3, M3⟩, hc3, h⟩ := sg_b h
        dsimp only at h
        refine cvi (As := [.int (3 : Int32)]) (rest := []) ⟨hx, hb, hml, hown, hts⟩ (c_Md_control l D cA b S M (3 : Int32) _ hc3) ⟨callB_of 1 hts (tb_gi tb_cd_Md_control) rfl rfl rfl (hts _ tb_in_Md) (hts _ tb_ml_Md_89) yd_Md_control ⟨Nat.le_of_ble_eq_true rfl, Nat.le_of_ble_eq_true rfl⟩, hts _ tb_im_Md_control, hts _ tb_se_Md_control⟩ hZK hK hZ hP hD hS 0 (wM_at0 _ _ _ _) rfl rfl hl.1 rfl (Nat.le_of_ble_eq_true rfl) d_Md_give_106 (fun H locs hP hD hS => ?_)
        refine lv_if_ne (tgt := 120) hx hb d_Md_give_109 (by decide) (fun hc => ?_) (fun hc => ?_)
        · have h := sg_n hc h
          exact b120 _ _ _ _ _ _ _ h _ _ _ (lv_sub hl [1, 2, 3, 4, 5, 0] rfl) hP hD hS
        · have h := sg_p hc h
          refine lv_aload_n hx hb d_Md_give_112 rfl (lv_at hl 1 rfl) ?_
          refine va_get (D := D) (ci := 7) (v := .int (S3 18)) (C := R_Md) (T := T_Md) (N := 31) hx hb hts iMd hown hK hP 0 (wM_at0 _ _ _ _) rfl 26 (by decide) k138 (fun _ h9 => h9) rfl d_Md_give_113 ?_
          refine lv_iconst (v := (3 : Int32)) hx hb d_Md_give_116 (by decide) ?_
          refine lv_icmp_ge (tgt := 145) hx hb d_Md_give_117 (by decide) (fun hc => ?_) (fun hc => ?_)
          · have h := sg_p hc h
            exact b145 _ _ _ _ _ _ _ h _ _ _ (lv_sub hl [1, 2, 3, 4, 5, 0] rfl) hP hD hS
          · have h := sg_n hc h
            exact b120 _ _ _ _ _ _ _ h _ _ _ (lv_sub hl [1, 2, 3, 4, 5, 0] rfl) hP hD hS
  have b78 : ∀ (S : SS) (M : MM) (x1 : Int32) (x2 : Int32) (x3 : Int32) (y0 : Int32), f_Md_give_78 S M x1 x2 x3 y0 = some q → BK p l e rm_Md_give s m args below meth c Q D vCl (AM b) (wM cA b) 6 78 [(0, .ref (b 0)), (1, .int x1), (2, .int x2), (3, .int x3)] [.int y0] S M := by
    intro S M x1 x2 x3 y0 h H locs ls hl hP hD hS
    unfold f_Md_give_78 at h
    refine lv_istore (lv' := [(4, .int y0), (0, .ref (b 0)), (1, .int x1), (2, .int x2), (3, .int x3)]) hx hb d_Md_give_78 hl (by decide) rfl (fun ls hl => ?_)
    refine lv_aload_n hx hb d_Md_give_80 rfl (lv_at hl 1 rfl) ?_
    refine va_get (D := D) (ci := 7) (v := .int (S 19)) (C := R_Md) (T := T_Md) (N := 31) hx hb hts iMd hown hK hP 0 (wM_at0 _ _ _ _) rfl 27 (by decide) k119 (fun _ h9 => h9) rfl d_Md_give_81 ?_
    refine lv_if_le (tgt := 91) hx hb d_Md_give_84 (by decide) (fun hc => ?_) (fun hc => ?_)
    · have h := sg_p hc h
      refine lv_iconst (v := (0 : Int32)) hx hb d_Md_give_91 (by decide) ?_
      exact b92 _ _ _ _ _ _ _ h _ _ _ (lv_sub hl [1, 2, 3, 4, 0] rfl) hP hD hS
    · have h := sg_n hc h
      refine lv_iconst (v := (1 : Int32)) hx hb d_Md_give_87 (by decide) ?_
      refine lv_goto (tgt := 92) hx hb d_Md_give_88 (by decide) ?_
      exact b92 _ _ _ _ _ _ _ h _ _ _ (lv_sub hl [1, 2, 3, 4, 0] rfl) hP hD hS
  have b77 : ∀ (S : SS) (M : MM) (x1 : Int32) (x2 : Int32) (x3 : Int32), f_Md_give_77 S M x1 x2 x3 = some q → BK p l e rm_Md_give s m args below meth c Q D vCl (AM b) (wM cA b) 6 77 [(0, .ref (b 0)), (1, .int x1), (2, .int x2), (3, .int x3)] [] S M := by
    intro S M x1 x2 x3 h H locs ls hl hP hD hS
    unfold f_Md_give_77 at h
    refine lv_iconst (v := (0 : Int32)) hx hb d_Md_give_77 (by decide) ?_
    exact b78 _ _ _ _ _ _ h _ _ _ (lv_sub hl [0, 1, 2, 3] rfl) hP hD hS
  have b58 : ∀ (S : SS) (M : MM) (x1 : Int32) (x2 : Int32) (x3 : Int32), f_Md_give_58 S M x1 x2 x3 = some q → BK p l e rm_Md_give s m args below meth c Q D vCl (AM b) (wM cA b) 6 58 [(0, .ref (b 0)), (1, .int x1), (2, .int x2), (3, .int x3)] [] S M := by
    intro S M x1 x2 x3 h H locs ls hl hP hD hS
    unfold f_Md_give_58 at h
    refine lv_aload_n hx hb d_Md_give_58 rfl (lv_at hl 0 rfl) ?_
    refine va_get (D := D) (ci := 7) (v := .int (S 9)) (C := R_Md) (T := T_Md) (N := 31) hx hb hts iMd hown hK hP 0 (wM_at0 _ _ _ _) rfl 16 (by decide) k61 (fun _ h9 => h9) rfl d_Md_give_59 ?_
    refine lv_if_eq (tgt := 77) hx hb d_Md_give_62 (by decide) (fun hc => ?_) (fun hc => ?_)
    · have h := sg_p hc h
      exact b77 _ _ _ _ _ h _ _ _ (lv_sub hl [0, 1, 2, 3] rfl) hP hD hS
    · have h := sg_n hc h
      refine lv_aload_n hx hb d_Md_give_65 rfl (lv_at hl 0 rfl) ?_
      refine lv_iconst (v := (2 : Int32)) hx hb d_Md_give_66 (by decide) ?_
      obtain ⟨⟨r4, S4, M4⟩, hc4, h⟩ := sg_b h
      dsimp only at h
      refine cvi (As := [.int (2 : Int32)]) (rest := []) ⟨hx, hb, hml, hown, hts⟩ (c_Md_control l D cA b S M (2 : Int32) _ hc4) ⟨callB_of 1 hts (tb_gi tb_cd_Md_control) rfl rfl rfl (hts _ tb_in_Md) (hts _ tb_ml_Md_89) yd_Md_control ⟨Nat.le_of_ble_eq_true rfl, Nat.le_of_ble_eq_true rfl⟩, hts _ tb_im_Md_control, hts _ tb_se_Md_control⟩ hZK hK hZ hP hD hS 0 (wM_at0 _ _ _ _) rfl rfl hl.1 rfl (Nat.le_of_ble_eq_true rfl) d_Md_give_67 (fun H locs hP hD hS => ?_)
      refine lv_if_eq (tgt := 77) hx hb d_Md_give_70 (by decide) (fun hc => ?_) (fun hc => ?_)
      · have h := sg_p hc h
        exact b77 _ _ _ _ _ h _ _ _ (lv_sub hl [0, 1, 2, 3] rfl) hP hD hS
      · have h := sg_n hc h
        refine lv_iconst (v := (1 : Int32)) hx hb d_Md_give_73 (by decide) ?_
        refine lv_goto (tgt := 78) hx hb d_Md_give_74 (by decide) ?_
        exact b78 _ _ _ _ _ _ h _ _ _ (lv_sub hl [0, 1, 2, 3] rfl) hP hD hS
  intro H locs ls hl hP hD hS
  have hl : lv_has ls 6 [(0, .ref (b 0)), (1, .int x1), (2, .int x2)] := hl
  have h := h0
  unfold f_Md_give at h
  refine lv_iload_n hx hb d_Md_give_0 rfl (lv_at hl 2 rfl) ?_
  refine lv_if_eq (tgt := 9) hx hb d_Md_give_1 (by decide) (fun hc => ?_) (fun hc => ?_)
  · have h := sg_p hc h
    exact b9 _ _ _ _ h _ _ _ (lv_sub hl [0, 1, 2] rfl) hP hD hS
  · have h := sg_n hc h
    refine lv_iload_n hx hb d_Md_give_4 rfl (lv_at hl 2 rfl) ?_
    refine lv_iconst (v := (2 : Int32)) hx hb d_Md_give_5 (by decide) ?_
    refine lv_icmp_ne (tgt := 11) hx hb d_Md_give_6 (by decide) (fun hc => ?_) (fun hc => ?_)
    · have h := sg_n hc h
      refine lv_aload_n hx hb d_Md_give_11 rfl (lv_at hl 0 rfl) ?_
      refine lv_iload_n hx hb d_Md_give_12 rfl (lv_at hl 1 rfl) ?_
      refine lv_iload_n hx hb d_Md_give_13 rfl (lv_at hl 2 rfl) ?_
      obtain ⟨⟨r5, S5, M5⟩, hc5, h⟩ := sg_b h
      dsimp only at h
      refine cvi (As := [.int x1, .int x2]) (rest := []) ⟨hx, hb, hml, hown, hts⟩ (c_Md_planeAt l D cA b S M x1 x2 _ hc5) ⟨callB_of 2 hts (tb_gi tb_cd_Md_planeAt) rfl rfl rfl (hts _ tb_in_Md) (hts _ tb_ml_Md_128) yd_Md_planeAt ⟨Nat.le_of_ble_eq_true rfl, Nat.le_of_ble_eq_true rfl⟩, hts _ tb_im_Md_planeAt, hts _ tb_se_Md_planeAt⟩ hZK hK hZ hP hD hS 0 (wM_at0 _ _ _ _) rfl rfl hl.1 rfl (Nat.le_of_ble_eq_true rfl) d_Md_give_14 (fun H locs hP hD hS => ?_)
      refine lv_istore_n (lv' := [(3, .int r5), (0, .ref (b 0)), (1, .int x1), (2, .int x2)]) hx hb d_Md_give_17 rfl hl (by decide) rfl (fun ls hl => ?_)
      refine lv_iload_n hx hb d_Md_give_18 rfl (lv_at hl 0 rfl) ?_
      refine lv_if_lt (tgt := 30) hx hb d_Md_give_19 (by decide) (fun hc => ?_) (fun hc => ?_)
      · have h := sg_p hc h
        refine lv_iload_n hx hb d_Md_give_30 rfl (lv_at hl 3 rfl) ?_
        refine lv_iconst (v := (2 : Int32)) hx hb d_Md_give_31 (by decide) ?_
        refine lv_irem hx hb d_Md_give_32 (by decide) ?_
        refine lv_if_ne (tgt := 58) hx hb d_Md_give_33 (by decide) (fun hc => ?_) (fun hc => ?_)
        · have h := sg_n hc h
          exact b58 _ _ _ _ _ h _ _ _ (lv_sub hl [1, 2, 3, 0] rfl) hP hD hS
        · have h := sg_p hc h
          refine lv_aload_n hx hb d_Md_give_36 rfl (lv_at hl 1 rfl) ?_
          refine lv_iconst (v := (1 : Int32)) hx hb d_Md_give_37 (by decide) ?_
          obtain ⟨⟨r6, S6, M6⟩, hc6, h⟩ := sg_b h
          dsimp only at h
          refine cvi (As := [.int (1 : Int32)]) (rest := []) ⟨hx, hb, hml, hown, hts⟩ (c_Md_control l D cA b S5 M5 (1 : Int32) _ hc6) ⟨callB_of 1 hts (tb_gi tb_cd_Md_control) rfl rfl rfl (hts _ tb_in_Md) (hts _ tb_ml_Md_89) yd_Md_control ⟨Nat.le_of_ble_eq_true rfl, Nat.le_of_ble_eq_true rfl⟩, hts _ tb_im_Md_control, hts _ tb_se_Md_control⟩ hZK hK hZ hP hD hS 0 (wM_at0 _ _ _ _) rfl rfl hl.1 rfl (Nat.le_of_ble_eq_true rfl) d_Md_give_38 (fun H locs hP hD hS => ?_)
          refine lv_if_eq (tgt := 58) hx hb d_Md_give_41 (by decide) (fun hc => ?_) (fun hc => ?_)
          · have h := sg_p hc h
            exact b58 _ _ _ _ _ h _ _ _ (lv_sub hl [1, 2, 3, 0] rfl) hP hD hS
          · have h := sg_n hc h
            refine lv_aload_n hx hb d_Md_give_44 rfl (lv_at hl 1 rfl) ?_
            refine va_get (D := D) (ci := 7) (v := .int (S6 3)) (C := R_Md) (T := T_Md) (N := 31) hx hb hts iMd hown hK hP 0 (wM_at0 _ _ _ _) rfl 10 (by decide) k48 (fun _ h9 => h9) rfl d_Md_give_45 ?_
            refine lv_iconst (v := (1 : Int32)) hx hb d_Md_give_48 (by decide) ?_
            refine lv_icmp_ne (tgt := 58) hx hb d_Md_give_49 (by decide) (fun hc => ?_) (fun hc => ?_)
            · have h := sg_n hc h
              exact b58 _ _ _ _ _ h _ _ _ (lv_sub hl [1, 2, 3, 0] rfl) hP hD hS
            · have h := sg_p hc h
              refine lv_aload_n hx hb d_Md_give_52 rfl (lv_at hl 1 rfl) ?_
              obtain ⟨⟨r7, S7, M7⟩, hc7, h⟩ := sg_b h
              dsimp only at h
              refine cvv (As := []) (rest := []) ⟨hx, hb, hml, hown, hts⟩ (c_Md_fetchList l D cA b S6 M6 _ hc7) ⟨callB_of 0 hts (tb_gi tb_cd_Md_fetchList) rfl rfl rfl (hts _ tb_in_Md) (hts _ tb_ml_Md_135) yd_Md_fetchList ⟨Nat.le_of_ble_eq_true rfl, Nat.le_of_ble_eq_true rfl⟩, hts _ tb_im_Md_fetchList, hts _ tb_se_Md_fetchList⟩ hZK hK hZ hP hD hS 0 (wM_at0 _ _ _ _) rfl rfl hl.1 rfl (Nat.le_of_ble_eq_true rfl) d_Md_give_53 (fun H locs hP hD hS => ?_)
              refine lv_iconst (v := (3 : Int32)) hx hb d_Md_give_56 (by decide) ?_
              exact ret _ _ _ _ _ _ _ h rfl hP hD hS d_Md_give_57
      · have h := sg_n hc h
        refine lv_aload_n hx hb d_Md_give_22 rfl (lv_at hl 1 rfl) ?_
        refine lv_iload_n hx hb d_Md_give_23 rfl (lv_at hl 0 rfl) ?_
        refine lv_iload_n hx hb d_Md_give_24 rfl (lv_at hl 3 rfl) ?_
        obtain ⟨⟨r8, S8, M8⟩, hc8, h⟩ := sg_b h
        dsimp only at h
        refine cvv (As := [.int r5, .int x2]) (rest := []) ⟨hx, hb, hml, hown, hts⟩ (c_Md_fetchPlane l D cA b S5 M5 r5 x2 _ hc8) ⟨callB_of 2 hts (tb_gi tb_cd_Md_fetchPlane) rfl rfl rfl (hts _ tb_in_Md) (hts _ tb_ml_Md_132) yd_Md_fetchPlane ⟨Nat.le_of_ble_eq_true rfl, Nat.le_of_ble_eq_true rfl⟩, hts _ tb_im_Md_fetchPlane, hts _ tb_se_Md_fetchPlane⟩ hZK hK hZ hP hD hS 0 (wM_at0 _ _ _ _) rfl rfl hl.1 rfl (Nat.le_of_ble_eq_true rfl) d_Md_give_25 (fun H locs hP hD hS => ?_)
        refine lv_iconst (v := (2 : Int32)) hx hb d_Md_give_28 (by decide) ?_
        exact ret _ _ _ _ _ _ _ h rfl hP hD hS d_Md_give_29
    · have h := sg_p hc h
      exact b9 _ _ _ _ h _ _ _ (lv_sub hl [0, 1, 2] rfl) hP hD hS
def f_Md_clock_117 (S : SS) (M : MM) (x1 : Int32) (x2 : Int32) : Option RR := (f_Md_give S M x1 x2).bind (fun q1 => if q1.1 < 0 ∨ 6 ≤ q1.1.toNatClampNeg then none else if q1.1 < 0 ∨ 6 ≤ q1.1.toNatClampNeg then none else some (q1.1, (upd q1.2.1 0 (((q1.2.1 0) + (1 : Int32)) - ((q1.2.1 0) + (1 : Int32)) / (640 : Int32) * (640 : Int32))), (upM q1.2.2 3 (upd (q1.2.2 3) q1.1.toNatClampNeg ((q1.2.2 3 q1.1.toNatClampNeg) + (1 : Int32))))))
def f_Md_clock_79 (S : SS) (M : MM) (x1 : Int32) (x2 : Int32) : Option RR := (f_Md_show S M x1 x2).bind (fun q4 => if q4.2.1 3 = (2 : Int32) then if q4.2.1 0 < q4.2.1 8 then f_Md_clock_117 q4.2.1 q4.2.2 x1 x2 else (f_Md_control q4.2.1 q4.2.2 (1 : Int32)).bind (fun q5 => if q5.1 = 0 then f_Md_clock_117 q5.2.1 q5.2.2 x1 x2 else f_Md_clock_117 (upd q5.2.1 3 (1 : Int32)) q5.2.2 x1 x2) else f_Md_clock_117 q4.2.1 q4.2.2 x1 x2)
def f_Md_clock (S : SS) (M : MM) : Option RR := if S 0 = 0 then (f_Md_control (upd (upd S 1 ((S 1) + (1 : Int32))) 2 (((upd S 1 ((S 1) + (1 : Int32))) 2) ||| (2 : Int32))) (upM (upM M 4 (upd (M 4) 0 (M 1 3))) 4 (upd ((upM M 4 (upd (M 4) 0 (M 1 3))) 4) 1 ((upM M 4 (upd (M 4) 0 (M 1 3))) 1 4))) (1 : Int32)).bind (fun q6 => if q6.1 = 0 then f_Md_clock_79 q6.2.1 q6.2.2 ((S 0) / (32 : Int32)) ((S 0) - (S 0) / (32 : Int32) * (32 : Int32)) else (f_Md_startList q6.2.1 q6.2.2).bind (fun q7 => f_Md_clock_79 q7.2.1 q7.2.2 ((S 0) / (32 : Int32)) ((S 0) - (S 0) / (32 : Int32) * (32 : Int32)))) else f_Md_clock_79 S M ((S 0) / (32 : Int32)) ((S 0) - (S 0) / (32 : Int32) * (32 : Int32))
set_option maxHeartbeats 4000000 in
set_option maxRecDepth 100000 in
theorem c_Md_clock (l : Launch) (D : va_G) (cA : ClassId) (b : Nat → Nat) (S : SS) (M : MM) (q : RR) (h0 : f_Md_clock S M = some q) : Ci l y_Md_clock w_Md_clock rm_Md_clock D vCl [(cA, .int)] (AM b) (ZM b) (wM cA b) [.ref (b 0)] S M q := by
  refine Ci.of (cc := prog_9_method_18_code) (maxL := 4) (ty := .int) (by decide) rfl (Nat.le_of_ble_eq_true rfl) ?_
  intro p e s m args below meth c Q hx hb hml hown hts hK hZ ret
  have hown : s.vm.findClass R_Md = some m.cls := hown
  have hts : ∀ w ∈ TB, w.before args s = true := fun w h => hts w (List.mem_cons_of_mem _ h)
  have hZK := ZM_k b
  have k103 := hts _ tb_fl_Md_103
  have k147 := hts _ tb_fl_Md_147
  have k44 := hts _ tb_fl_Md_44
  have k22 := hts _ tb_fl_Md_22
  have k13 := hts _ tb_fl_Md_13
  have k48 := hts _ tb_fl_Md_48
  have k100 := hts _ tb_fl_Md_100
  have k19 := hts _ tb_fl_Md_19
  have b117 : ∀ (S : SS) (M : MM) (x1 : Int32) (x2 : Int32), f_Md_clock_117 S M x1 x2 = some q → BK p l e rm_Md_clock s m args below meth c Q D vCl (AM b) (wM cA b) 4 117 [(0, .ref (b 0)), (1, .int x1), (2, .int x2)] [] S M := by
    intro S M x1 x2 h H locs ls hl hP hD hS
    unfold f_Md_clock_117 at h
    refine lv_aload_n hx hb d_Md_clock_117 rfl (lv_at hl 0 rfl) ?_
    refine lv_iload_n hx hb d_Md_clock_118 rfl (lv_at hl 1 rfl) ?_
    refine lv_iload_n hx hb d_Md_clock_119 rfl (lv_at hl 2 rfl) ?_
    obtain ⟨⟨r1, S1, M1⟩, hc1, h⟩ := sg_b h
    dsimp only at h
    refine cvi (As := [.int x1, .int x2]) (rest := []) ⟨hx, hb, hml, hown, hts⟩ (c_Md_give l D cA b S M x1 x2 _ hc1) ⟨callB_of 2 hts (tb_gi tb_cd_Md_give) rfl rfl rfl (hts _ tb_in_Md) (hts _ tb_ml_Md_153) yd_Md_give ⟨Nat.le_of_ble_eq_true rfl, Nat.le_of_ble_eq_true rfl⟩, hts _ tb_im_Md_give, hts _ tb_se_Md_give⟩ hZK hK hZ hP hD hS 0 (wM_at0 _ _ _ _) rfl rfl hl.1 rfl (Nat.le_of_ble_eq_true rfl) d_Md_clock_120 (fun H locs hP hD hS => ?_)
    refine lv_istore_n (lv' := [(3, .int r1), (0, .ref (b 0)), (1, .int x1), (2, .int x2)]) hx hb d_Md_clock_123 rfl hl (by decide) rfl (fun ls hl => ?_)
    refine lv_aload_n hx hb d_Md_clock_124 rfl (lv_at hl 1 rfl) ?_
    refine va_get (D := D) (ci := 7) (v := .ref (b 4)) (C := R_Md) (T := T_Md) (N := 31) hx hb hts iMd hown hK hP 0 (wM_at0 _ _ _ _) rfl 6 (by decide) k19 (fun _ h9 => h9) rfl d_Md_clock_125 ?_
    refine lv_iload_n hx hb d_Md_clock_128 rfl (lv_at hl 0 rfl) ?_
    refine lv_dup2_11 hx hb d_Md_clock_129 rfl rfl ?_
    obtain ⟨hg2, h⟩ := sg_g h
    refine va_iald hx hb hK hP 4 0 (wM_at4 _ _ _ _) rfl hg2 d_Md_clock_130 ?_
    refine lv_iconst (v := (1 : Int32)) hx hb d_Md_clock_131 (by decide) ?_
    refine lv_iadd hx hb d_Md_clock_132 ?_
    obtain ⟨hg3, h⟩ := sg_g h
    refine va_iast (x := (M1 3 r1.toNatClampNeg) + (1 : Int32)) hx hb hK hP hD hS 4 0 (wM_at4 _ _ _ _) rfl hg3 d_Md_clock_133 (fun H locs hP hD hS => ?_)
    have hP := wM_set4 hP
    have hD := wM_dset4 hD
    refine lv_aload_n hx hb d_Md_clock_134 rfl (lv_at hl 1 rfl) ?_
    refine lv_aload_n hx hb d_Md_clock_135 rfl (lv_at hl 1 rfl) ?_
    refine va_get (D := D) (ci := 7) (v := .int (S1 0)) (C := R_Md) (T := T_Md) (N := 31) hx hb hts iMd hown hK hP 0 (wM_at0 _ _ _ _) rfl 3 (by decide) k103 (fun _ h9 => h9) rfl d_Md_clock_136 ?_
    refine lv_iconst (v := (1 : Int32)) hx hb d_Md_clock_139 (by decide) ?_
    refine lv_iadd hx hb d_Md_clock_140 ?_
    refine lv_sipush (v := (640 : Int32)) hx hb d_Md_clock_141 (by decide) ?_
    refine lv_irem hx hb d_Md_clock_144 (by decide) ?_
    refine puwM_0 (D := D) (x := ((S1 0) + (1 : Int32)) - ((S1 0) + (1 : Int32)) / (640 : Int32) * (640 : Int32)) hx hb hts iMd hown hK hP hD hS k103 rfl rfl d_Md_clock_145 (fun H locs hP hD hS => ?_)
    refine lv_iload_n hx hb d_Md_clock_148 rfl (lv_at hl 0 rfl) ?_
    exact ret _ _ _ _ _ _ _ h rfl hP hD hS d_Md_clock_149
  have b79 : ∀ (S : SS) (M : MM) (x1 : Int32) (x2 : Int32), f_Md_clock_79 S M x1 x2 = some q → BK p l e rm_Md_clock s m args below meth c Q D vCl (AM b) (wM cA b) 4 79 [(0, .ref (b 0)), (1, .int x1), (2, .int x2)] [] S M := by
    intro S M x1 x2 h H locs ls hl hP hD hS
    unfold f_Md_clock_79 at h
    refine lv_aload_n hx hb d_Md_clock_79 rfl (lv_at hl 0 rfl) ?_
    refine lv_iload_n hx hb d_Md_clock_80 rfl (lv_at hl 1 rfl) ?_
    refine lv_iload_n hx hb d_Md_clock_81 rfl (lv_at hl 2 rfl) ?_
    obtain ⟨⟨r4, S4, M4⟩, hc4, h⟩ := sg_b h
    dsimp only at h
    refine cvv (As := [.int x1, .int x2]) (rest := []) ⟨hx, hb, hml, hown, hts⟩ (c_Md_show l D cA b S M x1 x2 _ hc4) ⟨callB_of 2 hts (tb_gi tb_cd_Md_show) rfl rfl rfl (hts _ tb_in_Md) (hts _ tb_ml_Md_150) yd_Md_show ⟨Nat.le_of_ble_eq_true rfl, Nat.le_of_ble_eq_true rfl⟩, hts _ tb_im_Md_show, hts _ tb_se_Md_show⟩ hZK hK hZ hP hD hS 0 (wM_at0 _ _ _ _) rfl rfl hl.1 rfl (Nat.le_of_ble_eq_true rfl) d_Md_clock_82 (fun H locs hP hD hS => ?_)
    refine lv_aload_n hx hb d_Md_clock_85 rfl (lv_at hl 0 rfl) ?_
    refine va_get (D := D) (ci := 7) (v := .int (S4 3)) (C := R_Md) (T := T_Md) (N := 31) hx hb hts iMd hown hK hP 0 (wM_at0 _ _ _ _) rfl 10 (by decide) k48 (fun _ h9 => h9) rfl d_Md_clock_86 ?_
    refine lv_iconst (v := (2 : Int32)) hx hb d_Md_clock_89 (by decide) ?_
    refine lv_icmp_ne (tgt := 117) hx hb d_Md_clock_90 (by decide) (fun hc => ?_) (fun hc => ?_)
    · have h := sg_n hc h
      exact b117 _ _ _ _ h _ _ _ (lv_sub hl [0, 1, 2] rfl) hP hD hS
    · have h := sg_p hc h
      refine lv_aload_n hx hb d_Md_clock_93 rfl (lv_at hl 0 rfl) ?_
      refine va_get (D := D) (ci := 7) (v := .int (S4 0)) (C := R_Md) (T := T_Md) (N := 31) hx hb hts iMd hown hK hP 0 (wM_at0 _ _ _ _) rfl 3 (by decide) k103 (fun _ h9 => h9) rfl d_Md_clock_94 ?_
      refine lv_aload_n hx hb d_Md_clock_97 rfl (lv_at hl 0 rfl) ?_
      refine va_get (D := D) (ci := 7) (v := .int (S4 8)) (C := R_Md) (T := T_Md) (N := 31) hx hb hts iMd hown hK hP 0 (wM_at0 _ _ _ _) rfl 15 (by decide) k100 (fun _ h9 => h9) rfl d_Md_clock_98 ?_
      refine lv_icmp_lt (tgt := 117) hx hb d_Md_clock_101 (by decide) (fun hc => ?_) (fun hc => ?_)
      · have h := sg_p hc h
        exact b117 _ _ _ _ h _ _ _ (lv_sub hl [0, 1, 2] rfl) hP hD hS
      · have h := sg_n hc h
        refine lv_aload_n hx hb d_Md_clock_104 rfl (lv_at hl 0 rfl) ?_
        refine lv_iconst (v := (1 : Int32)) hx hb d_Md_clock_105 (by decide) ?_
        obtain ⟨⟨r5, S5, M5⟩, hc5, h⟩ := sg_b h
        dsimp only at h
        refine cvi (As := [.int (1 : Int32)]) (rest := []) ⟨hx, hb, hml, hown, hts⟩ (c_Md_control l D cA b S4 M4 (1 : Int32) _ hc5) ⟨callB_of 1 hts (tb_gi tb_cd_Md_control) rfl rfl rfl (hts _ tb_in_Md) (hts _ tb_ml_Md_89) yd_Md_control ⟨Nat.le_of_ble_eq_true rfl, Nat.le_of_ble_eq_true rfl⟩, hts _ tb_im_Md_control, hts _ tb_se_Md_control⟩ hZK hK hZ hP hD hS 0 (wM_at0 _ _ _ _) rfl rfl hl.1 rfl (Nat.le_of_ble_eq_true rfl) d_Md_clock_106 (fun H locs hP hD hS => ?_)
        refine lv_if_eq (tgt := 117) hx hb d_Md_clock_109 (by decide) (fun hc => ?_) (fun hc => ?_)
        · have h := sg_p hc h
          exact b117 _ _ _ _ h _ _ _ (lv_sub hl [0, 1, 2] rfl) hP hD hS
        · have h := sg_n hc h
          refine lv_aload_n hx hb d_Md_clock_112 rfl (lv_at hl 0 rfl) ?_
          refine lv_iconst (v := (1 : Int32)) hx hb d_Md_clock_113 (by decide) ?_
          refine puwM_3 (D := D) (x := (1 : Int32)) hx hb hts iMd hown hK hP hD hS k48 rfl rfl d_Md_clock_114 (fun H locs hP hD hS => ?_)
          exact b117 _ _ _ _ h _ _ _ (lv_sub hl [0, 1, 2] rfl) hP hD hS
  intro H locs ls hl hP hD hS
  have hl : lv_has ls 4 [(0, .ref (b 0))] := hl
  have h := h0
  unfold f_Md_clock at h
  refine lv_aload_n hx hb d_Md_clock_0 rfl (lv_at hl 0 rfl) ?_
  refine va_get (D := D) (ci := 7) (v := .int (S 0)) (C := R_Md) (T := T_Md) (N := 31) hx hb hts iMd hown hK hP 0 (wM_at0 _ _ _ _) rfl 3 (by decide) k103 (fun _ h9 => h9) rfl d_Md_clock_1 ?_
  refine lv_bipush (v := (32 : Int32)) hx hb d_Md_clock_4 (by decide) ?_
  refine lv_idiv hx hb d_Md_clock_6 (by decide) ?_
  refine lv_istore_n (lv' := [(1, .int ((S 0) / (32 : Int32))), (0, .ref (b 0))]) hx hb d_Md_clock_7 rfl hl (by decide) rfl (fun ls hl => ?_)
  refine lv_aload_n hx hb d_Md_clock_8 rfl (lv_at hl 1 rfl) ?_
  refine va_get (D := D) (ci := 7) (v := .int (S 0)) (C := R_Md) (T := T_Md) (N := 31) hx hb hts iMd hown hK hP 0 (wM_at0 _ _ _ _) rfl 3 (by decide) k103 (fun _ h9 => h9) rfl d_Md_clock_9 ?_
  refine lv_bipush (v := (32 : Int32)) hx hb d_Md_clock_12 (by decide) ?_
  refine lv_irem hx hb d_Md_clock_14 (by decide) ?_
  refine lv_istore_n (lv' := [(2, .int ((S 0) - (S 0) / (32 : Int32) * (32 : Int32))), (1, .int ((S 0) / (32 : Int32))), (0, .ref (b 0))]) hx hb d_Md_clock_15 rfl hl (by decide) rfl (fun ls hl => ?_)
  refine lv_aload_n hx hb d_Md_clock_16 rfl (lv_at hl 2 rfl) ?_
  refine va_get (D := D) (ci := 7) (v := .int (S 0)) (C := R_Md) (T := T_Md) (N := 31) hx hb hts iMd hown hK hP 0 (wM_at0 _ _ _ _) rfl 3 (by decide) k103 (fun _ h9 => h9) rfl d_Md_clock_17 ?_
  refine lv_if_ne (tgt := 79) hx hb d_Md_clock_20 (by decide) (fun hc => ?_) (fun hc => ?_)
  · have h := sg_n hc h
    exact b79 _ _ _ _ h _ _ _ (lv_sub hl [2, 1, 0] rfl) hP hD hS
  · have h := sg_p hc h
    refine lv_aload_n hx hb d_Md_clock_23 rfl (lv_at hl 2 rfl) ?_
    refine lv_dup hx hb d_Md_clock_24 rfl ?_
    refine va_get (D := D) (ci := 7) (v := .int (S 1)) (C := R_Md) (T := T_Md) (N := 31) hx hb hts iMd hown hK hP 0 (wM_at0 _ _ _ _) rfl 4 (by decide) k147 (fun _ h9 => h9) rfl d_Md_clock_25 ?_
    refine lv_iconst (v := (1 : Int32)) hx hb d_Md_clock_28 (by decide) ?_
    refine lv_iadd hx hb d_Md_clock_29 ?_
    refine puwM_1 (D := D) (x := (S 1) + (1 : Int32)) hx hb hts iMd hown hK hP hD hS k147 rfl rfl d_Md_clock_30 (fun H locs hP hD hS => ?_)
    refine lv_aload_n hx hb d_Md_clock_33 rfl (lv_at hl 2 rfl) ?_
    refine lv_dup hx hb d_Md_clock_34 rfl ?_
    refine va_get (D := D) (ci := 7) (v := .int ((upd S 1 ((S 1) + (1 : Int32))) 2)) (C := R_Md) (T := T_Md) (N := 31) hx hb hts iMd hown hK hP 0 (wM_at0 _ _ _ _) rfl 5 (by decide) k44 (fun _ h9 => h9) rfl d_Md_clock_35 ?_
    refine lv_iconst (v := (2 : Int32)) hx hb d_Md_clock_38 (by decide) ?_
    refine lv_ior hx hb d_Md_clock_39 ?_
    refine puwM_2 (D := D) (x := ((upd S 1 ((S 1) + (1 : Int32))) 2) ||| (2 : Int32)) hx hb hts iMd hown hK hP hD hS k44 rfl rfl d_Md_clock_40 (fun H locs hP hD hS => ?_)
    refine lv_aload_n hx hb d_Md_clock_43 rfl (lv_at hl 2 rfl) ?_
    refine va_get (D := D) (ci := 7) (v := .ref (b 5)) (C := R_Md) (T := T_Md) (N := 31) hx hb hts iMd hown hK hP 0 (wM_at0 _ _ _ _) rfl 7 (by decide) k22 (fun _ h9 => h9) rfl d_Md_clock_44 ?_
    refine lv_iconst (v := (0 : Int32)) hx hb d_Md_clock_47 (by decide) ?_
    refine lv_aload_n hx hb d_Md_clock_48 rfl (lv_at hl 2 rfl) ?_
    refine va_get (D := D) (ci := 7) (v := .ref (b 2)) (C := R_Md) (T := T_Md) (N := 31) hx hb hts iMd hown hK hP 0 (wM_at0 _ _ _ _) rfl 1 (by decide) k13 (fun _ h9 => h9) rfl d_Md_clock_49 ?_
    refine lv_iconst (v := (3 : Int32)) hx hb d_Md_clock_52 (by decide) ?_
    refine ialdK hx hb hK hP 2 0 (wM_at2 _ _ _ _) rfl 3 (by decide) (by unfold vp_in; decide) d_Md_clock_53 ?_
    refine iastK (x := M 1 3) hx hb hK hP hD hS 5 0 (wM_at5 _ _ _ _) rfl 0 (by decide) (by unfold vp_in; decide) d_Md_clock_54 (fun H locs hP hD hS => ?_)
    have hP := wM_set5 hP
    have hD := wM_dset5 hD
    refine lv_aload_n hx hb d_Md_clock_55 rfl (lv_at hl 2 rfl) ?_
    refine va_get (D := D) (ci := 7) (v := .ref (b 5)) (C := R_Md) (T := T_Md) (N := 31) hx hb hts iMd hown hK hP 0 (wM_at0 _ _ _ _) rfl 7 (by decide) k22 (fun _ h9 => h9) rfl d_Md_clock_56 ?_
    refine lv_iconst (v := (1 : Int32)) hx hb d_Md_clock_59 (by decide) ?_
    refine lv_aload_n hx hb d_Md_clock_60 rfl (lv_at hl 2 rfl) ?_
    refine va_get (D := D) (ci := 7) (v := .ref (b 2)) (C := R_Md) (T := T_Md) (N := 31) hx hb hts iMd hown hK hP 0 (wM_at0 _ _ _ _) rfl 1 (by decide) k13 (fun _ h9 => h9) rfl d_Md_clock_61 ?_
    refine lv_iconst (v := (4 : Int32)) hx hb d_Md_clock_64 (by decide) ?_
    refine ialdK hx hb hK hP 2 0 (wM_at2 _ _ _ _) rfl 4 (by decide) (by unfold vp_in; decide) d_Md_clock_65 ?_
    refine iastK (x := (upM M 4 (upd (M 4) 0 (M 1 3))) 1 4) hx hb hK hP hD hS 5 0 (wM_at5 _ _ _ _) rfl 1 (by decide) (by unfold vp_in; decide) d_Md_clock_66 (fun H locs hP hD hS => ?_)
    have hP := wM_set5 hP
    have hD := wM_dset5 hD
    refine lv_aload_n hx hb d_Md_clock_67 rfl (lv_at hl 2 rfl) ?_
    refine lv_iconst (v := (1 : Int32)) hx hb d_Md_clock_68 (by decide) ?_
    obtain ⟨⟨r6, S6, M6⟩, hc6, h⟩ := sg_b h
    dsimp only at h
    refine cvi (As := [.int (1 : Int32)]) (rest := []) ⟨hx, hb, hml, hown, hts⟩ (c_Md_control l D cA b (upd (upd S 1 ((S 1) + (1 : Int32))) 2 (((upd S 1 ((S 1) + (1 : Int32))) 2) ||| (2 : Int32))) (upM (upM M 4 (upd (M 4) 0 (M 1 3))) 4 (upd ((upM M 4 (upd (M 4) 0 (M 1 3))) 4) 1 ((upM M 4 (upd (M 4) 0 (M 1 3))) 1 4))) (1 : Int32) _ hc6) ⟨callB_of 1 hts (tb_gi tb_cd_Md_control) rfl rfl rfl (hts _ tb_in_Md) (hts _ tb_ml_Md_89) yd_Md_control ⟨Nat.le_of_ble_eq_true rfl, Nat.le_of_ble_eq_true rfl⟩, hts _ tb_im_Md_control, hts _ tb_se_Md_control⟩ hZK hK hZ hP hD hS 0 (wM_at0 _ _ _ _) rfl rfl hl.1 rfl (Nat.le_of_ble_eq_true rfl) d_Md_clock_69 (fun H locs hP hD hS => ?_)
    refine lv_if_eq (tgt := 79) hx hb d_Md_clock_72 (by decide) (fun hc => ?_) (fun hc => ?_)
    · have h := sg_p hc h
      exact b79 _ _ _ _ h _ _ _ (lv_sub hl [2, 1, 0] rfl) hP hD hS
    · have h := sg_n hc h
      refine lv_aload_n hx hb d_Md_clock_75 rfl (lv_at hl 2 rfl) ?_
      obtain ⟨⟨r7, S7, M7⟩, hc7, h⟩ := sg_b h
      dsimp only at h
      refine cvv (As := []) (rest := []) ⟨hx, hb, hml, hown, hts⟩ (c_Md_startList l D cA b S6 M6 _ hc7) ⟨callB_of 0 hts (tb_gi tb_cd_Md_startList) rfl rfl rfl (hts _ tb_in_Md) (hts _ tb_ml_Md_37) yd_Md_startList ⟨Nat.le_of_ble_eq_true rfl, Nat.le_of_ble_eq_true rfl⟩, hts _ tb_im_Md_startList, hts _ tb_se_Md_startList⟩ hZK hK hZ hP hD hS 0 (wM_at0 _ _ _ _) rfl rfl hl.1 rfl (Nat.le_of_ble_eq_true rfl) d_Md_clock_76 (fun H locs hP hD hS => ?_)
      exact b79 _ _ _ _ h _ _ _ (lv_sub hl [2, 1, 0] rfl) hP hD hS
def f_Md_run_35 (rec : SS → MM → Int32 → Int32 → Int32 → Option RR) (S : SS) (M : MM) (x1 : Int32) (x2 : Int32) (x3 : Int32) (y0 : Int32) (y1 : Int32) : Option RR := rec S M x1 (y0 + y1) (x3 + (1 : Int32))
def f_Md_run_17_b (rec : SS → MM → Int32 → Int32 → Int32 → Option RR) (S : SS) (M : MM) (x1 : Int32) (x2 : Int32) (x3 : Int32) : Option RR := if x1 ≤ x3 then some (x2, S, M) else (f_Md_clock S M).bind (fun q1 => if q1.1 = 0 then f_Md_run_35 rec q1.2.1 q1.2.2 x1 x2 x3 x2 (1 : Int32) else f_Md_run_35 rec q1.2.1 q1.2.2 x1 x2 x3 x2 (0 : Int32))
def f_Md_run_17 : Nat → SS → MM → Int32 → Int32 → Int32 → Option RR
  | 0 => fun _ _ _ _ _ => none
  | n + 1 => f_Md_run_17_b (f_Md_run_17 n)
def f_Md_run (S : SS) (M : MM) (x1 : Int32) : Option RR := (f_Md_outside S M x1 (1 : Int32) (700 : Int32)).bind (fun q2 => if q2.1 = 0 then f_Md_run_17 710 q2.2.1 q2.2.2 x1 (0 : Int32) (0 : Int32) else some ((-1 : Int32), q2.2.1, q2.2.2))
set_option maxHeartbeats 4000000 in
set_option maxRecDepth 100000 in
theorem c_Md_run (l : Launch) (D : va_G) (cA : ClassId) (b : Nat → Nat) (S : SS) (M : MM) (x1 : Int32) (q : RR) (h0 : f_Md_run S M x1 = some q) : Ci l y_Md_run w_Md_run rm_Md_run D vCl [(cA, .int)] (AM b) (ZM b) (wM cA b) [.ref (b 0), .int x1] S M q := by
  refine Ci.of (cc := prog_9_method_19_code) (maxL := 4) (ty := .int) (by decide) rfl (Nat.le_of_ble_eq_true rfl) ?_
  intro p e s m args below meth c Q hx hb hml hown hts hK hZ ret
  have hown : s.vm.findClass R_Md = some m.cls := hown
  have hts : ∀ w ∈ TB, w.before args s = true := fun w h => hts w (List.mem_cons_of_mem _ h)
  have hZK := ZM_k b
  have b35 : ∀ (rec : SS → MM → Int32 → Int32 → Int32 → Option RR) (hrec : ∀ (S : SS) (M : MM) (x1 : Int32) (x2 : Int32) (x3 : Int32), rec S M x1 x2 x3 = some q → BK p l e rm_Md_run s m args below meth c Q D vCl (AM b) (wM cA b) 4 17 [(0, .ref (b 0)), (1, .int x1), (2, .int x2), (3, .int x3)] [] S M) (S : SS) (M : MM) (x1 : Int32) (x2 : Int32) (x3 : Int32) (y0 : Int32) (y1 : Int32), f_Md_run_35 rec S M x1 x2 x3 y0 y1 = some q → BK p l e rm_Md_run s m args below meth c Q D vCl (AM b) (wM cA b) 4 35 [(0, .ref (b 0)), (1, .int x1), (2, .int x2), (3, .int x3)] [.int y1, .int y0] S M := by
    intro rec hrec S M x1 x2 x3 y0 y1 h H locs ls hl hP hD hS
    unfold f_Md_run_35 at h
    refine lv_iadd hx hb d_Md_run_35 ?_
    refine lv_istore_n (lv' := [(2, .int (y0 + y1)), (0, .ref (b 0)), (1, .int x1), (3, .int x3)]) hx hb d_Md_run_36 rfl hl (by decide) rfl (fun ls hl => ?_)
    refine lv_iinc (k := 3) (v := x3 + (1 : Int32)) (lv' := [(3, .int (x3 + (1 : Int32))), (2, .int (y0 + y1)), (0, .ref (b 0)), (1, .int x1)]) hx hb d_Md_run_37 hl rfl rfl (by decide) rfl (fun ls hl => ?_)
    refine lv_goto (tgt := 17) hx hb d_Md_run_40 (by decide) ?_
    exact hrec _ _ _ _ _ h _ _ _ (lv_sub hl [2, 3, 1, 0] rfl) hP hD hS
  have b17 : ∀ (n : Nat) (S : SS) (M : MM) (x1 : Int32) (x2 : Int32) (x3 : Int32), f_Md_run_17 n S M x1 x2 x3 = some q → BK p l e rm_Md_run s m args below meth c Q D vCl (AM b) (wM cA b) 4 17 [(0, .ref (b 0)), (1, .int x1), (2, .int x2), (3, .int x3)] [] S M := by
   intro n
   induction n with
   | zero => intro S M x1 x2 x3 h; cases h
   | succ n hrec =>
    intro S M x1 x2 x3 h H locs ls hl hP hD hS
    have h : f_Md_run_17_b (f_Md_run_17 n) S M x1 x2 x3 = some q := h
    unfold f_Md_run_17_b at h
    refine lv_iload_n hx hb d_Md_run_17 rfl (lv_at hl 3 rfl) ?_
    refine lv_iload_n hx hb d_Md_run_18 rfl (lv_at hl 1 rfl) ?_
    refine lv_icmp_ge (tgt := 43) hx hb d_Md_run_19 (by decide) (fun hc => ?_) (fun hc => ?_)
    · have h := sg_p hc h
      refine lv_iload_n hx hb d_Md_run_43 rfl (lv_at hl 2 rfl) ?_
      exact ret _ _ _ _ _ _ _ h rfl hP hD hS d_Md_run_44
    · have h := sg_n hc h
      refine lv_iload_n hx hb d_Md_run_22 rfl (lv_at hl 2 rfl) ?_
      refine lv_aload_n hx hb d_Md_run_23 rfl (lv_at hl 0 rfl) ?_
      obtain ⟨⟨r1, S1, M1⟩, hc1, h⟩ := sg_b h
      dsimp only at h
      refine cvi (As := []) (rest := [.int x2]) ⟨hx, hb, hml, hown, hts⟩ (c_Md_clock l D cA b S M _ hc1) ⟨callB_of 0 hts (tb_gi tb_cd_Md_clock) rfl rfl rfl (hts _ tb_in_Md) (hts _ tb_ml_Md_160) yd_Md_clock ⟨Nat.le_of_ble_eq_true rfl, Nat.le_of_ble_eq_true rfl⟩, hts _ tb_im_Md_clock, hts _ tb_se_Md_clock⟩ hZK hK hZ hP hD hS 0 (wM_at0 _ _ _ _) rfl rfl hl.1 rfl (Nat.le_of_ble_eq_true rfl) d_Md_run_24 (fun H locs hP hD hS => ?_)
      refine lv_if_ne (tgt := 34) hx hb d_Md_run_27 (by decide) (fun hc => ?_) (fun hc => ?_)
      · have h := sg_n hc h
        refine lv_iconst (v := (0 : Int32)) hx hb d_Md_run_34 (by decide) ?_
        exact b35 _ hrec _ _ _ _ _ _ _ h _ _ _ (lv_sub hl [0, 1, 2, 3] rfl) hP hD hS
      · have h := sg_p hc h
        refine lv_iconst (v := (1 : Int32)) hx hb d_Md_run_30 (by decide) ?_
        refine lv_goto (tgt := 35) hx hb d_Md_run_31 (by decide) ?_
        exact b35 _ hrec _ _ _ _ _ _ _ h _ _ _ (lv_sub hl [0, 1, 2, 3] rfl) hP hD hS
  intro H locs ls hl hP hD hS
  have hl : lv_has ls 4 [(0, .ref (b 0)), (1, .int x1)] := hl
  have h := h0
  unfold f_Md_run at h
  refine lv_iload_n hx hb d_Md_run_0 rfl (lv_at hl 1 rfl) ?_
  refine lv_iconst (v := (1 : Int32)) hx hb d_Md_run_1 (by decide) ?_
  refine lv_sipush (v := (700 : Int32)) hx hb d_Md_run_2 (by decide) ?_
  obtain ⟨⟨r2, S2, M2⟩, hc2, h⟩ := sg_b h
  dsimp only at h
  refine csi (As := [.int x1, .int (1 : Int32), .int (700 : Int32)]) (rest := []) ⟨hx, hb, hml, hown, hts⟩ (c_Md_outside l D cA b S M x1 (1 : Int32) (700 : Int32) _ hc2) ⟨callB_of 3 hts (tb_gi tb_cd_Md_outside) rfl rfl rfl (hts _ tb_in_Md) (hts _ tb_ml_Md_156) yd_Md_outside ⟨Nat.le_of_ble_eq_true rfl, Nat.le_of_ble_eq_true rfl⟩, hts _ tb_st_Md_outside⟩ hZK hK hZ hP hD hS rfl hl.1 rfl (Nat.le_of_ble_eq_true rfl) d_Md_run_5 (fun H locs hP hD hS => ?_)
  refine lv_if_eq (tgt := 13) hx hb d_Md_run_8 (by decide) (fun hc => ?_) (fun hc => ?_)
  · have h := sg_p hc h
    refine lv_iconst (v := (0 : Int32)) hx hb d_Md_run_13 (by decide) ?_
    refine lv_istore_n (lv' := [(2, .int (0 : Int32)), (0, .ref (b 0)), (1, .int x1)]) hx hb d_Md_run_14 rfl hl (by decide) rfl (fun ls hl => ?_)
    refine lv_iconst (v := (0 : Int32)) hx hb d_Md_run_15 (by decide) ?_
    refine lv_istore_n (lv' := [(3, .int (0 : Int32)), (2, .int (0 : Int32)), (0, .ref (b 0)), (1, .int x1)]) hx hb d_Md_run_16 rfl hl (by decide) rfl (fun ls hl => ?_)
    exact b17 710 _ _ _ _ _ h _ _ _ (lv_sub hl [2, 3, 1, 0] rfl) hP hD hS
  · have h := sg_n hc h
    refine lv_iconst (v := (-1 : Int32)) hx hb d_Md_run_11 (by decide) ?_
    exact ret _ _ _ _ _ _ _ h rfl hP hD hS d_Md_run_12
def f_Md_access_39 (S : SS) (M : MM) (x1 : Int32) (x2 : Int32) (x3 : Int32) : Option RR := some ((0 : Int32), S, M)
def f_Md_access_33 (S : SS) (M : MM) (x1 : Int32) (x2 : Int32) (x3 : Int32) (y0 : Int32) (y1 : Int32) (y2 : Int32) : Option RR := (f_Md_outside S M y0 y1 y2).bind (fun q1 => if q1.1 = 0 then if (3 : Int32) * (q1.2.1 19) < 0 ∨ 24 ≤ ((3 : Int32) * (q1.2.1 19)).toNatClampNeg then none else if ((3 : Int32) * (q1.2.1 19)) + (1 : Int32) < 0 ∨ 24 ≤ (((3 : Int32) * (q1.2.1 19)) + (1 : Int32)).toNatClampNeg then none else if ((3 : Int32) * (q1.2.1 19)) + (2 : Int32) < 0 ∨ 24 ≤ (((3 : Int32) * (q1.2.1 19)) + (2 : Int32)).toNatClampNeg then none else some ((1 : Int32), (upd q1.2.1 19 ((q1.2.1 19) + (1 : Int32))), (upM (upM (upM q1.2.2 8 (upd (q1.2.2 8) ((3 : Int32) * (q1.2.1 19)).toNatClampNeg x1)) 8 (upd ((upM q1.2.2 8 (upd (q1.2.2 8) ((3 : Int32) * (q1.2.1 19)).toNatClampNeg x1)) 8) (((3 : Int32) * (q1.2.1 19)) + (1 : Int32)).toNatClampNeg x2)) 8 (upd ((upM (upM q1.2.2 8 (upd (q1.2.2 8) ((3 : Int32) * (q1.2.1 19)).toNatClampNeg x1)) 8 (upd ((upM q1.2.2 8 (upd (q1.2.2 8) ((3 : Int32) * (q1.2.1 19)).toNatClampNeg x1)) 8) (((3 : Int32) * (q1.2.1 19)) + (1 : Int32)).toNatClampNeg x2)) 8) (((3 : Int32) * (q1.2.1 19)) + (2 : Int32)).toNatClampNeg (x3 &&& (65535 : Int32))))) else f_Md_access_39 q1.2.1 q1.2.2 x1 x2 x3)
def f_Md_access (S : SS) (M : MM) (x1 : Int32) (x2 : Int32) (x3 : Int32) : Option RR := if S 19 = (8 : Int32) then f_Md_access_39 S M x1 x2 x3 else (f_Md_outside S M x1 (0 : Int32) (2 : Int32)).bind (fun q5 => if q5.1 = 0 then if x1 = (2 : Int32) then f_Md_access_33 q5.2.1 q5.2.2 x1 x2 x3 x2 (0 : Int32) (31 : Int32) else f_Md_access_33 q5.2.1 q5.2.2 x1 x2 x3 x2 (0 : Int32) (255 : Int32) else f_Md_access_39 q5.2.1 q5.2.2 x1 x2 x3)
set_option maxHeartbeats 4000000 in
set_option maxRecDepth 100000 in
theorem c_Md_access (l : Launch) (D : va_G) (cA : ClassId) (b : Nat → Nat) (S : SS) (M : MM) (x1 : Int32) (x2 : Int32) (x3 : Int32) (q : RR) (h0 : f_Md_access S M x1 x2 x3 = some q) : Ci l y_Md_access w_Md_access rm_Md_access D vCl [(cA, .int)] (AM b) (ZM b) (wM cA b) [.ref (b 0), .int x1, .int x2, .int x3] S M q := by
  refine Ci.of (cc := prog_9_method_20_code) (maxL := 4) (ty := .boolean) (by decide) rfl (Nat.le_of_ble_eq_true rfl) ?_
  intro p e s m args below meth c Q hx hb hml hown hts hK hZ ret
  have hown : s.vm.findClass R_Md = some m.cls := hown
  have hts : ∀ w ∈ TB, w.before args s = true := fun w h => hts w (List.mem_cons_of_mem _ h)
  have hZK := ZM_k b
  have k119 := hts _ tb_fl_Md_119
  have k34 := hts _ tb_fl_Md_34
  have k88 := hts _ tb_ct_Md_88
  have b39 : ∀ (S : SS) (M : MM) (x1 : Int32) (x2 : Int32) (x3 : Int32), f_Md_access_39 S M x1 x2 x3 = some q → BK p l e rm_Md_access s m args below meth c Q D vCl (AM b) (wM cA b) 4 39 [(0, .ref (b 0)), (1, .int x1), (2, .int x2), (3, .int x3)] [] S M := by
    intro S M x1 x2 x3 h H locs ls hl hP hD hS
    unfold f_Md_access_39 at h
    refine lv_iconst (v := (0 : Int32)) hx hb d_Md_access_39 (by decide) ?_
    exact ret _ _ _ _ _ _ _ h (by decide +kernel) hP hD hS d_Md_access_40
  have b33 : ∀ (S : SS) (M : MM) (x1 : Int32) (x2 : Int32) (x3 : Int32) (y0 : Int32) (y1 : Int32) (y2 : Int32), f_Md_access_33 S M x1 x2 x3 y0 y1 y2 = some q → BK p l e rm_Md_access s m args below meth c Q D vCl (AM b) (wM cA b) 4 33 [(0, .ref (b 0)), (1, .int x1), (2, .int x2), (3, .int x3)] [.int y2, .int y1, .int y0] S M := by
    intro S M x1 x2 x3 y0 y1 y2 h H locs ls hl hP hD hS
    unfold f_Md_access_33 at h
    obtain ⟨⟨r1, S1, M1⟩, hc1, h⟩ := sg_b h
    dsimp only at h
    refine csi (As := [.int y0, .int y1, .int y2]) (rest := []) ⟨hx, hb, hml, hown, hts⟩ (c_Md_outside l D cA b S M y0 y1 y2 _ hc1) ⟨callB_of 3 hts (tb_gi tb_cd_Md_outside) rfl rfl rfl (hts _ tb_in_Md) (hts _ tb_ml_Md_156) yd_Md_outside ⟨Nat.le_of_ble_eq_true rfl, Nat.le_of_ble_eq_true rfl⟩, hts _ tb_st_Md_outside⟩ hZK hK hZ hP hD hS rfl hl.1 rfl (Nat.le_of_ble_eq_true rfl) d_Md_access_33 (fun H locs hP hD hS => ?_)
    refine lv_if_eq (tgt := 41) hx hb d_Md_access_36 (by decide) (fun hc => ?_) (fun hc => ?_)
    · have h := sg_p hc h
      refine lv_aload_n hx hb d_Md_access_41 rfl (lv_at hl 0 rfl) ?_
      refine va_get (D := D) (ci := 7) (v := .ref (b 9)) (C := R_Md) (T := T_Md) (N := 31) hx hb hts iMd hown hK hP 0 (wM_at0 _ _ _ _) rfl 28 (by decide) k34 (fun _ h9 => h9) rfl d_Md_access_42 ?_
      refine lv_iconst (v := (3 : Int32)) hx hb d_Md_access_45 (by decide) ?_
      refine lv_aload_n hx hb d_Md_access_46 rfl (lv_at hl 0 rfl) ?_
      refine va_get (D := D) (ci := 7) (v := .int (S1 19)) (C := R_Md) (T := T_Md) (N := 31) hx hb hts iMd hown hK hP 0 (wM_at0 _ _ _ _) rfl 27 (by decide) k119 (fun _ h9 => h9) rfl d_Md_access_47 ?_
      refine lv_imul hx hb d_Md_access_50 ?_
      refine lv_iload_n hx hb d_Md_access_51 rfl (lv_at hl 1 rfl) ?_
      obtain ⟨hg2, h⟩ := sg_g h
      refine va_iast (x := x1) hx hb hK hP hD hS 9 0 (wM_at9 _ _ _ _) rfl hg2 d_Md_access_52 (fun H locs hP hD hS => ?_)
      have hP := wM_set9 hP
      have hD := wM_dset9 hD
      refine lv_aload_n hx hb d_Md_access_53 rfl (lv_at hl 0 rfl) ?_
      refine va_get (D := D) (ci := 7) (v := .ref (b 9)) (C := R_Md) (T := T_Md) (N := 31) hx hb hts iMd hown hK hP 0 (wM_at0 _ _ _ _) rfl 28 (by decide) k34 (fun _ h9 => h9) rfl d_Md_access_54 ?_
      refine lv_iconst (v := (3 : Int32)) hx hb d_Md_access_57 (by decide) ?_
      refine lv_aload_n hx hb d_Md_access_58 rfl (lv_at hl 0 rfl) ?_
      refine va_get (D := D) (ci := 7) (v := .int (S1 19)) (C := R_Md) (T := T_Md) (N := 31) hx hb hts iMd hown hK hP 0 (wM_at0 _ _ _ _) rfl 27 (by decide) k119 (fun _ h9 => h9) rfl d_Md_access_59 ?_
      refine lv_imul hx hb d_Md_access_62 ?_
      refine lv_iconst (v := (1 : Int32)) hx hb d_Md_access_63 (by decide) ?_
      refine lv_iadd hx hb d_Md_access_64 ?_
      refine lv_iload_n hx hb d_Md_access_65 rfl (lv_at hl 2 rfl) ?_
      obtain ⟨hg3, h⟩ := sg_g h
      refine va_iast (x := x2) hx hb hK hP hD hS 9 0 (wM_at9 _ _ _ _) rfl hg3 d_Md_access_66 (fun H locs hP hD hS => ?_)
      have hP := wM_set9 hP
      have hD := wM_dset9 hD
      refine lv_aload_n hx hb d_Md_access_67 rfl (lv_at hl 0 rfl) ?_
      refine va_get (D := D) (ci := 7) (v := .ref (b 9)) (C := R_Md) (T := T_Md) (N := 31) hx hb hts iMd hown hK hP 0 (wM_at0 _ _ _ _) rfl 28 (by decide) k34 (fun _ h9 => h9) rfl d_Md_access_68 ?_
      refine lv_iconst (v := (3 : Int32)) hx hb d_Md_access_71 (by decide) ?_
      refine lv_aload_n hx hb d_Md_access_72 rfl (lv_at hl 0 rfl) ?_
      refine va_get (D := D) (ci := 7) (v := .int (S1 19)) (C := R_Md) (T := T_Md) (N := 31) hx hb hts iMd hown hK hP 0 (wM_at0 _ _ _ _) rfl 27 (by decide) k119 (fun _ h9 => h9) rfl d_Md_access_73 ?_
      refine lv_imul hx hb d_Md_access_76 ?_
      refine lv_iconst (v := (2 : Int32)) hx hb d_Md_access_77 (by decide) ?_
      refine lv_iadd hx hb d_Md_access_78 ?_
      refine lv_iload_n hx hb d_Md_access_79 rfl (lv_at hl 3 rfl) ?_
      refine lv_ldc (v := (65535 : Int32)) hx hb hown k88 d_Md_access_80 ?_
      refine lv_iand hx hb d_Md_access_82 ?_
      obtain ⟨hg4, h⟩ := sg_g h
      refine va_iast (x := x3 &&& (65535 : Int32)) hx hb hK hP hD hS 9 0 (wM_at9 _ _ _ _) rfl hg4 d_Md_access_83 (fun H locs hP hD hS => ?_)
      have hP := wM_set9 hP
      have hD := wM_dset9 hD
      refine lv_aload_n hx hb d_Md_access_84 rfl (lv_at hl 0 rfl) ?_
      refine lv_dup hx hb d_Md_access_85 rfl ?_
      refine va_get (D := D) (ci := 7) (v := .int (S1 19)) (C := R_Md) (T := T_Md) (N := 31) hx hb hts iMd hown hK hP 0 (wM_at0 _ _ _ _) rfl 27 (by decide) k119 (fun _ h9 => h9) rfl d_Md_access_86 ?_
      refine lv_iconst (v := (1 : Int32)) hx hb d_Md_access_89 (by decide) ?_
      refine lv_iadd hx hb d_Md_access_90 ?_
      refine puwM_19 (D := D) (x := (S1 19) + (1 : Int32)) hx hb hts iMd hown hK hP hD hS k119 rfl rfl d_Md_access_91 (fun H locs hP hD hS => ?_)
      refine lv_iconst (v := (1 : Int32)) hx hb d_Md_access_94 (by decide) ?_
      exact ret _ _ _ _ _ _ _ h (by decide +kernel) hP hD hS d_Md_access_95
    · have h := sg_n hc h
      exact b39 _ _ _ _ _ h _ _ _ (lv_sub hl [0, 1, 2, 3] rfl) hP hD hS
  intro H locs ls hl hP hD hS
  have hl : lv_has ls 4 [(0, .ref (b 0)), (1, .int x1), (2, .int x2), (3, .int x3)] := hl
  have h := h0
  unfold f_Md_access at h
  refine lv_aload_n hx hb d_Md_access_0 rfl (lv_at hl 0 rfl) ?_
  refine va_get (D := D) (ci := 7) (v := .int (S 19)) (C := R_Md) (T := T_Md) (N := 31) hx hb hts iMd hown hK hP 0 (wM_at0 _ _ _ _) rfl 27 (by decide) k119 (fun _ h9 => h9) rfl d_Md_access_1 ?_
  refine lv_bipush (v := (8 : Int32)) hx hb d_Md_access_4 (by decide) ?_
  refine lv_icmp_eq (tgt := 39) hx hb d_Md_access_6 (by decide) (fun hc => ?_) (fun hc => ?_)
  · have h := sg_p hc h
    exact b39 _ _ _ _ _ h _ _ _ (lv_sub hl [0, 1, 2, 3] rfl) hP hD hS
  · have h := sg_n hc h
    refine lv_iload_n hx hb d_Md_access_9 rfl (lv_at hl 1 rfl) ?_
    refine lv_iconst (v := (0 : Int32)) hx hb d_Md_access_10 (by decide) ?_
    refine lv_iconst (v := (2 : Int32)) hx hb d_Md_access_11 (by decide) ?_
    obtain ⟨⟨r5, S5, M5⟩, hc5, h⟩ := sg_b h
    dsimp only at h
    refine csi (As := [.int x1, .int (0 : Int32), .int (2 : Int32)]) (rest := []) ⟨hx, hb, hml, hown, hts⟩ (c_Md_outside l D cA b S M x1 (0 : Int32) (2 : Int32) _ hc5) ⟨callB_of 3 hts (tb_gi tb_cd_Md_outside) rfl rfl rfl (hts _ tb_in_Md) (hts _ tb_ml_Md_156) yd_Md_outside ⟨Nat.le_of_ble_eq_true rfl, Nat.le_of_ble_eq_true rfl⟩, hts _ tb_st_Md_outside⟩ hZK hK hZ hP hD hS rfl hl.1 rfl (Nat.le_of_ble_eq_true rfl) d_Md_access_12 (fun H locs hP hD hS => ?_)
    refine lv_if_ne (tgt := 39) hx hb d_Md_access_15 (by decide) (fun hc => ?_) (fun hc => ?_)
    · have h := sg_n hc h
      exact b39 _ _ _ _ _ h _ _ _ (lv_sub hl [0, 1, 2, 3] rfl) hP hD hS
    · have h := sg_p hc h
      refine lv_iload_n hx hb d_Md_access_18 rfl (lv_at hl 2 rfl) ?_
      refine lv_iconst (v := (0 : Int32)) hx hb d_Md_access_19 (by decide) ?_
      refine lv_iload_n hx hb d_Md_access_20 rfl (lv_at hl 1 rfl) ?_
      refine lv_iconst (v := (2 : Int32)) hx hb d_Md_access_21 (by decide) ?_
      refine lv_icmp_ne (tgt := 30) hx hb d_Md_access_22 (by decide) (fun hc => ?_) (fun hc => ?_)
      · have h := sg_n hc h
        refine lv_sipush (v := (255 : Int32)) hx hb d_Md_access_30 (by decide) ?_
        exact b33 _ _ _ _ _ _ _ _ h _ _ _ (lv_sub hl [0, 1, 2, 3] rfl) hP hD hS
      · have h := sg_p hc h
        refine lv_bipush (v := (31 : Int32)) hx hb d_Md_access_25 (by decide) ?_
        refine lv_goto (tgt := 33) hx hb d_Md_access_27 (by decide) ?_
        exact b33 _ _ _ _ _ _ _ _ h _ _ _ (lv_sub hl [0, 1, 2, 3] rfl) hP hD hS
def f_Md_set (S : SS) (M : MM) (x1 : Int32) (x2 : Int32) : Option RR := (f_Md_outside S M x1 (0 : Int32) (255 : Int32)).bind (fun q1 => if q1.1 = 0 then if x1 < 0 ∨ 256 ≤ x1.toNatClampNeg then none else some ((1 : Int32), q1.2.1, (upM q1.2.2 0 (upd (q1.2.2 0) x1.toNatClampNeg (x2 &&& (65535 : Int32))))) else some ((0 : Int32), q1.2.1, q1.2.2))
set_option maxHeartbeats 4000000 in
set_option maxRecDepth 100000 in
theorem c_Md_set (l : Launch) (D : va_G) (cA : ClassId) (b : Nat → Nat) (S : SS) (M : MM) (x1 : Int32) (x2 : Int32) (q : RR) (h0 : f_Md_set S M x1 x2 = some q) : Ci l y_Md_set w_Md_set rm_Md_set D vCl [(cA, .int)] (AM b) (ZM b) (wM cA b) [.ref (b 0), .int x1, .int x2] S M q := by
  refine Ci.of (cc := prog_9_method_21_code) (maxL := 3) (ty := .boolean) (by decide) rfl (Nat.le_of_ble_eq_true rfl) ?_
  intro p e s m args below meth c Q hx hb hml hown hts hK hZ ret
  have hown : s.vm.findClass R_Md = some m.cls := hown
  have hts : ∀ w ∈ TB, w.before args s = true := fun w h => hts w (List.mem_cons_of_mem _ h)
  have hZK := ZM_k b
  have k7 := hts _ tb_fl_Md_7
  have k88 := hts _ tb_ct_Md_88
  intro H locs ls hl hP hD hS
  have hl : lv_has ls 3 [(0, .ref (b 0)), (1, .int x1), (2, .int x2)] := hl
  have h := h0
  unfold f_Md_set at h
  refine lv_iload_n hx hb d_Md_set_0 rfl (lv_at hl 1 rfl) ?_
  refine lv_iconst (v := (0 : Int32)) hx hb d_Md_set_1 (by decide) ?_
  refine lv_sipush (v := (255 : Int32)) hx hb d_Md_set_2 (by decide) ?_
  obtain ⟨⟨r1, S1, M1⟩, hc1, h⟩ := sg_b h
  dsimp only at h
  refine csi (As := [.int x1, .int (0 : Int32), .int (255 : Int32)]) (rest := []) ⟨hx, hb, hml, hown, hts⟩ (c_Md_outside l D cA b S M x1 (0 : Int32) (255 : Int32) _ hc1) ⟨callB_of 3 hts (tb_gi tb_cd_Md_outside) rfl rfl rfl (hts _ tb_in_Md) (hts _ tb_ml_Md_156) yd_Md_outside ⟨Nat.le_of_ble_eq_true rfl, Nat.le_of_ble_eq_true rfl⟩, hts _ tb_st_Md_outside⟩ hZK hK hZ hP hD hS rfl hl.1 rfl (Nat.le_of_ble_eq_true rfl) d_Md_set_5 (fun H locs hP hD hS => ?_)
  refine lv_if_eq (tgt := 13) hx hb d_Md_set_8 (by decide) (fun hc => ?_) (fun hc => ?_)
  · have h := sg_p hc h
    refine lv_aload_n hx hb d_Md_set_13 rfl (lv_at hl 0 rfl) ?_
    refine va_get (D := D) (ci := 7) (v := .ref (b 1)) (C := R_Md) (T := T_Md) (N := 31) hx hb hts iMd hown hK hP 0 (wM_at0 _ _ _ _) rfl 0 (by decide) k7 (fun _ h9 => h9) rfl d_Md_set_14 ?_
    refine lv_iload_n hx hb d_Md_set_17 rfl (lv_at hl 1 rfl) ?_
    refine lv_iload_n hx hb d_Md_set_18 rfl (lv_at hl 2 rfl) ?_
    refine lv_ldc (v := (65535 : Int32)) hx hb hown k88 d_Md_set_19 ?_
    refine lv_iand hx hb d_Md_set_21 ?_
    obtain ⟨hg2, h⟩ := sg_g h
    refine va_iast (x := x2 &&& (65535 : Int32)) hx hb hK hP hD hS 1 0 (wM_at1 _ _ _ _) rfl hg2 d_Md_set_22 (fun H locs hP hD hS => ?_)
    have hP := wM_set1 hP
    have hD := wM_dset1 hD
    refine lv_iconst (v := (1 : Int32)) hx hb d_Md_set_23 (by decide) ?_
    exact ret _ _ _ _ _ _ _ h (by decide +kernel) hP hD hS d_Md_set_24
  · have h := sg_n hc h
    refine lv_iconst (v := (0 : Int32)) hx hb d_Md_set_11 (by decide) ?_
    exact ret _ _ _ _ _ _ _ h (by decide +kernel) hP hD hS d_Md_set_12
def f_Md_word_21 (S : SS) (M : MM) (x1 : Int32) (y0 : Int32) : Option RR := some (y0, S, M)
def f_Md_word (S : SS) (M : MM) (x1 : Int32) : Option RR := (f_Md_outside S M x1 (0 : Int32) (255 : Int32)).bind (fun q1 => if q1.1 = 0 then if x1 < 0 ∨ 256 ≤ x1.toNatClampNeg then none else f_Md_word_21 q1.2.1 q1.2.2 x1 (q1.2.2 0 x1.toNatClampNeg) else f_Md_word_21 q1.2.1 q1.2.2 x1 (-1 : Int32))
set_option maxHeartbeats 4000000 in
set_option maxRecDepth 100000 in
theorem c_Md_word (l : Launch) (D : va_G) (cA : ClassId) (b : Nat → Nat) (S : SS) (M : MM) (x1 : Int32) (q : RR) (h0 : f_Md_word S M x1 = some q) : Ci l y_Md_word w_Md_word rm_Md_word D vCl [(cA, .int)] (AM b) (ZM b) (wM cA b) [.ref (b 0), .int x1] S M q := by
  refine Ci.of (cc := prog_9_method_22_code) (maxL := 2) (ty := .int) (by decide) rfl (Nat.le_of_ble_eq_true rfl) ?_
  intro p e s m args below meth c Q hx hb hml hown hts hK hZ ret
  have hown : s.vm.findClass R_Md = some m.cls := hown
  have hts : ∀ w ∈ TB, w.before args s = true := fun w h => hts w (List.mem_cons_of_mem _ h)
  have hZK := ZM_k b
  have k7 := hts _ tb_fl_Md_7
  have b21 : ∀ (S : SS) (M : MM) (x1 : Int32) (y0 : Int32), f_Md_word_21 S M x1 y0 = some q → BK p l e rm_Md_word s m args below meth c Q D vCl (AM b) (wM cA b) 2 21 [(0, .ref (b 0)), (1, .int x1)] [.int y0] S M := by
    intro S M x1 y0 h H locs ls hl hP hD hS
    unfold f_Md_word_21 at h
    exact ret _ _ _ _ _ _ _ h rfl hP hD hS d_Md_word_21
  intro H locs ls hl hP hD hS
  have hl : lv_has ls 2 [(0, .ref (b 0)), (1, .int x1)] := hl
  have h := h0
  unfold f_Md_word at h
  refine lv_iload_n hx hb d_Md_word_0 rfl (lv_at hl 1 rfl) ?_
  refine lv_iconst (v := (0 : Int32)) hx hb d_Md_word_1 (by decide) ?_
  refine lv_sipush (v := (255 : Int32)) hx hb d_Md_word_2 (by decide) ?_
  obtain ⟨⟨r1, S1, M1⟩, hc1, h⟩ := sg_b h
  dsimp only at h
  refine csi (As := [.int x1, .int (0 : Int32), .int (255 : Int32)]) (rest := []) ⟨hx, hb, hml, hown, hts⟩ (c_Md_outside l D cA b S M x1 (0 : Int32) (255 : Int32) _ hc1) ⟨callB_of 3 hts (tb_gi tb_cd_Md_outside) rfl rfl rfl (hts _ tb_in_Md) (hts _ tb_ml_Md_156) yd_Md_outside ⟨Nat.le_of_ble_eq_true rfl, Nat.le_of_ble_eq_true rfl⟩, hts _ tb_st_Md_outside⟩ hZK hK hZ hP hD hS rfl hl.1 rfl (Nat.le_of_ble_eq_true rfl) d_Md_word_5 (fun H locs hP hD hS => ?_)
  refine lv_if_eq (tgt := 15) hx hb d_Md_word_8 (by decide) (fun hc => ?_) (fun hc => ?_)
  · have h := sg_p hc h
    refine lv_aload_n hx hb d_Md_word_15 rfl (lv_at hl 0 rfl) ?_
    refine va_get (D := D) (ci := 7) (v := .ref (b 1)) (C := R_Md) (T := T_Md) (N := 31) hx hb hts iMd hown hK hP 0 (wM_at0 _ _ _ _) rfl 0 (by decide) k7 (fun _ h9 => h9) rfl d_Md_word_16 ?_
    refine lv_iload_n hx hb d_Md_word_19 rfl (lv_at hl 1 rfl) ?_
    obtain ⟨hg2, h⟩ := sg_g h
    refine va_iald hx hb hK hP 1 0 (wM_at1 _ _ _ _) rfl hg2 d_Md_word_20 ?_
    exact b21 _ _ _ _ h _ _ _ (lv_sub hl [0, 1] rfl) hP hD hS
  · have h := sg_n hc h
    refine lv_iconst (v := (-1 : Int32)) hx hb d_Md_word_11 (by decide) ?_
    refine lv_goto (tgt := 21) hx hb d_Md_word_12 (by decide) ?_
    exact b21 _ _ _ _ h _ _ _ (lv_sub hl [0, 1] rfl) hP hD hS
def f_Md_point_35 (S : SS) (M : MM) (x1 : Int32) (x2 : Int32) (y0 : Int32) : Option RR := some (y0, S, M)
def f_Md_point_20 (S : SS) (M : MM) (x1 : Int32) (x2 : Int32) : Option RR := f_Md_point_35 S M x1 x2 (-1 : Int32)
def f_Md_point (S : SS) (M : MM) (x1 : Int32) (x2 : Int32) : Option RR := (f_Md_outside S M x1 (0 : Int32) (31 : Int32)).bind (fun q1 => if q1.1 = 0 then (f_Md_outside q1.2.1 q1.2.2 x2 (0 : Int32) (11 : Int32)).bind (fun q2 => if q2.1 = 0 then if ((32 : Int32) * x2) + x1 < 0 ∨ 384 ≤ (((32 : Int32) * x2) + x1).toNatClampNeg then none else f_Md_point_35 q2.2.1 q2.2.2 x1 x2 (q2.2.2 2 (((32 : Int32) * x2) + x1).toNatClampNeg) else f_Md_point_20 q2.2.1 q2.2.2 x1 x2) else f_Md_point_20 q1.2.1 q1.2.2 x1 x2)
set_option maxHeartbeats 4000000 in
set_option maxRecDepth 100000 in
theorem c_Md_point (l : Launch) (D : va_G) (cA : ClassId) (b : Nat → Nat) (S : SS) (M : MM) (x1 : Int32) (x2 : Int32) (q : RR) (h0 : f_Md_point S M x1 x2 = some q) : Ci l y_Md_point w_Md_point rm_Md_point D vCl [(cA, .int)] (AM b) (ZM b) (wM cA b) [.ref (b 0), .int x1, .int x2] S M q := by
  refine Ci.of (cc := prog_9_method_23_code) (maxL := 3) (ty := .int) (by decide) rfl (Nat.le_of_ble_eq_true rfl) ?_
  intro p e s m args below meth c Q hx hb hml hown hts hK hZ ret
  have hown : s.vm.findClass R_Md = some m.cls := hown
  have hts : ∀ w ∈ TB, w.before args s = true := fun w h => hts w (List.mem_cons_of_mem _ h)
  have hZK := ZM_k b
  have k16 := hts _ tb_fl_Md_16
  have b35 : ∀ (S : SS) (M : MM) (x1 : Int32) (x2 : Int32) (y0 : Int32), f_Md_point_35 S M x1 x2 y0 = some q → BK p l e rm_Md_point s m args below meth c Q D vCl (AM b) (wM cA b) 3 35 [(0, .ref (b 0)), (1, .int x1), (2, .int x2)] [.int y0] S M := by
    intro S M x1 x2 y0 h H locs ls hl hP hD hS
    unfold f_Md_point_35 at h
    exact ret _ _ _ _ _ _ _ h rfl hP hD hS d_Md_point_35
  have b20 : ∀ (S : SS) (M : MM) (x1 : Int32) (x2 : Int32), f_Md_point_20 S M x1 x2 = some q → BK p l e rm_Md_point s m args below meth c Q D vCl (AM b) (wM cA b) 3 20 [(0, .ref (b 0)), (1, .int x1), (2, .int x2)] [] S M := by
    intro S M x1 x2 h H locs ls hl hP hD hS
    unfold f_Md_point_20 at h
    refine lv_iconst (v := (-1 : Int32)) hx hb d_Md_point_20 (by decide) ?_
    refine lv_goto (tgt := 35) hx hb d_Md_point_21 (by decide) ?_
    exact b35 _ _ _ _ _ h _ _ _ (lv_sub hl [0, 1, 2] rfl) hP hD hS
  intro H locs ls hl hP hD hS
  have hl : lv_has ls 3 [(0, .ref (b 0)), (1, .int x1), (2, .int x2)] := hl
  have h := h0
  unfold f_Md_point at h
  refine lv_iload_n hx hb d_Md_point_0 rfl (lv_at hl 1 rfl) ?_
  refine lv_iconst (v := (0 : Int32)) hx hb d_Md_point_1 (by decide) ?_
  refine lv_bipush (v := (31 : Int32)) hx hb d_Md_point_2 (by decide) ?_
  obtain ⟨⟨r1, S1, M1⟩, hc1, h⟩ := sg_b h
  dsimp only at h
  refine csi (As := [.int x1, .int (0 : Int32), .int (31 : Int32)]) (rest := []) ⟨hx, hb, hml, hown, hts⟩ (c_Md_outside l D cA b S M x1 (0 : Int32) (31 : Int32) _ hc1) ⟨callB_of 3 hts (tb_gi tb_cd_Md_outside) rfl rfl rfl (hts _ tb_in_Md) (hts _ tb_ml_Md_156) yd_Md_outside ⟨Nat.le_of_ble_eq_true rfl, Nat.le_of_ble_eq_true rfl⟩, hts _ tb_st_Md_outside⟩ hZK hK hZ hP hD hS rfl hl.1 rfl (Nat.le_of_ble_eq_true rfl) d_Md_point_4 (fun H locs hP hD hS => ?_)
  refine lv_if_ne (tgt := 20) hx hb d_Md_point_7 (by decide) (fun hc => ?_) (fun hc => ?_)
  · have h := sg_n hc h
    exact b20 _ _ _ _ h _ _ _ (lv_sub hl [0, 1, 2] rfl) hP hD hS
  · have h := sg_p hc h
    refine lv_iload_n hx hb d_Md_point_10 rfl (lv_at hl 2 rfl) ?_
    refine lv_iconst (v := (0 : Int32)) hx hb d_Md_point_11 (by decide) ?_
    refine lv_bipush (v := (11 : Int32)) hx hb d_Md_point_12 (by decide) ?_
    obtain ⟨⟨r2, S2, M2⟩, hc2, h⟩ := sg_b h
    dsimp only at h
    refine csi (As := [.int x2, .int (0 : Int32), .int (11 : Int32)]) (rest := []) ⟨hx, hb, hml, hown, hts⟩ (c_Md_outside l D cA b S1 M1 x2 (0 : Int32) (11 : Int32) _ hc2) ⟨callB_of 3 hts (tb_gi tb_cd_Md_outside) rfl rfl rfl (hts _ tb_in_Md) (hts _ tb_ml_Md_156) yd_Md_outside ⟨Nat.le_of_ble_eq_true rfl, Nat.le_of_ble_eq_true rfl⟩, hts _ tb_st_Md_outside⟩ hZK hK hZ hP hD hS rfl hl.1 rfl (Nat.le_of_ble_eq_true rfl) d_Md_point_14 (fun H locs hP hD hS => ?_)
    refine lv_if_eq (tgt := 24) hx hb d_Md_point_17 (by decide) (fun hc => ?_) (fun hc => ?_)
    · have h := sg_p hc h
      refine lv_aload_n hx hb d_Md_point_24 rfl (lv_at hl 0 rfl) ?_
      refine va_get (D := D) (ci := 7) (v := .ref (b 3)) (C := R_Md) (T := T_Md) (N := 31) hx hb hts iMd hown hK hP 0 (wM_at0 _ _ _ _) rfl 2 (by decide) k16 (fun _ h9 => h9) rfl d_Md_point_25 ?_
      refine lv_bipush (v := (32 : Int32)) hx hb d_Md_point_28 (by decide) ?_
      refine lv_iload_n hx hb d_Md_point_30 rfl (lv_at hl 2 rfl) ?_
      refine lv_imul hx hb d_Md_point_31 ?_
      refine lv_iload_n hx hb d_Md_point_32 rfl (lv_at hl 1 rfl) ?_
      refine lv_iadd hx hb d_Md_point_33 ?_
      obtain ⟨hg3, h⟩ := sg_g h
      refine va_iald hx hb hK hP 3 0 (wM_at3 _ _ _ _) rfl hg3 d_Md_point_34 ?_
      exact b35 _ _ _ _ _ h _ _ _ (lv_sub hl [0, 1, 2] rfl) hP hD hS
    · have h := sg_n hc h
      exact b20 _ _ _ _ h _ _ _ (lv_sub hl [0, 1, 2] rfl) hP hD hS
def f_Md_place (S : SS) (M : MM) : Option RR := some (S 0, S, M)
set_option maxHeartbeats 4000000 in
set_option maxRecDepth 100000 in
theorem c_Md_place (l : Launch) (D : va_G) (cA : ClassId) (b : Nat → Nat) (S : SS) (M : MM) (q : RR) (h0 : f_Md_place S M = some q) : Ci l y_Md_place w_Md_place rm_Md_place D vCl [(cA, .int)] (AM b) (ZM b) (wM cA b) [.ref (b 0)] S M q := by
  refine Ci.of (cc := prog_9_method_24_code) (maxL := 1) (ty := .int) (by decide) rfl (Nat.le_of_ble_eq_true rfl) ?_
  intro p e s m args below meth c Q hx hb hml hown hts hK hZ ret
  have hown : s.vm.findClass R_Md = some m.cls := hown
  have hts : ∀ w ∈ TB, w.before args s = true := fun w h => hts w (List.mem_cons_of_mem _ h)
  have hZK := ZM_k b
  have k103 := hts _ tb_fl_Md_103
  intro H locs ls hl hP hD hS
  have hl : lv_has ls 1 [(0, .ref (b 0))] := hl
  have h := h0
  unfold f_Md_place at h
  refine lv_aload_n hx hb d_Md_place_0 rfl (lv_at hl 0 rfl) ?_
  refine va_get (D := D) (ci := 7) (v := .int (S 0)) (C := R_Md) (T := T_Md) (N := 31) hx hb hts iMd hown hK hP 0 (wM_at0 _ _ _ _) rfl 3 (by decide) k103 (fun _ h9 => h9) rfl d_Md_place_1 ?_
  exact ret _ _ _ _ _ _ _ h rfl hP hD hS d_Md_place_4
def f_Md_frames (S : SS) (M : MM) : Option RR := some (S 1, S, M)
set_option maxHeartbeats 4000000 in
set_option maxRecDepth 100000 in
theorem c_Md_frames (l : Launch) (D : va_G) (cA : ClassId) (b : Nat → Nat) (S : SS) (M : MM) (q : RR) (h0 : f_Md_frames S M = some q) : Ci l y_Md_frames w_Md_frames rm_Md_frames D vCl [(cA, .int)] (AM b) (ZM b) (wM cA b) [.ref (b 0)] S M q := by
  refine Ci.of (cc := prog_9_method_25_code) (maxL := 1) (ty := .int) (by decide) rfl (Nat.le_of_ble_eq_true rfl) ?_
  intro p e s m args below meth c Q hx hb hml hown hts hK hZ ret
  have hown : s.vm.findClass R_Md = some m.cls := hown
  have hts : ∀ w ∈ TB, w.before args s = true := fun w h => hts w (List.mem_cons_of_mem _ h)
  have hZK := ZM_k b
  have k147 := hts _ tb_fl_Md_147
  intro H locs ls hl hP hD hS
  have hl : lv_has ls 1 [(0, .ref (b 0))] := hl
  have h := h0
  unfold f_Md_frames at h
  refine lv_aload_n hx hb d_Md_frames_0 rfl (lv_at hl 0 rfl) ?_
  refine va_get (D := D) (ci := 7) (v := .int (S 1)) (C := R_Md) (T := T_Md) (N := 31) hx hb hts iMd hown hK hP 0 (wM_at0 _ _ _ _) rfl 4 (by decide) k147 (fun _ h9 => h9) rfl d_Md_frames_1 ?_
  exact ret _ _ _ _ _ _ _ h rfl hP hD hS d_Md_frames_4
def f_Md_slots_19 (S : SS) (M : MM) (x1 : Int32) (y0 : Int32) : Option RR := some (y0, S, M)
def f_Md_slots (S : SS) (M : MM) (x1 : Int32) : Option RR := (f_Md_outside S M x1 (0 : Int32) (5 : Int32)).bind (fun q1 => if q1.1 = 0 then if x1 < 0 ∨ 6 ≤ x1.toNatClampNeg then none else f_Md_slots_19 q1.2.1 q1.2.2 x1 (q1.2.2 3 x1.toNatClampNeg) else f_Md_slots_19 q1.2.1 q1.2.2 x1 (-1 : Int32))
set_option maxHeartbeats 4000000 in
set_option maxRecDepth 100000 in
theorem c_Md_slots (l : Launch) (D : va_G) (cA : ClassId) (b : Nat → Nat) (S : SS) (M : MM) (x1 : Int32) (q : RR) (h0 : f_Md_slots S M x1 = some q) : Ci l y_Md_slots w_Md_slots rm_Md_slots D vCl [(cA, .int)] (AM b) (ZM b) (wM cA b) [.ref (b 0), .int x1] S M q := by
  refine Ci.of (cc := prog_9_method_26_code) (maxL := 2) (ty := .int) (by decide) rfl (Nat.le_of_ble_eq_true rfl) ?_
  intro p e s m args below meth c Q hx hb hml hown hts hK hZ ret
  have hown : s.vm.findClass R_Md = some m.cls := hown
  have hts : ∀ w ∈ TB, w.before args s = true := fun w h => hts w (List.mem_cons_of_mem _ h)
  have hZK := ZM_k b
  have k19 := hts _ tb_fl_Md_19
  have b19 : ∀ (S : SS) (M : MM) (x1 : Int32) (y0 : Int32), f_Md_slots_19 S M x1 y0 = some q → BK p l e rm_Md_slots s m args below meth c Q D vCl (AM b) (wM cA b) 2 19 [(0, .ref (b 0)), (1, .int x1)] [.int y0] S M := by
    intro S M x1 y0 h H locs ls hl hP hD hS
    unfold f_Md_slots_19 at h
    exact ret _ _ _ _ _ _ _ h rfl hP hD hS d_Md_slots_19
  intro H locs ls hl hP hD hS
  have hl : lv_has ls 2 [(0, .ref (b 0)), (1, .int x1)] := hl
  have h := h0
  unfold f_Md_slots at h
  refine lv_iload_n hx hb d_Md_slots_0 rfl (lv_at hl 1 rfl) ?_
  refine lv_iconst (v := (0 : Int32)) hx hb d_Md_slots_1 (by decide) ?_
  refine lv_iconst (v := (5 : Int32)) hx hb d_Md_slots_2 (by decide) ?_
  obtain ⟨⟨r1, S1, M1⟩, hc1, h⟩ := sg_b h
  dsimp only at h
  refine csi (As := [.int x1, .int (0 : Int32), .int (5 : Int32)]) (rest := []) ⟨hx, hb, hml, hown, hts⟩ (c_Md_outside l D cA b S M x1 (0 : Int32) (5 : Int32) _ hc1) ⟨callB_of 3 hts (tb_gi tb_cd_Md_outside) rfl rfl rfl (hts _ tb_in_Md) (hts _ tb_ml_Md_156) yd_Md_outside ⟨Nat.le_of_ble_eq_true rfl, Nat.le_of_ble_eq_true rfl⟩, hts _ tb_st_Md_outside⟩ hZK hK hZ hP hD hS rfl hl.1 rfl (Nat.le_of_ble_eq_true rfl) d_Md_slots_3 (fun H locs hP hD hS => ?_)
  refine lv_if_eq (tgt := 13) hx hb d_Md_slots_6 (by decide) (fun hc => ?_) (fun hc => ?_)
  · have h := sg_p hc h
    refine lv_aload_n hx hb d_Md_slots_13 rfl (lv_at hl 0 rfl) ?_
    refine va_get (D := D) (ci := 7) (v := .ref (b 4)) (C := R_Md) (T := T_Md) (N := 31) hx hb hts iMd hown hK hP 0 (wM_at0 _ _ _ _) rfl 6 (by decide) k19 (fun _ h9 => h9) rfl d_Md_slots_14 ?_
    refine lv_iload_n hx hb d_Md_slots_17 rfl (lv_at hl 1 rfl) ?_
    obtain ⟨hg2, h⟩ := sg_g h
    refine va_iald hx hb hK hP 4 0 (wM_at4 _ _ _ _) rfl hg2 d_Md_slots_18 ?_
    exact b19 _ _ _ _ h _ _ _ (lv_sub hl [0, 1] rfl) hP hD hS
  · have h := sg_n hc h
    refine lv_iconst (v := (-1 : Int32)) hx hb d_Md_slots_9 (by decide) ?_
    refine lv_goto (tgt := 19) hx hb d_Md_slots_10 (by decide) ?_
    exact b19 _ _ _ _ h _ _ _ (lv_sub hl [0, 1] rfl) hP hD hS
def f_Md_look_77 (S : SS) (M : MM) (x1 : Int32) (y0 : Int32) : Option RR := some (y0, S, M)
def f_Md_look_90 (S : SS) (M : MM) (x1 : Int32) (y0 : Int32) : Option RR := some (y0, S, M)
def f_Md_look_103 (S : SS) (M : MM) (x1 : Int32) (y0 : Int32) : Option RR := some (y0, S, M)
def f_Md_look (S : SS) (M : MM) (x1 : Int32) : Option RR := if x1 = (0 : Int32) then some (S 2, S, M) else if x1 = (1 : Int32) then if (S 2) &&& (M 1 26) = 0 then f_Md_look_77 S M x1 (0 : Int32) else f_Md_look_77 S M x1 (1 : Int32) else if x1 = (2 : Int32) then if S 9 = 0 then f_Md_look_90 S M x1 (0 : Int32) else f_Md_look_90 S M x1 (1 : Int32) else if x1 = (3 : Int32) then if S 10 = 0 then f_Md_look_103 S M x1 (0 : Int32) else f_Md_look_103 S M x1 (1 : Int32) else if x1 = (4 : Int32) then some (S 19, S, M) else if x1 = (5 : Int32) then some (S 20, S, M) else if x1 = (6 : Int32) then some (S 21, S, M) else if x1 = (7 : Int32) then some (S 3, S, M) else if x1 = (8 : Int32) then some (S 4, S, M) else some ((-1 : Int32), S, M)
set_option maxHeartbeats 4000000 in
set_option maxRecDepth 100000 in
theorem c_Md_look (l : Launch) (D : va_G) (cA : ClassId) (b : Nat → Nat) (S : SS) (M : MM) (x1 : Int32) (q : RR) (h0 : f_Md_look S M x1 = some q) : Ci l y_Md_look w_Md_look rm_Md_look D vCl [(cA, .int)] (AM b) (ZM b) (wM cA b) [.ref (b 0), .int x1] S M q := by
  refine Ci.of (cc := prog_9_method_27_code) (maxL := 2) (ty := .int) (by decide) rfl (Nat.le_of_ble_eq_true rfl) ?_
  intro p e s m args below meth c Q hx hb hml hown hts hK hZ ret
  have hown : s.vm.findClass R_Md = some m.cls := hown
  have hts : ∀ w ∈ TB, w.before args s = true := fun w h => hts w (List.mem_cons_of_mem _ h)
  have hZK := ZM_k b
  have k44 := hts _ tb_fl_Md_44
  have k13 := hts _ tb_fl_Md_13
  have k61 := hts _ tb_fl_Md_61
  have k64 := hts _ tb_fl_Md_64
  have k119 := hts _ tb_fl_Md_119
  have k122 := hts _ tb_fl_Md_122
  have k125 := hts _ tb_fl_Md_125
  have k48 := hts _ tb_fl_Md_48
  have k51 := hts _ tb_fl_Md_51
  have b77 : ∀ (S : SS) (M : MM) (x1 : Int32) (y0 : Int32), f_Md_look_77 S M x1 y0 = some q → BK p l e rm_Md_look s m args below meth c Q D vCl (AM b) (wM cA b) 2 77 [(0, .ref (b 0)), (1, .int x1)] [.int y0] S M := by
    intro S M x1 y0 h H locs ls hl hP hD hS
    unfold f_Md_look_77 at h
    exact ret _ _ _ _ _ _ _ h rfl hP hD hS d_Md_look_77
  have b90 : ∀ (S : SS) (M : MM) (x1 : Int32) (y0 : Int32), f_Md_look_90 S M x1 y0 = some q → BK p l e rm_Md_look s m args below meth c Q D vCl (AM b) (wM cA b) 2 90 [(0, .ref (b 0)), (1, .int x1)] [.int y0] S M := by
    intro S M x1 y0 h H locs ls hl hP hD hS
    unfold f_Md_look_90 at h
    exact ret _ _ _ _ _ _ _ h rfl hP hD hS d_Md_look_90
  have b103 : ∀ (S : SS) (M : MM) (x1 : Int32) (y0 : Int32), f_Md_look_103 S M x1 y0 = some q → BK p l e rm_Md_look s m args below meth c Q D vCl (AM b) (wM cA b) 2 103 [(0, .ref (b 0)), (1, .int x1)] [.int y0] S M := by
    intro S M x1 y0 h H locs ls hl hP hD hS
    unfold f_Md_look_103 at h
    exact ret _ _ _ _ _ _ _ h rfl hP hD hS d_Md_look_103
  intro H locs ls hl hP hD hS
  have hl : lv_has ls 2 [(0, .ref (b 0)), (1, .int x1)] := hl
  have h := h0
  unfold f_Md_look at h
  refine lv_iload_n hx hb d_Md_look_0 rfl (lv_at hl 1 rfl) ?_
  by_cases hc : x1 = (0 : Int32)
  · have h := sg_p hc h
    refine cst_i (y := (0 : Int32)) hc ?_
    refine lv_tableIn (off := 51) (tgt := 52) hx hb d_Md_look_1 (by decide) (by decide) (by decide +kernel) (by decide) ?_
    refine lv_aload_n hx hb d_Md_look_52 rfl (lv_at hl 0 rfl) ?_
    refine va_get (D := D) (ci := 7) (v := .int (S 2)) (C := R_Md) (T := T_Md) (N := 31) hx hb hts iMd hown hK hP 0 (wM_at0 _ _ _ _) rfl 5 (by decide) k44 (fun _ h9 => h9) rfl d_Md_look_53 ?_
    exact ret _ _ _ _ _ _ _ h rfl hP hD hS d_Md_look_56
  have h := sg_n hc h
  have hcn8 := hc
  by_cases hc : x1 = (1 : Int32)
  · have h := sg_p hc h
    refine cst_i (y := (1 : Int32)) hc ?_
    refine lv_tableIn (off := 56) (tgt := 57) hx hb d_Md_look_1 (by decide) (by decide) (by decide +kernel) (by decide) ?_
    refine lv_aload_n hx hb d_Md_look_57 rfl (lv_at hl 0 rfl) ?_
    refine va_get (D := D) (ci := 7) (v := .int (S 2)) (C := R_Md) (T := T_Md) (N := 31) hx hb hts iMd hown hK hP 0 (wM_at0 _ _ _ _) rfl 5 (by decide) k44 (fun _ h9 => h9) rfl d_Md_look_58 ?_
    refine lv_aload_n hx hb d_Md_look_61 rfl (lv_at hl 0 rfl) ?_
    refine va_get (D := D) (ci := 7) (v := .ref (b 2)) (C := R_Md) (T := T_Md) (N := 31) hx hb hts iMd hown hK hP 0 (wM_at0 _ _ _ _) rfl 1 (by decide) k13 (fun _ h9 => h9) rfl d_Md_look_62 ?_
    refine lv_bipush (v := (26 : Int32)) hx hb d_Md_look_65 (by decide) ?_
    refine ialdK hx hb hK hP 2 0 (wM_at2 _ _ _ _) rfl 26 (by decide) (by unfold vp_in; decide) d_Md_look_67 ?_
    refine lv_iand hx hb d_Md_look_68 ?_
    refine lv_if_eq (tgt := 76) hx hb d_Md_look_69 (by decide) (fun hc => ?_) (fun hc => ?_)
    · have h := sg_p hc h
      refine lv_iconst (v := (0 : Int32)) hx hb d_Md_look_76 (by decide) ?_
      exact b77 _ _ _ _ h _ _ _ (lv_sub hl [0, 1] rfl) hP hD hS
    · have h := sg_n hc h
      refine lv_iconst (v := (1 : Int32)) hx hb d_Md_look_72 (by decide) ?_
      refine lv_goto (tgt := 77) hx hb d_Md_look_73 (by decide) ?_
      exact b77 _ _ _ _ h _ _ _ (lv_sub hl [0, 1] rfl) hP hD hS
  have h := sg_n hc h
  have hcn29 := hc
  by_cases hc : x1 = (2 : Int32)
  · have h := sg_p hc h
    refine cst_i (y := (2 : Int32)) hc ?_
    refine lv_tableIn (off := 77) (tgt := 78) hx hb d_Md_look_1 (by decide) (by decide) (by decide +kernel) (by decide) ?_
    refine lv_aload_n hx hb d_Md_look_78 rfl (lv_at hl 0 rfl) ?_
    refine va_get (D := D) (ci := 7) (v := .int (S 9)) (C := R_Md) (T := T_Md) (N := 31) hx hb hts iMd hown hK hP 0 (wM_at0 _ _ _ _) rfl 16 (by decide) k61 (fun _ h9 => h9) rfl d_Md_look_79 ?_
    refine lv_if_eq (tgt := 89) hx hb d_Md_look_82 (by decide) (fun hc => ?_) (fun hc => ?_)
    · have h := sg_p hc h
      refine lv_iconst (v := (0 : Int32)) hx hb d_Md_look_89 (by decide) ?_
      exact b90 _ _ _ _ h _ _ _ (lv_sub hl [0, 1] rfl) hP hD hS
    · have h := sg_n hc h
      refine lv_iconst (v := (1 : Int32)) hx hb d_Md_look_85 (by decide) ?_
      refine lv_goto (tgt := 90) hx hb d_Md_look_86 (by decide) ?_
      exact b90 _ _ _ _ h _ _ _ (lv_sub hl [0, 1] rfl) hP hD hS
  have h := sg_n hc h
  have hcn45 := hc
  by_cases hc : x1 = (3 : Int32)
  · have h := sg_p hc h
    refine cst_i (y := (3 : Int32)) hc ?_
    refine lv_tableIn (off := 90) (tgt := 91) hx hb d_Md_look_1 (by decide) (by decide) (by decide +kernel) (by decide) ?_
    refine lv_aload_n hx hb d_Md_look_91 rfl (lv_at hl 0 rfl) ?_
    refine va_get (D := D) (ci := 7) (v := .int (S 10)) (C := R_Md) (T := T_Md) (N := 31) hx hb hts iMd hown hK hP 0 (wM_at0 _ _ _ _) rfl 17 (by decide) k64 (fun _ h9 => h9) rfl d_Md_look_92 ?_
    refine lv_if_eq (tgt := 102) hx hb d_Md_look_95 (by decide) (fun hc => ?_) (fun hc => ?_)
    · have h := sg_p hc h
      refine lv_iconst (v := (0 : Int32)) hx hb d_Md_look_102 (by decide) ?_
      exact b103 _ _ _ _ h _ _ _ (lv_sub hl [0, 1] rfl) hP hD hS
    · have h := sg_n hc h
      refine lv_iconst (v := (1 : Int32)) hx hb d_Md_look_98 (by decide) ?_
      refine lv_goto (tgt := 103) hx hb d_Md_look_99 (by decide) ?_
      exact b103 _ _ _ _ h _ _ _ (lv_sub hl [0, 1] rfl) hP hD hS
  have h := sg_n hc h
  have hcn61 := hc
  by_cases hc : x1 = (4 : Int32)
  · have h := sg_p hc h
    refine cst_i (y := (4 : Int32)) hc ?_
    refine lv_tableIn (off := 103) (tgt := 104) hx hb d_Md_look_1 (by decide) (by decide) (by decide +kernel) (by decide) ?_
    refine lv_aload_n hx hb d_Md_look_104 rfl (lv_at hl 0 rfl) ?_
    refine va_get (D := D) (ci := 7) (v := .int (S 19)) (C := R_Md) (T := T_Md) (N := 31) hx hb hts iMd hown hK hP 0 (wM_at0 _ _ _ _) rfl 27 (by decide) k119 (fun _ h9 => h9) rfl d_Md_look_105 ?_
    exact ret _ _ _ _ _ _ _ h rfl hP hD hS d_Md_look_108
  have h := sg_n hc h
  have hcn70 := hc
  by_cases hc : x1 = (5 : Int32)
  · have h := sg_p hc h
    refine cst_i (y := (5 : Int32)) hc ?_
    refine lv_tableIn (off := 108) (tgt := 109) hx hb d_Md_look_1 (by decide) (by decide) (by decide +kernel) (by decide) ?_
    refine lv_aload_n hx hb d_Md_look_109 rfl (lv_at hl 0 rfl) ?_
    refine va_get (D := D) (ci := 7) (v := .int (S 20)) (C := R_Md) (T := T_Md) (N := 31) hx hb hts iMd hown hK hP 0 (wM_at0 _ _ _ _) rfl 29 (by decide) k122 (fun _ h9 => h9) rfl d_Md_look_110 ?_
    exact ret _ _ _ _ _ _ _ h rfl hP hD hS d_Md_look_113
  have h := sg_n hc h
  have hcn79 := hc
  by_cases hc : x1 = (6 : Int32)
  · have h := sg_p hc h
    refine cst_i (y := (6 : Int32)) hc ?_
    refine lv_tableIn (off := 113) (tgt := 114) hx hb d_Md_look_1 (by decide) (by decide) (by decide +kernel) (by decide) ?_
    refine lv_aload_n hx hb d_Md_look_114 rfl (lv_at hl 0 rfl) ?_
    refine va_get (D := D) (ci := 7) (v := .int (S 21)) (C := R_Md) (T := T_Md) (N := 31) hx hb hts iMd hown hK hP 0 (wM_at0 _ _ _ _) rfl 30 (by decide) k125 (fun _ h9 => h9) rfl d_Md_look_115 ?_
    exact ret _ _ _ _ _ _ _ h rfl hP hD hS d_Md_look_118
  have h := sg_n hc h
  have hcn88 := hc
  by_cases hc : x1 = (7 : Int32)
  · have h := sg_p hc h
    refine cst_i (y := (7 : Int32)) hc ?_
    refine lv_tableIn (off := 118) (tgt := 119) hx hb d_Md_look_1 (by decide) (by decide) (by decide +kernel) (by decide) ?_
    refine lv_aload_n hx hb d_Md_look_119 rfl (lv_at hl 0 rfl) ?_
    refine va_get (D := D) (ci := 7) (v := .int (S 3)) (C := R_Md) (T := T_Md) (N := 31) hx hb hts iMd hown hK hP 0 (wM_at0 _ _ _ _) rfl 10 (by decide) k48 (fun _ h9 => h9) rfl d_Md_look_120 ?_
    exact ret _ _ _ _ _ _ _ h rfl hP hD hS d_Md_look_123
  have h := sg_n hc h
  have hcn97 := hc
  by_cases hc : x1 = (8 : Int32)
  · have h := sg_p hc h
    refine cst_i (y := (8 : Int32)) hc ?_
    refine lv_tableIn (off := 123) (tgt := 124) hx hb d_Md_look_1 (by decide) (by decide) (by decide +kernel) (by decide) ?_
    refine lv_aload_n hx hb d_Md_look_124 rfl (lv_at hl 0 rfl) ?_
    refine va_get (D := D) (ci := 7) (v := .int (S 4)) (C := R_Md) (T := T_Md) (N := 31) hx hb hts iMd hown hK hP 0 (wM_at0 _ _ _ _) rfl 11 (by decide) k51 (fun _ h9 => h9) rfl d_Md_look_125 ?_
    exact ret _ _ _ _ _ _ _ h rfl hP hD hS d_Md_look_128
  have h := sg_n hc h
  have hcn106 := hc
  refine lv_tableOut (tgt := 129) hx hb d_Md_look_1 (by have := lv_neT (a := 0) hcn8 (by decide); have := lv_neT (a := 1) hcn29 (by decide); have := lv_neT (a := 2) hcn45 (by decide); have := lv_neT (a := 3) hcn61 (by decide); have := lv_neT (a := 4) hcn70 (by decide); have := lv_neT (a := 5) hcn79 (by decide); have := lv_neT (a := 6) hcn88 (by decide); have := lv_neT (a := 7) hcn97 (by decide); have := lv_neT (a := 8) hcn106 (by decide); omega) (by decide) ?_
  refine lv_iconst (v := (-1 : Int32)) hx hb d_Md_look_129 (by decide) ?_
  exact ret _ _ _ _ _ _ _ h rfl hP hD hS d_Md_look_130
def f_Md_register_20 (S : SS) (M : MM) (x1 : Int32) (y0 : Int32) : Option RR := some (y0, S, M)
def f_Md_register (S : SS) (M : MM) (x1 : Int32) : Option RR := (f_Md_outside S M x1 (0 : Int32) (27 : Int32)).bind (fun q1 => if q1.1 = 0 then if x1 < 0 ∨ 28 ≤ x1.toNatClampNeg then none else f_Md_register_20 q1.2.1 q1.2.2 x1 (q1.2.2 1 x1.toNatClampNeg) else f_Md_register_20 q1.2.1 q1.2.2 x1 (-1 : Int32))
set_option maxHeartbeats 4000000 in
set_option maxRecDepth 100000 in
theorem c_Md_register (l : Launch) (D : va_G) (cA : ClassId) (b : Nat → Nat) (S : SS) (M : MM) (x1 : Int32) (q : RR) (h0 : f_Md_register S M x1 = some q) : Ci l y_Md_register w_Md_register rm_Md_register D vCl [(cA, .int)] (AM b) (ZM b) (wM cA b) [.ref (b 0), .int x1] S M q := by
  refine Ci.of (cc := prog_9_method_28_code) (maxL := 2) (ty := .int) (by decide) rfl (Nat.le_of_ble_eq_true rfl) ?_
  intro p e s m args below meth c Q hx hb hml hown hts hK hZ ret
  have hown : s.vm.findClass R_Md = some m.cls := hown
  have hts : ∀ w ∈ TB, w.before args s = true := fun w h => hts w (List.mem_cons_of_mem _ h)
  have hZK := ZM_k b
  have k13 := hts _ tb_fl_Md_13
  have b20 : ∀ (S : SS) (M : MM) (x1 : Int32) (y0 : Int32), f_Md_register_20 S M x1 y0 = some q → BK p l e rm_Md_register s m args below meth c Q D vCl (AM b) (wM cA b) 2 20 [(0, .ref (b 0)), (1, .int x1)] [.int y0] S M := by
    intro S M x1 y0 h H locs ls hl hP hD hS
    unfold f_Md_register_20 at h
    exact ret _ _ _ _ _ _ _ h rfl hP hD hS d_Md_register_20
  intro H locs ls hl hP hD hS
  have hl : lv_has ls 2 [(0, .ref (b 0)), (1, .int x1)] := hl
  have h := h0
  unfold f_Md_register at h
  refine lv_iload_n hx hb d_Md_register_0 rfl (lv_at hl 1 rfl) ?_
  refine lv_iconst (v := (0 : Int32)) hx hb d_Md_register_1 (by decide) ?_
  refine lv_bipush (v := (27 : Int32)) hx hb d_Md_register_2 (by decide) ?_
  obtain ⟨⟨r1, S1, M1⟩, hc1, h⟩ := sg_b h
  dsimp only at h
  refine csi (As := [.int x1, .int (0 : Int32), .int (27 : Int32)]) (rest := []) ⟨hx, hb, hml, hown, hts⟩ (c_Md_outside l D cA b S M x1 (0 : Int32) (27 : Int32) _ hc1) ⟨callB_of 3 hts (tb_gi tb_cd_Md_outside) rfl rfl rfl (hts _ tb_in_Md) (hts _ tb_ml_Md_156) yd_Md_outside ⟨Nat.le_of_ble_eq_true rfl, Nat.le_of_ble_eq_true rfl⟩, hts _ tb_st_Md_outside⟩ hZK hK hZ hP hD hS rfl hl.1 rfl (Nat.le_of_ble_eq_true rfl) d_Md_register_4 (fun H locs hP hD hS => ?_)
  refine lv_if_eq (tgt := 14) hx hb d_Md_register_7 (by decide) (fun hc => ?_) (fun hc => ?_)
  · have h := sg_p hc h
    refine lv_aload_n hx hb d_Md_register_14 rfl (lv_at hl 0 rfl) ?_
    refine va_get (D := D) (ci := 7) (v := .ref (b 2)) (C := R_Md) (T := T_Md) (N := 31) hx hb hts iMd hown hK hP 0 (wM_at0 _ _ _ _) rfl 1 (by decide) k13 (fun _ h9 => h9) rfl d_Md_register_15 ?_
    refine lv_iload_n hx hb d_Md_register_18 rfl (lv_at hl 1 rfl) ?_
    obtain ⟨hg2, h⟩ := sg_g h
    refine va_iald hx hb hK hP 2 0 (wM_at2 _ _ _ _) rfl hg2 d_Md_register_19 ?_
    exact b20 _ _ _ _ h _ _ _ (lv_sub hl [0, 1] rfl) hP hD hS
  · have h := sg_n hc h
    refine lv_iconst (v := (-1 : Int32)) hx hb d_Md_register_10 (by decide) ?_
    refine lv_goto (tgt := 20) hx hb d_Md_register_11 (by decide) ?_
    exact b20 _ _ _ _ h _ _ _ (lv_sub hl [0, 1] rfl) hP hD hS
