def w_Md_show : List Cond := Cond.code y_Md_show prog_9_method_7_code 6 none :: TB
def rm_Md_show : Room := { frames := 0, cells := 0, slots := 0, locals := 0 }
theorem d_Md_show_0 : decode prog_9_method_7_code 0 = .ok (.iconst 0, 1) := by decide +kernel
theorem d_Md_show_1 : decode prog_9_method_7_code 1 = .ok (.istore_n 3, 1) := by decide +kernel
theorem d_Md_show_2 : decode prog_9_method_7_code 2 = .ok (.iload_n 3, 1) := by decide +kernel
theorem d_Md_show_3 : decode prog_9_method_7_code 3 = .ok (.iconst 2, 1) := by decide +kernel
theorem d_Md_show_4 : decode prog_9_method_7_code 4 = .ok (.if_icmp .ge 56, 3) := by decide +kernel
theorem d_Md_show_7 : decode prog_9_method_7_code 7 = .ok (.iload_n 2, 1) := by decide +kernel
theorem d_Md_show_8 : decode prog_9_method_7_code 8 = .ok (.bipush 16, 2) := by decide +kernel
theorem d_Md_show_10 : decode prog_9_method_7_code 10 = .ok (.if_icmp .eq 9, 3) := by decide +kernel
theorem d_Md_show_13 : decode prog_9_method_7_code 13 = .ok (.iload_n 2, 1) := by decide +kernel
theorem d_Md_show_14 : decode prog_9_method_7_code 14 = .ok (.bipush 24, 2) := by decide +kernel
theorem d_Md_show_16 : decode prog_9_method_7_code 16 = .ok (.if_icmp .ne 15, 3) := by decide +kernel
theorem d_Md_show_19 : decode prog_9_method_7_code 19 = .ok (.aload_n 0, 1) := by decide +kernel
theorem d_Md_show_20 : decode prog_9_method_7_code 20 = .ok (.getfield 28, 3) := by decide +kernel
theorem d_Md_show_23 : decode prog_9_method_7_code 23 = .ok (.iload_n 3, 1) := by decide +kernel
theorem d_Md_show_24 : decode prog_9_method_7_code 24 = .ok (.aload_n 0, 1) := by decide +kernel
theorem d_Md_show_25 : decode prog_9_method_7_code 25 = .ok (.getfield 25, 3) := by decide +kernel
theorem d_Md_show_28 : decode prog_9_method_7_code 28 = .ok (.iload_n 3, 1) := by decide +kernel
theorem d_Md_show_29 : decode prog_9_method_7_code 29 = .ok (.iaload, 1) := by decide +kernel
theorem d_Md_show_30 : decode prog_9_method_7_code 30 = .ok (.iastore, 1) := by decide +kernel
theorem d_Md_show_31 : decode prog_9_method_7_code 31 = .ok (.iload_n 2, 1) := by decide +kernel
theorem d_Md_show_32 : decode prog_9_method_7_code 32 = .ok (.ifCond .eq 15, 3) := by decide +kernel
theorem d_Md_show_35 : decode prog_9_method_7_code 35 = .ok (.iload_n 2, 1) := by decide +kernel
theorem d_Md_show_36 : decode prog_9_method_7_code 36 = .ok (.bipush 16, 2) := by decide +kernel
theorem d_Md_show_38 : decode prog_9_method_7_code 38 = .ok (.if_icmp .eq 9, 3) := by decide +kernel
theorem d_Md_show_41 : decode prog_9_method_7_code 41 = .ok (.iload_n 2, 1) := by decide +kernel
theorem d_Md_show_42 : decode prog_9_method_7_code 42 = .ok (.bipush 24, 2) := by decide +kernel
theorem d_Md_show_44 : decode prog_9_method_7_code 44 = .ok (.if_icmp .ne 10, 3) := by decide +kernel
theorem d_Md_show_47 : decode prog_9_method_7_code 47 = .ok (.aload_n 0, 1) := by decide +kernel
theorem d_Md_show_48 : decode prog_9_method_7_code 48 = .ok (.getfield 25, 3) := by decide +kernel
theorem d_Md_show_51 : decode prog_9_method_7_code 51 = .ok (.iload_n 3, 1) := by decide +kernel
theorem d_Md_show_52 : decode prog_9_method_7_code 52 = .ok (.iconst 0, 1) := by decide +kernel
theorem d_Md_show_53 : decode prog_9_method_7_code 53 = .ok (.iastore, 1) := by decide +kernel
theorem d_Md_show_54 : decode prog_9_method_7_code 54 = .ok (.iinc 3 1, 3) := by decide +kernel
theorem d_Md_show_57 : decode prog_9_method_7_code 57 = .ok (.goto (-55), 3) := by decide +kernel
theorem d_Md_show_60 : decode prog_9_method_7_code 60 = .ok (.iload_n 1, 1) := by decide +kernel
theorem d_Md_show_61 : decode prog_9_method_7_code 61 = .ok (.iconst 4, 1) := by decide +kernel
theorem d_Md_show_62 : decode prog_9_method_7_code 62 = .ok (.if_icmp .lt 15, 3) := by decide +kernel
theorem d_Md_show_65 : decode prog_9_method_7_code 65 = .ok (.iload_n 1, 1) := by decide +kernel
theorem d_Md_show_66 : decode prog_9_method_7_code 66 = .ok (.bipush 15, 2) := by decide +kernel
theorem d_Md_show_68 : decode prog_9_method_7_code 68 = .ok (.if_icmp .gt 9, 3) := by decide +kernel
theorem d_Md_show_71 : decode prog_9_method_7_code 71 = .ok (.iload_n 2, 1) := by decide +kernel
theorem d_Md_show_72 : decode prog_9_method_7_code 72 = .ok (.bipush 16, 2) := by decide +kernel
theorem d_Md_show_74 : decode prog_9_method_7_code 74 = .ok (.if_icmp .ge 4, 3) := by decide +kernel
theorem d_Md_show_77 : decode prog_9_method_7_code 77 = .ok (.return_, 1) := by decide +kernel
theorem d_Md_show_78 : decode prog_9_method_7_code 78 = .ok (.iconst 0, 1) := by decide +kernel
theorem d_Md_show_79 : decode prog_9_method_7_code 79 = .ok (.istore_n 3, 1) := by decide +kernel
theorem d_Md_show_80 : decode prog_9_method_7_code 80 = .ok (.iload_n 3, 1) := by decide +kernel
theorem d_Md_show_81 : decode prog_9_method_7_code 81 = .ok (.iconst 2, 1) := by decide +kernel
theorem d_Md_show_82 : decode prog_9_method_7_code 82 = .ok (.if_icmp .ge 96, 3) := by decide +kernel
theorem d_Md_show_85 : decode prog_9_method_7_code 85 = .ok (.aload_n 0, 1) := by decide +kernel
theorem d_Md_show_86 : decode prog_9_method_7_code 86 = .ok (.getfield 28, 3) := by decide +kernel
theorem d_Md_show_89 : decode prog_9_method_7_code 89 = .ok (.iconst 0, 1) := by decide +kernel
theorem d_Md_show_90 : decode prog_9_method_7_code 90 = .ok (.iaload, 1) := by decide +kernel
theorem d_Md_show_91 : decode prog_9_method_7_code 91 = .ok (.bipush 15, 2) := by decide +kernel
theorem d_Md_show_93 : decode prog_9_method_7_code 93 = .ok (.ishr, 1) := by decide +kernel
theorem d_Md_show_94 : decode prog_9_method_7_code 94 = .ok (.iconst 2, 1) := by decide +kernel
theorem d_Md_show_95 : decode prog_9_method_7_code 95 = .ok (.aload_n 0, 1) := by decide +kernel
theorem d_Md_show_96 : decode prog_9_method_7_code 96 = .ok (.getfield 28, 3) := by decide +kernel
theorem d_Md_show_99 : decode prog_9_method_7_code 99 = .ok (.iconst 1, 1) := by decide +kernel
theorem d_Md_show_100 : decode prog_9_method_7_code 100 = .ok (.iaload, 1) := by decide +kernel
theorem d_Md_show_101 : decode prog_9_method_7_code 101 = .ok (.bipush 15, 2) := by decide +kernel
theorem d_Md_show_103 : decode prog_9_method_7_code 103 = .ok (.ishr, 1) := by decide +kernel
theorem d_Md_show_104 : decode prog_9_method_7_code 104 = .ok (.imul, 1) := by decide +kernel
theorem d_Md_show_105 : decode prog_9_method_7_code 105 = .ok (.iadd, 1) := by decide +kernel
theorem d_Md_show_106 : decode prog_9_method_7_code 106 = .ok (.istore 4, 2) := by decide +kernel
theorem d_Md_show_108 : decode prog_9_method_7_code 108 = .ok (.aload_n 0, 1) := by decide +kernel
theorem d_Md_show_109 : decode prog_9_method_7_code 109 = .ok (.getfield 16, 3) := by decide +kernel
theorem d_Md_show_112 : decode prog_9_method_7_code 112 = .ok (.bipush 32, 2) := by decide +kernel
theorem d_Md_show_114 : decode prog_9_method_7_code 114 = .ok (.iload_n 1, 1) := by decide +kernel
theorem d_Md_show_115 : decode prog_9_method_7_code 115 = .ok (.iconst 4, 1) := by decide +kernel
theorem d_Md_show_116 : decode prog_9_method_7_code 116 = .ok (.isub, 1) := by decide +kernel
theorem d_Md_show_117 : decode prog_9_method_7_code 117 = .ok (.imul, 1) := by decide +kernel
theorem d_Md_show_118 : decode prog_9_method_7_code 118 = .ok (.iconst 2, 1) := by decide +kernel
theorem d_Md_show_119 : decode prog_9_method_7_code 119 = .ok (.iload_n 2, 1) := by decide +kernel
theorem d_Md_show_120 : decode prog_9_method_7_code 120 = .ok (.bipush 16, 2) := by decide +kernel
theorem d_Md_show_122 : decode prog_9_method_7_code 122 = .ok (.isub, 1) := by decide +kernel
theorem d_Md_show_123 : decode prog_9_method_7_code 123 = .ok (.imul, 1) := by decide +kernel
theorem d_Md_show_124 : decode prog_9_method_7_code 124 = .ok (.iadd, 1) := by decide +kernel
theorem d_Md_show_125 : decode prog_9_method_7_code 125 = .ok (.iload_n 3, 1) := by decide +kernel
theorem d_Md_show_126 : decode prog_9_method_7_code 126 = .ok (.iadd, 1) := by decide +kernel
theorem d_Md_show_127 : decode prog_9_method_7_code 127 = .ok (.aload_n 0, 1) := by decide +kernel
theorem d_Md_show_128 : decode prog_9_method_7_code 128 = .ok (.getfield 13, 3) := by decide +kernel
theorem d_Md_show_131 : decode prog_9_method_7_code 131 = .ok (.bipush 6, 2) := by decide +kernel
theorem d_Md_show_133 : decode prog_9_method_7_code 133 = .ok (.iload 4, 2) := by decide +kernel
theorem d_Md_show_135 : decode prog_9_method_7_code 135 = .ok (.iadd, 1) := by decide +kernel
theorem d_Md_show_136 : decode prog_9_method_7_code 136 = .ok (.iaload, 1) := by decide +kernel
theorem d_Md_show_137 : decode prog_9_method_7_code 137 = .ok (.iastore, 1) := by decide +kernel
theorem d_Md_show_138 : decode prog_9_method_7_code 138 = .ok (.iconst 0, 1) := by decide +kernel
theorem d_Md_show_139 : decode prog_9_method_7_code 139 = .ok (.istore 5, 2) := by decide +kernel
theorem d_Md_show_141 : decode prog_9_method_7_code 141 = .ok (.iload 5, 2) := by decide +kernel
theorem d_Md_show_143 : decode prog_9_method_7_code 143 = .ok (.iconst 2, 1) := by decide +kernel
theorem d_Md_show_144 : decode prog_9_method_7_code 144 = .ok (.if_icmp .ge 28, 3) := by decide +kernel
theorem d_Md_show_147 : decode prog_9_method_7_code 147 = .ok (.aload_n 0, 1) := by decide +kernel
theorem d_Md_show_148 : decode prog_9_method_7_code 148 = .ok (.getfield 28, 3) := by decide +kernel
theorem d_Md_show_151 : decode prog_9_method_7_code 151 = .ok (.iload 5, 2) := by decide +kernel
theorem d_Md_show_153 : decode prog_9_method_7_code 153 = .ok (.iconst 2, 1) := by decide +kernel
theorem d_Md_show_154 : decode prog_9_method_7_code 154 = .ok (.aload_n 0, 1) := by decide +kernel
theorem d_Md_show_155 : decode prog_9_method_7_code 155 = .ok (.getfield 28, 3) := by decide +kernel
theorem d_Md_show_158 : decode prog_9_method_7_code 158 = .ok (.iload 5, 2) := by decide +kernel
theorem d_Md_show_160 : decode prog_9_method_7_code 160 = .ok (.iaload, 1) := by decide +kernel
theorem d_Md_show_161 : decode prog_9_method_7_code 161 = .ok (.imul, 1) := by decide +kernel
theorem d_Md_show_162 : decode prog_9_method_7_code 162 = .ok (.ldc 88, 2) := by decide +kernel
theorem d_Md_show_164 : decode prog_9_method_7_code 164 = .ok (.iand, 1) := by decide +kernel
theorem d_Md_show_165 : decode prog_9_method_7_code 165 = .ok (.iastore, 1) := by decide +kernel
theorem d_Md_show_166 : decode prog_9_method_7_code 166 = .ok (.iinc 5 1, 3) := by decide +kernel
theorem d_Md_show_169 : decode prog_9_method_7_code 169 = .ok (.goto (-28), 3) := by decide +kernel
theorem d_Md_show_172 : decode prog_9_method_7_code 172 = .ok (.iinc 3 1, 3) := by decide +kernel
theorem d_Md_show_175 : decode prog_9_method_7_code 175 = .ok (.goto (-95), 3) := by decide +kernel
theorem d_Md_show_178 : decode prog_9_method_7_code 178 = .ok (.return_, 1) := by decide +kernel
theorem yd_Md_show : y_Md_show.cls ≠ "java/lang/invoke/MethodHandle" ∧ y_Md_show.cls ≠ "java/lang/invoke/VarHandle" ∧ (parseMethodDescriptor y_Md_show.desc).map (fun d => d.parameters.length) = some 2 := by decide +kernel
def w_Md_fetchList : List Cond := Cond.code y_Md_fetchList prog_9_method_10_code 4 none :: TB
def rm_Md_fetchList : Room := { frames := 2, cells := 0, slots := 0, locals := 43 }
theorem d_Md_fetchList_0 : decode prog_9_method_10_code 0 = .ok (.aload_n 0, 1) := by decide +kernel
theorem d_Md_fetchList_1 : decode prog_9_method_10_code 1 = .ok (.getfield 7, 3) := by decide +kernel
theorem d_Md_fetchList_4 : decode prog_9_method_10_code 4 = .ok (.aload_n 0, 1) := by decide +kernel
theorem d_Md_fetchList_5 : decode prog_9_method_10_code 5 = .ok (.getfield 51, 3) := by decide +kernel
theorem d_Md_fetchList_8 : decode prog_9_method_10_code 8 = .ok (.iaload, 1) := by decide +kernel
theorem d_Md_fetchList_9 : decode prog_9_method_10_code 9 = .ok (.istore_n 1, 1) := by decide +kernel
theorem d_Md_fetchList_10 : decode prog_9_method_10_code 10 = .ok (.aload_n 0, 1) := by decide +kernel
theorem d_Md_fetchList_11 : decode prog_9_method_10_code 11 = .ok (.aload_n 0, 1) := by decide +kernel
theorem d_Md_fetchList_12 : decode prog_9_method_10_code 12 = .ok (.getfield 51, 3) := by decide +kernel
theorem d_Md_fetchList_15 : decode prog_9_method_10_code 15 = .ok (.iconst 1, 1) := by decide +kernel
theorem d_Md_fetchList_16 : decode prog_9_method_10_code 16 = .ok (.iadd, 1) := by decide +kernel
theorem d_Md_fetchList_17 : decode prog_9_method_10_code 17 = .ok (.sipush 255, 3) := by decide +kernel
theorem d_Md_fetchList_20 : decode prog_9_method_10_code 20 = .ok (.iand, 1) := by decide +kernel
theorem d_Md_fetchList_21 : decode prog_9_method_10_code 21 = .ok (.putfield 51, 3) := by decide +kernel
theorem d_Md_fetchList_24 : decode prog_9_method_10_code 24 = .ok (.aload_n 0, 1) := by decide +kernel
theorem d_Md_fetchList_25 : decode prog_9_method_10_code 25 = .ok (.getfield 54, 3) := by decide +kernel
theorem d_Md_fetchList_28 : decode prog_9_method_10_code 28 = .ok (.ifCond .ne 14, 3) := by decide +kernel
theorem d_Md_fetchList_31 : decode prog_9_method_10_code 31 = .ok (.aload_n 0, 1) := by decide +kernel
theorem d_Md_fetchList_32 : decode prog_9_method_10_code 32 = .ok (.iload_n 1, 1) := by decide +kernel
theorem d_Md_fetchList_33 : decode prog_9_method_10_code 33 = .ok (.putfield 93, 3) := by decide +kernel
theorem d_Md_fetchList_36 : decode prog_9_method_10_code 36 = .ok (.aload_n 0, 1) := by decide +kernel
theorem d_Md_fetchList_37 : decode prog_9_method_10_code 37 = .ok (.iconst 1, 1) := by decide +kernel
theorem d_Md_fetchList_38 : decode prog_9_method_10_code 38 = .ok (.putfield 54, 3) := by decide +kernel
theorem d_Md_fetchList_41 : decode prog_9_method_10_code 41 = .ok (.return_, 1) := by decide +kernel
theorem d_Md_fetchList_42 : decode prog_9_method_10_code 42 = .ok (.aload_n 0, 1) := by decide +kernel
theorem d_Md_fetchList_43 : decode prog_9_method_10_code 43 = .ok (.iconst 0, 1) := by decide +kernel
theorem d_Md_fetchList_44 : decode prog_9_method_10_code 44 = .ok (.putfield 54, 3) := by decide +kernel
theorem d_Md_fetchList_47 : decode prog_9_method_10_code 47 = .ok (.aload_n 0, 1) := by decide +kernel
theorem d_Md_fetchList_48 : decode prog_9_method_10_code 48 = .ok (.getfield 58, 3) := by decide +kernel
theorem d_Md_fetchList_51 : decode prog_9_method_10_code 51 = .ok (.istore_n 2, 1) := by decide +kernel
theorem d_Md_fetchList_52 : decode prog_9_method_10_code 52 = .ok (.aload_n 0, 1) := by decide +kernel
theorem d_Md_fetchList_53 : decode prog_9_method_10_code 53 = .ok (.iconst 0, 1) := by decide +kernel
theorem d_Md_fetchList_54 : decode prog_9_method_10_code 54 = .ok (.putfield 58, 3) := by decide +kernel
theorem d_Md_fetchList_57 : decode prog_9_method_10_code 57 = .ok (.aload_n 0, 1) := by decide +kernel
theorem d_Md_fetchList_58 : decode prog_9_method_10_code 58 = .ok (.getfield 93, 3) := by decide +kernel
theorem d_Md_fetchList_61 : decode prog_9_method_10_code 61 = .ok (.iconst 2, 1) := by decide +kernel
theorem d_Md_fetchList_62 : decode prog_9_method_10_code 62 = .ok (.irem, 1) := by decide +kernel
theorem d_Md_fetchList_63 : decode prog_9_method_10_code 63 = .ok (.ifCond .ne 31, 3) := by decide +kernel
theorem d_Md_fetchList_66 : decode prog_9_method_10_code 66 = .ok (.aload_n 0, 1) := by decide +kernel
theorem d_Md_fetchList_67 : decode prog_9_method_10_code 67 = .ok (.getfield 93, 3) := by decide +kernel
theorem d_Md_fetchList_70 : decode prog_9_method_10_code 70 = .ok (.iconst 1, 1) := by decide +kernel
theorem d_Md_fetchList_71 : decode prog_9_method_10_code 71 = .ok (.ishr, 1) := by decide +kernel
theorem d_Md_fetchList_72 : decode prog_9_method_10_code 72 = .ok (.bipush 31, 2) := by decide +kernel
theorem d_Md_fetchList_74 : decode prog_9_method_10_code 74 = .ok (.iand, 1) := by decide +kernel
theorem d_Md_fetchList_75 : decode prog_9_method_10_code 75 = .ok (.istore_n 3, 1) := by decide +kernel
theorem d_Md_fetchList_76 : decode prog_9_method_10_code 76 = .ok (.iload_n 2, 1) := by decide +kernel
theorem d_Md_fetchList_77 : decode prog_9_method_10_code 77 = .ok (.ifCond .ne 14, 3) := by decide +kernel
theorem d_Md_fetchList_80 : decode prog_9_method_10_code 80 = .ok (.iload_n 3, 1) := by decide +kernel
theorem d_Md_fetchList_81 : decode prog_9_method_10_code 81 = .ok (.iconst 2, 1) := by decide +kernel
theorem d_Md_fetchList_82 : decode prog_9_method_10_code 82 = .ok (.if_icmp .le 9, 3) := by decide +kernel
theorem d_Md_fetchList_85 : decode prog_9_method_10_code 85 = .ok (.aload_n 0, 1) := by decide +kernel
theorem d_Md_fetchList_86 : decode prog_9_method_10_code 86 = .ok (.iload_n 3, 1) := by decide +kernel
theorem d_Md_fetchList_87 : decode prog_9_method_10_code 87 = .ok (.iload_n 1, 1) := by decide +kernel
theorem d_Md_fetchList_88 : decode prog_9_method_10_code 88 = .ok (.invokevirtual 96, 3) := by decide +kernel
theorem d_Md_fetchList_91 : decode prog_9_method_10_code 91 = .ok (.goto 50, 3) := by decide +kernel
theorem d_Md_fetchList_94 : decode prog_9_method_10_code 94 = .ok (.aload_n 0, 1) := by decide +kernel
theorem d_Md_fetchList_95 : decode prog_9_method_10_code 95 = .ok (.getfield 93, 3) := by decide +kernel
theorem d_Md_fetchList_98 : decode prog_9_method_10_code 98 = .ok (.iconst 3, 1) := by decide +kernel
theorem d_Md_fetchList_99 : decode prog_9_method_10_code 99 = .ok (.ishr, 1) := by decide +kernel
theorem d_Md_fetchList_100 : decode prog_9_method_10_code 100 = .ok (.sipush 1023, 3) := by decide +kernel
theorem d_Md_fetchList_103 : decode prog_9_method_10_code 103 = .ok (.iand, 1) := by decide +kernel
theorem d_Md_fetchList_104 : decode prog_9_method_10_code 104 = .ok (.istore_n 3, 1) := by decide +kernel
theorem d_Md_fetchList_105 : decode prog_9_method_10_code 105 = .ok (.iload_n 1, 1) := by decide +kernel
theorem d_Md_fetchList_106 : decode prog_9_method_10_code 106 = .ok (.iconst 2, 1) := by decide +kernel
theorem d_Md_fetchList_107 : decode prog_9_method_10_code 107 = .ok (.irem, 1) := by decide +kernel
theorem d_Md_fetchList_108 : decode prog_9_method_10_code 108 = .ok (.ifCond .ne 16, 3) := by decide +kernel
theorem d_Md_fetchList_111 : decode prog_9_method_10_code 111 = .ok (.aload_n 0, 1) := by decide +kernel
theorem d_Md_fetchList_112 : decode prog_9_method_10_code 112 = .ok (.iconst 2, 1) := by decide +kernel
theorem d_Md_fetchList_113 : decode prog_9_method_10_code 113 = .ok (.putfield 48, 3) := by decide +kernel
theorem d_Md_fetchList_116 : decode prog_9_method_10_code 116 = .ok (.aload_n 0, 1) := by decide +kernel
theorem d_Md_fetchList_117 : decode prog_9_method_10_code 117 = .ok (.iload_n 3, 1) := by decide +kernel
theorem d_Md_fetchList_118 : decode prog_9_method_10_code 118 = .ok (.putfield 100, 3) := by decide +kernel
theorem d_Md_fetchList_121 : decode prog_9_method_10_code 121 = .ok (.goto 20, 3) := by decide +kernel
theorem d_Md_fetchList_124 : decode prog_9_method_10_code 124 = .ok (.aload_n 0, 1) := by decide +kernel
theorem d_Md_fetchList_125 : decode prog_9_method_10_code 125 = .ok (.aload_n 0, 1) := by decide +kernel
theorem d_Md_fetchList_126 : decode prog_9_method_10_code 126 = .ok (.getfield 103, 3) := by decide +kernel
theorem d_Md_fetchList_129 : decode prog_9_method_10_code 129 = .ok (.iload_n 3, 1) := by decide +kernel
theorem d_Md_fetchList_130 : decode prog_9_method_10_code 130 = .ok (.if_icmp .lt 7, 3) := by decide +kernel
theorem d_Md_fetchList_133 : decode prog_9_method_10_code 133 = .ok (.iconst 1, 1) := by decide +kernel
theorem d_Md_fetchList_134 : decode prog_9_method_10_code 134 = .ok (.goto 4, 3) := by decide +kernel
theorem d_Md_fetchList_137 : decode prog_9_method_10_code 137 = .ok (.iconst 0, 1) := by decide +kernel
theorem d_Md_fetchList_138 : decode prog_9_method_10_code 138 = .ok (.putfield 58, 3) := by decide +kernel
theorem d_Md_fetchList_141 : decode prog_9_method_10_code 141 = .ok (.return_, 1) := by decide +kernel
theorem yd_Md_fetchList : y_Md_fetchList.cls ≠ "java/lang/invoke/MethodHandle" ∧ y_Md_fetchList.cls ≠ "java/lang/invoke/VarHandle" ∧ (parseMethodDescriptor y_Md_fetchList.desc).map (fun d => d.parameters.length) = some 0 := by decide +kernel
theorem tb_cd_Md_show : Cond.code y_Md_show prog_9_method_7_code 6 none ∈ TB := tb_in 571 (by decide +kernel) (by decide +kernel)
theorem tb_im_Md_show : Cond.instanceMethod y_Md_show ∈ TB := tb_in 570 (by decide +kernel) (by decide +kernel)
theorem tb_se_Md_show : Cond.selects "SlotBoardModel" y_Md_show y_Md_show ∈ TB := tb_inS 18 (by decide +kernel) (by decide +kernel)
theorem tb_fl_Md_28 : Cond.fieldLink "SlotBoardModel" 28 "SlotBoardModel" "shifter" "[I" ∈ TB := tb_in 464 (by decide +kernel) (by decide +kernel)
theorem tb_fl_Md_16 : Cond.fieldLink "SlotBoardModel" 16 "SlotBoardModel" "picture" "[I" ∈ TB := tb_in 457 (by decide +kernel) (by decide +kernel)
theorem tb_ct_Md_88 : Cond.constant "SlotBoardModel" 88 (65535) ∈ TB := tb_in 572 (by decide +kernel) (by decide +kernel)
theorem tb_cd_Md_fetchList : Cond.code y_Md_fetchList prog_9_method_10_code 4 none ∈ TB := tb_in 588 (by decide +kernel) (by decide +kernel)
theorem tb_im_Md_fetchList : Cond.instanceMethod y_Md_fetchList ∈ TB := tb_in 587 (by decide +kernel) (by decide +kernel)
theorem tb_se_Md_fetchList : Cond.selects "SlotBoardModel" y_Md_fetchList y_Md_fetchList ∈ TB := tb_inS 22 (by decide +kernel) (by decide +kernel)
theorem tb_fl_Md_93 : Cond.fieldLink "SlotBoardModel" 93 "SlotBoardModel" "firstWord" "I" ∈ TB := tb_in 467 (by decide +kernel) (by decide +kernel)
theorem tb_fl_Md_103 : Cond.fieldLink "SlotBoardModel" 103 "SlotBoardModel" "beam" "I" ∈ TB := tb_in 458 (by decide +kernel) (by decide +kernel)
theorem tb_fl_Md_100 : Cond.fieldLink "SlotBoardModel" 100 "SlotBoardModel" "target" "I" ∈ TB := tb_in 470 (by decide +kernel) (by decide +kernel)
theorem tb_ml_Md_96 : Cond.methodLink "SlotBoardModel" 96 y_Md_write ∈ TB := tb_in 589 (by decide +kernel) (by decide +kernel)
def f_Md_show_77_3_2 (S : SS) (M : MM) (x1 : Int32) (x2 : Int32) : Option RR := some (0, S, M)
def f_Md_show_80_3_2_5_2 (S : SS) (M : MM) (x1 : Int32) (x2 : Int32) (x4 : Int32) : Option RR := some (0, S, M)
def f_Md_show_141_3_1_5_2 (S : SS) (M : MM) (x1 : Int32) (x2 : Int32) (x4 : Int32) : Option RR := f_Md_show_80_3_2_5_2 S M x1 x2 x4
def f_Md_show_141_3_1_5_1 (S : SS) (M : MM) (x1 : Int32) (x2 : Int32) (x4 : Int32) : Option RR := f_Md_show_141_3_1_5_2 S (upM M 6 (upd (M 6) 1 (((2 : Int32) * (M 6 1)) &&& (65535 : Int32)))) x1 x2 x4
def f_Md_show_141_3_1_5_0 (S : SS) (M : MM) (x1 : Int32) (x2 : Int32) (x4 : Int32) : Option RR := f_Md_show_141_3_1_5_1 S (upM M 6 (upd (M 6) 0 (((2 : Int32) * (M 6 0)) &&& (65535 : Int32)))) x1 x2 x4
def f_Md_show_80_3_1_5_2 (S : SS) (M : MM) (x1 : Int32) (x2 : Int32) (x4 : Int32) : Option RR := if (6 : Int32) + (((M 6 0) >>> ((15 : Int32) &&& 31)) + ((2 : Int32) * ((M 6 1) >>> ((15 : Int32) &&& 31)))) < 0 ∨ 28 ≤ ((6 : Int32) + (((M 6 0) >>> ((15 : Int32) &&& 31)) + ((2 : Int32) * ((M 6 1) >>> ((15 : Int32) &&& 31))))).toNatClampNeg then none else if (((32 : Int32) * (x1 - (4 : Int32))) + ((2 : Int32) * (x2 - (16 : Int32)))) + (1 : Int32) < 0 ∨ 384 ≤ ((((32 : Int32) * (x1 - (4 : Int32))) + ((2 : Int32) * (x2 - (16 : Int32)))) + (1 : Int32)).toNatClampNeg then none else f_Md_show_141_3_1_5_0 S (upM M 2 (upd (M 2) ((((32 : Int32) * (x1 - (4 : Int32))) + ((2 : Int32) * (x2 - (16 : Int32)))) + (1 : Int32)).toNatClampNeg (M 1 ((6 : Int32) + (((M 6 0) >>> ((15 : Int32) &&& 31)) + ((2 : Int32) * ((M 6 1) >>> ((15 : Int32) &&& 31))))).toNatClampNeg))) x1 x2 (((M 6 0) >>> ((15 : Int32) &&& 31)) + ((2 : Int32) * ((M 6 1) >>> ((15 : Int32) &&& 31))))
def f_Md_show_141_3_0_5_2 (S : SS) (M : MM) (x1 : Int32) (x2 : Int32) (x4 : Int32) : Option RR := f_Md_show_80_3_1_5_2 S M x1 x2 x4
def f_Md_show_141_3_0_5_1 (S : SS) (M : MM) (x1 : Int32) (x2 : Int32) (x4 : Int32) : Option RR := f_Md_show_141_3_0_5_2 S (upM M 6 (upd (M 6) 1 (((2 : Int32) * (M 6 1)) &&& (65535 : Int32)))) x1 x2 x4
def f_Md_show_141_3_0_5_0 (S : SS) (M : MM) (x1 : Int32) (x2 : Int32) (x4 : Int32) : Option RR := f_Md_show_141_3_0_5_1 S (upM M 6 (upd (M 6) 0 (((2 : Int32) * (M 6 0)) &&& (65535 : Int32)))) x1 x2 x4
def f_Md_show_80_3_0 (S : SS) (M : MM) (x1 : Int32) (x2 : Int32) : Option RR := if (6 : Int32) + (((M 6 0) >>> ((15 : Int32) &&& 31)) + ((2 : Int32) * ((M 6 1) >>> ((15 : Int32) &&& 31)))) < 0 ∨ 28 ≤ ((6 : Int32) + (((M 6 0) >>> ((15 : Int32) &&& 31)) + ((2 : Int32) * ((M 6 1) >>> ((15 : Int32) &&& 31))))).toNatClampNeg then none else if (((32 : Int32) * (x1 - (4 : Int32))) + ((2 : Int32) * (x2 - (16 : Int32)))) + (0 : Int32) < 0 ∨ 384 ≤ ((((32 : Int32) * (x1 - (4 : Int32))) + ((2 : Int32) * (x2 - (16 : Int32)))) + (0 : Int32)).toNatClampNeg then none else f_Md_show_141_3_0_5_0 S (upM M 2 (upd (M 2) ((((32 : Int32) * (x1 - (4 : Int32))) + ((2 : Int32) * (x2 - (16 : Int32)))) + (0 : Int32)).toNatClampNeg (M 1 ((6 : Int32) + (((M 6 0) >>> ((15 : Int32) &&& 31)) + ((2 : Int32) * ((M 6 1) >>> ((15 : Int32) &&& 31))))).toNatClampNeg))) x1 x2 (((M 6 0) >>> ((15 : Int32) &&& 31)) + ((2 : Int32) * ((M 6 1) >>> ((15 : Int32) &&& 31))))
def f_Md_show_2_3_2 (S : SS) (M : MM) (x1 : Int32) (x2 : Int32) : Option RR := if x1 < (4 : Int32) then f_Md_show_77_3_2 S M x1 x2 else if (15 : Int32) < x1 then f_Md_show_77_3_2 S M x1 x2 else if (16 : Int32) ≤ x2 then f_Md_show_80_3_0 S M x1 x2 else f_Md_show_77_3_2 S M x1 x2
def f_Md_show_54_3_1 (S : SS) (M : MM) (x1 : Int32) (x2 : Int32) : Option RR := f_Md_show_2_3_2 S M x1 x2
def f_Md_show_47_3_1 (S : SS) (M : MM) (x1 : Int32) (x2 : Int32) : Option RR := f_Md_show_54_3_1 S (upM M 5 (upd (M 5) 1 (0 : Int32))) x1 x2
def f_Md_show_31_3_1 (S : SS) (M : MM) (x1 : Int32) (x2 : Int32) : Option RR := if x2 = 0 then f_Md_show_47_3_1 S M x1 x2 else if x2 = (16 : Int32) then f_Md_show_47_3_1 S M x1 x2 else if x2 = (24 : Int32) then f_Md_show_47_3_1 S M x1 x2 else f_Md_show_54_3_1 S M x1 x2
def f_Md_show_19_3_1 (S : SS) (M : MM) (x1 : Int32) (x2 : Int32) : Option RR := f_Md_show_31_3_1 S (upM M 6 (upd (M 6) 1 (M 5 1))) x1 x2
def f_Md_show_2_3_1 (S : SS) (M : MM) (x1 : Int32) (x2 : Int32) : Option RR := if x2 = (16 : Int32) then f_Md_show_19_3_1 S M x1 x2 else if x2 = (24 : Int32) then f_Md_show_19_3_1 S M x1 x2 else f_Md_show_31_3_1 S M x1 x2
def f_Md_show_54_3_0 (S : SS) (M : MM) (x1 : Int32) (x2 : Int32) : Option RR := f_Md_show_2_3_1 S M x1 x2
def f_Md_show_47_3_0 (S : SS) (M : MM) (x1 : Int32) (x2 : Int32) : Option RR := f_Md_show_54_3_0 S (upM M 5 (upd (M 5) 0 (0 : Int32))) x1 x2
def f_Md_show_31_3_0 (S : SS) (M : MM) (x1 : Int32) (x2 : Int32) : Option RR := if x2 = 0 then f_Md_show_47_3_0 S M x1 x2 else if x2 = (16 : Int32) then f_Md_show_47_3_0 S M x1 x2 else if x2 = (24 : Int32) then f_Md_show_47_3_0 S M x1 x2 else f_Md_show_54_3_0 S M x1 x2
def f_Md_show_19_3_0 (S : SS) (M : MM) (x1 : Int32) (x2 : Int32) : Option RR := f_Md_show_31_3_0 S (upM M 6 (upd (M 6) 0 (M 5 0))) x1 x2
def f_Md_show_2_3_0 (S : SS) (M : MM) (x1 : Int32) (x2 : Int32) : Option RR := if x2 = (16 : Int32) then f_Md_show_19_3_0 S M x1 x2 else if x2 = (24 : Int32) then f_Md_show_19_3_0 S M x1 x2 else f_Md_show_31_3_0 S M x1 x2
def f_Md_show (S : SS) (M : MM) (x1 : Int32) (x2 : Int32) : Option RR := f_Md_show_2_3_0 S M x1 x2
set_option maxHeartbeats 4000000 in
set_option maxRecDepth 100000 in
theorem c_Md_show (l : Launch) (D : va_G) (cA : ClassId) (b : Nat → Nat) (S : SS) (M : MM) (x1 : Int32) (x2 : Int32) (q : RR) (h0 : f_Md_show S M x1 x2 = some q) : Cv l y_Md_show w_Md_show rm_Md_show D vCl [(cA, .int)] (AM b) (ZM b) (wM cA b) [.ref (b 0), .int x1, .int x2] S M q := by
  refine Cv.of (cc := prog_9_method_7_code) (maxL := 6) (by decide) rfl (Nat.le_of_ble_eq_true rfl) ?_
  intro p e s m args below meth c Q hx hb hml hown hts hK hZ ret
  have hown : s.vm.findClass R_Md = some m.cls := hown
  have hts : ∀ w ∈ TB, w.before args s = true := fun w h => hts w (List.mem_cons_of_mem _ h)
  have hZK := ZM_k b
  have k28 := hts _ tb_fl_Md_28
  have k16 := hts _ tb_fl_Md_16
  have k13 := hts _ tb_fl_Md_13
  have k88 := hts _ tb_ct_Md_88
  have k25 := hts _ tb_fl_Md_25
  have b77_3_2 : ∀ (S : SS) (M : MM) (x1 : Int32) (x2 : Int32), f_Md_show_77_3_2 S M x1 x2 = some q → BK p l e rm_Md_show s m args below meth c Q D vCl (AM b) (wM cA b) 6 77 [(0, .ref (b 0)), (1, .int x1), (2, .int x2), (3, .int (2 : Int32))] [] S M := by
    intro S M x1 x2 h H locs ls hl hP hD hS
    unfold f_Md_show_77_3_2 at h
    exact ret _ _ _ _ _ _ _ h hP hD hS d_Md_show_77
  have b80_3_2_5_2 : ∀ (S : SS) (M : MM) (x1 : Int32) (x2 : Int32) (x4 : Int32), f_Md_show_80_3_2_5_2 S M x1 x2 x4 = some q → BK p l e rm_Md_show s m args below meth c Q D vCl (AM b) (wM cA b) 6 80 [(0, .ref (b 0)), (1, .int x1), (2, .int x2), (3, .int (2 : Int32)), (4, .int x4), (5, .int (2 : Int32))] [] S M := by
    intro S M x1 x2 x4 h H locs ls hl hP hD hS
    unfold f_Md_show_80_3_2_5_2 at h
    refine lv_iload_n hx hb d_Md_show_80 rfl (lv_at hl 3 rfl) ?_
    refine lv_iconst (v := (2 : Int32)) hx hb d_Md_show_81 (by decide) ?_
    refine lv_icmp_ge (tgt := 178) hx hb d_Md_show_82 (by decide) (fun _ => ?_) (fun h9 => absurd h9 (by decide))
    exact ret _ _ _ _ _ _ _ h hP hD hS d_Md_show_178
  have b141_3_1_5_2 : ∀ (S : SS) (M : MM) (x1 : Int32) (x2 : Int32) (x4 : Int32), f_Md_show_141_3_1_5_2 S M x1 x2 x4 = some q → BK p l e rm_Md_show s m args below meth c Q D vCl (AM b) (wM cA b) 6 141 [(0, .ref (b 0)), (1, .int x1), (2, .int x2), (3, .int (1 : Int32)), (4, .int x4), (5, .int (2 : Int32))] [] S M := by
    intro S M x1 x2 x4 h H locs ls hl hP hD hS
    unfold f_Md_show_141_3_1_5_2 at h
    refine lv_iload hx hb d_Md_show_141 (lv_at hl 5 rfl) ?_
    refine lv_iconst (v := (2 : Int32)) hx hb d_Md_show_143 (by decide) ?_
    refine lv_icmp_ge (tgt := 172) hx hb d_Md_show_144 (by decide) (fun _ => ?_) (fun h9 => absurd h9 (by decide))
    refine lv_iinc (k := 3) (v := (2 : Int32)) (lv' := [(3, .int (2 : Int32)), (0, .ref (b 0)), (1, .int x1), (2, .int x2), (4, .int x4), (5, .int (2 : Int32))]) hx hb d_Md_show_172 hl rfl (by decide) (by decide) rfl (fun ls hl => ?_)
    refine lv_goto (tgt := 80) hx hb d_Md_show_175 (by decide) ?_
    exact b80_3_2_5_2 _ _ _ _ _ h _ _ _ (lv_sub hl [1, 2, 3, 0, 4, 5] rfl) hP hD hS
  have b141_3_1_5_1 : ∀ (S : SS) (M : MM) (x1 : Int32) (x2 : Int32) (x4 : Int32), f_Md_show_141_3_1_5_1 S M x1 x2 x4 = some q → BK p l e rm_Md_show s m args below meth c Q D vCl (AM b) (wM cA b) 6 141 [(0, .ref (b 0)), (1, .int x1), (2, .int x2), (3, .int (1 : Int32)), (4, .int x4), (5, .int (1 : Int32))] [] S M := by
    intro S M x1 x2 x4 h H locs ls hl hP hD hS
    unfold f_Md_show_141_3_1_5_1 at h
    refine lv_iload hx hb d_Md_show_141 (lv_at hl 5 rfl) ?_
    refine lv_iconst (v := (2 : Int32)) hx hb d_Md_show_143 (by decide) ?_
    refine lv_icmp_ge (tgt := 172) hx hb d_Md_show_144 (by decide) (fun h9 => absurd h9 (by decide)) (fun _ => ?_)
    refine lv_aload_n hx hb d_Md_show_147 rfl (lv_at hl 0 rfl) ?_
    refine va_get (D := D) (ci := 7) (v := .ref (b 7)) (C := R_Md) (T := T_Md) (N := 31) hx hb hts iMd hown hK hP 0 (wM_at0 _ _ _ _) rfl 9 (by decide) k28 (fun _ h9 => h9) rfl d_Md_show_148 ?_
    refine lv_iload hx hb d_Md_show_151 (lv_at hl 5 rfl) ?_
    refine lv_iconst (v := (2 : Int32)) hx hb d_Md_show_153 (by decide) ?_
    refine lv_aload_n hx hb d_Md_show_154 rfl (lv_at hl 0 rfl) ?_
    refine va_get (D := D) (ci := 7) (v := .ref (b 7)) (C := R_Md) (T := T_Md) (N := 31) hx hb hts iMd hown hK hP 0 (wM_at0 _ _ _ _) rfl 9 (by decide) k28 (fun _ h9 => h9) rfl d_Md_show_155 ?_
    refine lv_iload hx hb d_Md_show_158 (lv_at hl 5 rfl) ?_
    refine ialdK hx hb hK hP 7 0 (wM_at7 _ _ _ _) rfl 1 (by decide) (by unfold vp_in; decide) d_Md_show_160 ?_
    refine lv_imul hx hb d_Md_show_161 ?_
    refine lv_ldc (v := (65535 : Int32)) hx hb hown k88 d_Md_show_162 ?_
    refine lv_iand hx hb d_Md_show_164 ?_
    refine iastK (x := ((2 : Int32) * (M 6 1)) &&& (65535 : Int32)) hx hb hK hP hD hS 7 0 (wM_at7 _ _ _ _) rfl 1 (by decide) (by unfold vp_in; decide) d_Md_show_165 (fun H locs hP hD hS => ?_)
    have hP := wM_set7 hP
    have hD := wM_dset7 hD
    refine lv_iinc (k := 5) (v := (2 : Int32)) (lv' := [(5, .int (2 : Int32)), (0, .ref (b 0)), (1, .int x1), (2, .int x2), (3, .int (1 : Int32)), (4, .int x4)]) hx hb d_Md_show_166 hl rfl (by decide) (by decide) rfl (fun ls hl => ?_)
    refine lv_goto (tgt := 141) hx hb d_Md_show_169 (by decide) ?_
    exact b141_3_1_5_2 _ _ _ _ _ h _ _ _ (lv_sub hl [1, 2, 3, 4, 5, 0] rfl) hP hD hS
  have b141_3_1_5_0 : ∀ (S : SS) (M : MM) (x1 : Int32) (x2 : Int32) (x4 : Int32), f_Md_show_141_3_1_5_0 S M x1 x2 x4 = some q → BK p l e rm_Md_show s m args below meth c Q D vCl (AM b) (wM cA b) 6 141 [(0, .ref (b 0)), (1, .int x1), (2, .int x2), (3, .int (1 : Int32)), (4, .int x4), (5, .int (0 : Int32))] [] S M := by
    intro S M x1 x2 x4 h H locs ls hl hP hD hS
    unfold f_Md_show_141_3_1_5_0 at h
    refine lv_iload hx hb d_Md_show_141 (lv_at hl 5 rfl) ?_
    refine lv_iconst (v := (2 : Int32)) hx hb d_Md_show_143 (by decide) ?_
    refine lv_icmp_ge (tgt := 172) hx hb d_Md_show_144 (by decide) (fun h9 => absurd h9 (by decide)) (fun _ => ?_)
    refine lv_aload_n hx hb d_Md_show_147 rfl (lv_at hl 0 rfl) ?_
    refine va_get (D := D) (ci := 7) (v := .ref (b 7)) (C := R_Md) (T := T_Md) (N := 31) hx hb hts iMd hown hK hP 0 (wM_at0 _ _ _ _) rfl 9 (by decide) k28 (fun _ h9 => h9) rfl d_Md_show_148 ?_
    refine lv_iload hx hb d_Md_show_151 (lv_at hl 5 rfl) ?_
    refine lv_iconst (v := (2 : Int32)) hx hb d_Md_show_153 (by decide) ?_
    refine lv_aload_n hx hb d_Md_show_154 rfl (lv_at hl 0 rfl) ?_
    refine va_get (D := D) (ci := 7) (v := .ref (b 7)) (C := R_Md) (T := T_Md) (N := 31) hx hb hts iMd hown hK hP 0 (wM_at0 _ _ _ _) rfl 9 (by decide) k28 (fun _ h9 => h9) rfl d_Md_show_155 ?_
    refine lv_iload hx hb d_Md_show_158 (lv_at hl 5 rfl) ?_
    refine ialdK hx hb hK hP 7 0 (wM_at7 _ _ _ _) rfl 0 (by decide) (by unfold vp_in; decide) d_Md_show_160 ?_
    refine lv_imul hx hb d_Md_show_161 ?_
    refine lv_ldc (v := (65535 : Int32)) hx hb hown k88 d_Md_show_162 ?_
    refine lv_iand hx hb d_Md_show_164 ?_
    refine iastK (x := ((2 : Int32) * (M 6 0)) &&& (65535 : Int32)) hx hb hK hP hD hS 7 0 (wM_at7 _ _ _ _) rfl 0 (by decide) (by unfold vp_in; decide) d_Md_show_165 (fun H locs hP hD hS => ?_)
    have hP := wM_set7 hP
    have hD := wM_dset7 hD
    refine lv_iinc (k := 5) (v := (1 : Int32)) (lv' := [(5, .int (1 : Int32)), (0, .ref (b 0)), (1, .int x1), (2, .int x2), (3, .int (1 : Int32)), (4, .int x4)]) hx hb d_Md_show_166 hl rfl (by decide) (by decide) rfl (fun ls hl => ?_)
    refine lv_goto (tgt := 141) hx hb d_Md_show_169 (by decide) ?_
    exact b141_3_1_5_1 _ _ _ _ _ h _ _ _ (lv_sub hl [1, 2, 3, 4, 5, 0] rfl) hP hD hS
  have b80_3_1_5_2 : ∀ (S : SS) (M : MM) (x1 : Int32) (x2 : Int32) (x4 : Int32), f_Md_show_80_3_1_5_2 S M x1 x2 x4 = some q → BK p l e rm_Md_show s m args below meth c Q D vCl (AM b) (wM cA b) 6 80 [(0, .ref (b 0)), (1, .int x1), (2, .int x2), (3, .int (1 : Int32)), (4, .int x4), (5, .int (2 : Int32))] [] S M := by
    intro S M x1 x2 x4 h H locs ls hl hP hD hS
    unfold f_Md_show_80_3_1_5_2 at h
    refine lv_iload_n hx hb d_Md_show_80 rfl (lv_at hl 3 rfl) ?_
    refine lv_iconst (v := (2 : Int32)) hx hb d_Md_show_81 (by decide) ?_
    refine lv_icmp_ge (tgt := 178) hx hb d_Md_show_82 (by decide) (fun h9 => absurd h9 (by decide)) (fun _ => ?_)
    refine lv_aload_n hx hb d_Md_show_85 rfl (lv_at hl 0 rfl) ?_
    refine va_get (D := D) (ci := 7) (v := .ref (b 7)) (C := R_Md) (T := T_Md) (N := 31) hx hb hts iMd hown hK hP 0 (wM_at0 _ _ _ _) rfl 9 (by decide) k28 (fun _ h9 => h9) rfl d_Md_show_86 ?_
    refine lv_iconst (v := (0 : Int32)) hx hb d_Md_show_89 (by decide) ?_
    refine ialdK hx hb hK hP 7 0 (wM_at7 _ _ _ _) rfl 0 (by decide) (by unfold vp_in; decide) d_Md_show_90 ?_
    refine lv_bipush (v := (15 : Int32)) hx hb d_Md_show_91 (by decide) ?_
    refine lv_ishr hx hb d_Md_show_93 ?_
    refine lv_iconst (v := (2 : Int32)) hx hb d_Md_show_94 (by decide) ?_
    refine lv_aload_n hx hb d_Md_show_95 rfl (lv_at hl 0 rfl) ?_
    refine va_get (D := D) (ci := 7) (v := .ref (b 7)) (C := R_Md) (T := T_Md) (N := 31) hx hb hts iMd hown hK hP 0 (wM_at0 _ _ _ _) rfl 9 (by decide) k28 (fun _ h9 => h9) rfl d_Md_show_96 ?_
    refine lv_iconst (v := (1 : Int32)) hx hb d_Md_show_99 (by decide) ?_
    refine ialdK hx hb hK hP 7 0 (wM_at7 _ _ _ _) rfl 1 (by decide) (by unfold vp_in; decide) d_Md_show_100 ?_
    refine lv_bipush (v := (15 : Int32)) hx hb d_Md_show_101 (by decide) ?_
    refine lv_ishr hx hb d_Md_show_103 ?_
    refine lv_imul hx hb d_Md_show_104 ?_
    refine lv_iadd hx hb d_Md_show_105 ?_
    refine lv_istore (lv' := [(4, .int (((M 6 0) >>> ((15 : Int32) &&& 31)) + ((2 : Int32) * ((M 6 1) >>> ((15 : Int32) &&& 31))))), (0, .ref (b 0)), (1, .int x1), (2, .int x2), (3, .int (1 : Int32)), (5, .int (2 : Int32))]) hx hb d_Md_show_106 hl (by decide) rfl (fun ls hl => ?_)
    refine lv_aload_n hx hb d_Md_show_108 rfl (lv_at hl 1 rfl) ?_
    refine va_get (D := D) (ci := 7) (v := .ref (b 3)) (C := R_Md) (T := T_Md) (N := 31) hx hb hts iMd hown hK hP 0 (wM_at0 _ _ _ _) rfl 2 (by decide) k16 (fun _ h9 => h9) rfl d_Md_show_109 ?_
    refine lv_bipush (v := (32 : Int32)) hx hb d_Md_show_112 (by decide) ?_
    refine lv_iload_n hx hb d_Md_show_114 rfl (lv_at hl 2 rfl) ?_
    refine lv_iconst (v := (4 : Int32)) hx hb d_Md_show_115 (by decide) ?_
    refine lv_isub hx hb d_Md_show_116 ?_
    refine lv_imul hx hb d_Md_show_117 ?_
    refine lv_iconst (v := (2 : Int32)) hx hb d_Md_show_118 (by decide) ?_
    refine lv_iload_n hx hb d_Md_show_119 rfl (lv_at hl 3 rfl) ?_
    refine lv_bipush (v := (16 : Int32)) hx hb d_Md_show_120 (by decide) ?_
    refine lv_isub hx hb d_Md_show_122 ?_
    refine lv_imul hx hb d_Md_show_123 ?_
    refine lv_iadd hx hb d_Md_show_124 ?_
    refine lv_iload_n hx hb d_Md_show_125 rfl (lv_at hl 4 rfl) ?_
    refine lv_iadd hx hb d_Md_show_126 ?_
    refine lv_aload_n hx hb d_Md_show_127 rfl (lv_at hl 1 rfl) ?_
    refine va_get (D := D) (ci := 7) (v := .ref (b 2)) (C := R_Md) (T := T_Md) (N := 31) hx hb hts iMd hown hK hP 0 (wM_at0 _ _ _ _) rfl 1 (by decide) k13 (fun _ h9 => h9) rfl d_Md_show_128 ?_
    refine lv_bipush (v := (6 : Int32)) hx hb d_Md_show_131 (by decide) ?_
    refine lv_iload hx hb d_Md_show_133 (lv_at hl 0 rfl) ?_
    refine lv_iadd hx hb d_Md_show_135 ?_
    obtain ⟨hg1, h⟩ := sg_g h
    refine va_iald hx hb hK hP 2 0 (wM_at2 _ _ _ _) rfl hg1 d_Md_show_136 ?_
    obtain ⟨hg2, h⟩ := sg_g h
    refine va_iast (x := M 1 ((6 : Int32) + (((M 6 0) >>> ((15 : Int32) &&& 31)) + ((2 : Int32) * ((M 6 1) >>> ((15 : Int32) &&& 31))))).toNatClampNeg) hx hb hK hP hD hS 3 0 (wM_at3 _ _ _ _) rfl hg2 d_Md_show_137 (fun H locs hP hD hS => ?_)
    have hP := wM_set3 hP
    have hD := wM_dset3 hD
    refine lv_iconst (v := (0 : Int32)) hx hb d_Md_show_138 (by decide) ?_
    refine lv_istore (lv' := [(5, .int (0 : Int32)), (4, .int (((M 6 0) >>> ((15 : Int32) &&& 31)) + ((2 : Int32) * ((M 6 1) >>> ((15 : Int32) &&& 31))))), (0, .ref (b 0)), (1, .int x1), (2, .int x2), (3, .int (1 : Int32))]) hx hb d_Md_show_139 hl (by decide) rfl (fun ls hl => ?_)
    exact b141_3_1_5_0 _ _ _ _ _ h _ _ _ (lv_sub hl [2, 3, 4, 5, 1, 0] rfl) hP hD hS
  have b141_3_0_5_2 : ∀ (S : SS) (M : MM) (x1 : Int32) (x2 : Int32) (x4 : Int32), f_Md_show_141_3_0_5_2 S M x1 x2 x4 = some q → BK p l e rm_Md_show s m args below meth c Q D vCl (AM b) (wM cA b) 6 141 [(0, .ref (b 0)), (1, .int x1), (2, .int x2), (3, .int (0 : Int32)), (4, .int x4), (5, .int (2 : Int32))] [] S M := by
    intro S M x1 x2 x4 h H locs ls hl hP hD hS
    unfold f_Md_show_141_3_0_5_2 at h
    refine lv_iload hx hb d_Md_show_141 (lv_at hl 5 rfl) ?_
    refine lv_iconst (v := (2 : Int32)) hx hb d_Md_show_143 (by decide) ?_
    refine lv_icmp_ge (tgt := 172) hx hb d_Md_show_144 (by decide) (fun _ => ?_) (fun h9 => absurd h9 (by decide))
    refine lv_iinc (k := 3) (v := (1 : Int32)) (lv' := [(3, .int (1 : Int32)), (0, .ref (b 0)), (1, .int x1), (2, .int x2), (4, .int x4), (5, .int (2 : Int32))]) hx hb d_Md_show_172 hl rfl (by decide) (by decide) rfl (fun ls hl => ?_)
    refine lv_goto (tgt := 80) hx hb d_Md_show_175 (by decide) ?_
    exact b80_3_1_5_2 _ _ _ _ _ h _ _ _ (lv_sub hl [1, 2, 3, 0, 4, 5] rfl) hP hD hS
  have b141_3_0_5_1 : ∀ (S : SS) (M : MM) (x1 : Int32) (x2 : Int32) (x4 : Int32), f_Md_show_141_3_0_5_1 S M x1 x2 x4 = some q → BK p l e rm_Md_show s m args below meth c Q D vCl (AM b) (wM cA b) 6 141 [(0, .ref (b 0)), (1, .int x1), (2, .int x2), (3, .int (0 : Int32)), (4, .int x4), (5, .int (1 : Int32))] [] S M := by
    intro S M x1 x2 x4 h H locs ls hl hP hD hS
    unfold f_Md_show_141_3_0_5_1 at h
    refine lv_iload hx hb d_Md_show_141 (lv_at hl 5 rfl) ?_
    refine lv_iconst (v := (2 : Int32)) hx hb d_Md_show_143 (by decide) ?_
    refine lv_icmp_ge (tgt := 172) hx hb d_Md_show_144 (by decide) (fun h9 => absurd h9 (by decide)) (fun _ => ?_)
    refine lv_aload_n hx hb d_Md_show_147 rfl (lv_at hl 0 rfl) ?_
    refine va_get (D := D) (ci := 7) (v := .ref (b 7)) (C := R_Md) (T := T_Md) (N := 31) hx hb hts iMd hown hK hP 0 (wM_at0 _ _ _ _) rfl 9 (by decide) k28 (fun _ h9 => h9) rfl d_Md_show_148 ?_
    refine lv_iload hx hb d_Md_show_151 (lv_at hl 5 rfl) ?_
    refine lv_iconst (v := (2 : Int32)) hx hb d_Md_show_153 (by decide) ?_
    refine lv_aload_n hx hb d_Md_show_154 rfl (lv_at hl 0 rfl) ?_
    refine va_get (D := D) (ci := 7) (v := .ref (b 7)) (C := R_Md) (T := T_Md) (N := 31) hx hb hts iMd hown hK hP 0 (wM_at0 _ _ _ _) rfl 9 (by decide) k28 (fun _ h9 => h9) rfl d_Md_show_155 ?_
    refine lv_iload hx hb d_Md_show_158 (lv_at hl 5 rfl) ?_
    refine ialdK hx hb hK hP 7 0 (wM_at7 _ _ _ _) rfl 1 (by decide) (by unfold vp_in; decide) d_Md_show_160 ?_
    refine lv_imul hx hb d_Md_show_161 ?_
    refine lv_ldc (v := (65535 : Int32)) hx hb hown k88 d_Md_show_162 ?_
    refine lv_iand hx hb d_Md_show_164 ?_
    refine iastK (x := ((2 : Int32) * (M 6 1)) &&& (65535 : Int32)) hx hb hK hP hD hS 7 0 (wM_at7 _ _ _ _) rfl 1 (by decide) (by unfold vp_in; decide) d_Md_show_165 (fun H locs hP hD hS => ?_)
    have hP := wM_set7 hP
    have hD := wM_dset7 hD
    refine lv_iinc (k := 5) (v := (2 : Int32)) (lv' := [(5, .int (2 : Int32)), (0, .ref (b 0)), (1, .int x1), (2, .int x2), (3, .int (0 : Int32)), (4, .int x4)]) hx hb d_Md_show_166 hl rfl (by decide) (by decide) rfl (fun ls hl => ?_)
    refine lv_goto (tgt := 141) hx hb d_Md_show_169 (by decide) ?_
    exact b141_3_0_5_2 _ _ _ _ _ h _ _ _ (lv_sub hl [1, 2, 3, 4, 5, 0] rfl) hP hD hS
  have b141_3_0_5_0 : ∀ (S : SS) (M : MM) (x1 : Int32) (x2 : Int32) (x4 : Int32), f_Md_show_141_3_0_5_0 S M x1 x2 x4 = some q → BK p l e rm_Md_show s m args below meth c Q D vCl (AM b) (wM cA b) 6 141 [(0, .ref (b 0)), (1, .int x1), (2, .int x2), (3, .int (0 : Int32)), (4, .int x4), (5, .int (0 : Int32))] [] S M := by
    intro S M x1 x2 x4 h H locs ls hl hP hD hS
    unfold f_Md_show_141_3_0_5_0 at h
    refine lv_iload hx hb d_Md_show_141 (lv_at hl 5 rfl) ?_
    refine lv_iconst (v := (2 : Int32)) hx hb d_Md_show_143 (by decide) ?_
    refine lv_icmp_ge (tgt := 172) hx hb d_Md_show_144 (by decide) (fun h9 => absurd h9 (by decide)) (fun _ => ?_)
    refine lv_aload_n hx hb d_Md_show_147 rfl (lv_at hl 0 rfl) ?_
    refine va_get (D := D) (ci := 7) (v := .ref (b 7)) (C := R_Md) (T := T_Md) (N := 31) hx hb hts iMd hown hK hP 0 (wM_at0 _ _ _ _) rfl 9 (by decide) k28 (fun _ h9 => h9) rfl d_Md_show_148 ?_
    refine lv_iload hx hb d_Md_show_151 (lv_at hl 5 rfl) ?_
    refine lv_iconst (v := (2 : Int32)) hx hb d_Md_show_153 (by decide) ?_
    refine lv_aload_n hx hb d_Md_show_154 rfl (lv_at hl 0 rfl) ?_
    refine va_get (D := D) (ci := 7) (v := .ref (b 7)) (C := R_Md) (T := T_Md) (N := 31) hx hb hts iMd hown hK hP 0 (wM_at0 _ _ _ _) rfl 9 (by decide) k28 (fun _ h9 => h9) rfl d_Md_show_155 ?_
    refine lv_iload hx hb d_Md_show_158 (lv_at hl 5 rfl) ?_
    refine ialdK hx hb hK hP 7 0 (wM_at7 _ _ _ _) rfl 0 (by decide) (by unfold vp_in; decide) d_Md_show_160 ?_
    refine lv_imul hx hb d_Md_show_161 ?_
    refine lv_ldc (v := (65535 : Int32)) hx hb hown k88 d_Md_show_162 ?_
    refine lv_iand hx hb d_Md_show_164 ?_
    refine iastK (x := ((2 : Int32) * (M 6 0)) &&& (65535 : Int32)) hx hb hK hP hD hS 7 0 (wM_at7 _ _ _ _) rfl 0 (by decide) (by unfold vp_in; decide) d_Md_show_165 (fun H locs hP hD hS => ?_)
    have hP := wM_set7 hP
    have hD := wM_dset7 hD
    refine lv_iinc (k := 5) (v := (1 : Int32)) (lv' := [(5, .int (1 : Int32)), (0, .ref (b 0)), (1, .int x1), (2, .int x2), (3, .int (0 : Int32)), (4, .int x4)]) hx hb d_Md_show_166 hl rfl (by decide) (by decide) rfl (fun ls hl => ?_)
    refine lv_goto (tgt := 141) hx hb d_Md_show_169 (by decide) ?_
    exact b141_3_0_5_1 _ _ _ _ _ h _ _ _ (lv_sub hl [1, 2, 3, 4, 5, 0] rfl) hP hD hS
  have b80_3_0 : ∀ (S : SS) (M : MM) (x1 : Int32) (x2 : Int32), f_Md_show_80_3_0 S M x1 x2 = some q → BK p l e rm_Md_show s m args below meth c Q D vCl (AM b) (wM cA b) 6 80 [(0, .ref (b 0)), (1, .int x1), (2, .int x2), (3, .int (0 : Int32))] [] S M := by
    intro S M x1 x2 h H locs ls hl hP hD hS
    unfold f_Md_show_80_3_0 at h
    refine lv_iload_n hx hb d_Md_show_80 rfl (lv_at hl 3 rfl) ?_
    refine lv_iconst (v := (2 : Int32)) hx hb d_Md_show_81 (by decide) ?_
    refine lv_icmp_ge (tgt := 178) hx hb d_Md_show_82 (by decide) (fun h9 => absurd h9 (by decide)) (fun _ => ?_)
    refine lv_aload_n hx hb d_Md_show_85 rfl (lv_at hl 0 rfl) ?_
    refine va_get (D := D) (ci := 7) (v := .ref (b 7)) (C := R_Md) (T := T_Md) (N := 31) hx hb hts iMd hown hK hP 0 (wM_at0 _ _ _ _) rfl 9 (by decide) k28 (fun _ h9 => h9) rfl d_Md_show_86 ?_
    refine lv_iconst (v := (0 : Int32)) hx hb d_Md_show_89 (by decide) ?_
    refine ialdK hx hb hK hP 7 0 (wM_at7 _ _ _ _) rfl 0 (by decide) (by unfold vp_in; decide) d_Md_show_90 ?_
    refine lv_bipush (v := (15 : Int32)) hx hb d_Md_show_91 (by decide) ?_
    refine lv_ishr hx hb d_Md_show_93 ?_
    refine lv_iconst (v := (2 : Int32)) hx hb d_Md_show_94 (by decide) ?_
    refine lv_aload_n hx hb d_Md_show_95 rfl (lv_at hl 0 rfl) ?_
    refine va_get (D := D) (ci := 7) (v := .ref (b 7)) (C := R_Md) (T := T_Md) (N := 31) hx hb hts iMd hown hK hP 0 (wM_at0 _ _ _ _) rfl 9 (by decide) k28 (fun _ h9 => h9) rfl d_Md_show_96 ?_
    refine lv_iconst (v := (1 : Int32)) hx hb d_Md_show_99 (by decide) ?_
    refine ialdK hx hb hK hP 7 0 (wM_at7 _ _ _ _) rfl 1 (by decide) (by unfold vp_in; decide) d_Md_show_100 ?_
    refine lv_bipush (v := (15 : Int32)) hx hb d_Md_show_101 (by decide) ?_
    refine lv_ishr hx hb d_Md_show_103 ?_
    refine lv_imul hx hb d_Md_show_104 ?_
    refine lv_iadd hx hb d_Md_show_105 ?_
    refine lv_istore (lv' := [(4, .int (((M 6 0) >>> ((15 : Int32) &&& 31)) + ((2 : Int32) * ((M 6 1) >>> ((15 : Int32) &&& 31))))), (0, .ref (b 0)), (1, .int x1), (2, .int x2), (3, .int (0 : Int32))]) hx hb d_Md_show_106 hl (by decide) rfl (fun ls hl => ?_)
    refine lv_aload_n hx hb d_Md_show_108 rfl (lv_at hl 1 rfl) ?_
    refine va_get (D := D) (ci := 7) (v := .ref (b 3)) (C := R_Md) (T := T_Md) (N := 31) hx hb hts iMd hown hK hP 0 (wM_at0 _ _ _ _) rfl 2 (by decide) k16 (fun _ h9 => h9) rfl d_Md_show_109 ?_
    refine lv_bipush (v := (32 : Int32)) hx hb d_Md_show_112 (by decide) ?_
    refine lv_iload_n hx hb d_Md_show_114 rfl (lv_at hl 2 rfl) ?_
    refine lv_iconst (v := (4 : Int32)) hx hb d_Md_show_115 (by decide) ?_
    refine lv_isub hx hb d_Md_show_116 ?_
    refine lv_imul hx hb d_Md_show_117 ?_
    refine lv_iconst (v := (2 : Int32)) hx hb d_Md_show_118 (by decide) ?_
    refine lv_iload_n hx hb d_Md_show_119 rfl (lv_at hl 3 rfl) ?_
    refine lv_bipush (v := (16 : Int32)) hx hb d_Md_show_120 (by decide) ?_
    refine lv_isub hx hb d_Md_show_122 ?_
    refine lv_imul hx hb d_Md_show_123 ?_
    refine lv_iadd hx hb d_Md_show_124 ?_
    refine lv_iload_n hx hb d_Md_show_125 rfl (lv_at hl 4 rfl) ?_
    refine lv_iadd hx hb d_Md_show_126 ?_
    refine lv_aload_n hx hb d_Md_show_127 rfl (lv_at hl 1 rfl) ?_
    refine va_get (D := D) (ci := 7) (v := .ref (b 2)) (C := R_Md) (T := T_Md) (N := 31) hx hb hts iMd hown hK hP 0 (wM_at0 _ _ _ _) rfl 1 (by decide) k13 (fun _ h9 => h9) rfl d_Md_show_128 ?_
    refine lv_bipush (v := (6 : Int32)) hx hb d_Md_show_131 (by decide) ?_
    refine lv_iload hx hb d_Md_show_133 (lv_at hl 0 rfl) ?_
    refine lv_iadd hx hb d_Md_show_135 ?_
    obtain ⟨hg3, h⟩ := sg_g h
    refine va_iald hx hb hK hP 2 0 (wM_at2 _ _ _ _) rfl hg3 d_Md_show_136 ?_
    obtain ⟨hg4, h⟩ := sg_g h
    refine va_iast (x := M 1 ((6 : Int32) + (((M 6 0) >>> ((15 : Int32) &&& 31)) + ((2 : Int32) * ((M 6 1) >>> ((15 : Int32) &&& 31))))).toNatClampNeg) hx hb hK hP hD hS 3 0 (wM_at3 _ _ _ _) rfl hg4 d_Md_show_137 (fun H locs hP hD hS => ?_)
    have hP := wM_set3 hP
    have hD := wM_dset3 hD
    refine lv_iconst (v := (0 : Int32)) hx hb d_Md_show_138 (by decide) ?_
    refine lv_istore (lv' := [(5, .int (0 : Int32)), (4, .int (((M 6 0) >>> ((15 : Int32) &&& 31)) + ((2 : Int32) * ((M 6 1) >>> ((15 : Int32) &&& 31))))), (0, .ref (b 0)), (1, .int x1), (2, .int x2), (3, .int (0 : Int32))]) hx hb d_Md_show_139 hl (by decide) rfl (fun ls hl => ?_)
    exact b141_3_0_5_0 _ _ _ _ _ h _ _ _ (lv_sub hl [2, 3, 4, 5, 1, 0] rfl) hP hD hS
  have b2_3_2 : ∀ (S : SS) (M : MM) (x1 : Int32) (x2 : Int32), f_Md_show_2_3_2 S M x1 x2 = some q → BK p l e rm_Md_show s m args below meth c Q D vCl (AM b) (wM cA b) 6 2 [(0, .ref (b 0)), (1, .int x1), (2, .int x2), (3, .int (2 : Int32))] [] S M := by
    intro S M x1 x2 h H locs ls hl hP hD hS
    unfold f_Md_show_2_3_2 at h
    refine lv_iload_n hx hb d_Md_show_2 rfl (lv_at hl 3 rfl) ?_
    refine lv_iconst (v := (2 : Int32)) hx hb d_Md_show_3 (by decide) ?_
    refine lv_icmp_ge (tgt := 60) hx hb d_Md_show_4 (by decide) (fun _ => ?_) (fun h9 => absurd h9 (by decide))
    refine lv_iload_n hx hb d_Md_show_60 rfl (lv_at hl 1 rfl) ?_
    refine lv_iconst (v := (4 : Int32)) hx hb d_Md_show_61 (by decide) ?_
    refine lv_icmp_lt (tgt := 77) hx hb d_Md_show_62 (by decide) (fun hc => ?_) (fun hc => ?_)
    · have h := sg_p hc h
      exact b77_3_2 _ _ _ _ h _ _ _ (lv_sub hl [0, 1, 2, 3] rfl) hP hD hS
    · have h := sg_n hc h
      refine lv_iload_n hx hb d_Md_show_65 rfl (lv_at hl 1 rfl) ?_
      refine lv_bipush (v := (15 : Int32)) hx hb d_Md_show_66 (by decide) ?_
      refine lv_icmp_gt (tgt := 77) hx hb d_Md_show_68 (by decide) (fun hc => ?_) (fun hc => ?_)
      · have h := sg_p hc h
        exact b77_3_2 _ _ _ _ h _ _ _ (lv_sub hl [0, 1, 2, 3] rfl) hP hD hS
      · have h := sg_n hc h
        refine lv_iload_n hx hb d_Md_show_71 rfl (lv_at hl 2 rfl) ?_
        refine lv_bipush (v := (16 : Int32)) hx hb d_Md_show_72 (by decide) ?_
        refine lv_icmp_ge (tgt := 78) hx hb d_Md_show_74 (by decide) (fun hc => ?_) (fun hc => ?_)
        · have h := sg_p hc h
          refine lv_iconst (v := (0 : Int32)) hx hb d_Md_show_78 (by decide) ?_
          refine lv_istore_n (lv' := [(3, .int (0 : Int32)), (0, .ref (b 0)), (1, .int x1), (2, .int x2)]) hx hb d_Md_show_79 rfl hl (by decide) rfl (fun ls hl => ?_)
          exact b80_3_0 _ _ _ _ h _ _ _ (lv_sub hl [1, 2, 3, 0] rfl) hP hD hS
        · have h := sg_n hc h
          exact b77_3_2 _ _ _ _ h _ _ _ (lv_sub hl [0, 1, 2, 3] rfl) hP hD hS
  have b54_3_1 : ∀ (S : SS) (M : MM) (x1 : Int32) (x2 : Int32), f_Md_show_54_3_1 S M x1 x2 = some q → BK p l e rm_Md_show s m args below meth c Q D vCl (AM b) (wM cA b) 6 54 [(0, .ref (b 0)), (1, .int x1), (2, .int x2), (3, .int (1 : Int32))] [] S M := by
    intro S M x1 x2 h H locs ls hl hP hD hS
    unfold f_Md_show_54_3_1 at h
    refine lv_iinc (k := 3) (v := (2 : Int32)) (lv' := [(3, .int (2 : Int32)), (0, .ref (b 0)), (1, .int x1), (2, .int x2)]) hx hb d_Md_show_54 hl rfl (by decide) (by decide) rfl (fun ls hl => ?_)
    refine lv_goto (tgt := 2) hx hb d_Md_show_57 (by decide) ?_
    exact b2_3_2 _ _ _ _ h _ _ _ (lv_sub hl [1, 2, 3, 0] rfl) hP hD hS
  have b47_3_1 : ∀ (S : SS) (M : MM) (x1 : Int32) (x2 : Int32), f_Md_show_47_3_1 S M x1 x2 = some q → BK p l e rm_Md_show s m args below meth c Q D vCl (AM b) (wM cA b) 6 47 [(0, .ref (b 0)), (1, .int x1), (2, .int x2), (3, .int (1 : Int32))] [] S M := by
    intro S M x1 x2 h H locs ls hl hP hD hS
    unfold f_Md_show_47_3_1 at h
    refine lv_aload_n hx hb d_Md_show_47 rfl (lv_at hl 0 rfl) ?_
    refine va_get (D := D) (ci := 7) (v := .ref (b 6)) (C := R_Md) (T := T_Md) (N := 31) hx hb hts iMd hown hK hP 0 (wM_at0 _ _ _ _) rfl 8 (by decide) k25 (fun _ h9 => h9) rfl d_Md_show_48 ?_
    refine lv_iload_n hx hb d_Md_show_51 rfl (lv_at hl 3 rfl) ?_
    refine lv_iconst (v := (0 : Int32)) hx hb d_Md_show_52 (by decide) ?_
    refine iastK (x := (0 : Int32)) hx hb hK hP hD hS 6 0 (wM_at6 _ _ _ _) rfl 1 (by decide) (by unfold vp_in; decide) d_Md_show_53 (fun H locs hP hD hS => ?_)
    have hP := wM_set6 hP
    have hD := wM_dset6 hD
    exact b54_3_1 _ _ _ _ h _ _ _ (lv_sub hl [0, 1, 2, 3] rfl) hP hD hS
  have b31_3_1 : ∀ (S : SS) (M : MM) (x1 : Int32) (x2 : Int32), f_Md_show_31_3_1 S M x1 x2 = some q → BK p l e rm_Md_show s m args below meth c Q D vCl (AM b) (wM cA b) 6 31 [(0, .ref (b 0)), (1, .int x1), (2, .int x2), (3, .int (1 : Int32))] [] S M := by
    intro S M x1 x2 h H locs ls hl hP hD hS
    unfold f_Md_show_31_3_1 at h
    refine lv_iload_n hx hb d_Md_show_31 rfl (lv_at hl 2 rfl) ?_
    refine lv_if_eq (tgt := 47) hx hb d_Md_show_32 (by decide) (fun hc => ?_) (fun hc => ?_)
    · have h := sg_p hc h
      exact b47_3_1 _ _ _ _ h _ _ _ (lv_sub hl [0, 1, 2, 3] rfl) hP hD hS
    · have h := sg_n hc h
      refine lv_iload_n hx hb d_Md_show_35 rfl (lv_at hl 2 rfl) ?_
      refine lv_bipush (v := (16 : Int32)) hx hb d_Md_show_36 (by decide) ?_
      refine lv_icmp_eq (tgt := 47) hx hb d_Md_show_38 (by decide) (fun hc => ?_) (fun hc => ?_)
      · have h := sg_p hc h
        exact b47_3_1 _ _ _ _ h _ _ _ (lv_sub hl [0, 1, 2, 3] rfl) hP hD hS
      · have h := sg_n hc h
        refine lv_iload_n hx hb d_Md_show_41 rfl (lv_at hl 2 rfl) ?_
        refine lv_bipush (v := (24 : Int32)) hx hb d_Md_show_42 (by decide) ?_
        refine lv_icmp_ne (tgt := 54) hx hb d_Md_show_44 (by decide) (fun hc => ?_) (fun hc => ?_)
        · have h := sg_n hc h
          exact b54_3_1 _ _ _ _ h _ _ _ (lv_sub hl [0, 1, 2, 3] rfl) hP hD hS
        · have h := sg_p hc h
          exact b47_3_1 _ _ _ _ h _ _ _ (lv_sub hl [0, 1, 2, 3] rfl) hP hD hS
  have b19_3_1 : ∀ (S : SS) (M : MM) (x1 : Int32) (x2 : Int32), f_Md_show_19_3_1 S M x1 x2 = some q → BK p l e rm_Md_show s m args below meth c Q D vCl (AM b) (wM cA b) 6 19 [(0, .ref (b 0)), (1, .int x1), (2, .int x2), (3, .int (1 : Int32))] [] S M := by
    intro S M x1 x2 h H locs ls hl hP hD hS
    unfold f_Md_show_19_3_1 at h
    refine lv_aload_n hx hb d_Md_show_19 rfl (lv_at hl 0 rfl) ?_
    refine va_get (D := D) (ci := 7) (v := .ref (b 7)) (C := R_Md) (T := T_Md) (N := 31) hx hb hts iMd hown hK hP 0 (wM_at0 _ _ _ _) rfl 9 (by decide) k28 (fun _ h9 => h9) rfl d_Md_show_20 ?_
    refine lv_iload_n hx hb d_Md_show_23 rfl (lv_at hl 3 rfl) ?_
    refine lv_aload_n hx hb d_Md_show_24 rfl (lv_at hl 0 rfl) ?_
    refine va_get (D := D) (ci := 7) (v := .ref (b 6)) (C := R_Md) (T := T_Md) (N := 31) hx hb hts iMd hown hK hP 0 (wM_at0 _ _ _ _) rfl 8 (by decide) k25 (fun _ h9 => h9) rfl d_Md_show_25 ?_
    refine lv_iload_n hx hb d_Md_show_28 rfl (lv_at hl 3 rfl) ?_
    refine ialdK hx hb hK hP 6 0 (wM_at6 _ _ _ _) rfl 1 (by decide) (by unfold vp_in; decide) d_Md_show_29 ?_
    refine iastK (x := M 5 1) hx hb hK hP hD hS 7 0 (wM_at7 _ _ _ _) rfl 1 (by decide) (by unfold vp_in; decide) d_Md_show_30 (fun H locs hP hD hS => ?_)
    have hP := wM_set7 hP
    have hD := wM_dset7 hD
    exact b31_3_1 _ _ _ _ h _ _ _ (lv_sub hl [0, 1, 2, 3] rfl) hP hD hS
  have b2_3_1 : ∀ (S : SS) (M : MM) (x1 : Int32) (x2 : Int32), f_Md_show_2_3_1 S M x1 x2 = some q → BK p l e rm_Md_show s m args below meth c Q D vCl (AM b) (wM cA b) 6 2 [(0, .ref (b 0)), (1, .int x1), (2, .int x2), (3, .int (1 : Int32))] [] S M := by
    intro S M x1 x2 h H locs ls hl hP hD hS
    unfold f_Md_show_2_3_1 at h
    refine lv_iload_n hx hb d_Md_show_2 rfl (lv_at hl 3 rfl) ?_
    refine lv_iconst (v := (2 : Int32)) hx hb d_Md_show_3 (by decide) ?_
    refine lv_icmp_ge (tgt := 60) hx hb d_Md_show_4 (by decide) (fun h9 => absurd h9 (by decide)) (fun _ => ?_)
    refine lv_iload_n hx hb d_Md_show_7 rfl (lv_at hl 2 rfl) ?_
    refine lv_bipush (v := (16 : Int32)) hx hb d_Md_show_8 (by decide) ?_
    refine lv_icmp_eq (tgt := 19) hx hb d_Md_show_10 (by decide) (fun hc => ?_) (fun hc => ?_)
    · have h := sg_p hc h
      exact b19_3_1 _ _ _ _ h _ _ _ (lv_sub hl [0, 1, 2, 3] rfl) hP hD hS
    · have h := sg_n hc h
      refine lv_iload_n hx hb d_Md_show_13 rfl (lv_at hl 2 rfl) ?_
      refine lv_bipush (v := (24 : Int32)) hx hb d_Md_show_14 (by decide) ?_
      refine lv_icmp_ne (tgt := 31) hx hb d_Md_show_16 (by decide) (fun hc => ?_) (fun hc => ?_)
      · have h := sg_n hc h
        exact b31_3_1 _ _ _ _ h _ _ _ (lv_sub hl [0, 1, 2, 3] rfl) hP hD hS
      · have h := sg_p hc h
        exact b19_3_1 _ _ _ _ h _ _ _ (lv_sub hl [0, 1, 2, 3] rfl) hP hD hS
  have b54_3_0 : ∀ (S : SS) (M : MM) (x1 : Int32) (x2 : Int32), f_Md_show_54_3_0 S M x1 x2 = some q → BK p l e rm_Md_show s m args below meth c Q D vCl (AM b) (wM cA b) 6 54 [(0, .ref (b 0)), (1, .int x1), (2, .int x2), (3, .int (0 : Int32))] [] S M := by
    intro S M x1 x2 h H locs ls hl hP hD hS
    unfold f_Md_show_54_3_0 at h
    refine lv_iinc (k := 3) (v := (1 : Int32)) (lv' := [(3, .int (1 : Int32)), (0, .ref (b 0)), (1, .int x1), (2, .int x2)]) hx hb d_Md_show_54 hl rfl (by decide) (by decide) rfl (fun ls hl => ?_)
    refine lv_goto (tgt := 2) hx hb d_Md_show_57 (by decide) ?_
    exact b2_3_1 _ _ _ _ h _ _ _ (lv_sub hl [1, 2, 3, 0] rfl) hP hD hS
  have b47_3_0 : ∀ (S : SS) (M : MM) (x1 : Int32) (x2 : Int32), f_Md_show_47_3_0 S M x1 x2 = some q → BK p l e rm_Md_show s m args below meth c Q D vCl (AM b) (wM cA b) 6 47 [(0, .ref (b 0)), (1, .int x1), (2, .int x2), (3, .int (0 : Int32))] [] S M := by
    intro S M x1 x2 h H locs ls hl hP hD hS
    unfold f_Md_show_47_3_0 at h
    refine lv_aload_n hx hb d_Md_show_47 rfl (lv_at hl 0 rfl) ?_
    refine va_get (D := D) (ci := 7) (v := .ref (b 6)) (C := R_Md) (T := T_Md) (N := 31) hx hb hts iMd hown hK hP 0 (wM_at0 _ _ _ _) rfl 8 (by decide) k25 (fun _ h9 => h9) rfl d_Md_show_48 ?_
    refine lv_iload_n hx hb d_Md_show_51 rfl (lv_at hl 3 rfl) ?_
    refine lv_iconst (v := (0 : Int32)) hx hb d_Md_show_52 (by decide) ?_
    refine iastK (x := (0 : Int32)) hx hb hK hP hD hS 6 0 (wM_at6 _ _ _ _) rfl 0 (by decide) (by unfold vp_in; decide) d_Md_show_53 (fun H locs hP hD hS => ?_)
    have hP := wM_set6 hP
    have hD := wM_dset6 hD
    exact b54_3_0 _ _ _ _ h _ _ _ (lv_sub hl [0, 1, 2, 3] rfl) hP hD hS
  have b31_3_0 : ∀ (S : SS) (M : MM) (x1 : Int32) (x2 : Int32), f_Md_show_31_3_0 S M x1 x2 = some q → BK p l e rm_Md_show s m args below meth c Q D vCl (AM b) (wM cA b) 6 31 [(0, .ref (b 0)), (1, .int x1), (2, .int x2), (3, .int (0 : Int32))] [] S M := by
    intro S M x1 x2 h H locs ls hl hP hD hS
    unfold f_Md_show_31_3_0 at h
    refine lv_iload_n hx hb d_Md_show_31 rfl (lv_at hl 2 rfl) ?_
    refine lv_if_eq (tgt := 47) hx hb d_Md_show_32 (by decide) (fun hc => ?_) (fun hc => ?_)
    · have h := sg_p hc h
      exact b47_3_0 _ _ _ _ h _ _ _ (lv_sub hl [0, 1, 2, 3] rfl) hP hD hS
    · have h := sg_n hc h
      refine lv_iload_n hx hb d_Md_show_35 rfl (lv_at hl 2 rfl) ?_
      refine lv_bipush (v := (16 : Int32)) hx hb d_Md_show_36 (by decide) ?_
      refine lv_icmp_eq (tgt := 47) hx hb d_Md_show_38 (by decide) (fun hc => ?_) (fun hc => ?_)
      · have h := sg_p hc h
        exact b47_3_0 _ _ _ _ h _ _ _ (lv_sub hl [0, 1, 2, 3] rfl) hP hD hS
      · have h := sg_n hc h
        refine lv_iload_n hx hb d_Md_show_41 rfl (lv_at hl 2 rfl) ?_
        refine lv_bipush (v := (24 : Int32)) hx hb d_Md_show_42 (by decide) ?_
        refine lv_icmp_ne (tgt := 54) hx hb d_Md_show_44 (by decide) (fun hc => ?_) (fun hc => ?_)
        · have h := sg_n hc h
          exact b54_3_0 _ _ _ _ h _ _ _ (lv_sub hl [0, 1, 2, 3] rfl) hP hD hS
        · have h := sg_p hc h
          exact b47_3_0 _ _ _ _ h _ _ _ (lv_sub hl [0, 1, 2, 3] rfl) hP hD hS
  have b19_3_0 : ∀ (S : SS) (M : MM) (x1 : Int32) (x2 : Int32), f_Md_show_19_3_0 S M x1 x2 = some q → BK p l e rm_Md_show s m args below meth c Q D vCl (AM b) (wM cA b) 6 19 [(0, .ref (b 0)), (1, .int x1), (2, .int x2), (3, .int (0 : Int32))] [] S M := by
    intro S M x1 x2 h H locs ls hl hP hD hS
    unfold f_Md_show_19_3_0 at h
    refine lv_aload_n hx hb d_Md_show_19 rfl (lv_at hl 0 rfl) ?_
    refine va_get (D := D) (ci := 7) (v := .ref (b 7)) (C := R_Md) (T := T_Md) (N := 31) hx hb hts iMd hown hK hP 0 (wM_at0 _ _ _ _) rfl 9 (by decide) k28 (fun _ h9 => h9) rfl d_Md_show_20 ?_
    refine lv_iload_n hx hb d_Md_show_23 rfl (lv_at hl 3 rfl) ?_
    refine lv_aload_n hx hb d_Md_show_24 rfl (lv_at hl 0 rfl) ?_
    refine va_get (D := D) (ci := 7) (v := .ref (b 6)) (C := R_Md) (T := T_Md) (N := 31) hx hb hts iMd hown hK hP 0 (wM_at0 _ _ _ _) rfl 8 (by decide) k25 (fun _ h9 => h9) rfl d_Md_show_25 ?_
    refine lv_iload_n hx hb d_Md_show_28 rfl (lv_at hl 3 rfl) ?_
    refine ialdK hx hb hK hP 6 0 (wM_at6 _ _ _ _) rfl 0 (by decide) (by unfold vp_in; decide) d_Md_show_29 ?_
    refine iastK (x := M 5 0) hx hb hK hP hD hS 7 0 (wM_at7 _ _ _ _) rfl 0 (by decide) (by unfold vp_in; decide) d_Md_show_30 (fun H locs hP hD hS => ?_)
    have hP := wM_set7 hP
    have hD := wM_dset7 hD
    exact b31_3_0 _ _ _ _ h _ _ _ (lv_sub hl [0, 1, 2, 3] rfl) hP hD hS
  have b2_3_0 : ∀ (S : SS) (M : MM) (x1 : Int32) (x2 : Int32), f_Md_show_2_3_0 S M x1 x2 = some q → BK p l e rm_Md_show s m args below meth c Q D vCl (AM b) (wM cA b) 6 2 [(0, .ref (b 0)), (1, .int x1), (2, .int x2), (3, .int (0 : Int32))] [] S M := by
    intro S M x1 x2 h H locs ls hl hP hD hS
    unfold f_Md_show_2_3_0 at h
    refine lv_iload_n hx hb d_Md_show_2 rfl (lv_at hl 3 rfl) ?_
    refine lv_iconst (v := (2 : Int32)) hx hb d_Md_show_3 (by decide) ?_
    refine lv_icmp_ge (tgt := 60) hx hb d_Md_show_4 (by decide) (fun h9 => absurd h9 (by decide)) (fun _ => ?_)
    refine lv_iload_n hx hb d_Md_show_7 rfl (lv_at hl 2 rfl) ?_
    refine lv_bipush (v := (16 : Int32)) hx hb d_Md_show_8 (by decide) ?_
    refine lv_icmp_eq (tgt := 19) hx hb d_Md_show_10 (by decide) (fun hc => ?_) (fun hc => ?_)
    · have h := sg_p hc h
      exact b19_3_0 _ _ _ _ h _ _ _ (lv_sub hl [0, 1, 2, 3] rfl) hP hD hS
    · have h := sg_n hc h
      refine lv_iload_n hx hb d_Md_show_13 rfl (lv_at hl 2 rfl) ?_
      refine lv_bipush (v := (24 : Int32)) hx hb d_Md_show_14 (by decide) ?_
      refine lv_icmp_ne (tgt := 31) hx hb d_Md_show_16 (by decide) (fun hc => ?_) (fun hc => ?_)
      · have h := sg_n hc h
        exact b31_3_0 _ _ _ _ h _ _ _ (lv_sub hl [0, 1, 2, 3] rfl) hP hD hS
      · have h := sg_p hc h
        exact b19_3_0 _ _ _ _ h _ _ _ (lv_sub hl [0, 1, 2, 3] rfl) hP hD hS
  intro H locs ls hl hP hD hS
  have hl : lv_has ls 6 [(0, .ref (b 0)), (1, .int x1), (2, .int x2)] := hl
  have h := h0
  unfold f_Md_show at h
  refine lv_iconst (v := (0 : Int32)) hx hb d_Md_show_0 (by decide) ?_
  refine lv_istore_n (lv' := [(3, .int (0 : Int32)), (0, .ref (b 0)), (1, .int x1), (2, .int x2)]) hx hb d_Md_show_1 rfl hl (by decide) rfl (fun ls hl => ?_)
  exact b2_3_0 _ _ _ _ h _ _ _ (lv_sub hl [1, 2, 3, 0] rfl) hP hD hS
def f_Md_fetchList_141 (S : SS) (M : MM) (x1 : Int32) (x2 : Int32) (x3 : Int32) : Option RR := some (0, S, M)
def f_Md_fetchList_91 (S : SS) (M : MM) (x1 : Int32) (x2 : Int32) (x3 : Int32) : Option RR := f_Md_fetchList_141 S M x1 x2 x3
def f_Md_fetchList_138 (S : SS) (M : MM) (x1 : Int32) (x2 : Int32) (x3 : Int32) (y1 : Int32) : Option RR := if ¬ (y1 = 0 ∨ y1 = 1) then none else f_Md_fetchList_141 (upd S 7 y1) M x1 x2 x3
def f_Md_fetchList (S : SS) (M : MM) : Option RR := if S 4 < 0 ∨ 256 ≤ (S 4).toNatClampNeg then none else if (upd S 4 (((S 4) + (1 : Int32)) &&& (255 : Int32))) 6 = 0 then some (0, (upd (upd (upd S 4 (((S 4) + (1 : Int32)) &&& (255 : Int32))) 5 (M 0 (S 4).toNatClampNeg)) 6 (1 : Int32)), M) else if ((upd (upd (upd S 4 (((S 4) + (1 : Int32)) &&& (255 : Int32))) 6 (0 : Int32)) 7 (0 : Int32)) 5) - ((upd (upd (upd S 4 (((S 4) + (1 : Int32)) &&& (255 : Int32))) 6 (0 : Int32)) 7 (0 : Int32)) 5) / (2 : Int32) * (2 : Int32) = 0 then if (upd (upd S 4 (((S 4) + (1 : Int32)) &&& (255 : Int32))) 6 (0 : Int32)) 7 = 0 then if (((upd (upd (upd S 4 (((S 4) + (1 : Int32)) &&& (255 : Int32))) 6 (0 : Int32)) 7 (0 : Int32)) 5) >>> ((1 : Int32) &&& 31)) &&& (31 : Int32) ≤ (2 : Int32) then f_Md_fetchList_91 (upd (upd (upd S 4 (((S 4) + (1 : Int32)) &&& (255 : Int32))) 6 (0 : Int32)) 7 (0 : Int32)) M (M 0 (S 4).toNatClampNeg) ((upd (upd S 4 (((S 4) + (1 : Int32)) &&& (255 : Int32))) 6 (0 : Int32)) 7) ((((upd (upd (upd S 4 (((S 4) + (1 : Int32)) &&& (255 : Int32))) 6 (0 : Int32)) 7 (0 : Int32)) 5) >>> ((1 : Int32) &&& 31)) &&& (31 : Int32)) else (f_Md_write (upd (upd (upd S 4 (((S 4) + (1 : Int32)) &&& (255 : Int32))) 6 (0 : Int32)) 7 (0 : Int32)) M ((((upd (upd (upd S 4 (((S 4) + (1 : Int32)) &&& (255 : Int32))) 6 (0 : Int32)) 7 (0 : Int32)) 5) >>> ((1 : Int32) &&& 31)) &&& (31 : Int32)) (M 0 (S 4).toNatClampNeg)).bind (fun q3 => f_Md_fetchList_91 q3.2.1 q3.2.2 (M 0 (S 4).toNatClampNeg) ((upd (upd S 4 (((S 4) + (1 : Int32)) &&& (255 : Int32))) 6 (0 : Int32)) 7) ((((upd (upd (upd S 4 (((S 4) + (1 : Int32)) &&& (255 : Int32))) 6 (0 : Int32)) 7 (0 : Int32)) 5) >>> ((1 : Int32) &&& 31)) &&& (31 : Int32))) else f_Md_fetchList_91 (upd (upd (upd S 4 (((S 4) + (1 : Int32)) &&& (255 : Int32))) 6 (0 : Int32)) 7 (0 : Int32)) M (M 0 (S 4).toNatClampNeg) ((upd (upd S 4 (((S 4) + (1 : Int32)) &&& (255 : Int32))) 6 (0 : Int32)) 7) ((((upd (upd (upd S 4 (((S 4) + (1 : Int32)) &&& (255 : Int32))) 6 (0 : Int32)) 7 (0 : Int32)) 5) >>> ((1 : Int32) &&& 31)) &&& (31 : Int32)) else if (M 0 (S 4).toNatClampNeg) - (M 0 (S 4).toNatClampNeg) / (2 : Int32) * (2 : Int32) = 0 then f_Md_fetchList_141 (upd (upd (upd (upd (upd S 4 (((S 4) + (1 : Int32)) &&& (255 : Int32))) 6 (0 : Int32)) 7 (0 : Int32)) 3 (2 : Int32)) 8 ((((upd (upd (upd S 4 (((S 4) + (1 : Int32)) &&& (255 : Int32))) 6 (0 : Int32)) 7 (0 : Int32)) 5) >>> ((3 : Int32) &&& 31)) &&& (1023 : Int32))) M (M 0 (S 4).toNatClampNeg) ((upd (upd S 4 (((S 4) + (1 : Int32)) &&& (255 : Int32))) 6 (0 : Int32)) 7) ((((upd (upd (upd S 4 (((S 4) + (1 : Int32)) &&& (255 : Int32))) 6 (0 : Int32)) 7 (0 : Int32)) 5) >>> ((3 : Int32) &&& 31)) &&& (1023 : Int32)) else if (upd (upd (upd S 4 (((S 4) + (1 : Int32)) &&& (255 : Int32))) 6 (0 : Int32)) 7 (0 : Int32)) 0 < (((upd (upd (upd S 4 (((S 4) + (1 : Int32)) &&& (255 : Int32))) 6 (0 : Int32)) 7 (0 : Int32)) 5) >>> ((3 : Int32) &&& 31)) &&& (1023 : Int32) then f_Md_fetchList_138 (upd (upd (upd S 4 (((S 4) + (1 : Int32)) &&& (255 : Int32))) 6 (0 : Int32)) 7 (0 : Int32)) M (M 0 (S 4).toNatClampNeg) ((upd (upd S 4 (((S 4) + (1 : Int32)) &&& (255 : Int32))) 6 (0 : Int32)) 7) ((((upd (upd (upd S 4 (((S 4) + (1 : Int32)) &&& (255 : Int32))) 6 (0 : Int32)) 7 (0 : Int32)) 5) >>> ((3 : Int32) &&& 31)) &&& (1023 : Int32)) (0 : Int32) else f_Md_fetchList_138 (upd (upd (upd S 4 (((S 4) + (1 : Int32)) &&& (255 : Int32))) 6 (0 : Int32)) 7 (0 : Int32)) M (M 0 (S 4).toNatClampNeg) ((upd (upd S 4 (((S 4) + (1 : Int32)) &&& (255 : Int32))) 6 (0 : Int32)) 7) ((((upd (upd (upd S 4 (((S 4) + (1 : Int32)) &&& (255 : Int32))) 6 (0 : Int32)) 7 (0 : Int32)) 5) >>> ((3 : Int32) &&& 31)) &&& (1023 : Int32)) (1 : Int32)
set_option maxHeartbeats 4000000 in
set_option maxRecDepth 100000 in
theorem c_Md_fetchList (l : Launch) (D : va_G) (cA : ClassId) (b : Nat → Nat) (S : SS) (M : MM) (q : RR) (h0 : f_Md_fetchList S M = some q) : Cv l y_Md_fetchList w_Md_fetchList rm_Md_fetchList D vCl [(cA, .int)] (AM b) (ZM b) (wM cA b) [.ref (b 0)] S M q := by
  refine Cv.of (cc := prog_9_method_10_code) (maxL := 4) (by decide) rfl (Nat.le_of_ble_eq_true rfl) ?_
  intro p e s m args below meth c Q hx hb hml hown hts hK hZ ret
  have hown : s.vm.findClass R_Md = some m.cls := hown
  have hts : ∀ w ∈ TB, w.before args s = true := fun w h => hts w (List.mem_cons_of_mem _ h)
  have hZK := ZM_k b
  have k7 := hts _ tb_fl_Md_7
  have k51 := hts _ tb_fl_Md_51
  have k54 := hts _ tb_fl_Md_54
  have k58 := hts _ tb_fl_Md_58
  have k93 := hts _ tb_fl_Md_93
  have k103 := hts _ tb_fl_Md_103
  have k48 := hts _ tb_fl_Md_48
  have k100 := hts _ tb_fl_Md_100
  have b141 : ∀ (S : SS) (M : MM) (x1 : Int32) (x2 : Int32) (x3 : Int32), f_Md_fetchList_141 S M x1 x2 x3 = some q → BK p l e rm_Md_fetchList s m args below meth c Q D vCl (AM b) (wM cA b) 4 141 [(0, .ref (b 0)), (1, .int x1), (2, .int x2), (3, .int x3)] [] S M := by
    intro S M x1 x2 x3 h H locs ls hl hP hD hS
    unfold f_Md_fetchList_141 at h
    exact ret _ _ _ _ _ _ _ h hP hD hS d_Md_fetchList_141
  have b91 : ∀ (S : SS) (M : MM) (x1 : Int32) (x2 : Int32) (x3 : Int32), f_Md_fetchList_91 S M x1 x2 x3 = some q → BK p l e rm_Md_fetchList s m args below meth c Q D vCl (AM b) (wM cA b) 4 91 [(0, .ref (b 0)), (1, .int x1), (2, .int x2), (3, .int x3)] [] S M := by
    intro S M x1 x2 x3 h H locs ls hl hP hD hS
    unfold f_Md_fetchList_91 at h
    refine lv_goto (tgt := 141) hx hb d_Md_fetchList_91 (by decide) ?_
    exact b141 _ _ _ _ _ h _ _ _ (lv_sub hl [0, 1, 2, 3] rfl) hP hD hS
  have b138 : ∀ (S : SS) (M : MM) (x1 : Int32) (x2 : Int32) (x3 : Int32) (y1 : Int32), f_Md_fetchList_138 S M x1 x2 x3 y1 = some q → BK p l e rm_Md_fetchList s m args below meth c Q D vCl (AM b) (wM cA b) 4 138 [(0, .ref (b 0)), (1, .int x1), (2, .int x2), (3, .int x3)] [.int y1, .ref (b 0)] S M := by
    intro S M x1 x2 x3 y1 h H locs ls hl hP hD hS
    unfold f_Md_fetchList_138 at h
    obtain ⟨hg1, h⟩ := sg_g h
    refine puwM_7 (D := D) (x := y1) hx hb hts iMd hown hK hP hD hS k58 (sg_nb hg1).1 (sg_nb hg1).2 d_Md_fetchList_138 (fun H locs hP hD hS => ?_)
    exact b141 _ _ _ _ _ h _ _ _ (lv_sub hl [0, 1, 2, 3] rfl) hP hD hS
  intro H locs ls hl hP hD hS
  have hl : lv_has ls 4 [(0, .ref (b 0))] := hl
  have h := h0
  unfold f_Md_fetchList at h
  refine lv_aload_n hx hb d_Md_fetchList_0 rfl (lv_at hl 0 rfl) ?_
  refine va_get (D := D) (ci := 7) (v := .ref (b 1)) (C := R_Md) (T := T_Md) (N := 31) hx hb hts iMd hown hK hP 0 (wM_at0 _ _ _ _) rfl 0 (by decide) k7 (fun _ h9 => h9) rfl d_Md_fetchList_1 ?_
  refine lv_aload_n hx hb d_Md_fetchList_4 rfl (lv_at hl 0 rfl) ?_
  refine va_get (D := D) (ci := 7) (v := .int (S 4)) (C := R_Md) (T := T_Md) (N := 31) hx hb hts iMd hown hK hP 0 (wM_at0 _ _ _ _) rfl 11 (by decide) k51 (fun _ h9 => h9) rfl d_Md_fetchList_5 ?_
  obtain ⟨hg2, h⟩ := sg_g h
  refine va_iald hx hb hK hP 1 0 (wM_at1 _ _ _ _) rfl hg2 d_Md_fetchList_8 ?_
  refine lv_istore_n (lv' := [(1, .int (M 0 (S 4).toNatClampNeg)), (0, .ref (b 0))]) hx hb d_Md_fetchList_9 rfl hl (by decide) rfl (fun ls hl => ?_)
  refine lv_aload_n hx hb d_Md_fetchList_10 rfl (lv_at hl 1 rfl) ?_
  refine lv_aload_n hx hb d_Md_fetchList_11 rfl (lv_at hl 1 rfl) ?_
  refine va_get (D := D) (ci := 7) (v := .int (S 4)) (C := R_Md) (T := T_Md) (N := 31) hx hb hts iMd hown hK hP 0 (wM_at0 _ _ _ _) rfl 11 (by decide) k51 (fun _ h9 => h9) rfl d_Md_fetchList_12 ?_
  refine lv_iconst (v := (1 : Int32)) hx hb d_Md_fetchList_15 (by decide) ?_
  refine lv_iadd hx hb d_Md_fetchList_16 ?_
  refine lv_sipush (v := (255 : Int32)) hx hb d_Md_fetchList_17 (by decide) ?_
  refine lv_iand hx hb d_Md_fetchList_20 ?_
  refine puwM_4 (D := D) (x := ((S 4) + (1 : Int32)) &&& (255 : Int32)) hx hb hts iMd hown hK hP hD hS k51 rfl rfl d_Md_fetchList_21 (fun H locs hP hD hS => ?_)
  refine lv_aload_n hx hb d_Md_fetchList_24 rfl (lv_at hl 1 rfl) ?_
  refine va_get (D := D) (ci := 7) (v := .int ((upd S 4 (((S 4) + (1 : Int32)) &&& (255 : Int32))) 6)) (C := R_Md) (T := T_Md) (N := 31) hx hb hts iMd hown hK hP 0 (wM_at0 _ _ _ _) rfl 13 (by decide) k54 (fun _ h9 => h9) rfl d_Md_fetchList_25 ?_
  refine lv_if_ne (tgt := 42) hx hb d_Md_fetchList_28 (by decide) (fun hc => ?_) (fun hc => ?_)
  · have h := sg_n hc h
    refine lv_aload_n hx hb d_Md_fetchList_42 rfl (lv_at hl 1 rfl) ?_
    refine lv_iconst (v := (0 : Int32)) hx hb d_Md_fetchList_43 (by decide) ?_
    refine puwM_6 (D := D) (x := (0 : Int32)) hx hb hts iMd hown hK hP hD hS k54 (by decide +kernel) (by decide +kernel) d_Md_fetchList_44 (fun H locs hP hD hS => ?_)
    refine lv_aload_n hx hb d_Md_fetchList_47 rfl (lv_at hl 1 rfl) ?_
    refine va_get (D := D) (ci := 7) (v := .int ((upd (upd S 4 (((S 4) + (1 : Int32)) &&& (255 : Int32))) 6 (0 : Int32)) 7)) (C := R_Md) (T := T_Md) (N := 31) hx hb hts iMd hown hK hP 0 (wM_at0 _ _ _ _) rfl 14 (by decide) k58 (fun _ h9 => h9) rfl d_Md_fetchList_48 ?_
    refine lv_istore_n (lv' := [(2, .int ((upd (upd S 4 (((S 4) + (1 : Int32)) &&& (255 : Int32))) 6 (0 : Int32)) 7)), (1, .int (M 0 (S 4).toNatClampNeg)), (0, .ref (b 0))]) hx hb d_Md_fetchList_51 rfl hl (by decide) rfl (fun ls hl => ?_)
    refine lv_aload_n hx hb d_Md_fetchList_52 rfl (lv_at hl 2 rfl) ?_
    refine lv_iconst (v := (0 : Int32)) hx hb d_Md_fetchList_53 (by decide) ?_
    refine puwM_7 (D := D) (x := (0 : Int32)) hx hb hts iMd hown hK hP hD hS k58 (by decide +kernel) (by decide +kernel) d_Md_fetchList_54 (fun H locs hP hD hS => ?_)
    refine lv_aload_n hx hb d_Md_fetchList_57 rfl (lv_at hl 2 rfl) ?_
    refine va_get (D := D) (ci := 7) (v := .int ((upd (upd (upd S 4 (((S 4) + (1 : Int32)) &&& (255 : Int32))) 6 (0 : Int32)) 7 (0 : Int32)) 5)) (C := R_Md) (T := T_Md) (N := 31) hx hb hts iMd hown hK hP 0 (wM_at0 _ _ _ _) rfl 12 (by decide) k93 (fun _ h9 => h9) rfl d_Md_fetchList_58 ?_
    refine lv_iconst (v := (2 : Int32)) hx hb d_Md_fetchList_61 (by decide) ?_
    refine lv_irem hx hb d_Md_fetchList_62 (by decide) ?_
    refine lv_if_ne (tgt := 94) hx hb d_Md_fetchList_63 (by decide) (fun hc => ?_) (fun hc => ?_)
    · have h := sg_n hc h
      refine lv_aload_n hx hb d_Md_fetchList_94 rfl (lv_at hl 2 rfl) ?_
      refine va_get (D := D) (ci := 7) (v := .int ((upd (upd (upd S 4 (((S 4) + (1 : Int32)) &&& (255 : Int32))) 6 (0 : Int32)) 7 (0 : Int32)) 5)) (C := R_Md) (T := T_Md) (N := 31) hx hb hts iMd hown hK hP 0 (wM_at0 _ _ _ _) rfl 12 (by decide) k93 (fun _ h9 => h9) rfl d_Md_fetchList_95 ?_
      refine lv_iconst (v := (3 : Int32)) hx hb d_Md_fetchList_98 (by decide) ?_
      refine lv_ishr hx hb d_Md_fetchList_99 ?_
      refine lv_sipush (v := (1023 : Int32)) hx hb d_Md_fetchList_100 (by decide) ?_
      refine lv_iand hx hb d_Md_fetchList_103 ?_
      refine lv_istore_n (lv' := [(3, .int ((((upd (upd (upd S 4 (((S 4) + (1 : Int32)) &&& (255 : Int32))) 6 (0 : Int32)) 7 (0 : Int32)) 5) >>> ((3 : Int32) &&& 31)) &&& (1023 : Int32))), (2, .int ((upd (upd S 4 (((S 4) + (1 : Int32)) &&& (255 : Int32))) 6 (0 : Int32)) 7)), (1, .int (M 0 (S 4).toNatClampNeg)), (0, .ref (b 0))]) hx hb d_Md_fetchList_104 rfl hl (by decide) rfl (fun ls hl => ?_)
      refine lv_iload_n hx hb d_Md_fetchList_105 rfl (lv_at hl 2 rfl) ?_
      refine lv_iconst (v := (2 : Int32)) hx hb d_Md_fetchList_106 (by decide) ?_
      refine lv_irem hx hb d_Md_fetchList_107 (by decide) ?_
      refine lv_if_ne (tgt := 124) hx hb d_Md_fetchList_108 (by decide) (fun hc => ?_) (fun hc => ?_)
      · have h := sg_n hc h
        refine lv_aload_n hx hb d_Md_fetchList_124 rfl (lv_at hl 3 rfl) ?_
        refine lv_aload_n hx hb d_Md_fetchList_125 rfl (lv_at hl 3 rfl) ?_
        refine va_get (D := D) (ci := 7) (v := .int ((upd (upd (upd S 4 (((S 4) + (1 : Int32)) &&& (255 : Int32))) 6 (0 : Int32)) 7 (0 : Int32)) 0)) (C := R_Md) (T := T_Md) (N := 31) hx hb hts iMd hown hK hP 0 (wM_at0 _ _ _ _) rfl 3 (by decide) k103 (fun _ h9 => h9) rfl d_Md_fetchList_126 ?_
        refine lv_iload_n hx hb d_Md_fetchList_129 rfl (lv_at hl 0 rfl) ?_
        refine lv_icmp_lt (tgt := 137) hx hb d_Md_fetchList_130 (by decide) (fun hc => ?_) (fun hc => ?_)
        · have h := sg_p hc h
          refine lv_iconst (v := (0 : Int32)) hx hb d_Md_fetchList_137 (by decide) ?_
          exact b138 _ _ _ _ _ _ h _ _ _ (lv_sub hl [3, 2, 1, 0] rfl) hP hD hS
        · have h := sg_n hc h
          refine lv_iconst (v := (1 : Int32)) hx hb d_Md_fetchList_133 (by decide) ?_
          refine lv_goto (tgt := 138) hx hb d_Md_fetchList_134 (by decide) ?_
          exact b138 _ _ _ _ _ _ h _ _ _ (lv_sub hl [3, 2, 1, 0] rfl) hP hD hS
      · have h := sg_p hc h
        refine lv_aload_n hx hb d_Md_fetchList_111 rfl (lv_at hl 3 rfl) ?_
        refine lv_iconst (v := (2 : Int32)) hx hb d_Md_fetchList_112 (by decide) ?_
        refine puwM_3 (D := D) (x := (2 : Int32)) hx hb hts iMd hown hK hP hD hS k48 rfl rfl d_Md_fetchList_113 (fun H locs hP hD hS => ?_)
        refine lv_aload_n hx hb d_Md_fetchList_116 rfl (lv_at hl 3 rfl) ?_
        refine lv_iload_n hx hb d_Md_fetchList_117 rfl (lv_at hl 0 rfl) ?_
        refine puwM_8 (D := D) (x := (((upd (upd (upd S 4 (((S 4) + (1 : Int32)) &&& (255 : Int32))) 6 (0 : Int32)) 7 (0 : Int32)) 5) >>> ((3 : Int32) &&& 31)) &&& (1023 : Int32)) hx hb hts iMd hown hK hP hD hS k100 rfl rfl d_Md_fetchList_118 (fun H locs hP hD hS => ?_)
        refine lv_goto (tgt := 141) hx hb d_Md_fetchList_121 (by decide) ?_
        exact b141 _ _ _ _ _ h _ _ _ (lv_sub hl [3, 2, 1, 0] rfl) hP hD hS
    · have h := sg_p hc h
      refine lv_aload_n hx hb d_Md_fetchList_66 rfl (lv_at hl 2 rfl) ?_
      refine va_get (D := D) (ci := 7) (v := .int ((upd (upd (upd S 4 (((S 4) + (1 : Int32)) &&& (255 : Int32))) 6 (0 : Int32)) 7 (0 : Int32)) 5)) (C := R_Md) (T := T_Md) (N := 31) hx hb hts iMd hown hK hP 0 (wM_at0 _ _ _ _) rfl 12 (by decide) k93 (fun _ h9 => h9) rfl d_Md_fetchList_67 ?_
      refine lv_iconst (v := (1 : Int32)) hx hb d_Md_fetchList_70 (by decide) ?_
      refine lv_ishr hx hb d_Md_fetchList_71 ?_
      refine lv_bipush (v := (31 : Int32)) hx hb d_Md_fetchList_72 (by decide) ?_
      refine lv_iand hx hb d_Md_fetchList_74 ?_
      refine lv_istore_n (lv' := [(3, .int ((((upd (upd (upd S 4 (((S 4) + (1 : Int32)) &&& (255 : Int32))) 6 (0 : Int32)) 7 (0 : Int32)) 5) >>> ((1 : Int32) &&& 31)) &&& (31 : Int32))), (2, .int ((upd (upd S 4 (((S 4) + (1 : Int32)) &&& (255 : Int32))) 6 (0 : Int32)) 7)), (1, .int (M 0 (S 4).toNatClampNeg)), (0, .ref (b 0))]) hx hb d_Md_fetchList_75 rfl hl (by decide) rfl (fun ls hl => ?_)
      refine lv_iload_n hx hb d_Md_fetchList_76 rfl (lv_at hl 1 rfl) ?_
      refine lv_if_ne (tgt := 91) hx hb d_Md_fetchList_77 (by decide) (fun hc => ?_) (fun hc => ?_)
      · have h := sg_n hc h
        exact b91 _ _ _ _ _ h _ _ _ (lv_sub hl [3, 2, 1, 0] rfl) hP hD hS
      · have h := sg_p hc h
        refine lv_iload_n hx hb d_Md_fetchList_80 rfl (lv_at hl 0 rfl) ?_
        refine lv_iconst (v := (2 : Int32)) hx hb d_Md_fetchList_81 (by decide) ?_
        refine lv_icmp_le (tgt := 91) hx hb d_Md_fetchList_82 (by decide) (fun hc => ?_) (fun hc => ?_)
        · have h := sg_p hc h
          exact b91 _ _ _ _ _ h _ _ _ (lv_sub hl [3, 2, 1, 0] rfl) hP hD hS
        · have h := sg_n hc h
          refine lv_aload_n hx hb d_Md_fetchList_85 rfl (lv_at hl 3 rfl) ?_
          refine lv_iload_n hx hb d_Md_fetchList_86 rfl (lv_at hl 0 rfl) ?_
          refine lv_iload_n hx hb d_Md_fetchList_87 rfl (lv_at hl 2 rfl) ?_
          obtain ⟨⟨r3, S3, M3⟩, hc3, h⟩ := sg_b h
          dsimp only at h
          refine cvv (As := [.int ((((upd (upd (upd S 4 (((S 4) + (1 : Int32)) &&& (255 : Int32))) 6 (0 : Int32)) 7 (0 : Int32)) 5) >>> ((1 : Int32) &&& 31)) &&& (31 : Int32)), .int (M 0 (S 4).toNatClampNeg)]) (rest := []) ⟨hx, hb, hml, hown, hts⟩ (c_Md_write l D cA b (upd (upd (upd S 4 (((S 4) + (1 : Int32)) &&& (255 : Int32))) 6 (0 : Int32)) 7 (0 : Int32)) M ((((upd (upd (upd S 4 (((S 4) + (1 : Int32)) &&& (255 : Int32))) 6 (0 : Int32)) 7 (0 : Int32)) 5) >>> ((1 : Int32) &&& 31)) &&& (31 : Int32)) (M 0 (S 4).toNatClampNeg) _ hc3) ⟨callB_of 2 hts (tb_gi tb_cd_Md_write) rfl rfl rfl (hts _ tb_in_Md) (hts _ tb_ml_Md_96) yd_Md_write ⟨Nat.le_of_ble_eq_true rfl, Nat.le_of_ble_eq_true rfl⟩, hts _ tb_im_Md_write, hts _ tb_se_Md_write⟩ hZK hK hZ hP hD hS 0 (wM_at0 _ _ _ _) rfl rfl hl.1 rfl (Nat.le_of_ble_eq_true rfl) d_Md_fetchList_88 (fun H locs hP hD hS => ?_)
          exact b91 _ _ _ _ _ h _ _ _ (lv_sub hl [3, 2, 1, 0] rfl) hP hD hS
  · have h := sg_p hc h
    refine lv_aload_n hx hb d_Md_fetchList_31 rfl (lv_at hl 1 rfl) ?_
    refine lv_iload_n hx hb d_Md_fetchList_32 rfl (lv_at hl 0 rfl) ?_
    refine puwM_5 (D := D) (x := M 0 (S 4).toNatClampNeg) hx hb hts iMd hown hK hP hD hS k93 rfl rfl d_Md_fetchList_33 (fun H locs hP hD hS => ?_)
    refine lv_aload_n hx hb d_Md_fetchList_36 rfl (lv_at hl 1 rfl) ?_
    refine lv_iconst (v := (1 : Int32)) hx hb d_Md_fetchList_37 (by decide) ?_
    refine puwM_6 (D := D) (x := (1 : Int32)) hx hb hts iMd hown hK hP hD hS k54 (by decide +kernel) (by decide +kernel) d_Md_fetchList_38 (fun H locs hP hD hS => ?_)
    exact ret _ _ _ _ _ _ _ h hP hD hS d_Md_fetchList_41
