theorem dX0_init_0 : decode cX0_init 0 = .ok (.aload_n 0, 1) := by decide +kernel
theorem dX0_init_1 : decode cX0_init 1 = .ok (.invokespecial 3, 3) := by decide +kernel
theorem dX0_init_4 : decode cX0_init 4 = .ok (.aload_n 0, 1) := by decide +kernel
theorem dX0_init_5 : decode cX0_init 5 = .ok (.aload_n 1, 1) := by decide +kernel
theorem dX0_init_6 : decode cX0_init 6 = .ok (.putfield 9, 3) := by decide +kernel
theorem dX0_init_9 : decode cX0_init 9 = .ok (.aload_n 0, 1) := by decide +kernel
theorem dX0_init_10 : decode cX0_init 10 = .ok (.aload_n 2, 1) := by decide +kernel
theorem dX0_init_11 : decode cX0_init 11 = .ok (.putfield 15, 3) := by decide +kernel
theorem dX0_init_14 : decode cX0_init 14 = .ok (.return_, 1) := by decide +kernel
theorem dX0_carryOutAll_0 : decode cX0_carryOutAll 0 = .ok (.iconst 0, 1) := by decide +kernel
theorem dX0_carryOutAll_1 : decode cX0_carryOutAll 1 = .ok (.istore_n 2, 1) := by decide +kernel
theorem dX0_carryOutAll_2 : decode cX0_carryOutAll 2 = .ok (.iload_n 2, 1) := by decide +kernel
theorem dX0_carryOutAll_3 : decode cX0_carryOutAll 3 = .ok (.aload_n 1, 1) := by decide +kernel
theorem dX0_carryOutAll_4 : decode cX0_carryOutAll 4 = .ok (.getfield 19, 3) := by decide +kernel
theorem dX0_carryOutAll_7 : decode cX0_carryOutAll 7 = .ok (.if_icmp .ge 84, 3) := by decide +kernel
theorem dX0_carryOutAll_10 : decode cX0_carryOutAll 10 = .ok (.aload_n 1, 1) := by decide +kernel
theorem dX0_carryOutAll_11 : decode cX0_carryOutAll 11 = .ok (.getfield 25, 3) := by decide +kernel
theorem dX0_carryOutAll_14 : decode cX0_carryOutAll 14 = .ok (.iload_n 2, 1) := by decide +kernel
theorem dX0_carryOutAll_15 : decode cX0_carryOutAll 15 = .ok (.iaload, 1) := by decide +kernel
theorem dX0_carryOutAll_16 : decode cX0_carryOutAll 16 = .ok (.istore_n 3, 1) := by decide +kernel
theorem dX0_carryOutAll_17 : decode cX0_carryOutAll 17 = .ok (.aload_n 1, 1) := by decide +kernel
theorem dX0_carryOutAll_18 : decode cX0_carryOutAll 18 = .ok (.getfield 29, 3) := by decide +kernel
theorem dX0_carryOutAll_21 : decode cX0_carryOutAll 21 = .ok (.iload_n 2, 1) := by decide +kernel
theorem dX0_carryOutAll_22 : decode cX0_carryOutAll 22 = .ok (.iaload, 1) := by decide +kernel
theorem dX0_carryOutAll_23 : decode cX0_carryOutAll 23 = .ok (.istore 4, 2) := by decide +kernel
theorem dX0_carryOutAll_25 : decode cX0_carryOutAll 25 = .ok (.aload_n 1, 1) := by decide +kernel
theorem dX0_carryOutAll_26 : decode cX0_carryOutAll 26 = .ok (.getfield 32, 3) := by decide +kernel
theorem dX0_carryOutAll_29 : decode cX0_carryOutAll 29 = .ok (.iload_n 2, 1) := by decide +kernel
theorem dX0_carryOutAll_30 : decode cX0_carryOutAll 30 = .ok (.iaload, 1) := by decide +kernel
theorem dX0_carryOutAll_31 : decode cX0_carryOutAll 31 = .ok (.istore 5, 2) := by decide +kernel
theorem dX0_carryOutAll_33 : decode cX0_carryOutAll 33 = .ok (.aload_n 1, 1) := by decide +kernel
theorem dX0_carryOutAll_34 : decode cX0_carryOutAll 34 = .ok (.getfield 35, 3) := by decide +kernel
theorem dX0_carryOutAll_37 : decode cX0_carryOutAll 37 = .ok (.iload_n 2, 1) := by decide +kernel
theorem dX0_carryOutAll_38 : decode cX0_carryOutAll 38 = .ok (.iaload, 1) := by decide +kernel
theorem dX0_carryOutAll_39 : decode cX0_carryOutAll 39 = .ok (.istore 6, 2) := by decide +kernel
theorem dX0_carryOutAll_41 : decode cX0_carryOutAll 41 = .ok (.aload_n 0, 1) := by decide +kernel
theorem dX0_carryOutAll_42 : decode cX0_carryOutAll 42 = .ok (.iload_n 3, 1) := by decide +kernel
theorem dX0_carryOutAll_43 : decode cX0_carryOutAll 43 = .ok (.iload 4, 2) := by decide +kernel
theorem dX0_carryOutAll_45 : decode cX0_carryOutAll 45 = .ok (.iload 5, 2) := by decide +kernel
theorem dX0_carryOutAll_47 : decode cX0_carryOutAll 47 = .ok (.iload 6, 2) := by decide +kernel
theorem dX0_carryOutAll_49 : decode cX0_carryOutAll 49 = .ok (.invokevirtual 38, 3) := by decide +kernel
theorem dX0_carryOutAll_52 : decode cX0_carryOutAll 52 = .ok (.ifCond .eq 5, 3) := by decide +kernel
theorem dX0_carryOutAll_55 : decode cX0_carryOutAll 55 = .ok (.iconst 2, 1) := by decide +kernel
theorem dX0_carryOutAll_56 : decode cX0_carryOutAll 56 = .ok (.ireturn, 1) := by decide +kernel
theorem dX0_carryOutAll_57 : decode cX0_carryOutAll 57 = .ok (.aload_n 0, 1) := by decide +kernel
theorem dX0_carryOutAll_58 : decode cX0_carryOutAll 58 = .ok (.iload_n 3, 1) := by decide +kernel
theorem dX0_carryOutAll_59 : decode cX0_carryOutAll 59 = .ok (.iload 4, 2) := by decide +kernel
theorem dX0_carryOutAll_61 : decode cX0_carryOutAll 61 = .ok (.iload 5, 2) := by decide +kernel
theorem dX0_carryOutAll_63 : decode cX0_carryOutAll 63 = .ok (.iload 6, 2) := by decide +kernel
theorem dX0_carryOutAll_65 : decode cX0_carryOutAll 65 = .ok (.invokevirtual 42, 3) := by decide +kernel
theorem dX0_carryOutAll_68 : decode cX0_carryOutAll 68 = .ok (.ifCond .eq 5, 3) := by decide +kernel
theorem dX0_carryOutAll_71 : decode cX0_carryOutAll 71 = .ok (.iconst 1, 1) := by decide +kernel
theorem dX0_carryOutAll_72 : decode cX0_carryOutAll 72 = .ok (.ireturn, 1) := by decide +kernel
theorem dX0_carryOutAll_73 : decode cX0_carryOutAll 73 = .ok (.aload_n 0, 1) := by decide +kernel
theorem dX0_carryOutAll_74 : decode cX0_carryOutAll 74 = .ok (.iload_n 3, 1) := by decide +kernel
theorem dX0_carryOutAll_75 : decode cX0_carryOutAll 75 = .ok (.iload 4, 2) := by decide +kernel
theorem dX0_carryOutAll_77 : decode cX0_carryOutAll 77 = .ok (.iload 5, 2) := by decide +kernel
theorem dX0_carryOutAll_79 : decode cX0_carryOutAll 79 = .ok (.iload 6, 2) := by decide +kernel
theorem dX0_carryOutAll_81 : decode cX0_carryOutAll 81 = .ok (.invokevirtual 45, 3) := by decide +kernel
theorem dX0_carryOutAll_84 : decode cX0_carryOutAll 84 = .ok (.pop, 1) := by decide +kernel
theorem dX0_carryOutAll_85 : decode cX0_carryOutAll 85 = .ok (.iinc 2 1, 3) := by decide +kernel
theorem dX0_carryOutAll_88 : decode cX0_carryOutAll 88 = .ok (.goto (-86), 3) := by decide +kernel
theorem dX0_carryOutAll_91 : decode cX0_carryOutAll 91 = .ok (.iconst 0, 1) := by decide +kernel
theorem dX0_carryOutAll_92 : decode cX0_carryOutAll 92 = .ok (.ireturn, 1) := by decide +kernel
theorem dX0_isWrong_0 : decode cX0_isWrong 0 = .ok (.iload_n 1, 1) := by decide +kernel
theorem dX0_isWrong_1 : decode cX0_isWrong 1 = .ok (.tableswitch 211 97 116 #[95, 211, 211, 158, 211, 211, 211, 192, 131, 211, 211, 211, 211, 211, 211, 211, 124, 175, 175, 124], 95) := by decide +kernel
theorem dX0_isWrong_96 : decode cX0_isWrong 96 = .ok (.aload_n 0, 1) := by decide +kernel
theorem dX0_isWrong_97 : decode cX0_isWrong 97 = .ok (.iload_n 2, 1) := by decide +kernel
theorem dX0_isWrong_98 : decode cX0_isWrong 98 = .ok (.iload_n 3, 1) := by decide +kernel
theorem dX0_isWrong_99 : decode cX0_isWrong 99 = .ok (.invokevirtual 49, 3) := by decide +kernel
theorem dX0_isWrong_102 : decode cX0_isWrong 102 = .ok (.ifCond .ne 17, 3) := by decide +kernel
theorem dX0_isWrong_105 : decode cX0_isWrong 105 = .ok (.iload 4, 2) := by decide +kernel
theorem dX0_isWrong_107 : decode cX0_isWrong 107 = .ok (.bipush (-50), 2) := by decide +kernel
theorem dX0_isWrong_109 : decode cX0_isWrong 109 = .ok (.if_icmp .lt 10, 3) := by decide +kernel
theorem dX0_isWrong_112 : decode cX0_isWrong 112 = .ok (.iload 4, 2) := by decide +kernel
theorem dX0_isWrong_114 : decode cX0_isWrong 114 = .ok (.bipush 50, 2) := by decide +kernel
theorem dX0_isWrong_116 : decode cX0_isWrong 116 = .ok (.if_icmp .le 7, 3) := by decide +kernel
theorem dX0_isWrong_119 : decode cX0_isWrong 119 = .ok (.iconst 1, 1) := by decide +kernel
theorem dX0_isWrong_120 : decode cX0_isWrong 120 = .ok (.goto 4, 3) := by decide +kernel
theorem dX0_isWrong_123 : decode cX0_isWrong 123 = .ok (.iconst 0, 1) := by decide +kernel
theorem dX0_isWrong_124 : decode cX0_isWrong 124 = .ok (.ireturn, 1) := by decide +kernel
theorem dX0_isWrong_125 : decode cX0_isWrong 125 = .ok (.aload_n 0, 1) := by decide +kernel
theorem dX0_isWrong_126 : decode cX0_isWrong 126 = .ok (.iload_n 2, 1) := by decide +kernel
theorem dX0_isWrong_127 : decode cX0_isWrong 127 = .ok (.iload_n 3, 1) := by decide +kernel
theorem dX0_isWrong_128 : decode cX0_isWrong 128 = .ok (.invokevirtual 49, 3) := by decide +kernel
theorem dX0_isWrong_131 : decode cX0_isWrong 131 = .ok (.ireturn, 1) := by decide +kernel
theorem dX0_isWrong_132 : decode cX0_isWrong 132 = .ok (.aload_n 0, 1) := by decide +kernel
theorem dX0_isWrong_133 : decode cX0_isWrong 133 = .ok (.iload_n 2, 1) := by decide +kernel
theorem dX0_isWrong_134 : decode cX0_isWrong 134 = .ok (.iload_n 3, 1) := by decide +kernel
theorem dX0_isWrong_135 : decode cX0_isWrong 135 = .ok (.invokevirtual 49, 3) := by decide +kernel
theorem dX0_isWrong_138 : decode cX0_isWrong 138 = .ok (.ifCond .ne 15, 3) := by decide +kernel
theorem dX0_isWrong_141 : decode cX0_isWrong 141 = .ok (.aload_n 0, 1) := by decide +kernel
theorem dX0_isWrong_142 : decode cX0_isWrong 142 = .ok (.getfield 9, 3) := by decide +kernel
theorem dX0_isWrong_145 : decode cX0_isWrong 145 = .ok (.iload 4, 2) := by decide +kernel
theorem dX0_isWrong_147 : decode cX0_isWrong 147 = .ok (.invokevirtual 53, 3) := by decide +kernel
theorem dX0_isWrong_150 : decode cX0_isWrong 150 = .ok (.ifCond .ne 7, 3) := by decide +kernel
theorem dX0_isWrong_153 : decode cX0_isWrong 153 = .ok (.iconst 1, 1) := by decide +kernel
theorem dX0_isWrong_154 : decode cX0_isWrong 154 = .ok (.goto 4, 3) := by decide +kernel
theorem dX0_isWrong_157 : decode cX0_isWrong 157 = .ok (.iconst 0, 1) := by decide +kernel
theorem dX0_isWrong_158 : decode cX0_isWrong 158 = .ok (.ireturn, 1) := by decide +kernel
theorem dX0_isWrong_159 : decode cX0_isWrong 159 = .ok (.aload_n 0, 1) := by decide +kernel
theorem dX0_isWrong_160 : decode cX0_isWrong 160 = .ok (.getfield 9, 3) := by decide +kernel
theorem dX0_isWrong_163 : decode cX0_isWrong 163 = .ok (.iload_n 2, 1) := by decide +kernel
theorem dX0_isWrong_164 : decode cX0_isWrong 164 = .ok (.invokevirtual 59, 3) := by decide +kernel
theorem dX0_isWrong_167 : decode cX0_isWrong 167 = .ok (.ifCond .ne 7, 3) := by decide +kernel
theorem dX0_isWrong_170 : decode cX0_isWrong 170 = .ok (.iconst 1, 1) := by decide +kernel
theorem dX0_isWrong_171 : decode cX0_isWrong 171 = .ok (.goto 4, 3) := by decide +kernel
theorem dX0_isWrong_174 : decode cX0_isWrong 174 = .ok (.iconst 0, 1) := by decide +kernel
theorem dX0_isWrong_175 : decode cX0_isWrong 175 = .ok (.ireturn, 1) := by decide +kernel
theorem dX0_isWrong_176 : decode cX0_isWrong 176 = .ok (.aload_n 0, 1) := by decide +kernel
theorem dX0_isWrong_177 : decode cX0_isWrong 177 = .ok (.getfield 9, 3) := by decide +kernel
theorem dX0_isWrong_180 : decode cX0_isWrong 180 = .ok (.iload_n 3, 1) := by decide +kernel
theorem dX0_isWrong_181 : decode cX0_isWrong 181 = .ok (.invokevirtual 53, 3) := by decide +kernel
theorem dX0_isWrong_184 : decode cX0_isWrong 184 = .ok (.ifCond .ne 7, 3) := by decide +kernel
theorem dX0_isWrong_187 : decode cX0_isWrong 187 = .ok (.iconst 1, 1) := by decide +kernel
theorem dX0_isWrong_188 : decode cX0_isWrong 188 = .ok (.goto 4, 3) := by decide +kernel
theorem dX0_isWrong_191 : decode cX0_isWrong 191 = .ok (.iconst 0, 1) := by decide +kernel
theorem dX0_isWrong_192 : decode cX0_isWrong 192 = .ok (.ireturn, 1) := by decide +kernel
theorem dX0_isWrong_193 : decode cX0_isWrong 193 = .ok (.iload 4, 2) := by decide +kernel
theorem dX0_isWrong_195 : decode cX0_isWrong 195 = .ok (.iconst 1, 1) := by decide +kernel
theorem dX0_isWrong_196 : decode cX0_isWrong 196 = .ok (.if_icmp .lt 10, 3) := by decide +kernel
theorem dX0_isWrong_199 : decode cX0_isWrong 199 = .ok (.iload 4, 2) := by decide +kernel
theorem dX0_isWrong_201 : decode cX0_isWrong 201 = .ok (.bipush 24, 2) := by decide +kernel
theorem dX0_isWrong_203 : decode cX0_isWrong 203 = .ok (.if_icmp .le 7, 3) := by decide +kernel
theorem dX0_isWrong_206 : decode cX0_isWrong 206 = .ok (.iconst 1, 1) := by decide +kernel
theorem dX0_isWrong_207 : decode cX0_isWrong 207 = .ok (.goto 4, 3) := by decide +kernel
theorem dX0_isWrong_210 : decode cX0_isWrong 210 = .ok (.iconst 0, 1) := by decide +kernel
theorem dX0_isWrong_211 : decode cX0_isWrong 211 = .ok (.ireturn, 1) := by decide +kernel
theorem dX0_isWrong_212 : decode cX0_isWrong 212 = .ok (.iconst 0, 1) := by decide +kernel
theorem dX0_isWrong_213 : decode cX0_isWrong 213 = .ok (.ireturn, 1) := by decide +kernel
theorem dX0_lacks_0 : decode cX0_lacks 0 = .ok (.aload_n 0, 1) := by decide +kernel
theorem dX0_lacks_1 : decode cX0_lacks 1 = .ok (.getfield 9, 3) := by decide +kernel
theorem dX0_lacks_4 : decode cX0_lacks 4 = .ok (.iload_n 1, 1) := by decide +kernel
theorem dX0_lacks_5 : decode cX0_lacks 5 = .ok (.invokevirtual 59, 3) := by decide +kernel
theorem dX0_lacks_8 : decode cX0_lacks 8 = .ok (.ifCond .eq 14, 3) := by decide +kernel
theorem dX0_lacks_11 : decode cX0_lacks 11 = .ok (.aload_n 0, 1) := by decide +kernel
theorem dX0_lacks_12 : decode cX0_lacks 12 = .ok (.getfield 9, 3) := by decide +kernel
theorem dX0_lacks_15 : decode cX0_lacks 15 = .ok (.iload_n 2, 1) := by decide +kernel
theorem dX0_lacks_16 : decode cX0_lacks 16 = .ok (.invokevirtual 53, 3) := by decide +kernel
theorem dX0_lacks_19 : decode cX0_lacks 19 = .ok (.ifCond .ne 7, 3) := by decide +kernel
theorem dX0_lacks_22 : decode cX0_lacks 22 = .ok (.iconst 1, 1) := by decide +kernel
theorem dX0_lacks_23 : decode cX0_lacks 23 = .ok (.goto 4, 3) := by decide +kernel
theorem dX0_lacks_26 : decode cX0_lacks 26 = .ok (.iconst 0, 1) := by decide +kernel
theorem dX0_lacks_27 : decode cX0_lacks 27 = .ok (.ireturn, 1) := by decide +kernel
theorem dX0_isRefused_0 : decode cX0_isRefused 0 = .ok (.iload_n 1, 1) := by decide +kernel
theorem dX0_isRefused_1 : decode cX0_isRefused 1 = .ok (.tableswitch 202 97 119 #[115, 202, 202, 137, 202, 156, 202, 202, 190, 202, 202, 202, 202, 107, 202, 202, 127, 181, 172, 146, 202, 202, 164], 107) := by decide +kernel
theorem dX0_isRefused_108 : decode cX0_isRefused 108 = .ok (.aload_n 0, 1) := by decide +kernel
theorem dX0_isRefused_109 : decode cX0_isRefused 109 = .ok (.getfield 15, 3) := by decide +kernel
theorem dX0_isRefused_112 : decode cX0_isRefused 112 = .ok (.invokevirtual 62, 3) := by decide +kernel
theorem dX0_isRefused_115 : decode cX0_isRefused 115 = .ok (.ireturn, 1) := by decide +kernel
theorem dX0_isRefused_116 : decode cX0_isRefused 116 = .ok (.aload_n 0, 1) := by decide +kernel
theorem dX0_isRefused_117 : decode cX0_isRefused 117 = .ok (.getfield 15, 3) := by decide +kernel
theorem dX0_isRefused_120 : decode cX0_isRefused 120 = .ok (.iload_n 2, 1) := by decide +kernel
theorem dX0_isRefused_121 : decode cX0_isRefused 121 = .ok (.iload_n 3, 1) := by decide +kernel
theorem dX0_isRefused_122 : decode cX0_isRefused 122 = .ok (.iload 4, 2) := by decide +kernel
theorem dX0_isRefused_124 : decode cX0_isRefused 124 = .ok (.invokevirtual 68, 3) := by decide +kernel
theorem dX0_isRefused_127 : decode cX0_isRefused 127 = .ok (.ireturn, 1) := by decide +kernel
theorem dX0_isRefused_128 : decode cX0_isRefused 128 = .ok (.aload_n 0, 1) := by decide +kernel
theorem dX0_isRefused_129 : decode cX0_isRefused 129 = .ok (.getfield 15, 3) := by decide +kernel
theorem dX0_isRefused_132 : decode cX0_isRefused 132 = .ok (.iload_n 2, 1) := by decide +kernel
theorem dX0_isRefused_133 : decode cX0_isRefused 133 = .ok (.iload_n 3, 1) := by decide +kernel
theorem dX0_isRefused_134 : decode cX0_isRefused 134 = .ok (.invokevirtual 72, 3) := by decide +kernel
theorem dX0_isRefused_137 : decode cX0_isRefused 137 = .ok (.ireturn, 1) := by decide +kernel
theorem dX0_isRefused_138 : decode cX0_isRefused 138 = .ok (.aload_n 0, 1) := by decide +kernel
theorem dX0_isRefused_139 : decode cX0_isRefused 139 = .ok (.getfield 15, 3) := by decide +kernel
theorem dX0_isRefused_142 : decode cX0_isRefused 142 = .ok (.iload_n 2, 1) := by decide +kernel
theorem dX0_isRefused_143 : decode cX0_isRefused 143 = .ok (.invokevirtual 75, 3) := by decide +kernel
theorem dX0_isRefused_146 : decode cX0_isRefused 146 = .ok (.ireturn, 1) := by decide +kernel
theorem dX0_isRefused_147 : decode cX0_isRefused 147 = .ok (.aload_n 0, 1) := by decide +kernel
theorem dX0_isRefused_148 : decode cX0_isRefused 148 = .ok (.getfield 15, 3) := by decide +kernel
theorem dX0_isRefused_151 : decode cX0_isRefused 151 = .ok (.iload_n 2, 1) := by decide +kernel
theorem dX0_isRefused_152 : decode cX0_isRefused 152 = .ok (.iload_n 3, 1) := by decide +kernel
theorem dX0_isRefused_153 : decode cX0_isRefused 153 = .ok (.invokevirtual 78, 3) := by decide +kernel
theorem dX0_isRefused_156 : decode cX0_isRefused 156 = .ok (.ireturn, 1) := by decide +kernel
theorem dX0_isRefused_157 : decode cX0_isRefused 157 = .ok (.aload_n 0, 1) := by decide +kernel
theorem dX0_isRefused_158 : decode cX0_isRefused 158 = .ok (.getfield 15, 3) := by decide +kernel
theorem dX0_isRefused_161 : decode cX0_isRefused 161 = .ok (.invokevirtual 81, 3) := by decide +kernel
theorem dX0_isRefused_164 : decode cX0_isRefused 164 = .ok (.ireturn, 1) := by decide +kernel
theorem dX0_isRefused_165 : decode cX0_isRefused 165 = .ok (.aload_n 0, 1) := by decide +kernel
theorem dX0_isRefused_166 : decode cX0_isRefused 166 = .ok (.getfield 15, 3) := by decide +kernel
theorem dX0_isRefused_169 : decode cX0_isRefused 169 = .ok (.invokevirtual 84, 3) := by decide +kernel
theorem dX0_isRefused_172 : decode cX0_isRefused 172 = .ok (.ireturn, 1) := by decide +kernel
theorem dX0_isRefused_173 : decode cX0_isRefused 173 = .ok (.aload_n 0, 1) := by decide +kernel
theorem dX0_isRefused_174 : decode cX0_isRefused 174 = .ok (.getfield 15, 3) := by decide +kernel
theorem dX0_isRefused_177 : decode cX0_isRefused 177 = .ok (.iload_n 3, 1) := by decide +kernel
theorem dX0_isRefused_178 : decode cX0_isRefused 178 = .ok (.invokevirtual 87, 3) := by decide +kernel
theorem dX0_isRefused_181 : decode cX0_isRefused 181 = .ok (.ireturn, 1) := by decide +kernel
theorem dX0_isRefused_182 : decode cX0_isRefused 182 = .ok (.aload_n 0, 1) := by decide +kernel
theorem dX0_isRefused_183 : decode cX0_isRefused 183 = .ok (.getfield 15, 3) := by decide +kernel
theorem dX0_isRefused_186 : decode cX0_isRefused 186 = .ok (.iload_n 3, 1) := by decide +kernel
theorem dX0_isRefused_187 : decode cX0_isRefused 187 = .ok (.invokevirtual 90, 3) := by decide +kernel
theorem dX0_isRefused_190 : decode cX0_isRefused 190 = .ok (.ireturn, 1) := by decide +kernel
theorem dX0_isRefused_191 : decode cX0_isRefused 191 = .ok (.aload_n 0, 1) := by decide +kernel
theorem dX0_isRefused_192 : decode cX0_isRefused 192 = .ok (.getfield 15, 3) := by decide +kernel
theorem dX0_isRefused_195 : decode cX0_isRefused 195 = .ok (.iload_n 2, 1) := by decide +kernel
theorem dX0_isRefused_196 : decode cX0_isRefused 196 = .ok (.iload_n 3, 1) := by decide +kernel
theorem dX0_isRefused_197 : decode cX0_isRefused 197 = .ok (.iload 4, 2) := by decide +kernel
theorem dX0_isRefused_199 : decode cX0_isRefused 199 = .ok (.invokevirtual 93, 3) := by decide +kernel
theorem dX0_isRefused_202 : decode cX0_isRefused 202 = .ok (.ireturn, 1) := by decide +kernel
theorem dX0_isRefused_203 : decode cX0_isRefused 203 = .ok (.iconst 0, 1) := by decide +kernel
theorem dX0_isRefused_204 : decode cX0_isRefused 204 = .ok (.ireturn, 1) := by decide +kernel
theorem dX0_perform_0 : decode cX0_perform 0 = .ok (.iload_n 1, 1) := by decide +kernel
theorem dX0_perform_1 : decode cX0_perform 1 = .ok (.tableswitch 204 97 119 #[115, 204, 204, 137, 204, 156, 204, 204, 192, 204, 204, 204, 204, 107, 204, 204, 127, 182, 172, 146, 204, 204, 164], 107) := by decide +kernel
theorem dX0_perform_108 : decode cX0_perform 108 = .ok (.aload_n 0, 1) := by decide +kernel
theorem dX0_perform_109 : decode cX0_perform 109 = .ok (.getfield 9, 3) := by decide +kernel
theorem dX0_perform_112 : decode cX0_perform 112 = .ok (.invokevirtual 96, 3) := by decide +kernel
theorem dX0_perform_115 : decode cX0_perform 115 = .ok (.ireturn, 1) := by decide +kernel
theorem dX0_perform_116 : decode cX0_perform 116 = .ok (.aload_n 0, 1) := by decide +kernel
theorem dX0_perform_117 : decode cX0_perform 117 = .ok (.getfield 9, 3) := by decide +kernel
theorem dX0_perform_120 : decode cX0_perform 120 = .ok (.iload_n 2, 1) := by decide +kernel
theorem dX0_perform_121 : decode cX0_perform 121 = .ok (.iload_n 3, 1) := by decide +kernel
theorem dX0_perform_122 : decode cX0_perform 122 = .ok (.iload 4, 2) := by decide +kernel
theorem dX0_perform_124 : decode cX0_perform 124 = .ok (.invokevirtual 100, 3) := by decide +kernel
theorem dX0_perform_127 : decode cX0_perform 127 = .ok (.ireturn, 1) := by decide +kernel
theorem dX0_perform_128 : decode cX0_perform 128 = .ok (.aload_n 0, 1) := by decide +kernel
theorem dX0_perform_129 : decode cX0_perform 129 = .ok (.getfield 9, 3) := by decide +kernel
theorem dX0_perform_132 : decode cX0_perform 132 = .ok (.iload_n 2, 1) := by decide +kernel
theorem dX0_perform_133 : decode cX0_perform 133 = .ok (.iload_n 3, 1) := by decide +kernel
theorem dX0_perform_134 : decode cX0_perform 134 = .ok (.invokevirtual 104, 3) := by decide +kernel
theorem dX0_perform_137 : decode cX0_perform 137 = .ok (.ireturn, 1) := by decide +kernel
theorem dX0_perform_138 : decode cX0_perform 138 = .ok (.aload_n 0, 1) := by decide +kernel
theorem dX0_perform_139 : decode cX0_perform 139 = .ok (.getfield 9, 3) := by decide +kernel
theorem dX0_perform_142 : decode cX0_perform 142 = .ok (.iload_n 2, 1) := by decide +kernel
theorem dX0_perform_143 : decode cX0_perform 143 = .ok (.invokevirtual 108, 3) := by decide +kernel
theorem dX0_perform_146 : decode cX0_perform 146 = .ok (.ireturn, 1) := by decide +kernel
theorem dX0_perform_147 : decode cX0_perform 147 = .ok (.aload_n 0, 1) := by decide +kernel
theorem dX0_perform_148 : decode cX0_perform 148 = .ok (.getfield 9, 3) := by decide +kernel
theorem dX0_perform_151 : decode cX0_perform 151 = .ok (.iload_n 2, 1) := by decide +kernel
theorem dX0_perform_152 : decode cX0_perform 152 = .ok (.iload_n 3, 1) := by decide +kernel
theorem dX0_perform_153 : decode cX0_perform 153 = .ok (.invokevirtual 112, 3) := by decide +kernel
theorem dX0_perform_156 : decode cX0_perform 156 = .ok (.ireturn, 1) := by decide +kernel
theorem dX0_perform_157 : decode cX0_perform 157 = .ok (.aload_n 0, 1) := by decide +kernel
theorem dX0_perform_158 : decode cX0_perform 158 = .ok (.getfield 9, 3) := by decide +kernel
theorem dX0_perform_161 : decode cX0_perform 161 = .ok (.invokevirtual 115, 3) := by decide +kernel
theorem dX0_perform_164 : decode cX0_perform 164 = .ok (.ireturn, 1) := by decide +kernel
theorem dX0_perform_165 : decode cX0_perform 165 = .ok (.aload_n 0, 1) := by decide +kernel
theorem dX0_perform_166 : decode cX0_perform 166 = .ok (.getfield 9, 3) := by decide +kernel
theorem dX0_perform_169 : decode cX0_perform 169 = .ok (.invokevirtual 118, 3) := by decide +kernel
theorem dX0_perform_172 : decode cX0_perform 172 = .ok (.ireturn, 1) := by decide +kernel
theorem dX0_perform_173 : decode cX0_perform 173 = .ok (.aload_n 0, 1) := by decide +kernel
theorem dX0_perform_174 : decode cX0_perform 174 = .ok (.getfield 9, 3) := by decide +kernel
theorem dX0_perform_177 : decode cX0_perform 177 = .ok (.iload_n 3, 1) := by decide +kernel
theorem dX0_perform_178 : decode cX0_perform 178 = .ok (.iconst 0, 1) := by decide +kernel
theorem dX0_perform_179 : decode cX0_perform 179 = .ok (.invokevirtual 121, 3) := by decide +kernel
theorem dX0_perform_182 : decode cX0_perform 182 = .ok (.ireturn, 1) := by decide +kernel
theorem dX0_perform_183 : decode cX0_perform 183 = .ok (.aload_n 0, 1) := by decide +kernel
theorem dX0_perform_184 : decode cX0_perform 184 = .ok (.getfield 9, 3) := by decide +kernel
theorem dX0_perform_187 : decode cX0_perform 187 = .ok (.iload_n 3, 1) := by decide +kernel
theorem dX0_perform_188 : decode cX0_perform 188 = .ok (.iconst 1, 1) := by decide +kernel
theorem dX0_perform_189 : decode cX0_perform 189 = .ok (.invokevirtual 121, 3) := by decide +kernel
theorem dX0_perform_192 : decode cX0_perform 192 = .ok (.ireturn, 1) := by decide +kernel
theorem dX0_perform_193 : decode cX0_perform 193 = .ok (.aload_n 0, 1) := by decide +kernel
theorem dX0_perform_194 : decode cX0_perform 194 = .ok (.getfield 9, 3) := by decide +kernel
theorem dX0_perform_197 : decode cX0_perform 197 = .ok (.iload_n 2, 1) := by decide +kernel
theorem dX0_perform_198 : decode cX0_perform 198 = .ok (.iload_n 3, 1) := by decide +kernel
theorem dX0_perform_199 : decode cX0_perform 199 = .ok (.iload 4, 2) := by decide +kernel
theorem dX0_perform_201 : decode cX0_perform 201 = .ok (.invokevirtual 125, 3) := by decide +kernel
theorem dX0_perform_204 : decode cX0_perform 204 = .ok (.ireturn, 1) := by decide +kernel
theorem dX0_perform_205 : decode cX0_perform 205 = .ok (.aload_n 0, 1) := by decide +kernel
theorem dX0_perform_206 : decode cX0_perform 206 = .ok (.getfield 9, 3) := by decide +kernel
theorem dX0_perform_209 : decode cX0_perform 209 = .ok (.iload 4, 2) := by decide +kernel
theorem dX0_perform_211 : decode cX0_perform 211 = .ok (.invokevirtual 128, 3) := by decide +kernel
theorem dX0_perform_214 : decode cX0_perform 214 = .ok (.ireturn, 1) := by decide +kernel
theorem dX1_init_0 : decode cX1_init 0 = .ok (.aload_n 0, 1) := by decide +kernel
theorem dX1_init_1 : decode cX1_init 1 = .ok (.invokespecial 3, 3) := by decide +kernel
theorem dX1_init_4 : decode cX1_init 4 = .ok (.aload_n 0, 1) := by decide +kernel
theorem dX1_init_5 : decode cX1_init 5 = .ok (.iconst 1, 1) := by decide +kernel
theorem dX1_init_6 : decode cX1_init 6 = .ok (.putfield 9, 3) := by decide +kernel
theorem dX1_init_9 : decode cX1_init 9 = .ok (.aload_n 0, 1) := by decide +kernel
theorem dX1_init_10 : decode cX1_init 10 = .ok (.bipush 8, 2) := by decide +kernel
theorem dX1_init_12 : decode cX1_init 12 = .ok (.newarray .int, 2) := by decide +kernel
theorem dX1_init_14 : decode cX1_init 14 = .ok (.putfield 15, 3) := by decide +kernel
theorem dX1_init_17 : decode cX1_init 17 = .ok (.aload_n 0, 1) := by decide +kernel
theorem dX1_init_18 : decode cX1_init 18 = .ok (.bipush 8, 2) := by decide +kernel
theorem dX1_init_20 : decode cX1_init 20 = .ok (.newarray .int, 2) := by decide +kernel
theorem dX1_init_22 : decode cX1_init 22 = .ok (.putfield 19, 3) := by decide +kernel
theorem dX1_init_25 : decode cX1_init 25 = .ok (.aload_n 0, 1) := by decide +kernel
theorem dX1_init_26 : decode cX1_init 26 = .ok (.bipush 8, 2) := by decide +kernel
theorem dX1_init_28 : decode cX1_init 28 = .ok (.newarray .int, 2) := by decide +kernel
theorem dX1_init_30 : decode cX1_init 30 = .ok (.putfield 22, 3) := by decide +kernel
theorem dX1_init_33 : decode cX1_init 33 = .ok (.aload_n 0, 1) := by decide +kernel
theorem dX1_init_34 : decode cX1_init 34 = .ok (.bipush 48, 2) := by decide +kernel
theorem dX1_init_36 : decode cX1_init 36 = .ok (.newarray .int, 2) := by decide +kernel
theorem dX1_init_38 : decode cX1_init 38 = .ok (.putfield 25, 3) := by decide +kernel
theorem dX1_init_41 : decode cX1_init 41 = .ok (.aload_n 0, 1) := by decide +kernel
theorem dX1_init_42 : decode cX1_init 42 = .ok (.bipush 48, 2) := by decide +kernel
theorem dX1_init_44 : decode cX1_init 44 = .ok (.newarray .int, 2) := by decide +kernel
theorem dX1_init_46 : decode cX1_init 46 = .ok (.putfield 28, 3) := by decide +kernel
theorem dX1_init_49 : decode cX1_init 49 = .ok (.aload_n 0, 1) := by decide +kernel
theorem dX1_init_50 : decode cX1_init 50 = .ok (.bipush 6, 2) := by decide +kernel
theorem dX1_init_52 : decode cX1_init 52 = .ok (.newarray .int, 2) := by decide +kernel
theorem dX1_init_54 : decode cX1_init 54 = .ok (.putfield 31, 3) := by decide +kernel
theorem dX1_init_57 : decode cX1_init 57 = .ok (.aload_n 0, 1) := by decide +kernel
theorem dX1_init_58 : decode cX1_init 58 = .ok (.bipush 6, 2) := by decide +kernel
theorem dX1_init_60 : decode cX1_init 60 = .ok (.newarray .int, 2) := by decide +kernel
theorem dX1_init_62 : decode cX1_init 62 = .ok (.putfield 34, 3) := by decide +kernel
theorem dX1_init_65 : decode cX1_init 65 = .ok (.aload_n 0, 1) := by decide +kernel
theorem dX1_init_66 : decode cX1_init 66 = .ok (.bipush 6, 2) := by decide +kernel
theorem dX1_init_68 : decode cX1_init 68 = .ok (.newarray .boolean, 2) := by decide +kernel
theorem dX1_init_70 : decode cX1_init 70 = .ok (.putfield 37, 3) := by decide +kernel
theorem dX1_init_73 : decode cX1_init 73 = .ok (.iconst 0, 1) := by decide +kernel
theorem dX1_init_74 : decode cX1_init 74 = .ok (.istore_n 1, 1) := by decide +kernel
theorem dX1_init_75 : decode cX1_init 75 = .ok (.iload_n 1, 1) := by decide +kernel
theorem dX1_init_76 : decode cX1_init 76 = .ok (.bipush 6, 2) := by decide +kernel
theorem dX1_init_78 : decode cX1_init 78 = .ok (.if_icmp .ge 24, 3) := by decide +kernel
theorem dX1_init_81 : decode cX1_init 81 = .ok (.aload_n 0, 1) := by decide +kernel
theorem dX1_init_82 : decode cX1_init 82 = .ok (.getfield 31, 3) := by decide +kernel
theorem dX1_init_85 : decode cX1_init 85 = .ok (.iload_n 1, 1) := by decide +kernel
theorem dX1_init_86 : decode cX1_init 86 = .ok (.bipush 20, 2) := by decide +kernel
theorem dX1_init_88 : decode cX1_init 88 = .ok (.iastore, 1) := by decide +kernel
theorem dX1_init_89 : decode cX1_init 89 = .ok (.aload_n 0, 1) := by decide +kernel
theorem dX1_init_90 : decode cX1_init 90 = .ok (.getfield 37, 3) := by decide +kernel
theorem dX1_init_93 : decode cX1_init 93 = .ok (.iload_n 1, 1) := by decide +kernel
theorem dX1_init_94 : decode cX1_init 94 = .ok (.iconst 1, 1) := by decide +kernel
theorem dX1_init_95 : decode cX1_init 95 = .ok (.bastore, 1) := by decide +kernel
theorem dX1_init_96 : decode cX1_init 96 = .ok (.iinc 1 1, 3) := by decide +kernel
theorem dX1_init_99 : decode cX1_init 99 = .ok (.goto (-24), 3) := by decide +kernel
theorem dX1_init_102 : decode cX1_init 102 = .ok (.return_, 1) := by decide +kernel
theorem dX1_copyFrom_0 : decode cX1_copyFrom 0 = .ok (.aload_n 0, 1) := by decide +kernel
theorem dX1_copyFrom_1 : decode cX1_copyFrom 1 = .ok (.aload_n 1, 1) := by decide +kernel
theorem dX1_copyFrom_2 : decode cX1_copyFrom 2 = .ok (.getfield 41, 3) := by decide +kernel
theorem dX1_copyFrom_5 : decode cX1_copyFrom 5 = .ok (.putfield 41, 3) := by decide +kernel
theorem dX1_copyFrom_8 : decode cX1_copyFrom 8 = .ok (.aload_n 0, 1) := by decide +kernel
theorem dX1_copyFrom_9 : decode cX1_copyFrom 9 = .ok (.aload_n 1, 1) := by decide +kernel
theorem dX1_copyFrom_10 : decode cX1_copyFrom 10 = .ok (.getfield 45, 3) := by decide +kernel
theorem dX1_copyFrom_13 : decode cX1_copyFrom 13 = .ok (.putfield 45, 3) := by decide +kernel
theorem dX1_copyFrom_16 : decode cX1_copyFrom 16 = .ok (.aload_n 0, 1) := by decide +kernel
theorem dX1_copyFrom_17 : decode cX1_copyFrom 17 = .ok (.aload_n 1, 1) := by decide +kernel
theorem dX1_copyFrom_18 : decode cX1_copyFrom 18 = .ok (.getfield 48, 3) := by decide +kernel
theorem dX1_copyFrom_21 : decode cX1_copyFrom 21 = .ok (.putfield 48, 3) := by decide +kernel
theorem dX1_copyFrom_24 : decode cX1_copyFrom 24 = .ok (.aload_n 0, 1) := by decide +kernel
theorem dX1_copyFrom_25 : decode cX1_copyFrom 25 = .ok (.aload_n 1, 1) := by decide +kernel
theorem dX1_copyFrom_26 : decode cX1_copyFrom 26 = .ok (.getfield 51, 3) := by decide +kernel
theorem dX1_copyFrom_29 : decode cX1_copyFrom 29 = .ok (.putfield 51, 3) := by decide +kernel
theorem dX1_copyFrom_32 : decode cX1_copyFrom 32 = .ok (.aload_n 0, 1) := by decide +kernel
theorem dX1_copyFrom_33 : decode cX1_copyFrom 33 = .ok (.aload_n 1, 1) := by decide +kernel
theorem dX1_copyFrom_34 : decode cX1_copyFrom 34 = .ok (.getfield 54, 3) := by decide +kernel
theorem dX1_copyFrom_37 : decode cX1_copyFrom 37 = .ok (.putfield 54, 3) := by decide +kernel
theorem dX1_copyFrom_40 : decode cX1_copyFrom 40 = .ok (.aload_n 0, 1) := by decide +kernel
theorem dX1_copyFrom_41 : decode cX1_copyFrom 41 = .ok (.aload_n 1, 1) := by decide +kernel
theorem dX1_copyFrom_42 : decode cX1_copyFrom 42 = .ok (.getfield 9, 3) := by decide +kernel
theorem dX1_copyFrom_45 : decode cX1_copyFrom 45 = .ok (.putfield 9, 3) := by decide +kernel
theorem dX1_copyFrom_48 : decode cX1_copyFrom 48 = .ok (.aload_n 1, 1) := by decide +kernel
theorem dX1_copyFrom_49 : decode cX1_copyFrom 49 = .ok (.getfield 15, 3) := by decide +kernel
theorem dX1_copyFrom_52 : decode cX1_copyFrom 52 = .ok (.iconst 0, 1) := by decide +kernel
theorem dX1_copyFrom_53 : decode cX1_copyFrom 53 = .ok (.aload_n 0, 1) := by decide +kernel
theorem dX1_copyFrom_54 : decode cX1_copyFrom 54 = .ok (.getfield 15, 3) := by decide +kernel
theorem dX1_copyFrom_57 : decode cX1_copyFrom 57 = .ok (.iconst 0, 1) := by decide +kernel
theorem dX1_copyFrom_58 : decode cX1_copyFrom 58 = .ok (.bipush 8, 2) := by decide +kernel
theorem dX1_copyFrom_60 : decode cX1_copyFrom 60 = .ok (.invokestatic 57, 3) := by decide +kernel
theorem dX1_copyFrom_63 : decode cX1_copyFrom 63 = .ok (.aload_n 1, 1) := by decide +kernel
theorem dX1_copyFrom_64 : decode cX1_copyFrom 64 = .ok (.getfield 19, 3) := by decide +kernel
theorem dX1_copyFrom_67 : decode cX1_copyFrom 67 = .ok (.iconst 0, 1) := by decide +kernel
theorem dX1_copyFrom_68 : decode cX1_copyFrom 68 = .ok (.aload_n 0, 1) := by decide +kernel
theorem dX1_copyFrom_69 : decode cX1_copyFrom 69 = .ok (.getfield 19, 3) := by decide +kernel
theorem dX1_copyFrom_72 : decode cX1_copyFrom 72 = .ok (.iconst 0, 1) := by decide +kernel
theorem dX1_copyFrom_73 : decode cX1_copyFrom 73 = .ok (.bipush 8, 2) := by decide +kernel
theorem dX1_copyFrom_75 : decode cX1_copyFrom 75 = .ok (.invokestatic 57, 3) := by decide +kernel
theorem dX1_copyFrom_78 : decode cX1_copyFrom 78 = .ok (.aload_n 1, 1) := by decide +kernel
theorem dX1_copyFrom_79 : decode cX1_copyFrom 79 = .ok (.getfield 22, 3) := by decide +kernel
theorem dX1_copyFrom_82 : decode cX1_copyFrom 82 = .ok (.iconst 0, 1) := by decide +kernel
theorem dX1_copyFrom_83 : decode cX1_copyFrom 83 = .ok (.aload_n 0, 1) := by decide +kernel
theorem dX1_copyFrom_84 : decode cX1_copyFrom 84 = .ok (.getfield 22, 3) := by decide +kernel
theorem dX1_copyFrom_87 : decode cX1_copyFrom 87 = .ok (.iconst 0, 1) := by decide +kernel
theorem dX1_copyFrom_88 : decode cX1_copyFrom 88 = .ok (.bipush 8, 2) := by decide +kernel
theorem dX1_copyFrom_90 : decode cX1_copyFrom 90 = .ok (.invokestatic 57, 3) := by decide +kernel
theorem dX1_copyFrom_93 : decode cX1_copyFrom 93 = .ok (.aload_n 1, 1) := by decide +kernel
theorem dX1_copyFrom_94 : decode cX1_copyFrom 94 = .ok (.getfield 25, 3) := by decide +kernel
theorem dX1_copyFrom_97 : decode cX1_copyFrom 97 = .ok (.iconst 0, 1) := by decide +kernel
theorem dX1_copyFrom_98 : decode cX1_copyFrom 98 = .ok (.aload_n 0, 1) := by decide +kernel
theorem dX1_copyFrom_99 : decode cX1_copyFrom 99 = .ok (.getfield 25, 3) := by decide +kernel
theorem dX1_copyFrom_102 : decode cX1_copyFrom 102 = .ok (.iconst 0, 1) := by decide +kernel
theorem dX1_copyFrom_103 : decode cX1_copyFrom 103 = .ok (.bipush 48, 2) := by decide +kernel
theorem dX1_copyFrom_105 : decode cX1_copyFrom 105 = .ok (.invokestatic 57, 3) := by decide +kernel
theorem dX1_copyFrom_108 : decode cX1_copyFrom 108 = .ok (.aload_n 1, 1) := by decide +kernel
theorem dX1_copyFrom_109 : decode cX1_copyFrom 109 = .ok (.getfield 28, 3) := by decide +kernel
theorem dX1_copyFrom_112 : decode cX1_copyFrom 112 = .ok (.iconst 0, 1) := by decide +kernel
theorem dX1_copyFrom_113 : decode cX1_copyFrom 113 = .ok (.aload_n 0, 1) := by decide +kernel
theorem dX1_copyFrom_114 : decode cX1_copyFrom 114 = .ok (.getfield 28, 3) := by decide +kernel
theorem dX1_copyFrom_117 : decode cX1_copyFrom 117 = .ok (.iconst 0, 1) := by decide +kernel
theorem dX1_copyFrom_118 : decode cX1_copyFrom 118 = .ok (.bipush 48, 2) := by decide +kernel
theorem dX1_copyFrom_120 : decode cX1_copyFrom 120 = .ok (.invokestatic 57, 3) := by decide +kernel
theorem dX1_copyFrom_123 : decode cX1_copyFrom 123 = .ok (.aload_n 1, 1) := by decide +kernel
theorem dX1_copyFrom_124 : decode cX1_copyFrom 124 = .ok (.getfield 31, 3) := by decide +kernel
theorem dX1_copyFrom_127 : decode cX1_copyFrom 127 = .ok (.iconst 0, 1) := by decide +kernel
theorem dX1_copyFrom_128 : decode cX1_copyFrom 128 = .ok (.aload_n 0, 1) := by decide +kernel
theorem dX1_copyFrom_129 : decode cX1_copyFrom 129 = .ok (.getfield 31, 3) := by decide +kernel
theorem dX1_copyFrom_132 : decode cX1_copyFrom 132 = .ok (.iconst 0, 1) := by decide +kernel
theorem dX1_copyFrom_133 : decode cX1_copyFrom 133 = .ok (.bipush 6, 2) := by decide +kernel
theorem dX1_copyFrom_135 : decode cX1_copyFrom 135 = .ok (.invokestatic 57, 3) := by decide +kernel
theorem dX1_copyFrom_138 : decode cX1_copyFrom 138 = .ok (.aload_n 1, 1) := by decide +kernel
theorem dX1_copyFrom_139 : decode cX1_copyFrom 139 = .ok (.getfield 34, 3) := by decide +kernel
theorem dX1_copyFrom_142 : decode cX1_copyFrom 142 = .ok (.iconst 0, 1) := by decide +kernel
theorem dX1_copyFrom_143 : decode cX1_copyFrom 143 = .ok (.aload_n 0, 1) := by decide +kernel
theorem dX1_copyFrom_144 : decode cX1_copyFrom 144 = .ok (.getfield 34, 3) := by decide +kernel
theorem dX1_copyFrom_147 : decode cX1_copyFrom 147 = .ok (.iconst 0, 1) := by decide +kernel
theorem dX1_copyFrom_148 : decode cX1_copyFrom 148 = .ok (.bipush 6, 2) := by decide +kernel
theorem dX1_copyFrom_150 : decode cX1_copyFrom 150 = .ok (.invokestatic 57, 3) := by decide +kernel
theorem dX1_copyFrom_153 : decode cX1_copyFrom 153 = .ok (.iconst 0, 1) := by decide +kernel
theorem dX1_copyFrom_154 : decode cX1_copyFrom 154 = .ok (.istore_n 2, 1) := by decide +kernel
theorem dX1_copyFrom_155 : decode cX1_copyFrom 155 = .ok (.iload_n 2, 1) := by decide +kernel
theorem dX1_copyFrom_156 : decode cX1_copyFrom 156 = .ok (.bipush 6, 2) := by decide +kernel
theorem dX1_copyFrom_158 : decode cX1_copyFrom 158 = .ok (.if_icmp .ge 21, 3) := by decide +kernel
theorem dX1_copyFrom_161 : decode cX1_copyFrom 161 = .ok (.aload_n 0, 1) := by decide +kernel
theorem dX1_copyFrom_162 : decode cX1_copyFrom 162 = .ok (.getfield 37, 3) := by decide +kernel
theorem dX1_copyFrom_165 : decode cX1_copyFrom 165 = .ok (.iload_n 2, 1) := by decide +kernel
theorem dX1_copyFrom_166 : decode cX1_copyFrom 166 = .ok (.aload_n 1, 1) := by decide +kernel
theorem dX1_copyFrom_167 : decode cX1_copyFrom 167 = .ok (.getfield 37, 3) := by decide +kernel
theorem dX1_copyFrom_170 : decode cX1_copyFrom 170 = .ok (.iload_n 2, 1) := by decide +kernel
theorem dX1_copyFrom_171 : decode cX1_copyFrom 171 = .ok (.baload, 1) := by decide +kernel
theorem dX1_copyFrom_172 : decode cX1_copyFrom 172 = .ok (.bastore, 1) := by decide +kernel
theorem dX1_copyFrom_173 : decode cX1_copyFrom 173 = .ok (.iinc 2 1, 3) := by decide +kernel
theorem dX1_copyFrom_176 : decode cX1_copyFrom 176 = .ok (.goto (-21), 3) := by decide +kernel
theorem dX1_copyFrom_179 : decode cX1_copyFrom 179 = .ok (.return_, 1) := by decide +kernel
theorem dX1_hasMatter_0 : decode cX1_hasMatter 0 = .ok (.iload_n 1, 1) := by decide +kernel
theorem dX1_hasMatter_1 : decode cX1_hasMatter 1 = .ok (.ifCond .lt 15, 3) := by decide +kernel
theorem dX1_hasMatter_4 : decode cX1_hasMatter 4 = .ok (.iload_n 1, 1) := by decide +kernel
theorem dX1_hasMatter_5 : decode cX1_hasMatter 5 = .ok (.aload_n 0, 1) := by decide +kernel
theorem dX1_hasMatter_6 : decode cX1_hasMatter 6 = .ok (.getfield 41, 3) := by decide +kernel
theorem dX1_hasMatter_9 : decode cX1_hasMatter 9 = .ok (.if_icmp .ge 7, 3) := by decide +kernel
theorem dX1_hasMatter_12 : decode cX1_hasMatter 12 = .ok (.iconst 1, 1) := by decide +kernel
theorem dX1_hasMatter_13 : decode cX1_hasMatter 13 = .ok (.goto 4, 3) := by decide +kernel
theorem dX1_hasMatter_16 : decode cX1_hasMatter 16 = .ok (.iconst 0, 1) := by decide +kernel
theorem dX1_hasMatter_17 : decode cX1_hasMatter 17 = .ok (.ireturn, 1) := by decide +kernel
theorem dX1_hasGuild_0 : decode cX1_hasGuild 0 = .ok (.iload_n 1, 1) := by decide +kernel
theorem dX1_hasGuild_1 : decode cX1_hasGuild 1 = .ok (.ifCond .lt 13, 3) := by decide +kernel
theorem dX1_hasGuild_4 : decode cX1_hasGuild 4 = .ok (.iload_n 1, 1) := by decide +kernel
theorem dX1_hasGuild_5 : decode cX1_hasGuild 5 = .ok (.bipush 6, 2) := by decide +kernel
theorem dX1_hasGuild_7 : decode cX1_hasGuild 7 = .ok (.if_icmp .ge 7, 3) := by decide +kernel
theorem dX1_hasGuild_10 : decode cX1_hasGuild 10 = .ok (.iconst 1, 1) := by decide +kernel
theorem dX1_hasGuild_11 : decode cX1_hasGuild 11 = .ok (.goto 4, 3) := by decide +kernel
theorem dX1_hasGuild_14 : decode cX1_hasGuild 14 = .ok (.iconst 0, 1) := by decide +kernel
theorem dX1_hasGuild_15 : decode cX1_hasGuild 15 = .ok (.ireturn, 1) := by decide +kernel
theorem dX1_isGuildOf_0 : decode cX1_isGuildOf 0 = .ok (.aload_n 0, 1) := by decide +kernel
theorem dX1_isGuildOf_1 : decode cX1_isGuildOf 1 = .ok (.getfield 25, 3) := by decide +kernel
theorem dX1_isGuildOf_4 : decode cX1_isGuildOf 4 = .ok (.iload_n 1, 1) := by decide +kernel
theorem dX1_isGuildOf_5 : decode cX1_isGuildOf 5 = .ok (.bipush 6, 2) := by decide +kernel
theorem dX1_isGuildOf_7 : decode cX1_isGuildOf 7 = .ok (.imul, 1) := by decide +kernel
theorem dX1_isGuildOf_8 : decode cX1_isGuildOf 8 = .ok (.iload_n 2, 1) := by decide +kernel
theorem dX1_isGuildOf_9 : decode cX1_isGuildOf 9 = .ok (.iadd, 1) := by decide +kernel
theorem dX1_isGuildOf_10 : decode cX1_isGuildOf 10 = .ok (.iaload, 1) := by decide +kernel
theorem dX1_isGuildOf_11 : decode cX1_isGuildOf 11 = .ok (.ifCond .eq 7, 3) := by decide +kernel
theorem dX1_isGuildOf_14 : decode cX1_isGuildOf 14 = .ok (.iconst 1, 1) := by decide +kernel
theorem dX1_isGuildOf_15 : decode cX1_isGuildOf 15 = .ok (.goto 4, 3) := by decide +kernel
theorem dX1_isGuildOf_18 : decode cX1_isGuildOf 18 = .ok (.iconst 0, 1) := by decide +kernel
theorem dX1_isGuildOf_19 : decode cX1_isGuildOf 19 = .ok (.ireturn, 1) := by decide +kernel
theorem dX1_amountOf_0 : decode cX1_amountOf 0 = .ok (.aload_n 0, 1) := by decide +kernel
theorem dX1_amountOf_1 : decode cX1_amountOf 1 = .ok (.getfield 25, 3) := by decide +kernel
theorem dX1_amountOf_4 : decode cX1_amountOf 4 = .ok (.iload_n 1, 1) := by decide +kernel
theorem dX1_amountOf_5 : decode cX1_amountOf 5 = .ok (.bipush 6, 2) := by decide +kernel
theorem dX1_amountOf_7 : decode cX1_amountOf 7 = .ok (.imul, 1) := by decide +kernel
theorem dX1_amountOf_8 : decode cX1_amountOf 8 = .ok (.iload_n 2, 1) := by decide +kernel
theorem dX1_amountOf_9 : decode cX1_amountOf 9 = .ok (.iadd, 1) := by decide +kernel
theorem dX1_amountOf_10 : decode cX1_amountOf 10 = .ok (.iaload, 1) := by decide +kernel
theorem dX1_amountOf_11 : decode cX1_amountOf 11 = .ok (.ireturn, 1) := by decide +kernel
theorem dX1_answerOf_0 : decode cX1_answerOf 0 = .ok (.aload_n 0, 1) := by decide +kernel
theorem dX1_answerOf_1 : decode cX1_answerOf 1 = .ok (.getfield 28, 3) := by decide +kernel
theorem dX1_answerOf_4 : decode cX1_answerOf 4 = .ok (.iload_n 1, 1) := by decide +kernel
theorem dX1_answerOf_5 : decode cX1_answerOf 5 = .ok (.bipush 6, 2) := by decide +kernel
theorem dX1_answerOf_7 : decode cX1_answerOf 7 = .ok (.imul, 1) := by decide +kernel
theorem dX1_answerOf_8 : decode cX1_answerOf 8 = .ok (.iload_n 2, 1) := by decide +kernel
theorem dX1_answerOf_9 : decode cX1_answerOf 9 = .ok (.iadd, 1) := by decide +kernel
theorem dX1_answerOf_10 : decode cX1_answerOf 10 = .ok (.iaload, 1) := by decide +kernel
theorem dX1_answerOf_11 : decode cX1_answerOf 11 = .ok (.ireturn, 1) := by decide +kernel
theorem dX1_giveAnswer_0 : decode cX1_giveAnswer 0 = .ok (.aload_n 0, 1) := by decide +kernel
theorem dX1_giveAnswer_1 : decode cX1_giveAnswer 1 = .ok (.getfield 28, 3) := by decide +kernel
theorem dX1_giveAnswer_4 : decode cX1_giveAnswer 4 = .ok (.iload_n 1, 1) := by decide +kernel
theorem dX1_giveAnswer_5 : decode cX1_giveAnswer 5 = .ok (.bipush 6, 2) := by decide +kernel
theorem dX1_giveAnswer_7 : decode cX1_giveAnswer 7 = .ok (.imul, 1) := by decide +kernel
theorem dX1_giveAnswer_8 : decode cX1_giveAnswer 8 = .ok (.iload_n 2, 1) := by decide +kernel
theorem dX1_giveAnswer_9 : decode cX1_giveAnswer 9 = .ok (.iadd, 1) := by decide +kernel
theorem dX1_giveAnswer_10 : decode cX1_giveAnswer 10 = .ok (.iload_n 3, 1) := by decide +kernel
theorem dX1_giveAnswer_11 : decode cX1_giveAnswer 11 = .ok (.iastore, 1) := by decide +kernel
theorem dX1_giveAnswer_12 : decode cX1_giveAnswer 12 = .ok (.return_, 1) := by decide +kernel
theorem dX1_makeMatter_0 : decode cX1_makeMatter 0 = .ok (.aload_n 0, 1) := by decide +kernel
theorem dX1_makeMatter_1 : decode cX1_makeMatter 1 = .ok (.getfield 41, 3) := by decide +kernel
theorem dX1_makeMatter_4 : decode cX1_makeMatter 4 = .ok (.istore_n 1, 1) := by decide +kernel
theorem dX1_makeMatter_5 : decode cX1_makeMatter 5 = .ok (.aload_n 0, 1) := by decide +kernel
theorem dX1_makeMatter_6 : decode cX1_makeMatter 6 = .ok (.getfield 19, 3) := by decide +kernel
theorem dX1_makeMatter_9 : decode cX1_makeMatter 9 = .ok (.iload_n 1, 1) := by decide +kernel
theorem dX1_makeMatter_10 : decode cX1_makeMatter 10 = .ok (.aload_n 0, 1) := by decide +kernel
theorem dX1_makeMatter_11 : decode cX1_makeMatter 11 = .ok (.getfield 48, 3) := by decide +kernel
theorem dX1_makeMatter_14 : decode cX1_makeMatter 14 = .ok (.iastore, 1) := by decide +kernel
theorem dX1_makeMatter_15 : decode cX1_makeMatter 15 = .ok (.aload_n 0, 1) := by decide +kernel
theorem dX1_makeMatter_16 : decode cX1_makeMatter 16 = .ok (.dup, 1) := by decide +kernel
theorem dX1_makeMatter_17 : decode cX1_makeMatter 17 = .ok (.getfield 41, 3) := by decide +kernel
theorem dX1_makeMatter_20 : decode cX1_makeMatter 20 = .ok (.iconst 1, 1) := by decide +kernel
theorem dX1_makeMatter_21 : decode cX1_makeMatter 21 = .ok (.iadd, 1) := by decide +kernel
theorem dX1_makeMatter_22 : decode cX1_makeMatter 22 = .ok (.putfield 41, 3) := by decide +kernel
theorem dX1_makeMatter_25 : decode cX1_makeMatter 25 = .ok (.iload_n 1, 1) := by decide +kernel
theorem dX1_makeMatter_26 : decode cX1_makeMatter 26 = .ok (.ireturn, 1) := by decide +kernel
theorem dX1_setAmount_0 : decode cX1_setAmount 0 = .ok (.aload_n 0, 1) := by decide +kernel
theorem dX1_setAmount_1 : decode cX1_setAmount 1 = .ok (.getfield 25, 3) := by decide +kernel
theorem dX1_setAmount_4 : decode cX1_setAmount 4 = .ok (.iload_n 1, 1) := by decide +kernel
theorem dX1_setAmount_5 : decode cX1_setAmount 5 = .ok (.bipush 6, 2) := by decide +kernel
theorem dX1_setAmount_7 : decode cX1_setAmount 7 = .ok (.imul, 1) := by decide +kernel
theorem dX1_setAmount_8 : decode cX1_setAmount 8 = .ok (.iload_n 2, 1) := by decide +kernel
theorem dX1_setAmount_9 : decode cX1_setAmount 9 = .ok (.iadd, 1) := by decide +kernel
theorem dX1_setAmount_10 : decode cX1_setAmount 10 = .ok (.iload_n 3, 1) := by decide +kernel
theorem dX1_setAmount_11 : decode cX1_setAmount 11 = .ok (.iastore, 1) := by decide +kernel
theorem dX1_setAmount_12 : decode cX1_setAmount 12 = .ok (.aload_n 0, 1) := by decide +kernel
theorem dX1_setAmount_13 : decode cX1_setAmount 13 = .ok (.iload_n 1, 1) := by decide +kernel
theorem dX1_setAmount_14 : decode cX1_setAmount 14 = .ok (.invokevirtual 63, 3) := by decide +kernel
theorem dX1_setAmount_17 : decode cX1_setAmount 17 = .ok (.ireturn, 1) := by decide +kernel
theorem dX1_askGuild_0 : decode cX1_askGuild 0 = .ok (.aload_n 0, 1) := by decide +kernel
theorem dX1_askGuild_1 : decode cX1_askGuild 1 = .ok (.iload_n 1, 1) := by decide +kernel
theorem dX1_askGuild_2 : decode cX1_askGuild 2 = .ok (.iload_n 2, 1) := by decide +kernel
theorem dX1_askGuild_3 : decode cX1_askGuild 3 = .ok (.aload_n 0, 1) := by decide +kernel
theorem dX1_askGuild_4 : decode cX1_askGuild 4 = .ok (.iload_n 1, 1) := by decide +kernel
theorem dX1_askGuild_5 : decode cX1_askGuild 5 = .ok (.iload_n 2, 1) := by decide +kernel
theorem dX1_askGuild_6 : decode cX1_askGuild 6 = .ok (.invokevirtual 67, 3) := by decide +kernel
theorem dX1_askGuild_9 : decode cX1_askGuild 9 = .ok (.ifCond .eq 7, 3) := by decide +kernel
theorem dX1_askGuild_12 : decode cX1_askGuild 12 = .ok (.iconst 1, 1) := by decide +kernel
theorem dX1_askGuild_13 : decode cX1_askGuild 13 = .ok (.goto 4, 3) := by decide +kernel
theorem dX1_askGuild_16 : decode cX1_askGuild 16 = .ok (.iconst 2, 1) := by decide +kernel
theorem dX1_askGuild_17 : decode cX1_askGuild 17 = .ok (.invokevirtual 71, 3) := by decide +kernel
theorem dX1_askGuild_20 : decode cX1_askGuild 20 = .ok (.aload_n 0, 1) := by decide +kernel
theorem dX1_askGuild_21 : decode cX1_askGuild 21 = .ok (.iload_n 1, 1) := by decide +kernel
theorem dX1_askGuild_22 : decode cX1_askGuild 22 = .ok (.iload_n 2, 1) := by decide +kernel
theorem dX1_askGuild_23 : decode cX1_askGuild 23 = .ok (.invokevirtual 75, 3) := by decide +kernel
theorem dX1_askGuild_26 : decode cX1_askGuild 26 = .ok (.ireturn, 1) := by decide +kernel
theorem dX1_wouldBeReady_0 : decode cX1_wouldBeReady 0 = .ok (.aload_n 0, 1) := by decide +kernel
theorem dX1_wouldBeReady_1 : decode cX1_wouldBeReady 1 = .ok (.iload_n 2, 1) := by decide +kernel
theorem dX1_wouldBeReady_2 : decode cX1_wouldBeReady 2 = .ok (.invokevirtual 79, 3) := by decide +kernel
theorem dX1_wouldBeReady_5 : decode cX1_wouldBeReady 5 = .ok (.iconst (-1), 1) := by decide +kernel
theorem dX1_wouldBeReady_6 : decode cX1_wouldBeReady 6 = .ok (.if_icmp .ne 23, 3) := by decide +kernel
theorem dX1_wouldBeReady_9 : decode cX1_wouldBeReady 9 = .ok (.aload_n 0, 1) := by decide +kernel
theorem dX1_wouldBeReady_10 : decode cX1_wouldBeReady 10 = .ok (.getfield 31, 3) := by decide +kernel
theorem dX1_wouldBeReady_13 : decode cX1_wouldBeReady 13 = .ok (.iload_n 2, 1) := by decide +kernel
theorem dX1_wouldBeReady_14 : decode cX1_wouldBeReady 14 = .ok (.iaload, 1) := by decide +kernel
theorem dX1_wouldBeReady_15 : decode cX1_wouldBeReady 15 = .ok (.aload_n 0, 1) := by decide +kernel
theorem dX1_wouldBeReady_16 : decode cX1_wouldBeReady 16 = .ok (.iload_n 1, 1) := by decide +kernel
theorem dX1_wouldBeReady_17 : decode cX1_wouldBeReady 17 = .ok (.iload_n 2, 1) := by decide +kernel
theorem dX1_wouldBeReady_18 : decode cX1_wouldBeReady 18 = .ok (.invokevirtual 82, 3) := by decide +kernel
theorem dX1_wouldBeReady_21 : decode cX1_wouldBeReady 21 = .ok (.iadd, 1) := by decide +kernel
theorem dX1_wouldBeReady_22 : decode cX1_wouldBeReady 22 = .ok (.ifCond .lt 7, 3) := by decide +kernel
theorem dX1_wouldBeReady_25 : decode cX1_wouldBeReady 25 = .ok (.iconst 1, 1) := by decide +kernel
theorem dX1_wouldBeReady_26 : decode cX1_wouldBeReady 26 = .ok (.goto 4, 3) := by decide +kernel
theorem dX1_wouldBeReady_29 : decode cX1_wouldBeReady 29 = .ok (.iconst 0, 1) := by decide +kernel
theorem dX1_wouldBeReady_30 : decode cX1_wouldBeReady 30 = .ok (.ireturn, 1) := by decide +kernel
theorem dX1_wouldAllBeReady_0 : decode cX1_wouldAllBeReady 0 = .ok (.iconst 0, 1) := by decide +kernel
theorem dX1_wouldAllBeReady_1 : decode cX1_wouldAllBeReady 1 = .ok (.istore_n 2, 1) := by decide +kernel
theorem dX1_wouldAllBeReady_2 : decode cX1_wouldAllBeReady 2 = .ok (.iload_n 2, 1) := by decide +kernel
theorem dX1_wouldAllBeReady_3 : decode cX1_wouldAllBeReady 3 = .ok (.bipush 6, 2) := by decide +kernel
theorem dX1_wouldAllBeReady_5 : decode cX1_wouldAllBeReady 5 = .ok (.if_icmp .ge 29, 3) := by decide +kernel
theorem dX1_wouldAllBeReady_8 : decode cX1_wouldAllBeReady 8 = .ok (.aload_n 0, 1) := by decide +kernel
theorem dX1_wouldAllBeReady_9 : decode cX1_wouldAllBeReady 9 = .ok (.iload_n 1, 1) := by decide +kernel
theorem dX1_wouldAllBeReady_10 : decode cX1_wouldAllBeReady 10 = .ok (.iload_n 2, 1) := by decide +kernel
theorem dX1_wouldAllBeReady_11 : decode cX1_wouldAllBeReady 11 = .ok (.invokevirtual 85, 3) := by decide +kernel
theorem dX1_wouldAllBeReady_14 : decode cX1_wouldAllBeReady 14 = .ok (.ifCond .eq 14, 3) := by decide +kernel
theorem dX1_wouldAllBeReady_17 : decode cX1_wouldAllBeReady 17 = .ok (.aload_n 0, 1) := by decide +kernel
theorem dX1_wouldAllBeReady_18 : decode cX1_wouldAllBeReady 18 = .ok (.iload_n 1, 1) := by decide +kernel
theorem dX1_wouldAllBeReady_19 : decode cX1_wouldAllBeReady 19 = .ok (.iload_n 2, 1) := by decide +kernel
theorem dX1_wouldAllBeReady_20 : decode cX1_wouldAllBeReady 20 = .ok (.invokevirtual 88, 3) := by decide +kernel
theorem dX1_wouldAllBeReady_23 : decode cX1_wouldAllBeReady 23 = .ok (.ifCond .ne 5, 3) := by decide +kernel
theorem dX1_wouldAllBeReady_26 : decode cX1_wouldAllBeReady 26 = .ok (.iconst 0, 1) := by decide +kernel
theorem dX1_wouldAllBeReady_27 : decode cX1_wouldAllBeReady 27 = .ok (.ireturn, 1) := by decide +kernel
theorem dX1_wouldAllBeReady_28 : decode cX1_wouldAllBeReady 28 = .ok (.iinc 2 1, 3) := by decide +kernel
theorem dX1_wouldAllBeReady_31 : decode cX1_wouldAllBeReady 31 = .ok (.goto (-29), 3) := by decide +kernel
theorem dX1_wouldAllBeReady_34 : decode cX1_wouldAllBeReady 34 = .ok (.iconst 1, 1) := by decide +kernel
theorem dX1_wouldAllBeReady_35 : decode cX1_wouldAllBeReady 35 = .ok (.ireturn, 1) := by decide +kernel
theorem dX1_isOrWouldBeReady_0 : decode cX1_isOrWouldBeReady 0 = .ok (.aload_n 0, 1) := by decide +kernel
theorem dX1_isOrWouldBeReady_1 : decode cX1_isOrWouldBeReady 1 = .ok (.iload_n 1, 1) := by decide +kernel
theorem dX1_isOrWouldBeReady_2 : decode cX1_isOrWouldBeReady 2 = .ok (.iload_n 2, 1) := by decide +kernel
theorem dX1_isOrWouldBeReady_3 : decode cX1_isOrWouldBeReady 3 = .ok (.invokevirtual 75, 3) := by decide +kernel
theorem dX1_isOrWouldBeReady_6 : decode cX1_isOrWouldBeReady 6 = .ok (.istore_n 3, 1) := by decide +kernel
theorem dX1_isOrWouldBeReady_7 : decode cX1_isOrWouldBeReady 7 = .ok (.iload_n 3, 1) := by decide +kernel
theorem dX1_isOrWouldBeReady_8 : decode cX1_isOrWouldBeReady 8 = .ok (.iconst 1, 1) := by decide +kernel
theorem dX1_isOrWouldBeReady_9 : decode cX1_isOrWouldBeReady 9 = .ok (.if_icmp .eq 16, 3) := by decide +kernel
theorem dX1_isOrWouldBeReady_12 : decode cX1_isOrWouldBeReady 12 = .ok (.iload_n 3, 1) := by decide +kernel
theorem dX1_isOrWouldBeReady_13 : decode cX1_isOrWouldBeReady 13 = .ok (.ifCond .ne 16, 3) := by decide +kernel
theorem dX1_isOrWouldBeReady_16 : decode cX1_isOrWouldBeReady 16 = .ok (.aload_n 0, 1) := by decide +kernel
theorem dX1_isOrWouldBeReady_17 : decode cX1_isOrWouldBeReady 17 = .ok (.iload_n 1, 1) := by decide +kernel
theorem dX1_isOrWouldBeReady_18 : decode cX1_isOrWouldBeReady 18 = .ok (.iload_n 2, 1) := by decide +kernel
theorem dX1_isOrWouldBeReady_19 : decode cX1_isOrWouldBeReady 19 = .ok (.invokevirtual 67, 3) := by decide +kernel
theorem dX1_isOrWouldBeReady_22 : decode cX1_isOrWouldBeReady 22 = .ok (.ifCond .eq 7, 3) := by decide +kernel
theorem dX1_isOrWouldBeReady_25 : decode cX1_isOrWouldBeReady 25 = .ok (.iconst 1, 1) := by decide +kernel
theorem dX1_isOrWouldBeReady_26 : decode cX1_isOrWouldBeReady 26 = .ok (.goto 4, 3) := by decide +kernel
theorem dX1_isOrWouldBeReady_29 : decode cX1_isOrWouldBeReady 29 = .ok (.iconst 0, 1) := by decide +kernel
theorem dX1_isOrWouldBeReady_30 : decode cX1_isOrWouldBeReady 30 = .ok (.ireturn, 1) := by decide +kernel
theorem dX1_decideMatter_0 : decode cX1_decideMatter 0 = .ok (.aload_n 0, 1) := by decide +kernel
theorem dX1_decideMatter_1 : decode cX1_decideMatter 1 = .ok (.iload_n 1, 1) := by decide +kernel
theorem dX1_decideMatter_2 : decode cX1_decideMatter 2 = .ok (.aload_n 0, 1) := by decide +kernel
theorem dX1_decideMatter_3 : decode cX1_decideMatter 3 = .ok (.iload_n 1, 1) := by decide +kernel
theorem dX1_decideMatter_4 : decode cX1_decideMatter 4 = .ok (.invokevirtual 91, 3) := by decide +kernel
theorem dX1_decideMatter_7 : decode cX1_decideMatter 7 = .ok (.ifCond .eq 7, 3) := by decide +kernel
theorem dX1_decideMatter_10 : decode cX1_decideMatter 10 = .ok (.iconst 2, 1) := by decide +kernel
theorem dX1_decideMatter_11 : decode cX1_decideMatter 11 = .ok (.goto 4, 3) := by decide +kernel
theorem dX1_decideMatter_14 : decode cX1_decideMatter 14 = .ok (.iconst 1, 1) := by decide +kernel
theorem dX1_decideMatter_15 : decode cX1_decideMatter 15 = .ok (.invokevirtual 95, 3) := by decide +kernel
theorem dX1_decideMatter_18 : decode cX1_decideMatter 18 = .ok (.aload_n 0, 1) := by decide +kernel
theorem dX1_decideMatter_19 : decode cX1_decideMatter 19 = .ok (.getfield 15, 3) := by decide +kernel
theorem dX1_decideMatter_22 : decode cX1_decideMatter 22 = .ok (.iload_n 1, 1) := by decide +kernel
theorem dX1_decideMatter_23 : decode cX1_decideMatter 23 = .ok (.iaload, 1) := by decide +kernel
theorem dX1_decideMatter_24 : decode cX1_decideMatter 24 = .ok (.ireturn, 1) := by decide +kernel
theorem dX1_enterInBook_0 : decode cX1_enterInBook 0 = .ok (.aload_n 0, 1) := by decide +kernel
theorem dX1_enterInBook_1 : decode cX1_enterInBook 1 = .ok (.getfield 15, 3) := by decide +kernel
theorem dX1_enterInBook_4 : decode cX1_enterInBook 4 = .ok (.iload_n 1, 1) := by decide +kernel
theorem dX1_enterInBook_5 : decode cX1_enterInBook 5 = .ok (.iload_n 2, 1) := by decide +kernel
theorem dX1_enterInBook_6 : decode cX1_enterInBook 6 = .ok (.iastore, 1) := by decide +kernel
theorem dX1_enterInBook_7 : decode cX1_enterInBook 7 = .ok (.aload_n 0, 1) := by decide +kernel
theorem dX1_enterInBook_8 : decode cX1_enterInBook 8 = .ok (.getfield 45, 3) := by decide +kernel
theorem dX1_enterInBook_11 : decode cX1_enterInBook 11 = .ok (.bipush 8, 2) := by decide +kernel
theorem dX1_enterInBook_13 : decode cX1_enterInBook 13 = .ok (.if_icmp .ge 23, 3) := by decide +kernel
theorem dX1_enterInBook_16 : decode cX1_enterInBook 16 = .ok (.aload_n 0, 1) := by decide +kernel
theorem dX1_enterInBook_17 : decode cX1_enterInBook 17 = .ok (.getfield 22, 3) := by decide +kernel
theorem dX1_enterInBook_20 : decode cX1_enterInBook 20 = .ok (.aload_n 0, 1) := by decide +kernel
theorem dX1_enterInBook_21 : decode cX1_enterInBook 21 = .ok (.getfield 45, 3) := by decide +kernel
theorem dX1_enterInBook_24 : decode cX1_enterInBook 24 = .ok (.iload_n 1, 1) := by decide +kernel
theorem dX1_enterInBook_25 : decode cX1_enterInBook 25 = .ok (.iastore, 1) := by decide +kernel
theorem dX1_enterInBook_26 : decode cX1_enterInBook 26 = .ok (.aload_n 0, 1) := by decide +kernel
theorem dX1_enterInBook_27 : decode cX1_enterInBook 27 = .ok (.dup, 1) := by decide +kernel
theorem dX1_enterInBook_28 : decode cX1_enterInBook 28 = .ok (.getfield 45, 3) := by decide +kernel
theorem dX1_enterInBook_31 : decode cX1_enterInBook 31 = .ok (.iconst 1, 1) := by decide +kernel
theorem dX1_enterInBook_32 : decode cX1_enterInBook 32 = .ok (.iadd, 1) := by decide +kernel
theorem dX1_enterInBook_33 : decode cX1_enterInBook 33 = .ok (.putfield 45, 3) := by decide +kernel
theorem dX1_enterInBook_36 : decode cX1_enterInBook 36 = .ok (.return_, 1) := by decide +kernel
theorem dX1_isOpposed_0 : decode cX1_isOpposed 0 = .ok (.aload_n 0, 1) := by decide +kernel
theorem dX1_isOpposed_1 : decode cX1_isOpposed 1 = .ok (.iload_n 1, 1) := by decide +kernel
theorem dX1_isOpposed_2 : decode cX1_isOpposed 2 = .ok (.iconst 2, 1) := by decide +kernel
theorem dX1_isOpposed_3 : decode cX1_isOpposed 3 = .ok (.invokevirtual 99, 3) := by decide +kernel
theorem dX1_isOpposed_6 : decode cX1_isOpposed 6 = .ok (.aload_n 0, 1) := by decide +kernel
theorem dX1_isOpposed_7 : decode cX1_isOpposed 7 = .ok (.iload_n 1, 1) := by decide +kernel
theorem dX1_isOpposed_8 : decode cX1_isOpposed 8 = .ok (.iconst 4, 1) := by decide +kernel
theorem dX1_isOpposed_9 : decode cX1_isOpposed 9 = .ok (.invokevirtual 99, 3) := by decide +kernel
theorem dX1_isOpposed_12 : decode cX1_isOpposed 12 = .ok (.iadd, 1) := by decide +kernel
theorem dX1_isOpposed_13 : decode cX1_isOpposed 13 = .ok (.ifCond .le 7, 3) := by decide +kernel
theorem dX1_isOpposed_16 : decode cX1_isOpposed 16 = .ok (.iconst 1, 1) := by decide +kernel
theorem dX1_isOpposed_17 : decode cX1_isOpposed 17 = .ok (.goto 4, 3) := by decide +kernel
theorem dX1_isOpposed_20 : decode cX1_isOpposed 20 = .ok (.iconst 0, 1) := by decide +kernel
theorem dX1_isOpposed_21 : decode cX1_isOpposed 21 = .ok (.ireturn, 1) := by decide +kernel
theorem dX1_firstNotAsked_0 : decode cX1_firstNotAsked 0 = .ok (.iconst 0, 1) := by decide +kernel
theorem dX1_firstNotAsked_1 : decode cX1_firstNotAsked 1 = .ok (.istore_n 2, 1) := by decide +kernel
theorem dX1_firstNotAsked_2 : decode cX1_firstNotAsked 2 = .ok (.iload_n 2, 1) := by decide +kernel
theorem dX1_firstNotAsked_3 : decode cX1_firstNotAsked 3 = .ok (.bipush 6, 2) := by decide +kernel
theorem dX1_firstNotAsked_5 : decode cX1_firstNotAsked 5 = .ok (.if_icmp .ge 27, 3) := by decide +kernel
theorem dX1_firstNotAsked_8 : decode cX1_firstNotAsked 8 = .ok (.aload_n 0, 1) := by decide +kernel
theorem dX1_firstNotAsked_9 : decode cX1_firstNotAsked 9 = .ok (.iload_n 1, 1) := by decide +kernel
theorem dX1_firstNotAsked_10 : decode cX1_firstNotAsked 10 = .ok (.iload_n 2, 1) := by decide +kernel
theorem dX1_firstNotAsked_11 : decode cX1_firstNotAsked 11 = .ok (.invokevirtual 85, 3) := by decide +kernel
theorem dX1_firstNotAsked_14 : decode cX1_firstNotAsked 14 = .ok (.ifCond .eq 12, 3) := by decide +kernel
theorem dX1_firstNotAsked_17 : decode cX1_firstNotAsked 17 = .ok (.aload_n 0, 1) := by decide +kernel
theorem dX1_firstNotAsked_18 : decode cX1_firstNotAsked 18 = .ok (.iload_n 1, 1) := by decide +kernel
theorem dX1_firstNotAsked_19 : decode cX1_firstNotAsked 19 = .ok (.iload_n 2, 1) := by decide +kernel
theorem dX1_firstNotAsked_20 : decode cX1_firstNotAsked 20 = .ok (.invokevirtual 75, 3) := by decide +kernel
theorem dX1_firstNotAsked_23 : decode cX1_firstNotAsked 23 = .ok (.ifCond .eq 9, 3) := by decide +kernel
theorem dX1_firstNotAsked_26 : decode cX1_firstNotAsked 26 = .ok (.iinc 2 1, 3) := by decide +kernel
theorem dX1_firstNotAsked_29 : decode cX1_firstNotAsked 29 = .ok (.goto (-27), 3) := by decide +kernel
theorem dX1_firstNotAsked_32 : decode cX1_firstNotAsked 32 = .ok (.iload_n 2, 1) := by decide +kernel
theorem dX1_firstNotAsked_33 : decode cX1_firstNotAsked 33 = .ok (.ireturn, 1) := by decide +kernel
theorem dX1_tellGuild_0 : decode cX1_tellGuild 0 = .ok (.aload_n 0, 1) := by decide +kernel
theorem dX1_tellGuild_1 : decode cX1_tellGuild 1 = .ok (.getfield 15, 3) := by decide +kernel
theorem dX1_tellGuild_4 : decode cX1_tellGuild 4 = .ok (.iload_n 1, 1) := by decide +kernel
theorem dX1_tellGuild_5 : decode cX1_tellGuild 5 = .ok (.iaload, 1) := by decide +kernel
theorem dX1_tellGuild_6 : decode cX1_tellGuild 6 = .ok (.iconst 1, 1) := by decide +kernel
theorem dX1_tellGuild_7 : decode cX1_tellGuild 7 = .ok (.if_icmp .ne 12, 3) := by decide +kernel
theorem dX1_tellGuild_10 : decode cX1_tellGuild 10 = .ok (.aload_n 0, 1) := by decide +kernel
theorem dX1_tellGuild_11 : decode cX1_tellGuild 11 = .ok (.iload_n 1, 1) := by decide +kernel
theorem dX1_tellGuild_12 : decode cX1_tellGuild 12 = .ok (.iload_n 2, 1) := by decide +kernel
theorem dX1_tellGuild_13 : decode cX1_tellGuild 13 = .ok (.invokevirtual 102, 3) := by decide +kernel
theorem dX1_tellGuild_16 : decode cX1_tellGuild 16 = .ok (.goto 10, 3) := by decide +kernel
theorem dX1_tellGuild_19 : decode cX1_tellGuild 19 = .ok (.aload_n 0, 1) := by decide +kernel
theorem dX1_tellGuild_20 : decode cX1_tellGuild 20 = .ok (.iload_n 1, 1) := by decide +kernel
theorem dX1_tellGuild_21 : decode cX1_tellGuild 21 = .ok (.iload_n 2, 1) := by decide +kernel
theorem dX1_tellGuild_22 : decode cX1_tellGuild 22 = .ok (.iconst 4, 1) := by decide +kernel
theorem dX1_tellGuild_23 : decode cX1_tellGuild 23 = .ok (.invokevirtual 71, 3) := by decide +kernel
theorem dX1_tellGuild_26 : decode cX1_tellGuild 26 = .ok (.aload_n 0, 1) := by decide +kernel
theorem dX1_tellGuild_27 : decode cX1_tellGuild 27 = .ok (.getfield 31, 3) := by decide +kernel
theorem dX1_tellGuild_30 : decode cX1_tellGuild 30 = .ok (.iload_n 2, 1) := by decide +kernel
theorem dX1_tellGuild_31 : decode cX1_tellGuild 31 = .ok (.iaload, 1) := by decide +kernel
theorem dX1_tellGuild_32 : decode cX1_tellGuild 32 = .ok (.ireturn, 1) := by decide +kernel
theorem dX1_sealFor_0 : decode cX1_sealFor 0 = .ok (.aload_n 0, 1) := by decide +kernel
theorem dX1_sealFor_1 : decode cX1_sealFor 1 = .ok (.iload_n 1, 1) := by decide +kernel
theorem dX1_sealFor_2 : decode cX1_sealFor 2 = .ok (.iload_n 2, 1) := by decide +kernel
theorem dX1_sealFor_3 : decode cX1_sealFor 3 = .ok (.iconst 3, 1) := by decide +kernel
theorem dX1_sealFor_4 : decode cX1_sealFor 4 = .ok (.invokevirtual 71, 3) := by decide +kernel
theorem dX1_sealFor_7 : decode cX1_sealFor 7 = .ok (.aload_n 0, 1) := by decide +kernel
theorem dX1_sealFor_8 : decode cX1_sealFor 8 = .ok (.getfield 31, 3) := by decide +kernel
theorem dX1_sealFor_11 : decode cX1_sealFor 11 = .ok (.iload_n 2, 1) := by decide +kernel
theorem dX1_sealFor_12 : decode cX1_sealFor 12 = .ok (.dup2, 1) := by decide +kernel
theorem dX1_sealFor_13 : decode cX1_sealFor 13 = .ok (.iaload, 1) := by decide +kernel
theorem dX1_sealFor_14 : decode cX1_sealFor 14 = .ok (.aload_n 0, 1) := by decide +kernel
theorem dX1_sealFor_15 : decode cX1_sealFor 15 = .ok (.iload_n 1, 1) := by decide +kernel
theorem dX1_sealFor_16 : decode cX1_sealFor 16 = .ok (.iload_n 2, 1) := by decide +kernel
theorem dX1_sealFor_17 : decode cX1_sealFor 17 = .ok (.invokevirtual 82, 3) := by decide +kernel
theorem dX1_sealFor_20 : decode cX1_sealFor 20 = .ok (.iadd, 1) := by decide +kernel
theorem dX1_sealFor_21 : decode cX1_sealFor 21 = .ok (.iastore, 1) := by decide +kernel
theorem dX1_sealFor_22 : decode cX1_sealFor 22 = .ok (.return_, 1) := by decide +kernel
theorem dX1_letHeraldFaint_0 : decode cX1_letHeraldFaint 0 = .ok (.aload_n 0, 1) := by decide +kernel
theorem dX1_letHeraldFaint_1 : decode cX1_letHeraldFaint 1 = .ok (.iconst 0, 1) := by decide +kernel
theorem dX1_letHeraldFaint_2 : decode cX1_letHeraldFaint 2 = .ok (.putfield 9, 3) := by decide +kernel
theorem dX1_letHeraldFaint_5 : decode cX1_letHeraldFaint 5 = .ok (.aload_n 0, 1) := by decide +kernel
theorem dX1_letHeraldFaint_6 : decode cX1_letHeraldFaint 6 = .ok (.dup, 1) := by decide +kernel
theorem dX1_letHeraldFaint_7 : decode cX1_letHeraldFaint 7 = .ok (.getfield 54, 3) := by decide +kernel
theorem dX1_letHeraldFaint_10 : decode cX1_letHeraldFaint 10 = .ok (.iconst 1, 1) := by decide +kernel
theorem dX1_letHeraldFaint_11 : decode cX1_letHeraldFaint 11 = .ok (.iadd, 1) := by decide +kernel
theorem dX1_letHeraldFaint_12 : decode cX1_letHeraldFaint 12 = .ok (.putfield 54, 3) := by decide +kernel
theorem dX1_letHeraldFaint_15 : decode cX1_letHeraldFaint 15 = .ok (.aload_n 0, 1) := by decide +kernel
theorem dX1_letHeraldFaint_16 : decode cX1_letHeraldFaint 16 = .ok (.iconst 0, 1) := by decide +kernel
theorem dX1_letHeraldFaint_17 : decode cX1_letHeraldFaint 17 = .ok (.invokevirtual 105, 3) := by decide +kernel
theorem dX1_letHeraldFaint_20 : decode cX1_letHeraldFaint 20 = .ok (.ireturn, 1) := by decide +kernel
theorem dX1_letHeraldWake_0 : decode cX1_letHeraldWake 0 = .ok (.aload_n 0, 1) := by decide +kernel
theorem dX1_letHeraldWake_1 : decode cX1_letHeraldWake 1 = .ok (.iconst 1, 1) := by decide +kernel
theorem dX1_letHeraldWake_2 : decode cX1_letHeraldWake 2 = .ok (.putfield 9, 3) := by decide +kernel
theorem dX1_letHeraldWake_5 : decode cX1_letHeraldWake 5 = .ok (.aload_n 0, 1) := by decide +kernel
theorem dX1_letHeraldWake_6 : decode cX1_letHeraldWake 6 = .ok (.getfield 45, 3) := by decide +kernel
theorem dX1_letHeraldWake_9 : decode cX1_letHeraldWake 9 = .ok (.istore_n 1, 1) := by decide +kernel
theorem dX1_letHeraldWake_10 : decode cX1_letHeraldWake 10 = .ok (.iconst 0, 1) := by decide +kernel
theorem dX1_letHeraldWake_11 : decode cX1_letHeraldWake 11 = .ok (.istore_n 2, 1) := by decide +kernel
theorem dX1_letHeraldWake_12 : decode cX1_letHeraldWake 12 = .ok (.iload_n 2, 1) := by decide +kernel
theorem dX1_letHeraldWake_13 : decode cX1_letHeraldWake 13 = .ok (.aload_n 0, 1) := by decide +kernel
theorem dX1_letHeraldWake_14 : decode cX1_letHeraldWake 14 = .ok (.getfield 41, 3) := by decide +kernel
theorem dX1_letHeraldWake_17 : decode cX1_letHeraldWake 17 = .ok (.if_icmp .ge 32, 3) := by decide +kernel
theorem dX1_letHeraldWake_20 : decode cX1_letHeraldWake 20 = .ok (.aload_n 0, 1) := by decide +kernel
theorem dX1_letHeraldWake_21 : decode cX1_letHeraldWake 21 = .ok (.getfield 15, 3) := by decide +kernel
theorem dX1_letHeraldWake_24 : decode cX1_letHeraldWake 24 = .ok (.iload_n 2, 1) := by decide +kernel
theorem dX1_letHeraldWake_25 : decode cX1_letHeraldWake 25 = .ok (.iaload, 1) := by decide +kernel
theorem dX1_letHeraldWake_26 : decode cX1_letHeraldWake 26 = .ok (.ifCond .ne 17, 3) := by decide +kernel
theorem dX1_letHeraldWake_29 : decode cX1_letHeraldWake 29 = .ok (.aload_n 0, 1) := by decide +kernel
theorem dX1_letHeraldWake_30 : decode cX1_letHeraldWake 30 = .ok (.iload_n 2, 1) := by decide +kernel
theorem dX1_letHeraldWake_31 : decode cX1_letHeraldWake 31 = .ok (.invokevirtual 108, 3) := by decide +kernel
theorem dX1_letHeraldWake_34 : decode cX1_letHeraldWake 34 = .ok (.ifCond .le 9, 3) := by decide +kernel
theorem dX1_letHeraldWake_37 : decode cX1_letHeraldWake 37 = .ok (.aload_n 0, 1) := by decide +kernel
theorem dX1_letHeraldWake_38 : decode cX1_letHeraldWake 38 = .ok (.iload_n 2, 1) := by decide +kernel
theorem dX1_letHeraldWake_39 : decode cX1_letHeraldWake 39 = .ok (.iconst 2, 1) := by decide +kernel
theorem dX1_letHeraldWake_40 : decode cX1_letHeraldWake 40 = .ok (.invokevirtual 95, 3) := by decide +kernel
theorem dX1_letHeraldWake_43 : decode cX1_letHeraldWake 43 = .ok (.iinc 2 1, 3) := by decide +kernel
theorem dX1_letHeraldWake_46 : decode cX1_letHeraldWake 46 = .ok (.goto (-34), 3) := by decide +kernel
theorem dX1_letHeraldWake_49 : decode cX1_letHeraldWake 49 = .ok (.aload_n 0, 1) := by decide +kernel
theorem dX1_letHeraldWake_50 : decode cX1_letHeraldWake 50 = .ok (.getfield 45, 3) := by decide +kernel
theorem dX1_letHeraldWake_53 : decode cX1_letHeraldWake 53 = .ok (.iload_n 1, 1) := by decide +kernel
theorem dX1_letHeraldWake_54 : decode cX1_letHeraldWake 54 = .ok (.isub, 1) := by decide +kernel
theorem dX1_letHeraldWake_55 : decode cX1_letHeraldWake 55 = .ok (.ireturn, 1) := by decide +kernel
theorem dX1_makeAwake_0 : decode cX1_makeAwake 0 = .ok (.aload_n 0, 1) := by decide +kernel
theorem dX1_makeAwake_1 : decode cX1_makeAwake 1 = .ok (.getfield 37, 3) := by decide +kernel
theorem dX1_makeAwake_4 : decode cX1_makeAwake 4 = .ok (.iload_n 1, 1) := by decide +kernel
theorem dX1_makeAwake_5 : decode cX1_makeAwake 5 = .ok (.iload_n 2, 1) := by decide +kernel
theorem dX1_makeAwake_6 : decode cX1_makeAwake 6 = .ok (.bastore, 1) := by decide +kernel
theorem dX1_makeAwake_7 : decode cX1_makeAwake 7 = .ok (.aload_n 0, 1) := by decide +kernel
theorem dX1_makeAwake_8 : decode cX1_makeAwake 8 = .ok (.invokevirtual 111, 3) := by decide +kernel
theorem dX1_makeAwake_11 : decode cX1_makeAwake 11 = .ok (.ireturn, 1) := by decide +kernel
theorem dX1_inquireOf_0 : decode cX1_inquireOf 0 = .ok (.aload_n 0, 1) := by decide +kernel
theorem dX1_inquireOf_1 : decode cX1_inquireOf 1 = .ok (.dup, 1) := by decide +kernel
theorem dX1_inquireOf_2 : decode cX1_inquireOf 2 = .ok (.getfield 51, 3) := by decide +kernel
theorem dX1_inquireOf_5 : decode cX1_inquireOf 5 = .ok (.iconst 1, 1) := by decide +kernel
theorem dX1_inquireOf_6 : decode cX1_inquireOf 6 = .ok (.iadd, 1) := by decide +kernel
theorem dX1_inquireOf_7 : decode cX1_inquireOf 7 = .ok (.putfield 51, 3) := by decide +kernel
theorem dX1_inquireOf_10 : decode cX1_inquireOf 10 = .ok (.aload_n 0, 1) := by decide +kernel
theorem dX1_inquireOf_11 : decode cX1_inquireOf 11 = .ok (.iload_n 1, 1) := by decide +kernel
theorem dX1_inquireOf_12 : decode cX1_inquireOf 12 = .ok (.iload_n 3, 1) := by decide +kernel
theorem dX1_inquireOf_13 : decode cX1_inquireOf 13 = .ok (.invokevirtual 75, 3) := by decide +kernel
theorem dX1_inquireOf_16 : decode cX1_inquireOf 16 = .ok (.istore 4, 2) := by decide +kernel
theorem dX1_inquireOf_18 : decode cX1_inquireOf 18 = .ok (.iload 4, 2) := by decide +kernel
theorem dX1_inquireOf_20 : decode cX1_inquireOf 20 = .ok (.iconst 3, 1) := by decide +kernel
theorem dX1_inquireOf_21 : decode cX1_inquireOf 21 = .ok (.if_icmp .ne 12, 3) := by decide +kernel
theorem dX1_inquireOf_24 : decode cX1_inquireOf 24 = .ok (.aload_n 0, 1) := by decide +kernel
theorem dX1_inquireOf_25 : decode cX1_inquireOf 25 = .ok (.iload_n 1, 1) := by decide +kernel
theorem dX1_inquireOf_26 : decode cX1_inquireOf 26 = .ok (.iload_n 2, 1) := by decide +kernel
theorem dX1_inquireOf_27 : decode cX1_inquireOf 27 = .ok (.invokevirtual 102, 3) := by decide +kernel
theorem dX1_inquireOf_30 : decode cX1_inquireOf 30 = .ok (.goto 10, 3) := by decide +kernel
theorem dX1_inquireOf_33 : decode cX1_inquireOf 33 = .ok (.aload_n 0, 1) := by decide +kernel
theorem dX1_inquireOf_34 : decode cX1_inquireOf 34 = .ok (.iload_n 1, 1) := by decide +kernel
theorem dX1_inquireOf_35 : decode cX1_inquireOf 35 = .ok (.iload_n 2, 1) := by decide +kernel
theorem dX1_inquireOf_36 : decode cX1_inquireOf 36 = .ok (.iconst 4, 1) := by decide +kernel
theorem dX1_inquireOf_37 : decode cX1_inquireOf 37 = .ok (.invokevirtual 71, 3) := by decide +kernel
theorem dX1_inquireOf_40 : decode cX1_inquireOf 40 = .ok (.iload 4, 2) := by decide +kernel
theorem dX1_inquireOf_42 : decode cX1_inquireOf 42 = .ok (.ifCond .ne 10, 3) := by decide +kernel
theorem dX1_inquireOf_45 : decode cX1_inquireOf 45 = .ok (.aload_n 0, 1) := by decide +kernel
theorem dX1_inquireOf_46 : decode cX1_inquireOf 46 = .ok (.iload_n 1, 1) := by decide +kernel
theorem dX1_inquireOf_47 : decode cX1_inquireOf 47 = .ok (.iload_n 3, 1) := by decide +kernel
theorem dX1_inquireOf_48 : decode cX1_inquireOf 48 = .ok (.iconst 2, 1) := by decide +kernel
theorem dX1_inquireOf_49 : decode cX1_inquireOf 49 = .ok (.invokevirtual 71, 3) := by decide +kernel
theorem dX1_inquireOf_52 : decode cX1_inquireOf 52 = .ok (.aload_n 0, 1) := by decide +kernel
theorem dX1_inquireOf_53 : decode cX1_inquireOf 53 = .ok (.iload_n 1, 1) := by decide +kernel
theorem dX1_inquireOf_54 : decode cX1_inquireOf 54 = .ok (.iload_n 2, 1) := by decide +kernel
theorem dX1_inquireOf_55 : decode cX1_inquireOf 55 = .ok (.invokevirtual 75, 3) := by decide +kernel
theorem dX1_inquireOf_58 : decode cX1_inquireOf 58 = .ok (.ireturn, 1) := by decide +kernel
theorem dX1_letHoursPass_0 : decode cX1_letHoursPass 0 = .ok (.aload_n 0, 1) := by decide +kernel
theorem dX1_letHoursPass_1 : decode cX1_letHoursPass 1 = .ok (.dup, 1) := by decide +kernel
theorem dX1_letHoursPass_2 : decode cX1_letHoursPass 2 = .ok (.getfield 48, 3) := by decide +kernel
theorem dX1_letHoursPass_5 : decode cX1_letHoursPass 5 = .ok (.iload_n 1, 1) := by decide +kernel
theorem dX1_letHoursPass_6 : decode cX1_letHoursPass 6 = .ok (.iadd, 1) := by decide +kernel
theorem dX1_letHoursPass_7 : decode cX1_letHoursPass 7 = .ok (.putfield 48, 3) := by decide +kernel
theorem dX1_letHoursPass_10 : decode cX1_letHoursPass 10 = .ok (.iconst 0, 1) := by decide +kernel
theorem dX1_letHoursPass_11 : decode cX1_letHoursPass 11 = .ok (.istore_n 2, 1) := by decide +kernel
theorem dX1_letHoursPass_12 : decode cX1_letHoursPass 12 = .ok (.iconst 0, 1) := by decide +kernel
theorem dX1_letHoursPass_13 : decode cX1_letHoursPass 13 = .ok (.istore_n 3, 1) := by decide +kernel
theorem dX1_letHoursPass_14 : decode cX1_letHoursPass 14 = .ok (.iload_n 3, 1) := by decide +kernel
theorem dX1_letHoursPass_15 : decode cX1_letHoursPass 15 = .ok (.bipush 6, 2) := by decide +kernel
theorem dX1_letHoursPass_17 : decode cX1_letHoursPass 17 = .ok (.if_icmp .ge 32, 3) := by decide +kernel
theorem dX1_letHoursPass_20 : decode cX1_letHoursPass 20 = .ok (.aload_n 0, 1) := by decide +kernel
theorem dX1_letHoursPass_21 : decode cX1_letHoursPass 21 = .ok (.iload_n 3, 1) := by decide +kernel
theorem dX1_letHoursPass_22 : decode cX1_letHoursPass 22 = .ok (.invokevirtual 79, 3) := by decide +kernel
theorem dX1_letHoursPass_25 : decode cX1_letHoursPass 25 = .ok (.iconst (-1), 1) := by decide +kernel
theorem dX1_letHoursPass_26 : decode cX1_letHoursPass 26 = .ok (.if_icmp .eq 17, 3) := by decide +kernel
theorem dX1_letHoursPass_29 : decode cX1_letHoursPass 29 = .ok (.aload_n 0, 1) := by decide +kernel
theorem dX1_letHoursPass_30 : decode cX1_letHoursPass 30 = .ok (.getfield 34, 3) := by decide +kernel
theorem dX1_letHoursPass_33 : decode cX1_letHoursPass 33 = .ok (.iload_n 3, 1) := by decide +kernel
theorem dX1_letHoursPass_34 : decode cX1_letHoursPass 34 = .ok (.dup2, 1) := by decide +kernel
theorem dX1_letHoursPass_35 : decode cX1_letHoursPass 35 = .ok (.iaload, 1) := by decide +kernel
theorem dX1_letHoursPass_36 : decode cX1_letHoursPass 36 = .ok (.iload_n 1, 1) := by decide +kernel
theorem dX1_letHoursPass_37 : decode cX1_letHoursPass 37 = .ok (.iadd, 1) := by decide +kernel
theorem dX1_letHoursPass_38 : decode cX1_letHoursPass 38 = .ok (.iastore, 1) := by decide +kernel
theorem dX1_letHoursPass_39 : decode cX1_letHoursPass 39 = .ok (.iload_n 2, 1) := by decide +kernel
theorem dX1_letHoursPass_40 : decode cX1_letHoursPass 40 = .ok (.iload_n 1, 1) := by decide +kernel
theorem dX1_letHoursPass_41 : decode cX1_letHoursPass 41 = .ok (.iadd, 1) := by decide +kernel
theorem dX1_letHoursPass_42 : decode cX1_letHoursPass 42 = .ok (.istore_n 2, 1) := by decide +kernel
theorem dX1_letHoursPass_43 : decode cX1_letHoursPass 43 = .ok (.iinc 3 1, 3) := by decide +kernel
theorem dX1_letHoursPass_46 : decode cX1_letHoursPass 46 = .ok (.goto (-32), 3) := by decide +kernel
theorem dX1_letHoursPass_49 : decode cX1_letHoursPass 49 = .ok (.iload_n 2, 1) := by decide +kernel
theorem dX1_letHoursPass_50 : decode cX1_letHoursPass 50 = .ok (.ireturn, 1) := by decide +kernel
theorem dX1_doubtOf_0 : decode cX1_doubtOf 0 = .ok (.iconst 0, 1) := by decide +kernel
theorem dX1_doubtOf_1 : decode cX1_doubtOf 1 = .ok (.istore_n 2, 1) := by decide +kernel
theorem dX1_doubtOf_2 : decode cX1_doubtOf 2 = .ok (.iload_n 2, 1) := by decide +kernel
theorem dX1_doubtOf_3 : decode cX1_doubtOf 3 = .ok (.aload_n 0, 1) := by decide +kernel
theorem dX1_doubtOf_4 : decode cX1_doubtOf 4 = .ok (.getfield 41, 3) := by decide +kernel
theorem dX1_doubtOf_7 : decode cX1_doubtOf 7 = .ok (.if_icmp .ge 21, 3) := by decide +kernel
theorem dX1_doubtOf_10 : decode cX1_doubtOf 10 = .ok (.aload_n 0, 1) := by decide +kernel
theorem dX1_doubtOf_11 : decode cX1_doubtOf 11 = .ok (.iload_n 2, 1) := by decide +kernel
theorem dX1_doubtOf_12 : decode cX1_doubtOf 12 = .ok (.iload_n 1, 1) := by decide +kernel
theorem dX1_doubtOf_13 : decode cX1_doubtOf 13 = .ok (.invokevirtual 75, 3) := by decide +kernel
theorem dX1_doubtOf_16 : decode cX1_doubtOf 16 = .ok (.iconst 1, 1) := by decide +kernel
theorem dX1_doubtOf_17 : decode cX1_doubtOf 17 = .ok (.if_icmp .ne 5, 3) := by decide +kernel
theorem dX1_doubtOf_20 : decode cX1_doubtOf 20 = .ok (.iload_n 2, 1) := by decide +kernel
theorem dX1_doubtOf_21 : decode cX1_doubtOf 21 = .ok (.ireturn, 1) := by decide +kernel
theorem dX1_doubtOf_22 : decode cX1_doubtOf 22 = .ok (.iinc 2 1, 3) := by decide +kernel
theorem dX1_doubtOf_25 : decode cX1_doubtOf 25 = .ok (.goto (-23), 3) := by decide +kernel
theorem dX1_doubtOf_28 : decode cX1_doubtOf 28 = .ok (.iconst (-1), 1) := by decide +kernel
theorem dX1_doubtOf_29 : decode cX1_doubtOf 29 = .ok (.ireturn, 1) := by decide +kernel
theorem dX1_canLearnByGuilds_0 : decode cX1_canLearnByGuilds 0 = .ok (.aload_n 0, 1) := by decide +kernel
theorem dX1_canLearnByGuilds_1 : decode cX1_canLearnByGuilds 1 = .ok (.iload_n 1, 1) := by decide +kernel
theorem dX1_canLearnByGuilds_2 : decode cX1_canLearnByGuilds 2 = .ok (.invokevirtual 79, 3) := by decide +kernel
theorem dX1_canLearnByGuilds_5 : decode cX1_canLearnByGuilds 5 = .ok (.istore_n 2, 1) := by decide +kernel
theorem dX1_canLearnByGuilds_6 : decode cX1_canLearnByGuilds 6 = .ok (.iload_n 2, 1) := by decide +kernel
theorem dX1_canLearnByGuilds_7 : decode cX1_canLearnByGuilds 7 = .ok (.iconst (-1), 1) := by decide +kernel
theorem dX1_canLearnByGuilds_8 : decode cX1_canLearnByGuilds 8 = .ok (.if_icmp .eq 12, 3) := by decide +kernel
theorem dX1_canLearnByGuilds_11 : decode cX1_canLearnByGuilds 11 = .ok (.aload_n 0, 1) := by decide +kernel
theorem dX1_canLearnByGuilds_12 : decode cX1_canLearnByGuilds 12 = .ok (.getfield 37, 3) := by decide +kernel
theorem dX1_canLearnByGuilds_15 : decode cX1_canLearnByGuilds 15 = .ok (.iload_n 1, 1) := by decide +kernel
theorem dX1_canLearnByGuilds_16 : decode cX1_canLearnByGuilds 16 = .ok (.baload, 1) := by decide +kernel
theorem dX1_canLearnByGuilds_17 : decode cX1_canLearnByGuilds 17 = .ok (.ifCond .ne 5, 3) := by decide +kernel
theorem dX1_canLearnByGuilds_20 : decode cX1_canLearnByGuilds 20 = .ok (.iconst 0, 1) := by decide +kernel
theorem dX1_canLearnByGuilds_21 : decode cX1_canLearnByGuilds 21 = .ok (.ireturn, 1) := by decide +kernel
theorem dX1_canLearnByGuilds_22 : decode cX1_canLearnByGuilds 22 = .ok (.iconst 0, 1) := by decide +kernel
theorem dX1_canLearnByGuilds_23 : decode cX1_canLearnByGuilds 23 = .ok (.istore_n 3, 1) := by decide +kernel
theorem dX1_canLearnByGuilds_24 : decode cX1_canLearnByGuilds 24 = .ok (.iload_n 3, 1) := by decide +kernel
theorem dX1_canLearnByGuilds_25 : decode cX1_canLearnByGuilds 25 = .ok (.bipush 6, 2) := by decide +kernel
theorem dX1_canLearnByGuilds_27 : decode cX1_canLearnByGuilds 27 = .ok (.if_icmp .ge 44, 3) := by decide +kernel
theorem dX1_canLearnByGuilds_30 : decode cX1_canLearnByGuilds 30 = .ok (.iload_n 3, 1) := by decide +kernel
theorem dX1_canLearnByGuilds_31 : decode cX1_canLearnByGuilds 31 = .ok (.iload_n 1, 1) := by decide +kernel
theorem dX1_canLearnByGuilds_32 : decode cX1_canLearnByGuilds 32 = .ok (.if_icmp .eq 33, 3) := by decide +kernel
theorem dX1_canLearnByGuilds_35 : decode cX1_canLearnByGuilds 35 = .ok (.aload_n 0, 1) := by decide +kernel
theorem dX1_canLearnByGuilds_36 : decode cX1_canLearnByGuilds 36 = .ok (.iload_n 2, 1) := by decide +kernel
theorem dX1_canLearnByGuilds_37 : decode cX1_canLearnByGuilds 37 = .ok (.iload_n 3, 1) := by decide +kernel
theorem dX1_canLearnByGuilds_38 : decode cX1_canLearnByGuilds 38 = .ok (.invokevirtual 85, 3) := by decide +kernel
theorem dX1_canLearnByGuilds_41 : decode cX1_canLearnByGuilds 41 = .ok (.ifCond .eq 24, 3) := by decide +kernel
theorem dX1_canLearnByGuilds_44 : decode cX1_canLearnByGuilds 44 = .ok (.aload_n 0, 1) := by decide +kernel
theorem dX1_canLearnByGuilds_45 : decode cX1_canLearnByGuilds 45 = .ok (.getfield 37, 3) := by decide +kernel
theorem dX1_canLearnByGuilds_48 : decode cX1_canLearnByGuilds 48 = .ok (.iload_n 3, 1) := by decide +kernel
theorem dX1_canLearnByGuilds_49 : decode cX1_canLearnByGuilds 49 = .ok (.baload, 1) := by decide +kernel
theorem dX1_canLearnByGuilds_50 : decode cX1_canLearnByGuilds 50 = .ok (.ifCond .eq 15, 3) := by decide +kernel
theorem dX1_canLearnByGuilds_53 : decode cX1_canLearnByGuilds 53 = .ok (.aload_n 0, 1) := by decide +kernel
theorem dX1_canLearnByGuilds_54 : decode cX1_canLearnByGuilds 54 = .ok (.iload_n 2, 1) := by decide +kernel
theorem dX1_canLearnByGuilds_55 : decode cX1_canLearnByGuilds 55 = .ok (.iload_n 3, 1) := by decide +kernel
theorem dX1_canLearnByGuilds_56 : decode cX1_canLearnByGuilds 56 = .ok (.invokevirtual 75, 3) := by decide +kernel
theorem dX1_canLearnByGuilds_59 : decode cX1_canLearnByGuilds 59 = .ok (.iconst 1, 1) := by decide +kernel
theorem dX1_canLearnByGuilds_60 : decode cX1_canLearnByGuilds 60 = .ok (.if_icmp .eq 5, 3) := by decide +kernel
theorem dX1_canLearnByGuilds_63 : decode cX1_canLearnByGuilds 63 = .ok (.iconst 1, 1) := by decide +kernel
theorem dX1_canLearnByGuilds_64 : decode cX1_canLearnByGuilds 64 = .ok (.ireturn, 1) := by decide +kernel
theorem dX1_canLearnByGuilds_65 : decode cX1_canLearnByGuilds 65 = .ok (.iinc 3 1, 3) := by decide +kernel
theorem dX1_canLearnByGuilds_68 : decode cX1_canLearnByGuilds 68 = .ok (.goto (-44), 3) := by decide +kernel
theorem dX1_canLearnByGuilds_71 : decode cX1_canLearnByGuilds 71 = .ok (.iconst 0, 1) := by decide +kernel
theorem dX1_canLearnByGuilds_72 : decode cX1_canLearnByGuilds 72 = .ok (.ireturn, 1) := by decide +kernel
theorem dX1_canLearnBySets_0 : decode cX1_canLearnBySets 0 = .ok (.aload_n 0, 1) := by decide +kernel
theorem dX1_canLearnBySets_1 : decode cX1_canLearnBySets 1 = .ok (.invokevirtual 115, 3) := by decide +kernel
theorem dX1_canLearnBySets_4 : decode cX1_canLearnBySets 4 = .ok (.istore_n 2, 1) := by decide +kernel
theorem dX1_canLearnBySets_5 : decode cX1_canLearnBySets 5 = .ok (.iconst 0, 1) := by decide +kernel
theorem dX1_canLearnBySets_6 : decode cX1_canLearnBySets 6 = .ok (.istore_n 3, 1) := by decide +kernel
theorem dX1_canLearnBySets_7 : decode cX1_canLearnBySets 7 = .ok (.iload_n 3, 1) := by decide +kernel
theorem dX1_canLearnBySets_8 : decode cX1_canLearnBySets 8 = .ok (.aload_n 0, 1) := by decide +kernel
theorem dX1_canLearnBySets_9 : decode cX1_canLearnBySets 9 = .ok (.getfield 41, 3) := by decide +kernel
theorem dX1_canLearnBySets_12 : decode cX1_canLearnBySets 12 = .ok (.if_icmp .ge 48, 3) := by decide +kernel
theorem dX1_canLearnBySets_15 : decode cX1_canLearnBySets 15 = .ok (.aload_n 0, 1) := by decide +kernel
theorem dX1_canLearnBySets_16 : decode cX1_canLearnBySets 16 = .ok (.iload_n 3, 1) := by decide +kernel
theorem dX1_canLearnBySets_17 : decode cX1_canLearnBySets 17 = .ok (.invokevirtual 118, 3) := by decide +kernel
theorem dX1_canLearnBySets_20 : decode cX1_canLearnBySets 20 = .ok (.istore 4, 2) := by decide +kernel
theorem dX1_canLearnBySets_22 : decode cX1_canLearnBySets 22 = .ok (.aload_n 0, 1) := by decide +kernel
theorem dX1_canLearnBySets_23 : decode cX1_canLearnBySets 23 = .ok (.iload_n 3, 1) := by decide +kernel
theorem dX1_canLearnBySets_24 : decode cX1_canLearnBySets 24 = .ok (.invokevirtual 121, 3) := by decide +kernel
theorem dX1_canLearnBySets_27 : decode cX1_canLearnBySets 27 = .ok (.iload 4, 2) := by decide +kernel
theorem dX1_canLearnBySets_29 : decode cX1_canLearnBySets 29 = .ok (.iconst (-1), 1) := by decide +kernel
theorem dX1_canLearnBySets_30 : decode cX1_canLearnBySets 30 = .ok (.ixor, 1) := by decide +kernel
theorem dX1_canLearnBySets_31 : decode cX1_canLearnBySets 31 = .ok (.iand, 1) := by decide +kernel
theorem dX1_canLearnBySets_32 : decode cX1_canLearnBySets 32 = .ok (.iload_n 2, 1) := by decide +kernel
theorem dX1_canLearnBySets_33 : decode cX1_canLearnBySets 33 = .ok (.iand, 1) := by decide +kernel
theorem dX1_canLearnBySets_34 : decode cX1_canLearnBySets 34 = .ok (.istore 5, 2) := by decide +kernel
theorem dX1_canLearnBySets_36 : decode cX1_canLearnBySets 36 = .ok (.iload 4, 2) := by decide +kernel
theorem dX1_canLearnBySets_38 : decode cX1_canLearnBySets 38 = .ok (.iload_n 2, 1) := by decide +kernel
theorem dX1_canLearnBySets_39 : decode cX1_canLearnBySets 39 = .ok (.iand, 1) := by decide +kernel
theorem dX1_canLearnBySets_40 : decode cX1_canLearnBySets 40 = .ok (.iconst 1, 1) := by decide +kernel
theorem dX1_canLearnBySets_41 : decode cX1_canLearnBySets 41 = .ok (.iload_n 1, 1) := by decide +kernel
theorem dX1_canLearnBySets_42 : decode cX1_canLearnBySets 42 = .ok (.ishl, 1) := by decide +kernel
theorem dX1_canLearnBySets_43 : decode cX1_canLearnBySets 43 = .ok (.iand, 1) := by decide +kernel
theorem dX1_canLearnBySets_44 : decode cX1_canLearnBySets 44 = .ok (.ifCond .eq 10, 3) := by decide +kernel
theorem dX1_canLearnBySets_47 : decode cX1_canLearnBySets 47 = .ok (.iload 5, 2) := by decide +kernel
theorem dX1_canLearnBySets_49 : decode cX1_canLearnBySets 49 = .ok (.ifCond .eq 5, 3) := by decide +kernel
theorem dX1_canLearnBySets_52 : decode cX1_canLearnBySets 52 = .ok (.iconst 1, 1) := by decide +kernel
theorem dX1_canLearnBySets_53 : decode cX1_canLearnBySets 53 = .ok (.ireturn, 1) := by decide +kernel
theorem dX1_canLearnBySets_54 : decode cX1_canLearnBySets 54 = .ok (.iinc 3 1, 3) := by decide +kernel
theorem dX1_canLearnBySets_57 : decode cX1_canLearnBySets 57 = .ok (.goto (-50), 3) := by decide +kernel
theorem dX1_canLearnBySets_60 : decode cX1_canLearnBySets 60 = .ok (.iconst 0, 1) := by decide +kernel
theorem dX1_canLearnBySets_61 : decode cX1_canLearnBySets 61 = .ok (.ireturn, 1) := by decide +kernel
theorem dX1_setOfAwake_0 : decode cX1_setOfAwake 0 = .ok (.iconst 0, 1) := by decide +kernel
theorem dX1_setOfAwake_1 : decode cX1_setOfAwake 1 = .ok (.istore_n 1, 1) := by decide +kernel
theorem dX1_setOfAwake_2 : decode cX1_setOfAwake 2 = .ok (.iconst 0, 1) := by decide +kernel
theorem dX1_setOfAwake_3 : decode cX1_setOfAwake 3 = .ok (.istore_n 2, 1) := by decide +kernel
theorem dX1_setOfAwake_4 : decode cX1_setOfAwake 4 = .ok (.iload_n 2, 1) := by decide +kernel
theorem dX1_setOfAwake_5 : decode cX1_setOfAwake 5 = .ok (.bipush 6, 2) := by decide +kernel
theorem dX1_setOfAwake_7 : decode cX1_setOfAwake 7 = .ok (.if_icmp .ge 28, 3) := by decide +kernel
theorem dX1_setOfAwake_10 : decode cX1_setOfAwake 10 = .ok (.iload_n 1, 1) := by decide +kernel
theorem dX1_setOfAwake_11 : decode cX1_setOfAwake 11 = .ok (.aload_n 0, 1) := by decide +kernel
theorem dX1_setOfAwake_12 : decode cX1_setOfAwake 12 = .ok (.getfield 37, 3) := by decide +kernel
theorem dX1_setOfAwake_15 : decode cX1_setOfAwake 15 = .ok (.iload_n 2, 1) := by decide +kernel
theorem dX1_setOfAwake_16 : decode cX1_setOfAwake 16 = .ok (.baload, 1) := by decide +kernel
theorem dX1_setOfAwake_17 : decode cX1_setOfAwake 17 = .ok (.ifCond .eq 9, 3) := by decide +kernel
theorem dX1_setOfAwake_20 : decode cX1_setOfAwake 20 = .ok (.iconst 1, 1) := by decide +kernel
theorem dX1_setOfAwake_21 : decode cX1_setOfAwake 21 = .ok (.iload_n 2, 1) := by decide +kernel
theorem dX1_setOfAwake_22 : decode cX1_setOfAwake 22 = .ok (.ishl, 1) := by decide +kernel
theorem dX1_setOfAwake_23 : decode cX1_setOfAwake 23 = .ok (.goto 4, 3) := by decide +kernel
theorem dX1_setOfAwake_26 : decode cX1_setOfAwake 26 = .ok (.iconst 0, 1) := by decide +kernel
theorem dX1_setOfAwake_27 : decode cX1_setOfAwake 27 = .ok (.ior, 1) := by decide +kernel
theorem dX1_setOfAwake_28 : decode cX1_setOfAwake 28 = .ok (.istore_n 1, 1) := by decide +kernel
theorem dX1_setOfAwake_29 : decode cX1_setOfAwake 29 = .ok (.iinc 2 1, 3) := by decide +kernel
theorem dX1_setOfAwake_32 : decode cX1_setOfAwake 32 = .ok (.goto (-28), 3) := by decide +kernel
theorem dX1_setOfAwake_35 : decode cX1_setOfAwake 35 = .ok (.iload_n 1, 1) := by decide +kernel
theorem dX1_setOfAwake_36 : decode cX1_setOfAwake 36 = .ok (.ireturn, 1) := by decide +kernel
theorem dX1_setOfDoubters_0 : decode cX1_setOfDoubters 0 = .ok (.iconst 0, 1) := by decide +kernel
theorem dX1_setOfDoubters_1 : decode cX1_setOfDoubters 1 = .ok (.istore_n 2, 1) := by decide +kernel
theorem dX1_setOfDoubters_2 : decode cX1_setOfDoubters 2 = .ok (.iconst 0, 1) := by decide +kernel
theorem dX1_setOfDoubters_3 : decode cX1_setOfDoubters 3 = .ok (.istore_n 3, 1) := by decide +kernel
theorem dX1_setOfDoubters_4 : decode cX1_setOfDoubters 4 = .ok (.iload_n 3, 1) := by decide +kernel
theorem dX1_setOfDoubters_5 : decode cX1_setOfDoubters 5 = .ok (.bipush 6, 2) := by decide +kernel
theorem dX1_setOfDoubters_7 : decode cX1_setOfDoubters 7 = .ok (.if_icmp .ge 29, 3) := by decide +kernel
theorem dX1_setOfDoubters_10 : decode cX1_setOfDoubters 10 = .ok (.iload_n 2, 1) := by decide +kernel
theorem dX1_setOfDoubters_11 : decode cX1_setOfDoubters 11 = .ok (.aload_n 0, 1) := by decide +kernel
theorem dX1_setOfDoubters_12 : decode cX1_setOfDoubters 12 = .ok (.iload_n 1, 1) := by decide +kernel
theorem dX1_setOfDoubters_13 : decode cX1_setOfDoubters 13 = .ok (.iload_n 3, 1) := by decide +kernel
theorem dX1_setOfDoubters_14 : decode cX1_setOfDoubters 14 = .ok (.invokevirtual 75, 3) := by decide +kernel
theorem dX1_setOfDoubters_17 : decode cX1_setOfDoubters 17 = .ok (.iconst 1, 1) := by decide +kernel
theorem dX1_setOfDoubters_18 : decode cX1_setOfDoubters 18 = .ok (.if_icmp .ne 9, 3) := by decide +kernel
theorem dX1_setOfDoubters_21 : decode cX1_setOfDoubters 21 = .ok (.iconst 1, 1) := by decide +kernel
theorem dX1_setOfDoubters_22 : decode cX1_setOfDoubters 22 = .ok (.iload_n 3, 1) := by decide +kernel
theorem dX1_setOfDoubters_23 : decode cX1_setOfDoubters 23 = .ok (.ishl, 1) := by decide +kernel
theorem dX1_setOfDoubters_24 : decode cX1_setOfDoubters 24 = .ok (.goto 4, 3) := by decide +kernel
theorem dX1_setOfDoubters_27 : decode cX1_setOfDoubters 27 = .ok (.iconst 0, 1) := by decide +kernel
theorem dX1_setOfDoubters_28 : decode cX1_setOfDoubters 28 = .ok (.ior, 1) := by decide +kernel
theorem dX1_setOfDoubters_29 : decode cX1_setOfDoubters 29 = .ok (.istore_n 2, 1) := by decide +kernel
theorem dX1_setOfDoubters_30 : decode cX1_setOfDoubters 30 = .ok (.iinc 3 1, 3) := by decide +kernel
theorem dX1_setOfDoubters_33 : decode cX1_setOfDoubters 33 = .ok (.goto (-29), 3) := by decide +kernel
theorem dX1_setOfDoubters_36 : decode cX1_setOfDoubters 36 = .ok (.iload_n 2, 1) := by decide +kernel
theorem dX1_setOfDoubters_37 : decode cX1_setOfDoubters 37 = .ok (.ireturn, 1) := by decide +kernel
theorem dX1_setOfGuilds_0 : decode cX1_setOfGuilds 0 = .ok (.iconst 0, 1) := by decide +kernel
theorem dX1_setOfGuilds_1 : decode cX1_setOfGuilds 1 = .ok (.istore_n 2, 1) := by decide +kernel
theorem dX1_setOfGuilds_2 : decode cX1_setOfGuilds 2 = .ok (.iconst 0, 1) := by decide +kernel
theorem dX1_setOfGuilds_3 : decode cX1_setOfGuilds 3 = .ok (.istore_n 3, 1) := by decide +kernel
theorem dX1_setOfGuilds_4 : decode cX1_setOfGuilds 4 = .ok (.iload_n 3, 1) := by decide +kernel
theorem dX1_setOfGuilds_5 : decode cX1_setOfGuilds 5 = .ok (.bipush 6, 2) := by decide +kernel
theorem dX1_setOfGuilds_7 : decode cX1_setOfGuilds 7 = .ok (.if_icmp .ge 28, 3) := by decide +kernel
theorem dX1_setOfGuilds_10 : decode cX1_setOfGuilds 10 = .ok (.iload_n 2, 1) := by decide +kernel
theorem dX1_setOfGuilds_11 : decode cX1_setOfGuilds 11 = .ok (.aload_n 0, 1) := by decide +kernel
theorem dX1_setOfGuilds_12 : decode cX1_setOfGuilds 12 = .ok (.iload_n 1, 1) := by decide +kernel
theorem dX1_setOfGuilds_13 : decode cX1_setOfGuilds 13 = .ok (.iload_n 3, 1) := by decide +kernel
theorem dX1_setOfGuilds_14 : decode cX1_setOfGuilds 14 = .ok (.invokevirtual 85, 3) := by decide +kernel
theorem dX1_setOfGuilds_17 : decode cX1_setOfGuilds 17 = .ok (.ifCond .eq 9, 3) := by decide +kernel
theorem dX1_setOfGuilds_20 : decode cX1_setOfGuilds 20 = .ok (.iconst 1, 1) := by decide +kernel
theorem dX1_setOfGuilds_21 : decode cX1_setOfGuilds 21 = .ok (.iload_n 3, 1) := by decide +kernel
theorem dX1_setOfGuilds_22 : decode cX1_setOfGuilds 22 = .ok (.ishl, 1) := by decide +kernel
theorem dX1_setOfGuilds_23 : decode cX1_setOfGuilds 23 = .ok (.goto 4, 3) := by decide +kernel
theorem dX1_setOfGuilds_26 : decode cX1_setOfGuilds 26 = .ok (.iconst 0, 1) := by decide +kernel
theorem dX1_setOfGuilds_27 : decode cX1_setOfGuilds 27 = .ok (.ior, 1) := by decide +kernel
theorem dX1_setOfGuilds_28 : decode cX1_setOfGuilds 28 = .ok (.istore_n 2, 1) := by decide +kernel
theorem dX1_setOfGuilds_29 : decode cX1_setOfGuilds 29 = .ok (.iinc 3 1, 3) := by decide +kernel
theorem dX1_setOfGuilds_32 : decode cX1_setOfGuilds 32 = .ok (.goto (-28), 3) := by decide +kernel
theorem dX1_setOfGuilds_35 : decode cX1_setOfGuilds 35 = .ok (.iload_n 2, 1) := by decide +kernel
theorem dX1_setOfGuilds_36 : decode cX1_setOfGuilds 36 = .ok (.ireturn, 1) := by decide +kernel
theorem dX1_guildAtRank_0 : decode cX1_guildAtRank 0 = .ok (.iconst 0, 1) := by decide +kernel
theorem dX1_guildAtRank_1 : decode cX1_guildAtRank 1 = .ok (.istore_n 2, 1) := by decide +kernel
theorem dX1_guildAtRank_2 : decode cX1_guildAtRank 2 = .ok (.iload_n 2, 1) := by decide +kernel
theorem dX1_guildAtRank_3 : decode cX1_guildAtRank 3 = .ok (.iconst 5, 1) := by decide +kernel
theorem dX1_guildAtRank_4 : decode cX1_guildAtRank 4 = .ok (.if_icmp .ge 18, 3) := by decide +kernel
theorem dX1_guildAtRank_7 : decode cX1_guildAtRank 7 = .ok (.aload_n 0, 1) := by decide +kernel
theorem dX1_guildAtRank_8 : decode cX1_guildAtRank 8 = .ok (.iload_n 2, 1) := by decide +kernel
theorem dX1_guildAtRank_9 : decode cX1_guildAtRank 9 = .ok (.invokevirtual 124, 3) := by decide +kernel
theorem dX1_guildAtRank_12 : decode cX1_guildAtRank 12 = .ok (.iload_n 1, 1) := by decide +kernel
theorem dX1_guildAtRank_13 : decode cX1_guildAtRank 13 = .ok (.if_icmp .eq 9, 3) := by decide +kernel
theorem dX1_guildAtRank_16 : decode cX1_guildAtRank 16 = .ok (.iinc 2 1, 3) := by decide +kernel
theorem dX1_guildAtRank_19 : decode cX1_guildAtRank 19 = .ok (.goto (-17), 3) := by decide +kernel
theorem dX1_guildAtRank_22 : decode cX1_guildAtRank 22 = .ok (.iload_n 2, 1) := by decide +kernel
theorem dX1_guildAtRank_23 : decode cX1_guildAtRank 23 = .ok (.ireturn, 1) := by decide +kernel
theorem dX1_countAhead_0 : decode cX1_countAhead 0 = .ok (.iconst 0, 1) := by decide +kernel
theorem dX1_countAhead_1 : decode cX1_countAhead 1 = .ok (.istore_n 2, 1) := by decide +kernel
theorem dX1_countAhead_2 : decode cX1_countAhead 2 = .ok (.iconst 0, 1) := by decide +kernel
theorem dX1_countAhead_3 : decode cX1_countAhead 3 = .ok (.istore_n 3, 1) := by decide +kernel
theorem dX1_countAhead_4 : decode cX1_countAhead 4 = .ok (.iload_n 3, 1) := by decide +kernel
theorem dX1_countAhead_5 : decode cX1_countAhead 5 = .ok (.bipush 6, 2) := by decide +kernel
theorem dX1_countAhead_7 : decode cX1_countAhead 7 = .ok (.if_icmp .ge 47, 3) := by decide +kernel
theorem dX1_countAhead_10 : decode cX1_countAhead 10 = .ok (.aload_n 0, 1) := by decide +kernel
theorem dX1_countAhead_11 : decode cX1_countAhead 11 = .ok (.getfield 34, 3) := by decide +kernel
theorem dX1_countAhead_14 : decode cX1_countAhead 14 = .ok (.iload_n 3, 1) := by decide +kernel
theorem dX1_countAhead_15 : decode cX1_countAhead 15 = .ok (.iaload, 1) := by decide +kernel
theorem dX1_countAhead_16 : decode cX1_countAhead 16 = .ok (.aload_n 0, 1) := by decide +kernel
theorem dX1_countAhead_17 : decode cX1_countAhead 17 = .ok (.getfield 34, 3) := by decide +kernel
theorem dX1_countAhead_20 : decode cX1_countAhead 20 = .ok (.iload_n 1, 1) := by decide +kernel
theorem dX1_countAhead_21 : decode cX1_countAhead 21 = .ok (.iaload, 1) := by decide +kernel
theorem dX1_countAhead_22 : decode cX1_countAhead 22 = .ok (.if_icmp .gt 23, 3) := by decide +kernel
theorem dX1_countAhead_25 : decode cX1_countAhead 25 = .ok (.aload_n 0, 1) := by decide +kernel
theorem dX1_countAhead_26 : decode cX1_countAhead 26 = .ok (.getfield 34, 3) := by decide +kernel
theorem dX1_countAhead_29 : decode cX1_countAhead 29 = .ok (.iload_n 3, 1) := by decide +kernel
theorem dX1_countAhead_30 : decode cX1_countAhead 30 = .ok (.iaload, 1) := by decide +kernel
theorem dX1_countAhead_31 : decode cX1_countAhead 31 = .ok (.aload_n 0, 1) := by decide +kernel
theorem dX1_countAhead_32 : decode cX1_countAhead 32 = .ok (.getfield 34, 3) := by decide +kernel
theorem dX1_countAhead_35 : decode cX1_countAhead 35 = .ok (.iload_n 1, 1) := by decide +kernel
theorem dX1_countAhead_36 : decode cX1_countAhead 36 = .ok (.iaload, 1) := by decide +kernel
theorem dX1_countAhead_37 : decode cX1_countAhead 37 = .ok (.if_icmp .ne 11, 3) := by decide +kernel
theorem dX1_countAhead_40 : decode cX1_countAhead 40 = .ok (.iload_n 3, 1) := by decide +kernel
theorem dX1_countAhead_41 : decode cX1_countAhead 41 = .ok (.iload_n 1, 1) := by decide +kernel
theorem dX1_countAhead_42 : decode cX1_countAhead 42 = .ok (.if_icmp .ge 6, 3) := by decide +kernel
theorem dX1_countAhead_45 : decode cX1_countAhead 45 = .ok (.iinc 2 1, 3) := by decide +kernel
theorem dX1_countAhead_48 : decode cX1_countAhead 48 = .ok (.iinc 3 1, 3) := by decide +kernel
theorem dX1_countAhead_51 : decode cX1_countAhead 51 = .ok (.goto (-47), 3) := by decide +kernel
theorem dX1_countAhead_54 : decode cX1_countAhead 54 = .ok (.iload_n 2, 1) := by decide +kernel
theorem dX1_countAhead_55 : decode cX1_countAhead 55 = .ok (.ireturn, 1) := by decide +kernel
theorem dX1_coinsByGuilds_0 : decode cX1_coinsByGuilds 0 = .ok (.iconst 0, 1) := by decide +kernel
theorem dX1_coinsByGuilds_1 : decode cX1_coinsByGuilds 1 = .ok (.istore_n 1, 1) := by decide +kernel
theorem dX1_coinsByGuilds_2 : decode cX1_coinsByGuilds 2 = .ok (.iconst 0, 1) := by decide +kernel
theorem dX1_coinsByGuilds_3 : decode cX1_coinsByGuilds 3 = .ok (.istore_n 2, 1) := by decide +kernel
theorem dX1_coinsByGuilds_4 : decode cX1_coinsByGuilds 4 = .ok (.iload_n 2, 1) := by decide +kernel
theorem dX1_coinsByGuilds_5 : decode cX1_coinsByGuilds 5 = .ok (.bipush 6, 2) := by decide +kernel
theorem dX1_coinsByGuilds_7 : decode cX1_coinsByGuilds 7 = .ok (.if_icmp .ge 18, 3) := by decide +kernel
theorem dX1_coinsByGuilds_10 : decode cX1_coinsByGuilds 10 = .ok (.iload_n 1, 1) := by decide +kernel
theorem dX1_coinsByGuilds_11 : decode cX1_coinsByGuilds 11 = .ok (.aload_n 0, 1) := by decide +kernel
theorem dX1_coinsByGuilds_12 : decode cX1_coinsByGuilds 12 = .ok (.getfield 31, 3) := by decide +kernel
theorem dX1_coinsByGuilds_15 : decode cX1_coinsByGuilds 15 = .ok (.iload_n 2, 1) := by decide +kernel
theorem dX1_coinsByGuilds_16 : decode cX1_coinsByGuilds 16 = .ok (.iaload, 1) := by decide +kernel
theorem dX1_coinsByGuilds_17 : decode cX1_coinsByGuilds 17 = .ok (.iadd, 1) := by decide +kernel
theorem dX1_coinsByGuilds_18 : decode cX1_coinsByGuilds 18 = .ok (.istore_n 1, 1) := by decide +kernel
theorem dX1_coinsByGuilds_19 : decode cX1_coinsByGuilds 19 = .ok (.iinc 2 1, 3) := by decide +kernel
theorem dX1_coinsByGuilds_22 : decode cX1_coinsByGuilds 22 = .ok (.goto (-18), 3) := by decide +kernel
theorem dX1_coinsByGuilds_25 : decode cX1_coinsByGuilds 25 = .ok (.iload_n 1, 1) := by decide +kernel
theorem dX1_coinsByGuilds_26 : decode cX1_coinsByGuilds 26 = .ok (.ireturn, 1) := by decide +kernel
theorem dX1_coinsBySeals_0 : decode cX1_coinsBySeals 0 = .ok (.bipush 120, 2) := by decide +kernel
theorem dX1_coinsBySeals_2 : decode cX1_coinsBySeals 2 = .ok (.istore_n 1, 1) := by decide +kernel
theorem dX1_coinsBySeals_3 : decode cX1_coinsBySeals 3 = .ok (.iconst 0, 1) := by decide +kernel
theorem dX1_coinsBySeals_4 : decode cX1_coinsBySeals 4 = .ok (.istore_n 2, 1) := by decide +kernel
theorem dX1_coinsBySeals_5 : decode cX1_coinsBySeals 5 = .ok (.iload_n 2, 1) := by decide +kernel
theorem dX1_coinsBySeals_6 : decode cX1_coinsBySeals 6 = .ok (.aload_n 0, 1) := by decide +kernel
theorem dX1_coinsBySeals_7 : decode cX1_coinsBySeals 7 = .ok (.getfield 41, 3) := by decide +kernel
theorem dX1_coinsBySeals_10 : decode cX1_coinsBySeals 10 = .ok (.if_icmp .ge 46, 3) := by decide +kernel
theorem dX1_coinsBySeals_13 : decode cX1_coinsBySeals 13 = .ok (.iconst 0, 1) := by decide +kernel
theorem dX1_coinsBySeals_14 : decode cX1_coinsBySeals 14 = .ok (.istore_n 3, 1) := by decide +kernel
theorem dX1_coinsBySeals_15 : decode cX1_coinsBySeals 15 = .ok (.iload_n 3, 1) := by decide +kernel
theorem dX1_coinsBySeals_16 : decode cX1_coinsBySeals 16 = .ok (.bipush 6, 2) := by decide +kernel
theorem dX1_coinsBySeals_18 : decode cX1_coinsBySeals 18 = .ok (.if_icmp .ge 32, 3) := by decide +kernel
theorem dX1_coinsBySeals_21 : decode cX1_coinsBySeals 21 = .ok (.iload_n 1, 1) := by decide +kernel
theorem dX1_coinsBySeals_22 : decode cX1_coinsBySeals 22 = .ok (.aload_n 0, 1) := by decide +kernel
theorem dX1_coinsBySeals_23 : decode cX1_coinsBySeals 23 = .ok (.iload_n 2, 1) := by decide +kernel
theorem dX1_coinsBySeals_24 : decode cX1_coinsBySeals 24 = .ok (.iload_n 3, 1) := by decide +kernel
theorem dX1_coinsBySeals_25 : decode cX1_coinsBySeals 25 = .ok (.invokevirtual 75, 3) := by decide +kernel
theorem dX1_coinsBySeals_28 : decode cX1_coinsBySeals 28 = .ok (.iconst 3, 1) := by decide +kernel
theorem dX1_coinsBySeals_29 : decode cX1_coinsBySeals 29 = .ok (.if_icmp .ne 12, 3) := by decide +kernel
theorem dX1_coinsBySeals_32 : decode cX1_coinsBySeals 32 = .ok (.aload_n 0, 1) := by decide +kernel
theorem dX1_coinsBySeals_33 : decode cX1_coinsBySeals 33 = .ok (.iload_n 2, 1) := by decide +kernel
theorem dX1_coinsBySeals_34 : decode cX1_coinsBySeals 34 = .ok (.iload_n 3, 1) := by decide +kernel
theorem dX1_coinsBySeals_35 : decode cX1_coinsBySeals 35 = .ok (.invokevirtual 82, 3) := by decide +kernel
theorem dX1_coinsBySeals_38 : decode cX1_coinsBySeals 38 = .ok (.goto 4, 3) := by decide +kernel
theorem dX1_coinsBySeals_41 : decode cX1_coinsBySeals 41 = .ok (.iconst 0, 1) := by decide +kernel
theorem dX1_coinsBySeals_42 : decode cX1_coinsBySeals 42 = .ok (.iadd, 1) := by decide +kernel
theorem dX1_coinsBySeals_43 : decode cX1_coinsBySeals 43 = .ok (.istore_n 1, 1) := by decide +kernel
theorem dX1_coinsBySeals_44 : decode cX1_coinsBySeals 44 = .ok (.iinc 3 1, 3) := by decide +kernel
theorem dX1_coinsBySeals_47 : decode cX1_coinsBySeals 47 = .ok (.goto (-32), 3) := by decide +kernel
theorem dX1_coinsBySeals_50 : decode cX1_coinsBySeals 50 = .ok (.iinc 2 1, 3) := by decide +kernel
theorem dX1_coinsBySeals_53 : decode cX1_coinsBySeals 53 = .ok (.goto (-48), 3) := by decide +kernel
theorem dX1_coinsBySeals_56 : decode cX1_coinsBySeals 56 = .ok (.iload_n 1, 1) := by decide +kernel
theorem dX1_coinsBySeals_57 : decode cX1_coinsBySeals 57 = .ok (.ireturn, 1) := by decide +kernel
theorem dX1_numberOfMatter_0 : decode cX1_numberOfMatter 0 = .ok (.iload_n 2, 1) := by decide +kernel
theorem dX1_numberOfMatter_1 : decode cX1_numberOfMatter 1 = .ok (.tableswitch 88 0 6 #[43, 50, 56, 62, 69, 76, 82], 43) := by decide +kernel
theorem dX1_numberOfMatter_44 : decode cX1_numberOfMatter 44 = .ok (.aload_n 0, 1) := by decide +kernel
theorem dX1_numberOfMatter_45 : decode cX1_numberOfMatter 45 = .ok (.getfield 15, 3) := by decide +kernel
theorem dX1_numberOfMatter_48 : decode cX1_numberOfMatter 48 = .ok (.iload_n 1, 1) := by decide +kernel
theorem dX1_numberOfMatter_49 : decode cX1_numberOfMatter 49 = .ok (.iaload, 1) := by decide +kernel
theorem dX1_numberOfMatter_50 : decode cX1_numberOfMatter 50 = .ok (.ireturn, 1) := by decide +kernel
theorem dX1_numberOfMatter_51 : decode cX1_numberOfMatter 51 = .ok (.aload_n 0, 1) := by decide +kernel
theorem dX1_numberOfMatter_52 : decode cX1_numberOfMatter 52 = .ok (.iload_n 1, 1) := by decide +kernel
theorem dX1_numberOfMatter_53 : decode cX1_numberOfMatter 53 = .ok (.invokevirtual 63, 3) := by decide +kernel
theorem dX1_numberOfMatter_56 : decode cX1_numberOfMatter 56 = .ok (.ireturn, 1) := by decide +kernel
theorem dX1_numberOfMatter_57 : decode cX1_numberOfMatter 57 = .ok (.aload_n 0, 1) := by decide +kernel
theorem dX1_numberOfMatter_58 : decode cX1_numberOfMatter 58 = .ok (.iload_n 1, 1) := by decide +kernel
theorem dX1_numberOfMatter_59 : decode cX1_numberOfMatter 59 = .ok (.invokevirtual 108, 3) := by decide +kernel
theorem dX1_numberOfMatter_62 : decode cX1_numberOfMatter 62 = .ok (.ireturn, 1) := by decide +kernel
theorem dX1_numberOfMatter_63 : decode cX1_numberOfMatter 63 = .ok (.aload_n 0, 1) := by decide +kernel
theorem dX1_numberOfMatter_64 : decode cX1_numberOfMatter 64 = .ok (.iload_n 1, 1) := by decide +kernel
theorem dX1_numberOfMatter_65 : decode cX1_numberOfMatter 65 = .ok (.iconst 1, 1) := by decide +kernel
theorem dX1_numberOfMatter_66 : decode cX1_numberOfMatter 66 = .ok (.invokevirtual 99, 3) := by decide +kernel
theorem dX1_numberOfMatter_69 : decode cX1_numberOfMatter 69 = .ok (.ireturn, 1) := by decide +kernel
theorem dX1_numberOfMatter_70 : decode cX1_numberOfMatter 70 = .ok (.aload_n 0, 1) := by decide +kernel
theorem dX1_numberOfMatter_71 : decode cX1_numberOfMatter 71 = .ok (.iload_n 1, 1) := by decide +kernel
theorem dX1_numberOfMatter_72 : decode cX1_numberOfMatter 72 = .ok (.iconst 2, 1) := by decide +kernel
theorem dX1_numberOfMatter_73 : decode cX1_numberOfMatter 73 = .ok (.invokevirtual 99, 3) := by decide +kernel
theorem dX1_numberOfMatter_76 : decode cX1_numberOfMatter 76 = .ok (.ireturn, 1) := by decide +kernel
theorem dX1_numberOfMatter_77 : decode cX1_numberOfMatter 77 = .ok (.aload_n 0, 1) := by decide +kernel
theorem dX1_numberOfMatter_78 : decode cX1_numberOfMatter 78 = .ok (.iload_n 1, 1) := by decide +kernel
theorem dX1_numberOfMatter_79 : decode cX1_numberOfMatter 79 = .ok (.invokevirtual 127, 3) := by decide +kernel
theorem dX1_numberOfMatter_82 : decode cX1_numberOfMatter 82 = .ok (.ireturn, 1) := by decide +kernel
theorem dX1_numberOfMatter_83 : decode cX1_numberOfMatter 83 = .ok (.aload_n 0, 1) := by decide +kernel
theorem dX1_numberOfMatter_84 : decode cX1_numberOfMatter 84 = .ok (.iload_n 1, 1) := by decide +kernel
theorem dX1_numberOfMatter_85 : decode cX1_numberOfMatter 85 = .ok (.invokevirtual 130, 3) := by decide +kernel
theorem dX1_numberOfMatter_88 : decode cX1_numberOfMatter 88 = .ok (.ireturn, 1) := by decide +kernel
theorem dX1_numberOfMatter_89 : decode cX1_numberOfMatter 89 = .ok (.aload_n 0, 1) := by decide +kernel
theorem dX1_numberOfMatter_90 : decode cX1_numberOfMatter 90 = .ok (.getfield 19, 3) := by decide +kernel
theorem dX1_numberOfMatter_93 : decode cX1_numberOfMatter 93 = .ok (.iload_n 1, 1) := by decide +kernel
theorem dX1_numberOfMatter_94 : decode cX1_numberOfMatter 94 = .ok (.iaload, 1) := by decide +kernel
theorem dX1_numberOfMatter_95 : decode cX1_numberOfMatter 95 = .ok (.ireturn, 1) := by decide +kernel
theorem dX1_numberOfGuild_0 : decode cX1_numberOfGuild 0 = .ok (.iload_n 2, 1) := by decide +kernel
theorem dX1_numberOfGuild_1 : decode cX1_numberOfGuild 1 = .ok (.tableswitch 77 0 4 #[35, 42, 57, 63, 70], 35) := by decide +kernel
theorem dX1_numberOfGuild_36 : decode cX1_numberOfGuild 36 = .ok (.aload_n 0, 1) := by decide +kernel
theorem dX1_numberOfGuild_37 : decode cX1_numberOfGuild 37 = .ok (.getfield 31, 3) := by decide +kernel
theorem dX1_numberOfGuild_40 : decode cX1_numberOfGuild 40 = .ok (.iload_n 1, 1) := by decide +kernel
theorem dX1_numberOfGuild_41 : decode cX1_numberOfGuild 41 = .ok (.iaload, 1) := by decide +kernel
theorem dX1_numberOfGuild_42 : decode cX1_numberOfGuild 42 = .ok (.ireturn, 1) := by decide +kernel
theorem dX1_numberOfGuild_43 : decode cX1_numberOfGuild 43 = .ok (.aload_n 0, 1) := by decide +kernel
theorem dX1_numberOfGuild_44 : decode cX1_numberOfGuild 44 = .ok (.getfield 37, 3) := by decide +kernel
theorem dX1_numberOfGuild_47 : decode cX1_numberOfGuild 47 = .ok (.iload_n 1, 1) := by decide +kernel
theorem dX1_numberOfGuild_48 : decode cX1_numberOfGuild 48 = .ok (.baload, 1) := by decide +kernel
theorem dX1_numberOfGuild_49 : decode cX1_numberOfGuild 49 = .ok (.ifCond .eq 7, 3) := by decide +kernel
theorem dX1_numberOfGuild_52 : decode cX1_numberOfGuild 52 = .ok (.iconst 1, 1) := by decide +kernel
theorem dX1_numberOfGuild_53 : decode cX1_numberOfGuild 53 = .ok (.goto 4, 3) := by decide +kernel
theorem dX1_numberOfGuild_56 : decode cX1_numberOfGuild 56 = .ok (.iconst 0, 1) := by decide +kernel
theorem dX1_numberOfGuild_57 : decode cX1_numberOfGuild 57 = .ok (.ireturn, 1) := by decide +kernel
theorem dX1_numberOfGuild_58 : decode cX1_numberOfGuild 58 = .ok (.aload_n 0, 1) := by decide +kernel
theorem dX1_numberOfGuild_59 : decode cX1_numberOfGuild 59 = .ok (.iload_n 1, 1) := by decide +kernel
theorem dX1_numberOfGuild_60 : decode cX1_numberOfGuild 60 = .ok (.invokevirtual 79, 3) := by decide +kernel
theorem dX1_numberOfGuild_63 : decode cX1_numberOfGuild 63 = .ok (.ireturn, 1) := by decide +kernel
theorem dX1_numberOfGuild_64 : decode cX1_numberOfGuild 64 = .ok (.aload_n 0, 1) := by decide +kernel
theorem dX1_numberOfGuild_65 : decode cX1_numberOfGuild 65 = .ok (.getfield 34, 3) := by decide +kernel
theorem dX1_numberOfGuild_68 : decode cX1_numberOfGuild 68 = .ok (.iload_n 1, 1) := by decide +kernel
theorem dX1_numberOfGuild_69 : decode cX1_numberOfGuild 69 = .ok (.iaload, 1) := by decide +kernel
theorem dX1_numberOfGuild_70 : decode cX1_numberOfGuild 70 = .ok (.ireturn, 1) := by decide +kernel
theorem dX1_numberOfGuild_71 : decode cX1_numberOfGuild 71 = .ok (.aload_n 0, 1) := by decide +kernel
theorem dX1_numberOfGuild_72 : decode cX1_numberOfGuild 72 = .ok (.iload_n 1, 1) := by decide +kernel
theorem dX1_numberOfGuild_73 : decode cX1_numberOfGuild 73 = .ok (.iconst 3, 1) := by decide +kernel
theorem dX1_numberOfGuild_74 : decode cX1_numberOfGuild 74 = .ok (.invokevirtual 133, 3) := by decide +kernel
theorem dX1_numberOfGuild_77 : decode cX1_numberOfGuild 77 = .ok (.ireturn, 1) := by decide +kernel
theorem dX1_numberOfGuild_78 : decode cX1_numberOfGuild 78 = .ok (.aload_n 0, 1) := by decide +kernel
theorem dX1_numberOfGuild_79 : decode cX1_numberOfGuild 79 = .ok (.iload_n 1, 1) := by decide +kernel
theorem dX1_numberOfGuild_80 : decode cX1_numberOfGuild 80 = .ok (.iconst 4, 1) := by decide +kernel
theorem dX1_numberOfGuild_81 : decode cX1_numberOfGuild 81 = .ok (.invokevirtual 133, 3) := by decide +kernel
theorem dX1_numberOfGuild_84 : decode cX1_numberOfGuild 84 = .ok (.ireturn, 1) := by decide +kernel
theorem dX1_numberOfAll_0 : decode cX1_numberOfAll 0 = .ok (.iload_n 1, 1) := by decide +kernel
theorem dX1_numberOfAll_1 : decode cX1_numberOfAll 1 = .ok (.tableswitch 108 0 9 #[55, 60, 66, 72, 78, 83, 88, 93, 98, 103], 55) := by decide +kernel
theorem dX1_numberOfAll_56 : decode cX1_numberOfAll 56 = .ok (.aload_n 0, 1) := by decide +kernel
theorem dX1_numberOfAll_57 : decode cX1_numberOfAll 57 = .ok (.getfield 41, 3) := by decide +kernel
theorem dX1_numberOfAll_60 : decode cX1_numberOfAll 60 = .ok (.ireturn, 1) := by decide +kernel
theorem dX1_numberOfAll_61 : decode cX1_numberOfAll 61 = .ok (.aload_n 0, 1) := by decide +kernel
theorem dX1_numberOfAll_62 : decode cX1_numberOfAll 62 = .ok (.iconst 0, 1) := by decide +kernel
theorem dX1_numberOfAll_63 : decode cX1_numberOfAll 63 = .ok (.invokevirtual 105, 3) := by decide +kernel
theorem dX1_numberOfAll_66 : decode cX1_numberOfAll 66 = .ok (.ireturn, 1) := by decide +kernel
theorem dX1_numberOfAll_67 : decode cX1_numberOfAll 67 = .ok (.aload_n 0, 1) := by decide +kernel
theorem dX1_numberOfAll_68 : decode cX1_numberOfAll 68 = .ok (.iconst 1, 1) := by decide +kernel
theorem dX1_numberOfAll_69 : decode cX1_numberOfAll 69 = .ok (.invokevirtual 105, 3) := by decide +kernel
theorem dX1_numberOfAll_72 : decode cX1_numberOfAll 72 = .ok (.ireturn, 1) := by decide +kernel
theorem dX1_numberOfAll_73 : decode cX1_numberOfAll 73 = .ok (.aload_n 0, 1) := by decide +kernel
theorem dX1_numberOfAll_74 : decode cX1_numberOfAll 74 = .ok (.iconst 2, 1) := by decide +kernel
theorem dX1_numberOfAll_75 : decode cX1_numberOfAll 75 = .ok (.invokevirtual 105, 3) := by decide +kernel
theorem dX1_numberOfAll_78 : decode cX1_numberOfAll 78 = .ok (.ireturn, 1) := by decide +kernel
theorem dX1_numberOfAll_79 : decode cX1_numberOfAll 79 = .ok (.aload_n 0, 1) := by decide +kernel
theorem dX1_numberOfAll_80 : decode cX1_numberOfAll 80 = .ok (.invokevirtual 111, 3) := by decide +kernel
theorem dX1_numberOfAll_83 : decode cX1_numberOfAll 83 = .ok (.ireturn, 1) := by decide +kernel
theorem dX1_numberOfAll_84 : decode cX1_numberOfAll 84 = .ok (.aload_n 0, 1) := by decide +kernel
theorem dX1_numberOfAll_85 : decode cX1_numberOfAll 85 = .ok (.invokevirtual 136, 3) := by decide +kernel
theorem dX1_numberOfAll_88 : decode cX1_numberOfAll 88 = .ok (.ireturn, 1) := by decide +kernel
theorem dX1_numberOfAll_89 : decode cX1_numberOfAll 89 = .ok (.aload_n 0, 1) := by decide +kernel
theorem dX1_numberOfAll_90 : decode cX1_numberOfAll 90 = .ok (.getfield 48, 3) := by decide +kernel
theorem dX1_numberOfAll_93 : decode cX1_numberOfAll 93 = .ok (.ireturn, 1) := by decide +kernel
theorem dX1_numberOfAll_94 : decode cX1_numberOfAll 94 = .ok (.aload_n 0, 1) := by decide +kernel
theorem dX1_numberOfAll_95 : decode cX1_numberOfAll 95 = .ok (.invokevirtual 139, 3) := by decide +kernel
theorem dX1_numberOfAll_98 : decode cX1_numberOfAll 98 = .ok (.ireturn, 1) := by decide +kernel
theorem dX1_numberOfAll_99 : decode cX1_numberOfAll 99 = .ok (.aload_n 0, 1) := by decide +kernel
theorem dX1_numberOfAll_100 : decode cX1_numberOfAll 100 = .ok (.getfield 51, 3) := by decide +kernel
theorem dX1_numberOfAll_103 : decode cX1_numberOfAll 103 = .ok (.ireturn, 1) := by decide +kernel
theorem dX1_numberOfAll_104 : decode cX1_numberOfAll 104 = .ok (.aload_n 0, 1) := by decide +kernel
theorem dX1_numberOfAll_105 : decode cX1_numberOfAll 105 = .ok (.getfield 54, 3) := by decide +kernel
theorem dX1_numberOfAll_108 : decode cX1_numberOfAll 108 = .ok (.ireturn, 1) := by decide +kernel
theorem dX1_numberOfAll_109 : decode cX1_numberOfAll 109 = .ok (.aload_n 0, 1) := by decide +kernel
theorem dX1_numberOfAll_110 : decode cX1_numberOfAll 110 = .ok (.invokevirtual 142, 3) := by decide +kernel
theorem dX1_numberOfAll_113 : decode cX1_numberOfAll 113 = .ok (.ireturn, 1) := by decide +kernel
theorem dX1_countMatters_0 : decode cX1_countMatters 0 = .ok (.iconst 0, 1) := by decide +kernel
theorem dX1_countMatters_1 : decode cX1_countMatters 1 = .ok (.istore_n 2, 1) := by decide +kernel
theorem dX1_countMatters_2 : decode cX1_countMatters 2 = .ok (.iconst 0, 1) := by decide +kernel
theorem dX1_countMatters_3 : decode cX1_countMatters 3 = .ok (.istore_n 3, 1) := by decide +kernel
theorem dX1_countMatters_4 : decode cX1_countMatters 4 = .ok (.iload_n 3, 1) := by decide +kernel
theorem dX1_countMatters_5 : decode cX1_countMatters 5 = .ok (.aload_n 0, 1) := by decide +kernel
theorem dX1_countMatters_6 : decode cX1_countMatters 6 = .ok (.getfield 41, 3) := by decide +kernel
theorem dX1_countMatters_9 : decode cX1_countMatters 9 = .ok (.if_icmp .ge 27, 3) := by decide +kernel
theorem dX1_countMatters_12 : decode cX1_countMatters 12 = .ok (.iload_n 2, 1) := by decide +kernel
theorem dX1_countMatters_13 : decode cX1_countMatters 13 = .ok (.aload_n 0, 1) := by decide +kernel
theorem dX1_countMatters_14 : decode cX1_countMatters 14 = .ok (.getfield 15, 3) := by decide +kernel
theorem dX1_countMatters_17 : decode cX1_countMatters 17 = .ok (.iload_n 3, 1) := by decide +kernel
theorem dX1_countMatters_18 : decode cX1_countMatters 18 = .ok (.iaload, 1) := by decide +kernel
theorem dX1_countMatters_19 : decode cX1_countMatters 19 = .ok (.iload_n 1, 1) := by decide +kernel
theorem dX1_countMatters_20 : decode cX1_countMatters 20 = .ok (.if_icmp .ne 7, 3) := by decide +kernel
theorem dX1_countMatters_23 : decode cX1_countMatters 23 = .ok (.iconst 1, 1) := by decide +kernel
theorem dX1_countMatters_24 : decode cX1_countMatters 24 = .ok (.goto 4, 3) := by decide +kernel
theorem dX1_countMatters_27 : decode cX1_countMatters 27 = .ok (.iconst 0, 1) := by decide +kernel
theorem dX1_countMatters_28 : decode cX1_countMatters 28 = .ok (.iadd, 1) := by decide +kernel
theorem dX1_countMatters_29 : decode cX1_countMatters 29 = .ok (.istore_n 2, 1) := by decide +kernel
theorem dX1_countMatters_30 : decode cX1_countMatters 30 = .ok (.iinc 3 1, 3) := by decide +kernel
theorem dX1_countMatters_33 : decode cX1_countMatters 33 = .ok (.goto (-29), 3) := by decide +kernel
theorem dX1_countMatters_36 : decode cX1_countMatters 36 = .ok (.iload_n 2, 1) := by decide +kernel
theorem dX1_countMatters_37 : decode cX1_countMatters 37 = .ok (.ireturn, 1) := by decide +kernel
theorem dX1_countMattersOf_0 : decode cX1_countMattersOf 0 = .ok (.iconst 0, 1) := by decide +kernel
theorem dX1_countMattersOf_1 : decode cX1_countMattersOf 1 = .ok (.istore_n 3, 1) := by decide +kernel
theorem dX1_countMattersOf_2 : decode cX1_countMattersOf 2 = .ok (.iconst 0, 1) := by decide +kernel
theorem dX1_countMattersOf_3 : decode cX1_countMattersOf 3 = .ok (.istore 4, 2) := by decide +kernel
theorem dX1_countMattersOf_5 : decode cX1_countMattersOf 5 = .ok (.iload 4, 2) := by decide +kernel
theorem dX1_countMattersOf_7 : decode cX1_countMattersOf 7 = .ok (.aload_n 0, 1) := by decide +kernel
theorem dX1_countMattersOf_8 : decode cX1_countMattersOf 8 = .ok (.getfield 41, 3) := by decide +kernel
theorem dX1_countMattersOf_11 : decode cX1_countMattersOf 11 = .ok (.if_icmp .ge 28, 3) := by decide +kernel
theorem dX1_countMattersOf_14 : decode cX1_countMattersOf 14 = .ok (.iload_n 3, 1) := by decide +kernel
theorem dX1_countMattersOf_15 : decode cX1_countMattersOf 15 = .ok (.aload_n 0, 1) := by decide +kernel
theorem dX1_countMattersOf_16 : decode cX1_countMattersOf 16 = .ok (.iload 4, 2) := by decide +kernel
theorem dX1_countMattersOf_18 : decode cX1_countMattersOf 18 = .ok (.iload_n 1, 1) := by decide +kernel
theorem dX1_countMattersOf_19 : decode cX1_countMattersOf 19 = .ok (.invokevirtual 75, 3) := by decide +kernel
theorem dX1_countMattersOf_22 : decode cX1_countMattersOf 22 = .ok (.iload_n 2, 1) := by decide +kernel
theorem dX1_countMattersOf_23 : decode cX1_countMattersOf 23 = .ok (.if_icmp .ne 7, 3) := by decide +kernel
theorem dX1_countMattersOf_26 : decode cX1_countMattersOf 26 = .ok (.iconst 1, 1) := by decide +kernel
theorem dX1_countMattersOf_27 : decode cX1_countMattersOf 27 = .ok (.goto 4, 3) := by decide +kernel
theorem dX1_countMattersOf_30 : decode cX1_countMattersOf 30 = .ok (.iconst 0, 1) := by decide +kernel
theorem dX1_countMattersOf_31 : decode cX1_countMattersOf 31 = .ok (.iadd, 1) := by decide +kernel
theorem dX1_countMattersOf_32 : decode cX1_countMattersOf 32 = .ok (.istore_n 3, 1) := by decide +kernel
theorem dX1_countMattersOf_33 : decode cX1_countMattersOf 33 = .ok (.iinc 4 1, 3) := by decide +kernel
theorem dX1_countMattersOf_36 : decode cX1_countMattersOf 36 = .ok (.goto (-31), 3) := by decide +kernel
theorem dX1_countMattersOf_39 : decode cX1_countMattersOf 39 = .ok (.iload_n 3, 1) := by decide +kernel
theorem dX1_countMattersOf_40 : decode cX1_countMattersOf 40 = .ok (.ireturn, 1) := by decide +kernel
theorem dX1_countHeardByAll_0 : decode cX1_countHeardByAll 0 = .ok (.iconst 0, 1) := by decide +kernel
theorem dX1_countHeardByAll_1 : decode cX1_countHeardByAll 1 = .ok (.istore_n 1, 1) := by decide +kernel
theorem dX1_countHeardByAll_2 : decode cX1_countHeardByAll 2 = .ok (.iconst 0, 1) := by decide +kernel
theorem dX1_countHeardByAll_3 : decode cX1_countHeardByAll 3 = .ok (.istore_n 2, 1) := by decide +kernel
theorem dX1_countHeardByAll_4 : decode cX1_countHeardByAll 4 = .ok (.iload_n 2, 1) := by decide +kernel
theorem dX1_countHeardByAll_5 : decode cX1_countHeardByAll 5 = .ok (.aload_n 0, 1) := by decide +kernel
theorem dX1_countHeardByAll_6 : decode cX1_countHeardByAll 6 = .ok (.getfield 41, 3) := by decide +kernel
theorem dX1_countHeardByAll_9 : decode cX1_countHeardByAll 9 = .ok (.if_icmp .ge 36, 3) := by decide +kernel
theorem dX1_countHeardByAll_12 : decode cX1_countHeardByAll 12 = .ok (.aload_n 0, 1) := by decide +kernel
theorem dX1_countHeardByAll_13 : decode cX1_countHeardByAll 13 = .ok (.iload_n 2, 1) := by decide +kernel
theorem dX1_countHeardByAll_14 : decode cX1_countHeardByAll 14 = .ok (.invokevirtual 63, 3) := by decide +kernel
theorem dX1_countHeardByAll_17 : decode cX1_countHeardByAll 17 = .ok (.istore_n 3, 1) := by decide +kernel
theorem dX1_countHeardByAll_18 : decode cX1_countHeardByAll 18 = .ok (.iload_n 1, 1) := by decide +kernel
theorem dX1_countHeardByAll_19 : decode cX1_countHeardByAll 19 = .ok (.iload_n 3, 1) := by decide +kernel
theorem dX1_countHeardByAll_20 : decode cX1_countHeardByAll 20 = .ok (.ifCond .le 16, 3) := by decide +kernel
theorem dX1_countHeardByAll_23 : decode cX1_countHeardByAll 23 = .ok (.aload_n 0, 1) := by decide +kernel
theorem dX1_countHeardByAll_24 : decode cX1_countHeardByAll 24 = .ok (.iload_n 2, 1) := by decide +kernel
theorem dX1_countHeardByAll_25 : decode cX1_countHeardByAll 25 = .ok (.invokevirtual 127, 3) := by decide +kernel
theorem dX1_countHeardByAll_28 : decode cX1_countHeardByAll 28 = .ok (.iload_n 3, 1) := by decide +kernel
theorem dX1_countHeardByAll_29 : decode cX1_countHeardByAll 29 = .ok (.if_icmp .ne 7, 3) := by decide +kernel
theorem dX1_countHeardByAll_32 : decode cX1_countHeardByAll 32 = .ok (.iconst 1, 1) := by decide +kernel
theorem dX1_countHeardByAll_33 : decode cX1_countHeardByAll 33 = .ok (.goto 4, 3) := by decide +kernel
theorem dX1_countHeardByAll_36 : decode cX1_countHeardByAll 36 = .ok (.iconst 0, 1) := by decide +kernel
theorem dX1_countHeardByAll_37 : decode cX1_countHeardByAll 37 = .ok (.iadd, 1) := by decide +kernel
theorem dX1_countHeardByAll_38 : decode cX1_countHeardByAll 38 = .ok (.istore_n 1, 1) := by decide +kernel
theorem dX1_countHeardByAll_39 : decode cX1_countHeardByAll 39 = .ok (.iinc 2 1, 3) := by decide +kernel
theorem dX1_countHeardByAll_42 : decode cX1_countHeardByAll 42 = .ok (.goto (-38), 3) := by decide +kernel
theorem dX1_countHeardByAll_45 : decode cX1_countHeardByAll 45 = .ok (.iload_n 1, 1) := by decide +kernel
theorem dX1_countHeardByAll_46 : decode cX1_countHeardByAll 46 = .ok (.ireturn, 1) := by decide +kernel
theorem dX1_countGuilds_0 : decode cX1_countGuilds 0 = .ok (.iconst 0, 1) := by decide +kernel
theorem dX1_countGuilds_1 : decode cX1_countGuilds 1 = .ok (.istore_n 2, 1) := by decide +kernel
theorem dX1_countGuilds_2 : decode cX1_countGuilds 2 = .ok (.iconst 0, 1) := by decide +kernel
theorem dX1_countGuilds_3 : decode cX1_countGuilds 3 = .ok (.istore_n 3, 1) := by decide +kernel
theorem dX1_countGuilds_4 : decode cX1_countGuilds 4 = .ok (.iload_n 3, 1) := by decide +kernel
theorem dX1_countGuilds_5 : decode cX1_countGuilds 5 = .ok (.bipush 6, 2) := by decide +kernel
theorem dX1_countGuilds_7 : decode cX1_countGuilds 7 = .ok (.if_icmp .ge 26, 3) := by decide +kernel
theorem dX1_countGuilds_10 : decode cX1_countGuilds 10 = .ok (.iload_n 2, 1) := by decide +kernel
theorem dX1_countGuilds_11 : decode cX1_countGuilds 11 = .ok (.aload_n 0, 1) := by decide +kernel
theorem dX1_countGuilds_12 : decode cX1_countGuilds 12 = .ok (.iload_n 1, 1) := by decide +kernel
theorem dX1_countGuilds_13 : decode cX1_countGuilds 13 = .ok (.iload_n 3, 1) := by decide +kernel
theorem dX1_countGuilds_14 : decode cX1_countGuilds 14 = .ok (.invokevirtual 85, 3) := by decide +kernel
theorem dX1_countGuilds_17 : decode cX1_countGuilds 17 = .ok (.ifCond .eq 7, 3) := by decide +kernel
theorem dX1_countGuilds_20 : decode cX1_countGuilds 20 = .ok (.iconst 1, 1) := by decide +kernel
theorem dX1_countGuilds_21 : decode cX1_countGuilds 21 = .ok (.goto 4, 3) := by decide +kernel
theorem dX1_countGuilds_24 : decode cX1_countGuilds 24 = .ok (.iconst 0, 1) := by decide +kernel
theorem dX1_countGuilds_25 : decode cX1_countGuilds 25 = .ok (.iadd, 1) := by decide +kernel
theorem dX1_countGuilds_26 : decode cX1_countGuilds 26 = .ok (.istore_n 2, 1) := by decide +kernel
theorem dX1_countGuilds_27 : decode cX1_countGuilds 27 = .ok (.iinc 3 1, 3) := by decide +kernel
theorem dX1_countGuilds_30 : decode cX1_countGuilds 30 = .ok (.goto (-26), 3) := by decide +kernel
theorem dX1_countGuilds_33 : decode cX1_countGuilds 33 = .ok (.iload_n 2, 1) := by decide +kernel
theorem dX1_countGuilds_34 : decode cX1_countGuilds 34 = .ok (.ireturn, 1) := by decide +kernel
theorem dX1_countAnswers_0 : decode cX1_countAnswers 0 = .ok (.iconst 0, 1) := by decide +kernel
theorem dX1_countAnswers_1 : decode cX1_countAnswers 1 = .ok (.istore_n 3, 1) := by decide +kernel
theorem dX1_countAnswers_2 : decode cX1_countAnswers 2 = .ok (.iload_n 1, 1) := by decide +kernel
theorem dX1_countAnswers_3 : decode cX1_countAnswers 3 = .ok (.bipush 6, 2) := by decide +kernel
theorem dX1_countAnswers_5 : decode cX1_countAnswers 5 = .ok (.imul, 1) := by decide +kernel
theorem dX1_countAnswers_6 : decode cX1_countAnswers 6 = .ok (.istore 4, 2) := by decide +kernel
theorem dX1_countAnswers_8 : decode cX1_countAnswers 8 = .ok (.iload 4, 2) := by decide +kernel
theorem dX1_countAnswers_10 : decode cX1_countAnswers 10 = .ok (.istore 5, 2) := by decide +kernel
theorem dX1_countAnswers_12 : decode cX1_countAnswers 12 = .ok (.iload 5, 2) := by decide +kernel
theorem dX1_countAnswers_14 : decode cX1_countAnswers 14 = .ok (.iload 4, 2) := by decide +kernel
theorem dX1_countAnswers_16 : decode cX1_countAnswers 16 = .ok (.bipush 6, 2) := by decide +kernel
theorem dX1_countAnswers_18 : decode cX1_countAnswers 18 = .ok (.iadd, 1) := by decide +kernel
theorem dX1_countAnswers_19 : decode cX1_countAnswers 19 = .ok (.if_icmp .ge 38, 3) := by decide +kernel
theorem dX1_countAnswers_22 : decode cX1_countAnswers 22 = .ok (.iload_n 3, 1) := by decide +kernel
theorem dX1_countAnswers_23 : decode cX1_countAnswers 23 = .ok (.aload_n 0, 1) := by decide +kernel
theorem dX1_countAnswers_24 : decode cX1_countAnswers 24 = .ok (.getfield 25, 3) := by decide +kernel
theorem dX1_countAnswers_27 : decode cX1_countAnswers 27 = .ok (.iload 5, 2) := by decide +kernel
theorem dX1_countAnswers_29 : decode cX1_countAnswers 29 = .ok (.iaload, 1) := by decide +kernel
theorem dX1_countAnswers_30 : decode cX1_countAnswers 30 = .ok (.ifCond .eq 18, 3) := by decide +kernel
theorem dX1_countAnswers_33 : decode cX1_countAnswers 33 = .ok (.aload_n 0, 1) := by decide +kernel
theorem dX1_countAnswers_34 : decode cX1_countAnswers 34 = .ok (.getfield 28, 3) := by decide +kernel
theorem dX1_countAnswers_37 : decode cX1_countAnswers 37 = .ok (.iload 5, 2) := by decide +kernel
theorem dX1_countAnswers_39 : decode cX1_countAnswers 39 = .ok (.iaload, 1) := by decide +kernel
theorem dX1_countAnswers_40 : decode cX1_countAnswers 40 = .ok (.iload_n 2, 1) := by decide +kernel
theorem dX1_countAnswers_41 : decode cX1_countAnswers 41 = .ok (.if_icmp .ne 7, 3) := by decide +kernel
theorem dX1_countAnswers_44 : decode cX1_countAnswers 44 = .ok (.iconst 1, 1) := by decide +kernel
theorem dX1_countAnswers_45 : decode cX1_countAnswers 45 = .ok (.goto 4, 3) := by decide +kernel
theorem dX1_countAnswers_48 : decode cX1_countAnswers 48 = .ok (.iconst 0, 1) := by decide +kernel
theorem dX1_countAnswers_49 : decode cX1_countAnswers 49 = .ok (.iadd, 1) := by decide +kernel
theorem dX1_countAnswers_50 : decode cX1_countAnswers 50 = .ok (.istore_n 3, 1) := by decide +kernel
theorem dX1_countAnswers_51 : decode cX1_countAnswers 51 = .ok (.iinc 5 1, 3) := by decide +kernel
theorem dX1_countAnswers_54 : decode cX1_countAnswers 54 = .ok (.goto (-42), 3) := by decide +kernel
theorem dX1_countAnswers_57 : decode cX1_countAnswers 57 = .ok (.iload_n 3, 1) := by decide +kernel
theorem dX1_countAnswers_58 : decode cX1_countAnswers 58 = .ok (.ireturn, 1) := by decide +kernel
theorem dX1_countAnswered_0 : decode cX1_countAnswered 0 = .ok (.aload_n 0, 1) := by decide +kernel
theorem dX1_countAnswered_1 : decode cX1_countAnswered 1 = .ok (.iload_n 1, 1) := by decide +kernel
theorem dX1_countAnswered_2 : decode cX1_countAnswered 2 = .ok (.invokevirtual 63, 3) := by decide +kernel
theorem dX1_countAnswered_5 : decode cX1_countAnswered 5 = .ok (.aload_n 0, 1) := by decide +kernel
theorem dX1_countAnswered_6 : decode cX1_countAnswered 6 = .ok (.iload_n 1, 1) := by decide +kernel
theorem dX1_countAnswered_7 : decode cX1_countAnswered 7 = .ok (.iconst 0, 1) := by decide +kernel
theorem dX1_countAnswered_8 : decode cX1_countAnswered 8 = .ok (.invokevirtual 99, 3) := by decide +kernel
theorem dX1_countAnswered_11 : decode cX1_countAnswered 11 = .ok (.isub, 1) := by decide +kernel
theorem dX1_countAnswered_12 : decode cX1_countAnswered 12 = .ok (.ireturn, 1) := by decide +kernel
theorem dX1_countHeard_0 : decode cX1_countHeard 0 = .ok (.aload_n 0, 1) := by decide +kernel
theorem dX1_countHeard_1 : decode cX1_countHeard 1 = .ok (.iload_n 1, 1) := by decide +kernel
theorem dX1_countHeard_2 : decode cX1_countHeard 2 = .ok (.iconst 3, 1) := by decide +kernel
theorem dX1_countHeard_3 : decode cX1_countHeard 3 = .ok (.invokevirtual 99, 3) := by decide +kernel
theorem dX1_countHeard_6 : decode cX1_countHeard 6 = .ok (.aload_n 0, 1) := by decide +kernel
theorem dX1_countHeard_7 : decode cX1_countHeard 7 = .ok (.iload_n 1, 1) := by decide +kernel
theorem dX1_countHeard_8 : decode cX1_countHeard 8 = .ok (.iconst 4, 1) := by decide +kernel
theorem dX1_countHeard_9 : decode cX1_countHeard 9 = .ok (.invokevirtual 99, 3) := by decide +kernel
theorem dX1_countHeard_12 : decode cX1_countHeard 12 = .ok (.iadd, 1) := by decide +kernel
theorem dX1_countHeard_13 : decode cX1_countHeard 13 = .ok (.ireturn, 1) := by decide +kernel
theorem dX1_sumOfAmounts_0 : decode cX1_sumOfAmounts 0 = .ok (.iconst 0, 1) := by decide +kernel
theorem dX1_sumOfAmounts_1 : decode cX1_sumOfAmounts 1 = .ok (.istore_n 2, 1) := by decide +kernel
theorem dX1_sumOfAmounts_2 : decode cX1_sumOfAmounts 2 = .ok (.iconst 0, 1) := by decide +kernel
theorem dX1_sumOfAmounts_3 : decode cX1_sumOfAmounts 3 = .ok (.istore_n 3, 1) := by decide +kernel
theorem dX1_sumOfAmounts_4 : decode cX1_sumOfAmounts 4 = .ok (.iload_n 3, 1) := by decide +kernel
theorem dX1_sumOfAmounts_5 : decode cX1_sumOfAmounts 5 = .ok (.bipush 6, 2) := by decide +kernel
theorem dX1_sumOfAmounts_7 : decode cX1_sumOfAmounts 7 = .ok (.if_icmp .ge 18, 3) := by decide +kernel
theorem dX1_sumOfAmounts_10 : decode cX1_sumOfAmounts 10 = .ok (.iload_n 2, 1) := by decide +kernel
theorem dX1_sumOfAmounts_11 : decode cX1_sumOfAmounts 11 = .ok (.aload_n 0, 1) := by decide +kernel
theorem dX1_sumOfAmounts_12 : decode cX1_sumOfAmounts 12 = .ok (.iload_n 1, 1) := by decide +kernel
theorem dX1_sumOfAmounts_13 : decode cX1_sumOfAmounts 13 = .ok (.iload_n 3, 1) := by decide +kernel
theorem dX1_sumOfAmounts_14 : decode cX1_sumOfAmounts 14 = .ok (.invokevirtual 82, 3) := by decide +kernel
theorem dX1_sumOfAmounts_17 : decode cX1_sumOfAmounts 17 = .ok (.iadd, 1) := by decide +kernel
theorem dX1_sumOfAmounts_18 : decode cX1_sumOfAmounts 18 = .ok (.istore_n 2, 1) := by decide +kernel
theorem dX1_sumOfAmounts_19 : decode cX1_sumOfAmounts 19 = .ok (.iinc 3 1, 3) := by decide +kernel
theorem dX1_sumOfAmounts_22 : decode cX1_sumOfAmounts 22 = .ok (.goto (-18), 3) := by decide +kernel
theorem dX1_sumOfAmounts_25 : decode cX1_sumOfAmounts 25 = .ok (.iload_n 2, 1) := by decide +kernel
theorem dX1_sumOfAmounts_26 : decode cX1_sumOfAmounts 26 = .ok (.ireturn, 1) := by decide +kernel
theorem dX1_countAwake_0 : decode cX1_countAwake 0 = .ok (.iconst 0, 1) := by decide +kernel
theorem dX1_countAwake_1 : decode cX1_countAwake 1 = .ok (.istore_n 1, 1) := by decide +kernel
theorem dX1_countAwake_2 : decode cX1_countAwake 2 = .ok (.iconst 0, 1) := by decide +kernel
theorem dX1_countAwake_3 : decode cX1_countAwake 3 = .ok (.istore_n 2, 1) := by decide +kernel
theorem dX1_countAwake_4 : decode cX1_countAwake 4 = .ok (.iload_n 2, 1) := by decide +kernel
theorem dX1_countAwake_5 : decode cX1_countAwake 5 = .ok (.bipush 6, 2) := by decide +kernel
theorem dX1_countAwake_7 : decode cX1_countAwake 7 = .ok (.if_icmp .ge 26, 3) := by decide +kernel
theorem dX1_countAwake_10 : decode cX1_countAwake 10 = .ok (.iload_n 1, 1) := by decide +kernel
theorem dX1_countAwake_11 : decode cX1_countAwake 11 = .ok (.aload_n 0, 1) := by decide +kernel
theorem dX1_countAwake_12 : decode cX1_countAwake 12 = .ok (.getfield 37, 3) := by decide +kernel
theorem dX1_countAwake_15 : decode cX1_countAwake 15 = .ok (.iload_n 2, 1) := by decide +kernel
theorem dX1_countAwake_16 : decode cX1_countAwake 16 = .ok (.baload, 1) := by decide +kernel
theorem dX1_countAwake_17 : decode cX1_countAwake 17 = .ok (.ifCond .eq 7, 3) := by decide +kernel
theorem dX1_countAwake_20 : decode cX1_countAwake 20 = .ok (.iconst 1, 1) := by decide +kernel
theorem dX1_countAwake_21 : decode cX1_countAwake 21 = .ok (.goto 4, 3) := by decide +kernel
theorem dX1_countAwake_24 : decode cX1_countAwake 24 = .ok (.iconst 0, 1) := by decide +kernel
theorem dX1_countAwake_25 : decode cX1_countAwake 25 = .ok (.iadd, 1) := by decide +kernel
theorem dX1_countAwake_26 : decode cX1_countAwake 26 = .ok (.istore_n 1, 1) := by decide +kernel
theorem dX1_countAwake_27 : decode cX1_countAwake 27 = .ok (.iinc 2 1, 3) := by decide +kernel
theorem dX1_countAwake_30 : decode cX1_countAwake 30 = .ok (.goto (-26), 3) := by decide +kernel
theorem dX1_countAwake_33 : decode cX1_countAwake 33 = .ok (.iload_n 1, 1) := by decide +kernel
theorem dX1_countAwake_34 : decode cX1_countAwake 34 = .ok (.ireturn, 1) := by decide +kernel
theorem dX1_countInDoubt_0 : decode cX1_countInDoubt 0 = .ok (.iconst 0, 1) := by decide +kernel
theorem dX1_countInDoubt_1 : decode cX1_countInDoubt 1 = .ok (.istore_n 1, 1) := by decide +kernel
theorem dX1_countInDoubt_2 : decode cX1_countInDoubt 2 = .ok (.iconst 0, 1) := by decide +kernel
theorem dX1_countInDoubt_3 : decode cX1_countInDoubt 3 = .ok (.istore_n 2, 1) := by decide +kernel
theorem dX1_countInDoubt_4 : decode cX1_countInDoubt 4 = .ok (.iload_n 2, 1) := by decide +kernel
theorem dX1_countInDoubt_5 : decode cX1_countInDoubt 5 = .ok (.bipush 6, 2) := by decide +kernel
theorem dX1_countInDoubt_7 : decode cX1_countInDoubt 7 = .ok (.if_icmp .ge 26, 3) := by decide +kernel
theorem dX1_countInDoubt_10 : decode cX1_countInDoubt 10 = .ok (.iload_n 1, 1) := by decide +kernel
theorem dX1_countInDoubt_11 : decode cX1_countInDoubt 11 = .ok (.aload_n 0, 1) := by decide +kernel
theorem dX1_countInDoubt_12 : decode cX1_countInDoubt 12 = .ok (.iload_n 2, 1) := by decide +kernel
theorem dX1_countInDoubt_13 : decode cX1_countInDoubt 13 = .ok (.invokevirtual 79, 3) := by decide +kernel
theorem dX1_countInDoubt_16 : decode cX1_countInDoubt 16 = .ok (.iconst (-1), 1) := by decide +kernel
theorem dX1_countInDoubt_17 : decode cX1_countInDoubt 17 = .ok (.if_icmp .eq 7, 3) := by decide +kernel
theorem dX1_countInDoubt_20 : decode cX1_countInDoubt 20 = .ok (.iconst 1, 1) := by decide +kernel
theorem dX1_countInDoubt_21 : decode cX1_countInDoubt 21 = .ok (.goto 4, 3) := by decide +kernel
theorem dX1_countInDoubt_24 : decode cX1_countInDoubt 24 = .ok (.iconst 0, 1) := by decide +kernel
theorem dX1_countInDoubt_25 : decode cX1_countInDoubt 25 = .ok (.iadd, 1) := by decide +kernel
theorem dX1_countInDoubt_26 : decode cX1_countInDoubt 26 = .ok (.istore_n 1, 1) := by decide +kernel
theorem dX1_countInDoubt_27 : decode cX1_countInDoubt 27 = .ok (.iinc 2 1, 3) := by decide +kernel
theorem dX1_countInDoubt_30 : decode cX1_countInDoubt 30 = .ok (.goto (-26), 3) := by decide +kernel
theorem dX1_countInDoubt_33 : decode cX1_countInDoubt 33 = .ok (.iload_n 1, 1) := by decide +kernel
theorem dX1_countInDoubt_34 : decode cX1_countInDoubt 34 = .ok (.ireturn, 1) := by decide +kernel
theorem dX1_allDoubt_0 : decode cX1_allDoubt 0 = .ok (.iconst 0, 1) := by decide +kernel
theorem dX1_allDoubt_1 : decode cX1_allDoubt 1 = .ok (.istore_n 1, 1) := by decide +kernel
theorem dX1_allDoubt_2 : decode cX1_allDoubt 2 = .ok (.iconst 0, 1) := by decide +kernel
theorem dX1_allDoubt_3 : decode cX1_allDoubt 3 = .ok (.istore_n 2, 1) := by decide +kernel
theorem dX1_allDoubt_4 : decode cX1_allDoubt 4 = .ok (.iload_n 2, 1) := by decide +kernel
theorem dX1_allDoubt_5 : decode cX1_allDoubt 5 = .ok (.bipush 6, 2) := by decide +kernel
theorem dX1_allDoubt_7 : decode cX1_allDoubt 7 = .ok (.if_icmp .ge 18, 3) := by decide +kernel
theorem dX1_allDoubt_10 : decode cX1_allDoubt 10 = .ok (.iload_n 1, 1) := by decide +kernel
theorem dX1_allDoubt_11 : decode cX1_allDoubt 11 = .ok (.aload_n 0, 1) := by decide +kernel
theorem dX1_allDoubt_12 : decode cX1_allDoubt 12 = .ok (.getfield 34, 3) := by decide +kernel
theorem dX1_allDoubt_15 : decode cX1_allDoubt 15 = .ok (.iload_n 2, 1) := by decide +kernel
theorem dX1_allDoubt_16 : decode cX1_allDoubt 16 = .ok (.iaload, 1) := by decide +kernel
theorem dX1_allDoubt_17 : decode cX1_allDoubt 17 = .ok (.iadd, 1) := by decide +kernel
theorem dX1_allDoubt_18 : decode cX1_allDoubt 18 = .ok (.istore_n 1, 1) := by decide +kernel
theorem dX1_allDoubt_19 : decode cX1_allDoubt 19 = .ok (.iinc 2 1, 3) := by decide +kernel
theorem dX1_allDoubt_22 : decode cX1_allDoubt 22 = .ok (.goto (-18), 3) := by decide +kernel
theorem dX1_allDoubt_25 : decode cX1_allDoubt 25 = .ok (.iload_n 1, 1) := by decide +kernel
theorem dX1_allDoubt_26 : decode cX1_allDoubt 26 = .ok (.ireturn, 1) := by decide +kernel
theorem dX1_areSealsWhole_0 : decode cX1_areSealsWhole 0 = .ok (.iconst 0, 1) := by decide +kernel
theorem dX1_areSealsWhole_1 : decode cX1_areSealsWhole 1 = .ok (.istore_n 1, 1) := by decide +kernel
theorem dX1_areSealsWhole_2 : decode cX1_areSealsWhole 2 = .ok (.iload_n 1, 1) := by decide +kernel
theorem dX1_areSealsWhole_3 : decode cX1_areSealsWhole 3 = .ok (.aload_n 0, 1) := by decide +kernel
theorem dX1_areSealsWhole_4 : decode cX1_areSealsWhole 4 = .ok (.getfield 41, 3) := by decide +kernel
theorem dX1_areSealsWhole_7 : decode cX1_areSealsWhole 7 = .ok (.if_icmp .ge 29, 3) := by decide +kernel
theorem dX1_areSealsWhole_10 : decode cX1_areSealsWhole 10 = .ok (.aload_n 0, 1) := by decide +kernel
theorem dX1_areSealsWhole_11 : decode cX1_areSealsWhole 11 = .ok (.iload_n 1, 1) := by decide +kernel
theorem dX1_areSealsWhole_12 : decode cX1_areSealsWhole 12 = .ok (.iconst 3, 1) := by decide +kernel
theorem dX1_areSealsWhole_13 : decode cX1_areSealsWhole 13 = .ok (.invokevirtual 99, 3) := by decide +kernel
theorem dX1_areSealsWhole_16 : decode cX1_areSealsWhole 16 = .ok (.ifCond .le 14, 3) := by decide +kernel
theorem dX1_areSealsWhole_19 : decode cX1_areSealsWhole 19 = .ok (.aload_n 0, 1) := by decide +kernel
theorem dX1_areSealsWhole_20 : decode cX1_areSealsWhole 20 = .ok (.iload_n 1, 1) := by decide +kernel
theorem dX1_areSealsWhole_21 : decode cX1_areSealsWhole 21 = .ok (.iconst 4, 1) := by decide +kernel
theorem dX1_areSealsWhole_22 : decode cX1_areSealsWhole 22 = .ok (.invokevirtual 99, 3) := by decide +kernel
theorem dX1_areSealsWhole_25 : decode cX1_areSealsWhole 25 = .ok (.ifCond .le 5, 3) := by decide +kernel
theorem dX1_areSealsWhole_28 : decode cX1_areSealsWhole 28 = .ok (.iconst 0, 1) := by decide +kernel
theorem dX1_areSealsWhole_29 : decode cX1_areSealsWhole 29 = .ok (.ireturn, 1) := by decide +kernel
theorem dX1_areSealsWhole_30 : decode cX1_areSealsWhole 30 = .ok (.iinc 1 1, 3) := by decide +kernel
theorem dX1_areSealsWhole_33 : decode cX1_areSealsWhole 33 = .ok (.goto (-31), 3) := by decide +kernel
theorem dX1_areSealsWhole_36 : decode cX1_areSealsWhole 36 = .ok (.iconst 1, 1) := by decide +kernel
theorem dX1_areSealsWhole_37 : decode cX1_areSealsWhole 37 = .ok (.ireturn, 1) := by decide +kernel
theorem dX1_areWaysAlike_0 : decode cX1_areWaysAlike 0 = .ok (.iconst 0, 1) := by decide +kernel
theorem dX1_areWaysAlike_1 : decode cX1_areWaysAlike 1 = .ok (.istore_n 1, 1) := by decide +kernel
theorem dX1_areWaysAlike_2 : decode cX1_areWaysAlike 2 = .ok (.iload_n 1, 1) := by decide +kernel
theorem dX1_areWaysAlike_3 : decode cX1_areWaysAlike 3 = .ok (.bipush 6, 2) := by decide +kernel
theorem dX1_areWaysAlike_5 : decode cX1_areWaysAlike 5 = .ok (.if_icmp .ge 24, 3) := by decide +kernel
theorem dX1_areWaysAlike_8 : decode cX1_areWaysAlike 8 = .ok (.aload_n 0, 1) := by decide +kernel
theorem dX1_areWaysAlike_9 : decode cX1_areWaysAlike 9 = .ok (.iload_n 1, 1) := by decide +kernel
theorem dX1_areWaysAlike_10 : decode cX1_areWaysAlike 10 = .ok (.invokevirtual 145, 3) := by decide +kernel
theorem dX1_areWaysAlike_13 : decode cX1_areWaysAlike 13 = .ok (.aload_n 0, 1) := by decide +kernel
theorem dX1_areWaysAlike_14 : decode cX1_areWaysAlike 14 = .ok (.iload_n 1, 1) := by decide +kernel
theorem dX1_areWaysAlike_15 : decode cX1_areWaysAlike 15 = .ok (.invokevirtual 148, 3) := by decide +kernel
theorem dX1_areWaysAlike_18 : decode cX1_areWaysAlike 18 = .ok (.if_icmp .eq 5, 3) := by decide +kernel
theorem dX1_areWaysAlike_21 : decode cX1_areWaysAlike 21 = .ok (.iconst 0, 1) := by decide +kernel
theorem dX1_areWaysAlike_22 : decode cX1_areWaysAlike 22 = .ok (.ireturn, 1) := by decide +kernel
theorem dX1_areWaysAlike_23 : decode cX1_areWaysAlike 23 = .ok (.iinc 1 1, 3) := by decide +kernel
theorem dX1_areWaysAlike_26 : decode cX1_areWaysAlike 26 = .ok (.goto (-24), 3) := by decide +kernel
theorem dX1_areWaysAlike_29 : decode cX1_areWaysAlike 29 = .ok (.aload_n 0, 1) := by decide +kernel
theorem dX1_areWaysAlike_30 : decode cX1_areWaysAlike 30 = .ok (.invokevirtual 151, 3) := by decide +kernel
theorem dX1_areWaysAlike_33 : decode cX1_areWaysAlike 33 = .ok (.aload_n 0, 1) := by decide +kernel
theorem dX1_areWaysAlike_34 : decode cX1_areWaysAlike 34 = .ok (.invokevirtual 154, 3) := by decide +kernel
theorem dX1_areWaysAlike_37 : decode cX1_areWaysAlike 37 = .ok (.if_icmp .ne 7, 3) := by decide +kernel
theorem dX1_areWaysAlike_40 : decode cX1_areWaysAlike 40 = .ok (.iconst 1, 1) := by decide +kernel
theorem dX1_areWaysAlike_41 : decode cX1_areWaysAlike 41 = .ok (.goto 4, 3) := by decide +kernel
theorem dX1_areWaysAlike_44 : decode cX1_areWaysAlike 44 = .ok (.iconst 0, 1) := by decide +kernel
theorem dX1_areWaysAlike_45 : decode cX1_areWaysAlike 45 = .ok (.ireturn, 1) := by decide +kernel
theorem dX1_areDoubtsSingle_0 : decode cX1_areDoubtsSingle 0 = .ok (.iconst 0, 1) := by decide +kernel
theorem dX1_areDoubtsSingle_1 : decode cX1_areDoubtsSingle 1 = .ok (.istore_n 1, 1) := by decide +kernel
theorem dX1_areDoubtsSingle_2 : decode cX1_areDoubtsSingle 2 = .ok (.iload_n 1, 1) := by decide +kernel
theorem dX1_areDoubtsSingle_3 : decode cX1_areDoubtsSingle 3 = .ok (.bipush 6, 2) := by decide +kernel
theorem dX1_areDoubtsSingle_5 : decode cX1_areDoubtsSingle 5 = .ok (.if_icmp .ge 21, 3) := by decide +kernel
theorem dX1_areDoubtsSingle_8 : decode cX1_areDoubtsSingle 8 = .ok (.aload_n 0, 1) := by decide +kernel
theorem dX1_areDoubtsSingle_9 : decode cX1_areDoubtsSingle 9 = .ok (.iload_n 1, 1) := by decide +kernel
theorem dX1_areDoubtsSingle_10 : decode cX1_areDoubtsSingle 10 = .ok (.iconst 1, 1) := by decide +kernel
theorem dX1_areDoubtsSingle_11 : decode cX1_areDoubtsSingle 11 = .ok (.invokevirtual 133, 3) := by decide +kernel
theorem dX1_areDoubtsSingle_14 : decode cX1_areDoubtsSingle 14 = .ok (.iconst 1, 1) := by decide +kernel
theorem dX1_areDoubtsSingle_15 : decode cX1_areDoubtsSingle 15 = .ok (.if_icmp .le 5, 3) := by decide +kernel
theorem dX1_areDoubtsSingle_18 : decode cX1_areDoubtsSingle 18 = .ok (.iconst 0, 1) := by decide +kernel
theorem dX1_areDoubtsSingle_19 : decode cX1_areDoubtsSingle 19 = .ok (.ireturn, 1) := by decide +kernel
theorem dX1_areDoubtsSingle_20 : decode cX1_areDoubtsSingle 20 = .ok (.iinc 1 1, 3) := by decide +kernel
theorem dX1_areDoubtsSingle_23 : decode cX1_areDoubtsSingle 23 = .ok (.goto (-21), 3) := by decide +kernel
theorem dX1_areDoubtsSingle_26 : decode cX1_areDoubtsSingle 26 = .ok (.iconst 1, 1) := by decide +kernel
theorem dX1_areDoubtsSingle_27 : decode cX1_areDoubtsSingle 27 = .ok (.ireturn, 1) := by decide +kernel
theorem dX2_init_0 : decode cX2_init 0 = .ok (.aload_n 0, 1) := by decide +kernel
theorem dX2_init_1 : decode cX2_init 1 = .ok (.invokespecial 3, 3) := by decide +kernel
theorem dX2_init_4 : decode cX2_init 4 = .ok (.aload_n 0, 1) := by decide +kernel
theorem dX2_init_5 : decode cX2_init 5 = .ok (.bipush 8, 2) := by decide +kernel
theorem dX2_init_7 : decode cX2_init 7 = .ok (.anewarray 9, 3) := by decide +kernel
theorem dX2_init_10 : decode cX2_init 10 = .ok (.putfield 11, 3) := by decide +kernel
theorem dX2_init_13 : decode cX2_init 13 = .ok (.iconst 0, 1) := by decide +kernel
theorem dX2_init_14 : decode cX2_init 14 = .ok (.istore_n 1, 1) := by decide +kernel
theorem dX2_init_15 : decode cX2_init 15 = .ok (.iload_n 1, 1) := by decide +kernel
theorem dX2_init_16 : decode cX2_init 16 = .ok (.bipush 8, 2) := by decide +kernel
theorem dX2_init_18 : decode cX2_init 18 = .ok (.if_icmp .ge 22, 3) := by decide +kernel
theorem dX2_init_21 : decode cX2_init 21 = .ok (.aload_n 0, 1) := by decide +kernel
theorem dX2_init_22 : decode cX2_init 22 = .ok (.getfield 11, 3) := by decide +kernel
theorem dX2_init_25 : decode cX2_init 25 = .ok (.iload_n 1, 1) := by decide +kernel
theorem dX2_init_26 : decode cX2_init 26 = .ok (.new 9, 3) := by decide +kernel
theorem dX2_init_29 : decode cX2_init 29 = .ok (.dup, 1) := by decide +kernel
theorem dX2_init_30 : decode cX2_init 30 = .ok (.invokespecial 17, 3) := by decide +kernel
theorem dX2_init_33 : decode cX2_init 33 = .ok (.aastore, 1) := by decide +kernel
theorem dX2_init_34 : decode cX2_init 34 = .ok (.iinc 1 1, 3) := by decide +kernel
theorem dX2_init_37 : decode cX2_init 37 = .ok (.goto (-22), 3) := by decide +kernel
theorem dX2_init_40 : decode cX2_init 40 = .ok (.return_, 1) := by decide +kernel
theorem dX2_keep_0 : decode cX2_keep 0 = .ok (.aload_n 0, 1) := by decide +kernel
theorem dX2_keep_1 : decode cX2_keep 1 = .ok (.getfield 11, 3) := by decide +kernel
theorem dX2_keep_4 : decode cX2_keep 4 = .ok (.aload_n 0, 1) := by decide +kernel
theorem dX2_keep_5 : decode cX2_keep 5 = .ok (.getfield 18, 3) := by decide +kernel
theorem dX2_keep_8 : decode cX2_keep 8 = .ok (.aaload, 1) := by decide +kernel
theorem dX2_keep_9 : decode cX2_keep 9 = .ok (.aload_n 1, 1) := by decide +kernel
theorem dX2_keep_10 : decode cX2_keep 10 = .ok (.invokevirtual 22, 3) := by decide +kernel
theorem dX2_keep_13 : decode cX2_keep 13 = .ok (.aload_n 0, 1) := by decide +kernel
theorem dX2_keep_14 : decode cX2_keep 14 = .ok (.aload_n 0, 1) := by decide +kernel
theorem dX2_keep_15 : decode cX2_keep 15 = .ok (.getfield 18, 3) := by decide +kernel
theorem dX2_keep_18 : decode cX2_keep 18 = .ok (.iconst 1, 1) := by decide +kernel
theorem dX2_keep_19 : decode cX2_keep 19 = .ok (.iadd, 1) := by decide +kernel
theorem dX2_keep_20 : decode cX2_keep 20 = .ok (.bipush 8, 2) := by decide +kernel
theorem dX2_keep_22 : decode cX2_keep 22 = .ok (.irem, 1) := by decide +kernel
theorem dX2_keep_23 : decode cX2_keep 23 = .ok (.putfield 18, 3) := by decide +kernel
theorem dX2_keep_26 : decode cX2_keep 26 = .ok (.aload_n 0, 1) := by decide +kernel
theorem dX2_keep_27 : decode cX2_keep 27 = .ok (.aload_n 0, 1) := by decide +kernel
theorem dX2_keep_28 : decode cX2_keep 28 = .ok (.getfield 26, 3) := by decide +kernel
theorem dX2_keep_31 : decode cX2_keep 31 = .ok (.iconst 1, 1) := by decide +kernel
theorem dX2_keep_32 : decode cX2_keep 32 = .ok (.iadd, 1) := by decide +kernel
theorem dX2_keep_33 : decode cX2_keep 33 = .ok (.bipush 8, 2) := by decide +kernel
theorem dX2_keep_35 : decode cX2_keep 35 = .ok (.invokestatic 29, 3) := by decide +kernel
theorem dX2_keep_38 : decode cX2_keep 38 = .ok (.putfield 26, 3) := by decide +kernel
theorem dX2_keep_41 : decode cX2_keep 41 = .ok (.return_, 1) := by decide +kernel
theorem dX2_takeBack_0 : decode cX2_takeBack 0 = .ok (.aload_n 0, 1) := by decide +kernel
theorem dX2_takeBack_1 : decode cX2_takeBack 1 = .ok (.aload_n 0, 1) := by decide +kernel
theorem dX2_takeBack_2 : decode cX2_takeBack 2 = .ok (.getfield 18, 3) := by decide +kernel
theorem dX2_takeBack_5 : decode cX2_takeBack 5 = .ok (.bipush 8, 2) := by decide +kernel
theorem dX2_takeBack_7 : decode cX2_takeBack 7 = .ok (.iadd, 1) := by decide +kernel
theorem dX2_takeBack_8 : decode cX2_takeBack 8 = .ok (.iconst 1, 1) := by decide +kernel
theorem dX2_takeBack_9 : decode cX2_takeBack 9 = .ok (.isub, 1) := by decide +kernel
theorem dX2_takeBack_10 : decode cX2_takeBack 10 = .ok (.bipush 8, 2) := by decide +kernel
theorem dX2_takeBack_12 : decode cX2_takeBack 12 = .ok (.irem, 1) := by decide +kernel
theorem dX2_takeBack_13 : decode cX2_takeBack 13 = .ok (.putfield 18, 3) := by decide +kernel
theorem dX2_takeBack_16 : decode cX2_takeBack 16 = .ok (.aload_n 0, 1) := by decide +kernel
theorem dX2_takeBack_17 : decode cX2_takeBack 17 = .ok (.dup, 1) := by decide +kernel
theorem dX2_takeBack_18 : decode cX2_takeBack 18 = .ok (.getfield 26, 3) := by decide +kernel
theorem dX2_takeBack_21 : decode cX2_takeBack 21 = .ok (.iconst 1, 1) := by decide +kernel
theorem dX2_takeBack_22 : decode cX2_takeBack 22 = .ok (.isub, 1) := by decide +kernel
theorem dX2_takeBack_23 : decode cX2_takeBack 23 = .ok (.putfield 26, 3) := by decide +kernel
theorem dX2_takeBack_26 : decode cX2_takeBack 26 = .ok (.aload_n 1, 1) := by decide +kernel
theorem dX2_takeBack_27 : decode cX2_takeBack 27 = .ok (.aload_n 0, 1) := by decide +kernel
theorem dX2_takeBack_28 : decode cX2_takeBack 28 = .ok (.getfield 11, 3) := by decide +kernel
theorem dX2_takeBack_31 : decode cX2_takeBack 31 = .ok (.aload_n 0, 1) := by decide +kernel
theorem dX2_takeBack_32 : decode cX2_takeBack 32 = .ok (.getfield 18, 3) := by decide +kernel
theorem dX2_takeBack_35 : decode cX2_takeBack 35 = .ok (.aaload, 1) := by decide +kernel
theorem dX2_takeBack_36 : decode cX2_takeBack 36 = .ok (.invokevirtual 22, 3) := by decide +kernel
theorem dX2_takeBack_39 : decode cX2_takeBack 39 = .ok (.return_, 1) := by decide +kernel
theorem dX3_init_0 : decode cX3_init 0 = .ok (.aload_n 0, 1) := by decide +kernel
theorem dX3_init_1 : decode cX3_init 1 = .ok (.invokespecial 3, 3) := by decide +kernel
theorem dX3_init_4 : decode cX3_init 4 = .ok (.aload_n 0, 1) := by decide +kernel
theorem dX3_init_5 : decode cX3_init 5 = .ok (.bipush 39, 2) := by decide +kernel
theorem dX3_init_7 : decode cX3_init 7 = .ok (.newarray .char, 2) := by decide +kernel
theorem dX3_init_9 : decode cX3_init 9 = .ok (.putfield 9, 3) := by decide +kernel
theorem dX3_init_12 : decode cX3_init 12 = .ok (.return_, 1) := by decide +kernel
theorem dX3_write_0 : decode cX3_write 0 = .ok (.aload_n 0, 1) := by decide +kernel
theorem dX3_write_1 : decode cX3_write 1 = .ok (.iconst 0, 1) := by decide +kernel
theorem dX3_write_2 : decode cX3_write 2 = .ok (.putfield 15, 3) := by decide +kernel
theorem dX3_write_5 : decode cX3_write 5 = .ok (.aload_n 0, 1) := by decide +kernel
theorem dX3_write_6 : decode cX3_write 6 = .ok (.bipush 35, 2) := by decide +kernel
theorem dX3_write_8 : decode cX3_write 8 = .ok (.invokevirtual 19, 3) := by decide +kernel
theorem dX3_write_11 : decode cX3_write 11 = .ok (.aload_n 0, 1) := by decide +kernel
theorem dX3_write_12 : decode cX3_write 12 = .ok (.iload_n 2, 1) := by decide +kernel
theorem dX3_write_13 : decode cX3_write 13 = .ok (.invokevirtual 23, 3) := by decide +kernel
theorem dX3_write_16 : decode cX3_write 16 = .ok (.aload_n 0, 1) := by decide +kernel
theorem dX3_write_17 : decode cX3_write 17 = .ok (.aload_n 0, 1) := by decide +kernel
theorem dX3_write_18 : decode cX3_write 18 = .ok (.aload_n 1, 1) := by decide +kernel
theorem dX3_write_19 : decode cX3_write 19 = .ok (.getfield 27, 3) := by decide +kernel
theorem dX3_write_22 : decode cX3_write 22 = .ok (.iload_n 2, 1) := by decide +kernel
theorem dX3_write_23 : decode cX3_write 23 = .ok (.iaload, 1) := by decide +kernel
theorem dX3_write_24 : decode cX3_write 24 = .ok (.invokevirtual 33, 3) := by decide +kernel
theorem dX3_write_27 : decode cX3_write 27 = .ok (.invokevirtual 19, 3) := by decide +kernel
theorem dX3_write_30 : decode cX3_write 30 = .ok (.iconst 0, 1) := by decide +kernel
theorem dX3_write_31 : decode cX3_write 31 = .ok (.istore_n 3, 1) := by decide +kernel
theorem dX3_write_32 : decode cX3_write 32 = .ok (.iload_n 3, 1) := by decide +kernel
theorem dX3_write_33 : decode cX3_write 33 = .ok (.bipush 6, 2) := by decide +kernel
theorem dX3_write_35 : decode cX3_write 35 = .ok (.if_icmp .ge 25, 3) := by decide +kernel
theorem dX3_write_38 : decode cX3_write 38 = .ok (.aload_n 1, 1) := by decide +kernel
theorem dX3_write_39 : decode cX3_write 39 = .ok (.iload_n 2, 1) := by decide +kernel
theorem dX3_write_40 : decode cX3_write 40 = .ok (.iload_n 3, 1) := by decide +kernel
theorem dX3_write_41 : decode cX3_write 41 = .ok (.invokevirtual 37, 3) := by decide +kernel
theorem dX3_write_44 : decode cX3_write 44 = .ok (.ifCond .eq 10, 3) := by decide +kernel
theorem dX3_write_47 : decode cX3_write 47 = .ok (.aload_n 0, 1) := by decide +kernel
theorem dX3_write_48 : decode cX3_write 48 = .ok (.aload_n 1, 1) := by decide +kernel
theorem dX3_write_49 : decode cX3_write 49 = .ok (.iload_n 2, 1) := by decide +kernel
theorem dX3_write_50 : decode cX3_write 50 = .ok (.iload_n 3, 1) := by decide +kernel
theorem dX3_write_51 : decode cX3_write 51 = .ok (.invokevirtual 41, 3) := by decide +kernel
theorem dX3_write_54 : decode cX3_write 54 = .ok (.iinc 3 1, 3) := by decide +kernel
theorem dX3_write_57 : decode cX3_write 57 = .ok (.goto (-25), 3) := by decide +kernel
theorem dX3_write_60 : decode cX3_write 60 = .ok (.return_, 1) := by decide +kernel
theorem dX3_writeGuild_0 : decode cX3_writeGuild 0 = .ok (.aload_n 1, 1) := by decide +kernel
theorem dX3_writeGuild_1 : decode cX3_writeGuild 1 = .ok (.iload_n 2, 1) := by decide +kernel
theorem dX3_writeGuild_2 : decode cX3_writeGuild 2 = .ok (.iload_n 3, 1) := by decide +kernel
theorem dX3_writeGuild_3 : decode cX3_writeGuild 3 = .ok (.invokevirtual 45, 3) := by decide +kernel
theorem dX3_writeGuild_6 : decode cX3_writeGuild 6 = .ok (.istore 4, 2) := by decide +kernel
theorem dX3_writeGuild_8 : decode cX3_writeGuild 8 = .ok (.aload_n 0, 1) := by decide +kernel
theorem dX3_writeGuild_9 : decode cX3_writeGuild 9 = .ok (.bipush 32, 2) := by decide +kernel
theorem dX3_writeGuild_11 : decode cX3_writeGuild 11 = .ok (.invokevirtual 19, 3) := by decide +kernel
theorem dX3_writeGuild_14 : decode cX3_writeGuild 14 = .ok (.aload_n 0, 1) := by decide +kernel
theorem dX3_writeGuild_15 : decode cX3_writeGuild 15 = .ok (.iload_n 3, 1) := by decide +kernel
theorem dX3_writeGuild_16 : decode cX3_writeGuild 16 = .ok (.invokevirtual 23, 3) := by decide +kernel
theorem dX3_writeGuild_19 : decode cX3_writeGuild 19 = .ok (.aload_n 0, 1) := by decide +kernel
theorem dX3_writeGuild_20 : decode cX3_writeGuild 20 = .ok (.iload 4, 2) := by decide +kernel
theorem dX3_writeGuild_22 : decode cX3_writeGuild 22 = .ok (.ifCond .ge 8, 3) := by decide +kernel
theorem dX3_writeGuild_25 : decode cX3_writeGuild 25 = .ok (.bipush 45, 2) := by decide +kernel
theorem dX3_writeGuild_27 : decode cX3_writeGuild 27 = .ok (.goto 5, 3) := by decide +kernel
theorem dX3_writeGuild_30 : decode cX3_writeGuild 30 = .ok (.bipush 43, 2) := by decide +kernel
theorem dX3_writeGuild_32 : decode cX3_writeGuild 32 = .ok (.invokevirtual 19, 3) := by decide +kernel
theorem dX3_writeGuild_35 : decode cX3_writeGuild 35 = .ok (.aload_n 0, 1) := by decide +kernel
theorem dX3_writeGuild_36 : decode cX3_writeGuild 36 = .ok (.iload 4, 2) := by decide +kernel
theorem dX3_writeGuild_38 : decode cX3_writeGuild 38 = .ok (.invokestatic 49, 3) := by decide +kernel
theorem dX3_writeGuild_41 : decode cX3_writeGuild 41 = .ok (.invokevirtual 23, 3) := by decide +kernel
theorem dX3_writeGuild_44 : decode cX3_writeGuild 44 = .ok (.aload_n 0, 1) := by decide +kernel
theorem dX3_writeGuild_45 : decode cX3_writeGuild 45 = .ok (.aload_n 0, 1) := by decide +kernel
theorem dX3_writeGuild_46 : decode cX3_writeGuild 46 = .ok (.aload_n 1, 1) := by decide +kernel
theorem dX3_writeGuild_47 : decode cX3_writeGuild 47 = .ok (.iload_n 2, 1) := by decide +kernel
theorem dX3_writeGuild_48 : decode cX3_writeGuild 48 = .ok (.iload_n 3, 1) := by decide +kernel
theorem dX3_writeGuild_49 : decode cX3_writeGuild 49 = .ok (.invokevirtual 55, 3) := by decide +kernel
theorem dX3_writeGuild_52 : decode cX3_writeGuild 52 = .ok (.invokevirtual 58, 3) := by decide +kernel
theorem dX3_writeGuild_55 : decode cX3_writeGuild 55 = .ok (.invokevirtual 19, 3) := by decide +kernel
theorem dX3_writeGuild_58 : decode cX3_writeGuild 58 = .ok (.return_, 1) := by decide +kernel
theorem dX3_signOfMatter_0 : decode cX3_signOfMatter 0 = .ok (.iload_n 1, 1) := by decide +kernel
theorem dX3_signOfMatter_1 : decode cX3_signOfMatter 1 = .ok (.lookupswitch 33 #[(1, 27), (2, 30)], 27) := by decide +kernel
theorem dX3_signOfMatter_28 : decode cX3_signOfMatter 28 = .ok (.bipush 115, 2) := by decide +kernel
theorem dX3_signOfMatter_30 : decode cX3_signOfMatter 30 = .ok (.ireturn, 1) := by decide +kernel
theorem dX3_signOfMatter_31 : decode cX3_signOfMatter 31 = .ok (.bipush 98, 2) := by decide +kernel
theorem dX3_signOfMatter_33 : decode cX3_signOfMatter 33 = .ok (.ireturn, 1) := by decide +kernel
theorem dX3_signOfMatter_34 : decode cX3_signOfMatter 34 = .ok (.bipush 111, 2) := by decide +kernel
theorem dX3_signOfMatter_36 : decode cX3_signOfMatter 36 = .ok (.ireturn, 1) := by decide +kernel
theorem dX3_signOfAnswer_0 : decode cX3_signOfAnswer 0 = .ok (.iload_n 1, 1) := by decide +kernel
theorem dX3_signOfAnswer_1 : decode cX3_signOfAnswer 1 = .ok (.tableswitch 43 1 4 #[31, 34, 37, 40], 31) := by decide +kernel
theorem dX3_signOfAnswer_32 : decode cX3_signOfAnswer 32 = .ok (.bipush 114, 2) := by decide +kernel
theorem dX3_signOfAnswer_34 : decode cX3_signOfAnswer 34 = .ok (.ireturn, 1) := by decide +kernel
theorem dX3_signOfAnswer_35 : decode cX3_signOfAnswer 35 = .ok (.bipush 117, 2) := by decide +kernel
theorem dX3_signOfAnswer_37 : decode cX3_signOfAnswer 37 = .ok (.ireturn, 1) := by decide +kernel
theorem dX3_signOfAnswer_38 : decode cX3_signOfAnswer 38 = .ok (.bipush 115, 2) := by decide +kernel
theorem dX3_signOfAnswer_40 : decode cX3_signOfAnswer 40 = .ok (.ireturn, 1) := by decide +kernel
theorem dX3_signOfAnswer_41 : decode cX3_signOfAnswer 41 = .ok (.bipush 98, 2) := by decide +kernel
theorem dX3_signOfAnswer_43 : decode cX3_signOfAnswer 43 = .ok (.ireturn, 1) := by decide +kernel
theorem dX3_signOfAnswer_44 : decode cX3_signOfAnswer 44 = .ok (.bipush 110, 2) := by decide +kernel
theorem dX3_signOfAnswer_46 : decode cX3_signOfAnswer 46 = .ok (.ireturn, 1) := by decide +kernel
theorem dX3_putNumber_0 : decode cX3_putNumber 0 = .ok (.iload_n 1, 1) := by decide +kernel
theorem dX3_putNumber_1 : decode cX3_putNumber 1 = .ok (.bipush 10, 2) := by decide +kernel
theorem dX3_putNumber_3 : decode cX3_putNumber 3 = .ok (.if_icmp .lt 15, 3) := by decide +kernel
theorem dX3_putNumber_6 : decode cX3_putNumber 6 = .ok (.aload_n 0, 1) := by decide +kernel
theorem dX3_putNumber_7 : decode cX3_putNumber 7 = .ok (.bipush 48, 2) := by decide +kernel
theorem dX3_putNumber_9 : decode cX3_putNumber 9 = .ok (.iload_n 1, 1) := by decide +kernel
theorem dX3_putNumber_10 : decode cX3_putNumber 10 = .ok (.bipush 10, 2) := by decide +kernel
theorem dX3_putNumber_12 : decode cX3_putNumber 12 = .ok (.idiv, 1) := by decide +kernel
theorem dX3_putNumber_13 : decode cX3_putNumber 13 = .ok (.iadd, 1) := by decide +kernel
theorem dX3_putNumber_14 : decode cX3_putNumber 14 = .ok (.i2c, 1) := by decide +kernel
theorem dX3_putNumber_15 : decode cX3_putNumber 15 = .ok (.invokevirtual 19, 3) := by decide +kernel
theorem dX3_putNumber_18 : decode cX3_putNumber 18 = .ok (.aload_n 0, 1) := by decide +kernel
theorem dX3_putNumber_19 : decode cX3_putNumber 19 = .ok (.bipush 48, 2) := by decide +kernel
theorem dX3_putNumber_21 : decode cX3_putNumber 21 = .ok (.iload_n 1, 1) := by decide +kernel
theorem dX3_putNumber_22 : decode cX3_putNumber 22 = .ok (.bipush 10, 2) := by decide +kernel
theorem dX3_putNumber_24 : decode cX3_putNumber 24 = .ok (.irem, 1) := by decide +kernel
theorem dX3_putNumber_25 : decode cX3_putNumber 25 = .ok (.iadd, 1) := by decide +kernel
theorem dX3_putNumber_26 : decode cX3_putNumber 26 = .ok (.i2c, 1) := by decide +kernel
theorem dX3_putNumber_27 : decode cX3_putNumber 27 = .ok (.invokevirtual 19, 3) := by decide +kernel
theorem dX3_putNumber_30 : decode cX3_putNumber 30 = .ok (.return_, 1) := by decide +kernel
theorem dX3_put_0 : decode cX3_put 0 = .ok (.aload_n 0, 1) := by decide +kernel
theorem dX3_put_1 : decode cX3_put 1 = .ok (.getfield 15, 3) := by decide +kernel
theorem dX3_put_4 : decode cX3_put 4 = .ok (.bipush 39, 2) := by decide +kernel
theorem dX3_put_6 : decode cX3_put 6 = .ok (.if_icmp .ge 23, 3) := by decide +kernel
theorem dX3_put_9 : decode cX3_put 9 = .ok (.aload_n 0, 1) := by decide +kernel
theorem dX3_put_10 : decode cX3_put 10 = .ok (.getfield 9, 3) := by decide +kernel
theorem dX3_put_13 : decode cX3_put 13 = .ok (.aload_n 0, 1) := by decide +kernel
theorem dX3_put_14 : decode cX3_put 14 = .ok (.getfield 15, 3) := by decide +kernel
theorem dX3_put_17 : decode cX3_put 17 = .ok (.iload_n 1, 1) := by decide +kernel
theorem dX3_put_18 : decode cX3_put 18 = .ok (.castore, 1) := by decide +kernel
theorem dX3_put_19 : decode cX3_put 19 = .ok (.aload_n 0, 1) := by decide +kernel
theorem dX3_put_20 : decode cX3_put 20 = .ok (.dup, 1) := by decide +kernel
theorem dX3_put_21 : decode cX3_put 21 = .ok (.getfield 15, 3) := by decide +kernel
theorem dX3_put_24 : decode cX3_put 24 = .ok (.iconst 1, 1) := by decide +kernel
theorem dX3_put_25 : decode cX3_put 25 = .ok (.iadd, 1) := by decide +kernel
theorem dX3_put_26 : decode cX3_put 26 = .ok (.putfield 15, 3) := by decide +kernel
theorem dX3_put_29 : decode cX3_put 29 = .ok (.return_, 1) := by decide +kernel
theorem dX4_init_0 : decode cX4_init 0 = .ok (.aload_n 0, 1) := by decide +kernel
theorem dX4_init_1 : decode cX4_init 1 = .ok (.invokespecial 3, 3) := by decide +kernel
theorem dX4_init_4 : decode cX4_init 4 = .ok (.aload_n 0, 1) := by decide +kernel
theorem dX4_init_5 : decode cX4_init 5 = .ok (.bipush 60, 2) := by decide +kernel
theorem dX4_init_7 : decode cX4_init 7 = .ok (.newarray .char, 2) := by decide +kernel
theorem dX4_init_9 : decode cX4_init 9 = .ok (.putfield 9, 3) := by decide +kernel
theorem dX4_init_12 : decode cX4_init 12 = .ok (.aload_n 0, 1) := by decide +kernel
theorem dX4_init_13 : decode cX4_init 13 = .ok (.iconst (-1), 1) := by decide +kernel
theorem dX4_init_14 : decode cX4_init 14 = .ok (.putfield 15, 3) := by decide +kernel
theorem dX4_init_17 : decode cX4_init 17 = .ok (.aload_n 0, 1) := by decide +kernel
theorem dX4_init_18 : decode cX4_init 18 = .ok (.bipush 30, 2) := by decide +kernel
theorem dX4_init_20 : decode cX4_init 20 = .ok (.newarray .int, 2) := by decide +kernel
theorem dX4_init_22 : decode cX4_init 22 = .ok (.putfield 19, 3) := by decide +kernel
theorem dX4_init_25 : decode cX4_init 25 = .ok (.aload_n 0, 1) := by decide +kernel
theorem dX4_init_26 : decode cX4_init 26 = .ok (.bipush 30, 2) := by decide +kernel
theorem dX4_init_28 : decode cX4_init 28 = .ok (.newarray .int, 2) := by decide +kernel
theorem dX4_init_30 : decode cX4_init 30 = .ok (.putfield 23, 3) := by decide +kernel
theorem dX4_init_33 : decode cX4_init 33 = .ok (.aload_n 0, 1) := by decide +kernel
theorem dX4_init_34 : decode cX4_init 34 = .ok (.bipush 30, 2) := by decide +kernel
theorem dX4_init_36 : decode cX4_init 36 = .ok (.newarray .int, 2) := by decide +kernel
theorem dX4_init_38 : decode cX4_init 38 = .ok (.putfield 26, 3) := by decide +kernel
theorem dX4_init_41 : decode cX4_init 41 = .ok (.aload_n 0, 1) := by decide +kernel
theorem dX4_init_42 : decode cX4_init 42 = .ok (.bipush 30, 2) := by decide +kernel
theorem dX4_init_44 : decode cX4_init 44 = .ok (.newarray .int, 2) := by decide +kernel
theorem dX4_init_46 : decode cX4_init 46 = .ok (.putfield 29, 3) := by decide +kernel
theorem dX4_init_49 : decode cX4_init 49 = .ok (.return_, 1) := by decide +kernel
theorem dX4_addCharacter_0 : decode cX4_addCharacter 0 = .ok (.aload_n 0, 1) := by decide +kernel
theorem dX4_addCharacter_1 : decode cX4_addCharacter 1 = .ok (.getfield 32, 3) := by decide +kernel
theorem dX4_addCharacter_4 : decode cX4_addCharacter 4 = .ok (.bipush 60, 2) := by decide +kernel
theorem dX4_addCharacter_6 : decode cX4_addCharacter 6 = .ok (.if_icmp .ge 23, 3) := by decide +kernel
theorem dX4_addCharacter_9 : decode cX4_addCharacter 9 = .ok (.aload_n 0, 1) := by decide +kernel
theorem dX4_addCharacter_10 : decode cX4_addCharacter 10 = .ok (.getfield 9, 3) := by decide +kernel
theorem dX4_addCharacter_13 : decode cX4_addCharacter 13 = .ok (.aload_n 0, 1) := by decide +kernel
theorem dX4_addCharacter_14 : decode cX4_addCharacter 14 = .ok (.getfield 32, 3) := by decide +kernel
theorem dX4_addCharacter_17 : decode cX4_addCharacter 17 = .ok (.iload_n 1, 1) := by decide +kernel
theorem dX4_addCharacter_18 : decode cX4_addCharacter 18 = .ok (.castore, 1) := by decide +kernel
theorem dX4_addCharacter_19 : decode cX4_addCharacter 19 = .ok (.aload_n 0, 1) := by decide +kernel
theorem dX4_addCharacter_20 : decode cX4_addCharacter 20 = .ok (.dup, 1) := by decide +kernel
theorem dX4_addCharacter_21 : decode cX4_addCharacter 21 = .ok (.getfield 32, 3) := by decide +kernel
theorem dX4_addCharacter_24 : decode cX4_addCharacter 24 = .ok (.iconst 1, 1) := by decide +kernel
theorem dX4_addCharacter_25 : decode cX4_addCharacter 25 = .ok (.iadd, 1) := by decide +kernel
theorem dX4_addCharacter_26 : decode cX4_addCharacter 26 = .ok (.putfield 32, 3) := by decide +kernel
theorem dX4_addCharacter_29 : decode cX4_addCharacter 29 = .ok (.return_, 1) := by decide +kernel
theorem dX4_readText_0 : decode cX4_readText 0 = .ok (.aload_n 0, 1) := by decide +kernel
theorem dX4_readText_1 : decode cX4_readText 1 = .ok (.iconst 0, 1) := by decide +kernel
theorem dX4_readText_2 : decode cX4_readText 2 = .ok (.putfield 35, 3) := by decide +kernel
theorem dX4_readText_5 : decode cX4_readText 5 = .ok (.aload_n 0, 1) := by decide +kernel
theorem dX4_readText_6 : decode cX4_readText 6 = .ok (.iconst 0, 1) := by decide +kernel
theorem dX4_readText_7 : decode cX4_readText 7 = .ok (.putfield 38, 3) := by decide +kernel
theorem dX4_readText_10 : decode cX4_readText 10 = .ok (.aload_n 0, 1) := by decide +kernel
theorem dX4_readText_11 : decode cX4_readText 11 = .ok (.iconst 0, 1) := by decide +kernel
theorem dX4_readText_12 : decode cX4_readText 12 = .ok (.putfield 41, 3) := by decide +kernel
theorem dX4_readText_15 : decode cX4_readText 15 = .ok (.iconst 0, 1) := by decide +kernel
theorem dX4_readText_16 : decode cX4_readText 16 = .ok (.istore_n 1, 1) := by decide +kernel
theorem dX4_readText_17 : decode cX4_readText 17 = .ok (.iload_n 1, 1) := by decide +kernel
theorem dX4_readText_18 : decode cX4_readText 18 = .ok (.bipush 30, 2) := by decide +kernel
theorem dX4_readText_20 : decode cX4_readText 20 = .ok (.if_icmp .gt 40, 3) := by decide +kernel
theorem dX4_readText_23 : decode cX4_readText 23 = .ok (.aload_n 0, 1) := by decide +kernel
theorem dX4_readText_24 : decode cX4_readText 24 = .ok (.getfield 41, 3) := by decide +kernel
theorem dX4_readText_27 : decode cX4_readText 27 = .ok (.ifCond .ne 33, 3) := by decide +kernel
theorem dX4_readText_30 : decode cX4_readText 30 = .ok (.aload_n 0, 1) := by decide +kernel
theorem dX4_readText_31 : decode cX4_readText 31 = .ok (.invokevirtual 45, 3) := by decide +kernel
theorem dX4_readText_34 : decode cX4_readText 34 = .ok (.aload_n 0, 1) := by decide +kernel
theorem dX4_readText_35 : decode cX4_readText 35 = .ok (.getfield 35, 3) := by decide +kernel
theorem dX4_readText_38 : decode cX4_readText 38 = .ok (.aload_n 0, 1) := by decide +kernel
theorem dX4_readText_39 : decode cX4_readText 39 = .ok (.getfield 32, 3) := by decide +kernel
theorem dX4_readText_42 : decode cX4_readText 42 = .ok (.if_icmp .ne 6, 3) := by decide +kernel
theorem dX4_readText_45 : decode cX4_readText 45 = .ok (.goto 15, 3) := by decide +kernel
theorem dX4_readText_48 : decode cX4_readText 48 = .ok (.aload_n 0, 1) := by decide +kernel
theorem dX4_readText_49 : decode cX4_readText 49 = .ok (.bipush 59, 2) := by decide +kernel
theorem dX4_readText_51 : decode cX4_readText 51 = .ok (.invokevirtual 48, 3) := by decide +kernel
theorem dX4_readText_54 : decode cX4_readText 54 = .ok (.iinc 1 1, 3) := by decide +kernel
theorem dX4_readText_57 : decode cX4_readText 57 = .ok (.goto (-40), 3) := by decide +kernel
theorem dX4_readText_60 : decode cX4_readText 60 = .ok (.aload_n 0, 1) := by decide +kernel
theorem dX4_readText_61 : decode cX4_readText 61 = .ok (.aload_n 0, 1) := by decide +kernel
theorem dX4_readText_62 : decode cX4_readText 62 = .ok (.getfield 41, 3) := by decide +kernel
theorem dX4_readText_65 : decode cX4_readText 65 = .ok (.ifCond .eq 10, 3) := by decide +kernel
theorem dX4_readText_68 : decode cX4_readText 68 = .ok (.aload_n 0, 1) := by decide +kernel
theorem dX4_readText_69 : decode cX4_readText 69 = .ok (.getfield 35, 3) := by decide +kernel
theorem dX4_readText_72 : decode cX4_readText 72 = .ok (.goto 4, 3) := by decide +kernel
theorem dX4_readText_75 : decode cX4_readText 75 = .ok (.iconst (-1), 1) := by decide +kernel
theorem dX4_readText_76 : decode cX4_readText 76 = .ok (.putfield 15, 3) := by decide +kernel
theorem dX4_readText_79 : decode cX4_readText 79 = .ok (.aload_n 0, 1) := by decide +kernel
theorem dX4_readText_80 : decode cX4_readText 80 = .ok (.iconst 0, 1) := by decide +kernel
theorem dX4_readText_81 : decode cX4_readText 81 = .ok (.putfield 32, 3) := by decide +kernel
theorem dX4_readText_84 : decode cX4_readText 84 = .ok (.aload_n 0, 1) := by decide +kernel
theorem dX4_readText_85 : decode cX4_readText 85 = .ok (.getfield 41, 3) := by decide +kernel
theorem dX4_readText_88 : decode cX4_readText 88 = .ok (.ifCond .ne 7, 3) := by decide +kernel
theorem dX4_readText_91 : decode cX4_readText 91 = .ok (.iconst 1, 1) := by decide +kernel
theorem dX4_readText_92 : decode cX4_readText 92 = .ok (.goto 4, 3) := by decide +kernel
theorem dX4_readText_95 : decode cX4_readText 95 = .ok (.iconst 0, 1) := by decide +kernel
theorem dX4_readText_96 : decode cX4_readText 96 = .ok (.ireturn, 1) := by decide +kernel
theorem dX4_readOrder_0 : decode cX4_readOrder 0 = .ok (.aload_n 0, 1) := by decide +kernel
theorem dX4_readOrder_1 : decode cX4_readOrder 1 = .ok (.invokevirtual 52, 3) := by decide +kernel
theorem dX4_readOrder_4 : decode cX4_readOrder 4 = .ok (.istore_n 1, 1) := by decide +kernel
theorem dX4_readOrder_5 : decode cX4_readOrder 5 = .ok (.aload_n 0, 1) := by decide +kernel
theorem dX4_readOrder_6 : decode cX4_readOrder 6 = .ok (.iload_n 1, 1) := by decide +kernel
theorem dX4_readOrder_7 : decode cX4_readOrder 7 = .ok (.invokevirtual 56, 3) := by decide +kernel
theorem dX4_readOrder_10 : decode cX4_readOrder 10 = .ok (.ifCond .eq 10, 3) := by decide +kernel
theorem dX4_readOrder_13 : decode cX4_readOrder 13 = .ok (.aload_n 0, 1) := by decide +kernel
theorem dX4_readOrder_14 : decode cX4_readOrder 14 = .ok (.invokevirtual 60, 3) := by decide +kernel
theorem dX4_readOrder_17 : decode cX4_readOrder 17 = .ok (.goto 4, 3) := by decide +kernel
theorem dX4_readOrder_20 : decode cX4_readOrder 20 = .ok (.iconst 0, 1) := by decide +kernel
theorem dX4_readOrder_21 : decode cX4_readOrder 21 = .ok (.istore_n 2, 1) := by decide +kernel
theorem dX4_readOrder_22 : decode cX4_readOrder 22 = .ok (.aload_n 0, 1) := by decide +kernel
theorem dX4_readOrder_23 : decode cX4_readOrder 23 = .ok (.iload_n 1, 1) := by decide +kernel
theorem dX4_readOrder_24 : decode cX4_readOrder 24 = .ok (.invokevirtual 56, 3) := by decide +kernel
theorem dX4_readOrder_27 : decode cX4_readOrder 27 = .ok (.ifCond .eq 17, 3) := by decide +kernel
theorem dX4_readOrder_30 : decode cX4_readOrder 30 = .ok (.aload_n 0, 1) := by decide +kernel
theorem dX4_readOrder_31 : decode cX4_readOrder 31 = .ok (.iload_n 1, 1) := by decide +kernel
theorem dX4_readOrder_32 : decode cX4_readOrder 32 = .ok (.invokevirtual 63, 3) := by decide +kernel
theorem dX4_readOrder_35 : decode cX4_readOrder 35 = .ok (.ifCond .eq 9, 3) := by decide +kernel
theorem dX4_readOrder_38 : decode cX4_readOrder 38 = .ok (.aload_n 0, 1) := by decide +kernel
theorem dX4_readOrder_39 : decode cX4_readOrder 39 = .ok (.bipush 46, 2) := by decide +kernel
theorem dX4_readOrder_41 : decode cX4_readOrder 41 = .ok (.invokevirtual 48, 3) := by decide +kernel
theorem dX4_readOrder_44 : decode cX4_readOrder 44 = .ok (.aload_n 0, 1) := by decide +kernel
theorem dX4_readOrder_45 : decode cX4_readOrder 45 = .ok (.iload_n 1, 1) := by decide +kernel
theorem dX4_readOrder_46 : decode cX4_readOrder 46 = .ok (.invokevirtual 63, 3) := by decide +kernel
theorem dX4_readOrder_49 : decode cX4_readOrder 49 = .ok (.ifCond .eq 10, 3) := by decide +kernel
theorem dX4_readOrder_52 : decode cX4_readOrder 52 = .ok (.aload_n 0, 1) := by decide +kernel
theorem dX4_readOrder_53 : decode cX4_readOrder 53 = .ok (.invokevirtual 60, 3) := by decide +kernel
theorem dX4_readOrder_56 : decode cX4_readOrder 56 = .ok (.goto 4, 3) := by decide +kernel
theorem dX4_readOrder_59 : decode cX4_readOrder 59 = .ok (.iconst 0, 1) := by decide +kernel
theorem dX4_readOrder_60 : decode cX4_readOrder 60 = .ok (.istore_n 3, 1) := by decide +kernel
theorem dX4_readOrder_61 : decode cX4_readOrder 61 = .ok (.aload_n 0, 1) := by decide +kernel
theorem dX4_readOrder_62 : decode cX4_readOrder 62 = .ok (.iload_n 1, 1) := by decide +kernel
theorem dX4_readOrder_63 : decode cX4_readOrder 63 = .ok (.invokevirtual 66, 3) := by decide +kernel
theorem dX4_readOrder_66 : decode cX4_readOrder 66 = .ok (.istore 4, 2) := by decide +kernel
theorem dX4_readOrder_68 : decode cX4_readOrder 68 = .ok (.aload_n 0, 1) := by decide +kernel
theorem dX4_readOrder_69 : decode cX4_readOrder 69 = .ok (.getfield 41, 3) := by decide +kernel
theorem dX4_readOrder_72 : decode cX4_readOrder 72 = .ok (.ifCond .ne 63, 3) := by decide +kernel
theorem dX4_readOrder_75 : decode cX4_readOrder 75 = .ok (.aload_n 0, 1) := by decide +kernel
theorem dX4_readOrder_76 : decode cX4_readOrder 76 = .ok (.getfield 38, 3) := by decide +kernel
theorem dX4_readOrder_79 : decode cX4_readOrder 79 = .ok (.bipush 30, 2) := by decide +kernel
theorem dX4_readOrder_81 : decode cX4_readOrder 81 = .ok (.if_icmp .ge 54, 3) := by decide +kernel
theorem dX4_readOrder_84 : decode cX4_readOrder 84 = .ok (.aload_n 0, 1) := by decide +kernel
theorem dX4_readOrder_85 : decode cX4_readOrder 85 = .ok (.getfield 19, 3) := by decide +kernel
theorem dX4_readOrder_88 : decode cX4_readOrder 88 = .ok (.aload_n 0, 1) := by decide +kernel
theorem dX4_readOrder_89 : decode cX4_readOrder 89 = .ok (.getfield 38, 3) := by decide +kernel
theorem dX4_readOrder_92 : decode cX4_readOrder 92 = .ok (.iload_n 1, 1) := by decide +kernel
theorem dX4_readOrder_93 : decode cX4_readOrder 93 = .ok (.iastore, 1) := by decide +kernel
theorem dX4_readOrder_94 : decode cX4_readOrder 94 = .ok (.aload_n 0, 1) := by decide +kernel
theorem dX4_readOrder_95 : decode cX4_readOrder 95 = .ok (.getfield 23, 3) := by decide +kernel
theorem dX4_readOrder_98 : decode cX4_readOrder 98 = .ok (.aload_n 0, 1) := by decide +kernel
theorem dX4_readOrder_99 : decode cX4_readOrder 99 = .ok (.getfield 38, 3) := by decide +kernel
theorem dX4_readOrder_102 : decode cX4_readOrder 102 = .ok (.iload_n 2, 1) := by decide +kernel
theorem dX4_readOrder_103 : decode cX4_readOrder 103 = .ok (.iastore, 1) := by decide +kernel
theorem dX4_readOrder_104 : decode cX4_readOrder 104 = .ok (.aload_n 0, 1) := by decide +kernel
theorem dX4_readOrder_105 : decode cX4_readOrder 105 = .ok (.getfield 26, 3) := by decide +kernel
theorem dX4_readOrder_108 : decode cX4_readOrder 108 = .ok (.aload_n 0, 1) := by decide +kernel
theorem dX4_readOrder_109 : decode cX4_readOrder 109 = .ok (.getfield 38, 3) := by decide +kernel
theorem dX4_readOrder_112 : decode cX4_readOrder 112 = .ok (.iload_n 3, 1) := by decide +kernel
theorem dX4_readOrder_113 : decode cX4_readOrder 113 = .ok (.iastore, 1) := by decide +kernel
theorem dX4_readOrder_114 : decode cX4_readOrder 114 = .ok (.aload_n 0, 1) := by decide +kernel
theorem dX4_readOrder_115 : decode cX4_readOrder 115 = .ok (.getfield 29, 3) := by decide +kernel
theorem dX4_readOrder_118 : decode cX4_readOrder 118 = .ok (.aload_n 0, 1) := by decide +kernel
theorem dX4_readOrder_119 : decode cX4_readOrder 119 = .ok (.getfield 38, 3) := by decide +kernel
theorem dX4_readOrder_122 : decode cX4_readOrder 122 = .ok (.iload 4, 2) := by decide +kernel
theorem dX4_readOrder_124 : decode cX4_readOrder 124 = .ok (.iastore, 1) := by decide +kernel
theorem dX4_readOrder_125 : decode cX4_readOrder 125 = .ok (.aload_n 0, 1) := by decide +kernel
theorem dX4_readOrder_126 : decode cX4_readOrder 126 = .ok (.dup, 1) := by decide +kernel
theorem dX4_readOrder_127 : decode cX4_readOrder 127 = .ok (.getfield 38, 3) := by decide +kernel
theorem dX4_readOrder_130 : decode cX4_readOrder 130 = .ok (.iconst 1, 1) := by decide +kernel
theorem dX4_readOrder_131 : decode cX4_readOrder 131 = .ok (.iadd, 1) := by decide +kernel
theorem dX4_readOrder_132 : decode cX4_readOrder 132 = .ok (.putfield 38, 3) := by decide +kernel
theorem dX4_readOrder_135 : decode cX4_readOrder 135 = .ok (.return_, 1) := by decide +kernel
theorem dX4_hasMatter_0 : decode cX4_hasMatter 0 = .ok (.iload_n 1, 1) := by decide +kernel
theorem dX4_hasMatter_1 : decode cX4_hasMatter 1 = .ok (.bipush 97, 2) := by decide +kernel
theorem dX4_hasMatter_3 : decode cX4_hasMatter 3 = .ok (.if_icmp .eq 27, 3) := by decide +kernel
theorem dX4_hasMatter_6 : decode cX4_hasMatter 6 = .ok (.iload_n 1, 1) := by decide +kernel
theorem dX4_hasMatter_7 : decode cX4_hasMatter 7 = .ok (.bipush 113, 2) := by decide +kernel
theorem dX4_hasMatter_9 : decode cX4_hasMatter 9 = .ok (.if_icmp .eq 21, 3) := by decide +kernel
theorem dX4_hasMatter_12 : decode cX4_hasMatter 12 = .ok (.iload_n 1, 1) := by decide +kernel
theorem dX4_hasMatter_13 : decode cX4_hasMatter 13 = .ok (.bipush 100, 2) := by decide +kernel
theorem dX4_hasMatter_15 : decode cX4_hasMatter 15 = .ok (.if_icmp .eq 15, 3) := by decide +kernel
theorem dX4_hasMatter_18 : decode cX4_hasMatter 18 = .ok (.iload_n 1, 1) := by decide +kernel
theorem dX4_hasMatter_19 : decode cX4_hasMatter 19 = .ok (.bipush 116, 2) := by decide +kernel
theorem dX4_hasMatter_21 : decode cX4_hasMatter 21 = .ok (.if_icmp .eq 9, 3) := by decide +kernel
theorem dX4_hasMatter_24 : decode cX4_hasMatter 24 = .ok (.iload_n 1, 1) := by decide +kernel
theorem dX4_hasMatter_25 : decode cX4_hasMatter 25 = .ok (.bipush 105, 2) := by decide +kernel
theorem dX4_hasMatter_27 : decode cX4_hasMatter 27 = .ok (.if_icmp .ne 7, 3) := by decide +kernel
theorem dX4_hasMatter_30 : decode cX4_hasMatter 30 = .ok (.iconst 1, 1) := by decide +kernel
theorem dX4_hasMatter_31 : decode cX4_hasMatter 31 = .ok (.goto 4, 3) := by decide +kernel
theorem dX4_hasMatter_34 : decode cX4_hasMatter 34 = .ok (.iconst 0, 1) := by decide +kernel
theorem dX4_hasMatter_35 : decode cX4_hasMatter 35 = .ok (.ireturn, 1) := by decide +kernel
theorem dX4_hasGuild_0 : decode cX4_hasGuild 0 = .ok (.iload_n 1, 1) := by decide +kernel
theorem dX4_hasGuild_1 : decode cX4_hasGuild 1 = .ok (.bipush 97, 2) := by decide +kernel
theorem dX4_hasGuild_3 : decode cX4_hasGuild 3 = .ok (.if_icmp .eq 33, 3) := by decide +kernel
theorem dX4_hasGuild_6 : decode cX4_hasGuild 6 = .ok (.iload_n 1, 1) := by decide +kernel
theorem dX4_hasGuild_7 : decode cX4_hasGuild 7 = .ok (.bipush 113, 2) := by decide +kernel
theorem dX4_hasGuild_9 : decode cX4_hasGuild 9 = .ok (.if_icmp .eq 27, 3) := by decide +kernel
theorem dX4_hasGuild_12 : decode cX4_hasGuild 12 = .ok (.iload_n 1, 1) := by decide +kernel
theorem dX4_hasGuild_13 : decode cX4_hasGuild 13 = .ok (.bipush 116, 2) := by decide +kernel
theorem dX4_hasGuild_15 : decode cX4_hasGuild 15 = .ok (.if_icmp .eq 21, 3) := by decide +kernel
theorem dX4_hasGuild_18 : decode cX4_hasGuild 18 = .ok (.iload_n 1, 1) := by decide +kernel
theorem dX4_hasGuild_19 : decode cX4_hasGuild 19 = .ok (.bipush 115, 2) := by decide +kernel
theorem dX4_hasGuild_21 : decode cX4_hasGuild 21 = .ok (.if_icmp .eq 15, 3) := by decide +kernel
theorem dX4_hasGuild_24 : decode cX4_hasGuild 24 = .ok (.iload_n 1, 1) := by decide +kernel
theorem dX4_hasGuild_25 : decode cX4_hasGuild 25 = .ok (.bipush 114, 2) := by decide +kernel
theorem dX4_hasGuild_27 : decode cX4_hasGuild 27 = .ok (.if_icmp .eq 9, 3) := by decide +kernel
theorem dX4_hasGuild_30 : decode cX4_hasGuild 30 = .ok (.iload_n 1, 1) := by decide +kernel
theorem dX4_hasGuild_31 : decode cX4_hasGuild 31 = .ok (.bipush 105, 2) := by decide +kernel
theorem dX4_hasGuild_33 : decode cX4_hasGuild 33 = .ok (.if_icmp .ne 7, 3) := by decide +kernel
theorem dX4_hasGuild_36 : decode cX4_hasGuild 36 = .ok (.iconst 1, 1) := by decide +kernel
theorem dX4_hasGuild_37 : decode cX4_hasGuild 37 = .ok (.goto 4, 3) := by decide +kernel
theorem dX4_hasGuild_40 : decode cX4_hasGuild 40 = .ok (.iconst 0, 1) := by decide +kernel
theorem dX4_hasGuild_41 : decode cX4_hasGuild 41 = .ok (.ireturn, 1) := by decide +kernel
theorem dX4_readLast_0 : decode cX4_readLast 0 = .ok (.iload_n 1, 1) := by decide +kernel
theorem dX4_readLast_1 : decode cX4_readLast 1 = .ok (.lookupswitch 67 #[(97, 35), (104, 62), (105, 51)], 35) := by decide +kernel
theorem dX4_readLast_36 : decode cX4_readLast 36 = .ok (.aload_n 0, 1) := by decide +kernel
theorem dX4_readLast_37 : decode cX4_readLast 37 = .ok (.bipush 61, 2) := by decide +kernel
theorem dX4_readLast_39 : decode cX4_readLast 39 = .ok (.invokevirtual 48, 3) := by decide +kernel
theorem dX4_readLast_42 : decode cX4_readLast 42 = .ok (.aload_n 0, 1) := by decide +kernel
theorem dX4_readLast_43 : decode cX4_readLast 43 = .ok (.invokevirtual 70, 3) := by decide +kernel
theorem dX4_readLast_46 : decode cX4_readLast 46 = .ok (.aload_n 0, 1) := by decide +kernel
theorem dX4_readLast_47 : decode cX4_readLast 47 = .ok (.invokevirtual 73, 3) := by decide +kernel
theorem dX4_readLast_50 : decode cX4_readLast 50 = .ok (.imul, 1) := by decide +kernel
theorem dX4_readLast_51 : decode cX4_readLast 51 = .ok (.ireturn, 1) := by decide +kernel
theorem dX4_readLast_52 : decode cX4_readLast 52 = .ok (.aload_n 0, 1) := by decide +kernel
theorem dX4_readLast_53 : decode cX4_readLast 53 = .ok (.bipush 60, 2) := by decide +kernel
theorem dX4_readLast_55 : decode cX4_readLast 55 = .ok (.invokevirtual 48, 3) := by decide +kernel
theorem dX4_readLast_58 : decode cX4_readLast 58 = .ok (.aload_n 0, 1) := by decide +kernel
theorem dX4_readLast_59 : decode cX4_readLast 59 = .ok (.invokevirtual 60, 3) := by decide +kernel
theorem dX4_readLast_62 : decode cX4_readLast 62 = .ok (.ireturn, 1) := by decide +kernel
theorem dX4_readLast_63 : decode cX4_readLast 63 = .ok (.aload_n 0, 1) := by decide +kernel
theorem dX4_readLast_64 : decode cX4_readLast 64 = .ok (.invokevirtual 73, 3) := by decide +kernel
theorem dX4_readLast_67 : decode cX4_readLast 67 = .ok (.ireturn, 1) := by decide +kernel
theorem dX4_readLast_68 : decode cX4_readLast 68 = .ok (.iconst 0, 1) := by decide +kernel
theorem dX4_readLast_69 : decode cX4_readLast 69 = .ok (.ireturn, 1) := by decide +kernel
theorem dX4_readLetter_0 : decode cX4_readLetter 0 = .ok (.aload_n 0, 1) := by decide +kernel
theorem dX4_readLetter_1 : decode cX4_readLetter 1 = .ok (.invokevirtual 76, 3) := by decide +kernel
theorem dX4_readLetter_4 : decode cX4_readLetter 4 = .ok (.istore_n 1, 1) := by decide +kernel
theorem dX4_readLetter_5 : decode cX4_readLetter 5 = .ok (.aload_n 0, 1) := by decide +kernel
theorem dX4_readLetter_6 : decode cX4_readLetter 6 = .ok (.aload_n 0, 1) := by decide +kernel
theorem dX4_readLetter_7 : decode cX4_readLetter 7 = .ok (.getfield 41, 3) := by decide +kernel
theorem dX4_readLetter_10 : decode cX4_readLetter 10 = .ok (.ifCond .ne 12, 3) := by decide +kernel
theorem dX4_readLetter_13 : decode cX4_readLetter 13 = .ok (.ldc 80, 2) := by decide +kernel
theorem dX4_readLetter_15 : decode cX4_readLetter 15 = .ok (.iload_n 1, 1) := by decide +kernel
theorem dX4_readLetter_16 : decode cX4_readLetter 16 = .ok (.invokevirtual 82, 3) := by decide +kernel
theorem dX4_readLetter_19 : decode cX4_readLetter 19 = .ok (.ifCond .ge 7, 3) := by decide +kernel
theorem dX4_readLetter_22 : decode cX4_readLetter 22 = .ok (.iconst 1, 1) := by decide +kernel
theorem dX4_readLetter_23 : decode cX4_readLetter 23 = .ok (.goto 4, 3) := by decide +kernel
theorem dX4_readLetter_26 : decode cX4_readLetter 26 = .ok (.iconst 0, 1) := by decide +kernel
theorem dX4_readLetter_27 : decode cX4_readLetter 27 = .ok (.putfield 41, 3) := by decide +kernel
theorem dX4_readLetter_30 : decode cX4_readLetter 30 = .ok (.aload_n 0, 1) := by decide +kernel
theorem dX4_readLetter_31 : decode cX4_readLetter 31 = .ok (.dup, 1) := by decide +kernel
theorem dX4_readLetter_32 : decode cX4_readLetter 32 = .ok (.getfield 35, 3) := by decide +kernel
theorem dX4_readLetter_35 : decode cX4_readLetter 35 = .ok (.aload_n 0, 1) := by decide +kernel
theorem dX4_readLetter_36 : decode cX4_readLetter 36 = .ok (.getfield 41, 3) := by decide +kernel
theorem dX4_readLetter_39 : decode cX4_readLetter 39 = .ok (.ifCond .eq 7, 3) := by decide +kernel
theorem dX4_readLetter_42 : decode cX4_readLetter 42 = .ok (.iconst 0, 1) := by decide +kernel
theorem dX4_readLetter_43 : decode cX4_readLetter 43 = .ok (.goto 4, 3) := by decide +kernel
theorem dX4_readLetter_46 : decode cX4_readLetter 46 = .ok (.iconst 1, 1) := by decide +kernel
theorem dX4_readLetter_47 : decode cX4_readLetter 47 = .ok (.iadd, 1) := by decide +kernel
theorem dX4_readLetter_48 : decode cX4_readLetter 48 = .ok (.putfield 35, 3) := by decide +kernel
theorem dX4_readLetter_51 : decode cX4_readLetter 51 = .ok (.iload_n 1, 1) := by decide +kernel
theorem dX4_readLetter_52 : decode cX4_readLetter 52 = .ok (.ireturn, 1) := by decide +kernel
theorem dX4_readSign_0 : decode cX4_readSign 0 = .ok (.aload_n 0, 1) := by decide +kernel
theorem dX4_readSign_1 : decode cX4_readSign 1 = .ok (.aload_n 0, 1) := by decide +kernel
theorem dX4_readSign_2 : decode cX4_readSign 2 = .ok (.getfield 41, 3) := by decide +kernel
theorem dX4_readSign_5 : decode cX4_readSign 5 = .ok (.ifCond .ne 11, 3) := by decide +kernel
theorem dX4_readSign_8 : decode cX4_readSign 8 = .ok (.aload_n 0, 1) := by decide +kernel
theorem dX4_readSign_9 : decode cX4_readSign 9 = .ok (.invokevirtual 76, 3) := by decide +kernel
theorem dX4_readSign_12 : decode cX4_readSign 12 = .ok (.iload_n 1, 1) := by decide +kernel
theorem dX4_readSign_13 : decode cX4_readSign 13 = .ok (.if_icmp .eq 7, 3) := by decide +kernel
theorem dX4_readSign_16 : decode cX4_readSign 16 = .ok (.iconst 1, 1) := by decide +kernel
theorem dX4_readSign_17 : decode cX4_readSign 17 = .ok (.goto 4, 3) := by decide +kernel
theorem dX4_readSign_20 : decode cX4_readSign 20 = .ok (.iconst 0, 1) := by decide +kernel
theorem dX4_readSign_21 : decode cX4_readSign 21 = .ok (.putfield 41, 3) := by decide +kernel
theorem dX4_readSign_24 : decode cX4_readSign 24 = .ok (.aload_n 0, 1) := by decide +kernel
theorem dX4_readSign_25 : decode cX4_readSign 25 = .ok (.dup, 1) := by decide +kernel
theorem dX4_readSign_26 : decode cX4_readSign 26 = .ok (.getfield 35, 3) := by decide +kernel
theorem dX4_readSign_29 : decode cX4_readSign 29 = .ok (.aload_n 0, 1) := by decide +kernel
theorem dX4_readSign_30 : decode cX4_readSign 30 = .ok (.getfield 41, 3) := by decide +kernel
theorem dX4_readSign_33 : decode cX4_readSign 33 = .ok (.ifCond .eq 7, 3) := by decide +kernel
theorem dX4_readSign_36 : decode cX4_readSign 36 = .ok (.iconst 0, 1) := by decide +kernel
theorem dX4_readSign_37 : decode cX4_readSign 37 = .ok (.goto 4, 3) := by decide +kernel
theorem dX4_readSign_40 : decode cX4_readSign 40 = .ok (.iconst 1, 1) := by decide +kernel
theorem dX4_readSign_41 : decode cX4_readSign 41 = .ok (.iadd, 1) := by decide +kernel
theorem dX4_readSign_42 : decode cX4_readSign 42 = .ok (.putfield 35, 3) := by decide +kernel
theorem dX4_readSign_45 : decode cX4_readSign 45 = .ok (.return_, 1) := by decide +kernel
theorem dX4_readPlusOrMinus_0 : decode cX4_readPlusOrMinus 0 = .ok (.aload_n 0, 1) := by decide +kernel
theorem dX4_readPlusOrMinus_1 : decode cX4_readPlusOrMinus 1 = .ok (.invokevirtual 76, 3) := by decide +kernel
theorem dX4_readPlusOrMinus_4 : decode cX4_readPlusOrMinus 4 = .ok (.bipush 45, 2) := by decide +kernel
theorem dX4_readPlusOrMinus_6 : decode cX4_readPlusOrMinus 6 = .ok (.if_icmp .ne 7, 3) := by decide +kernel
theorem dX4_readPlusOrMinus_9 : decode cX4_readPlusOrMinus 9 = .ok (.iconst 1, 1) := by decide +kernel
theorem dX4_readPlusOrMinus_10 : decode cX4_readPlusOrMinus 10 = .ok (.goto 4, 3) := by decide +kernel
theorem dX4_readPlusOrMinus_13 : decode cX4_readPlusOrMinus 13 = .ok (.iconst 0, 1) := by decide +kernel
theorem dX4_readPlusOrMinus_14 : decode cX4_readPlusOrMinus 14 = .ok (.istore_n 1, 1) := by decide +kernel
theorem dX4_readPlusOrMinus_15 : decode cX4_readPlusOrMinus 15 = .ok (.aload_n 0, 1) := by decide +kernel
theorem dX4_readPlusOrMinus_16 : decode cX4_readPlusOrMinus 16 = .ok (.iload_n 1, 1) := by decide +kernel
theorem dX4_readPlusOrMinus_17 : decode cX4_readPlusOrMinus 17 = .ok (.ifCond .eq 8, 3) := by decide +kernel
theorem dX4_readPlusOrMinus_20 : decode cX4_readPlusOrMinus 20 = .ok (.bipush 45, 2) := by decide +kernel
theorem dX4_readPlusOrMinus_22 : decode cX4_readPlusOrMinus 22 = .ok (.goto 5, 3) := by decide +kernel
theorem dX4_readPlusOrMinus_25 : decode cX4_readPlusOrMinus 25 = .ok (.bipush 43, 2) := by decide +kernel
theorem dX4_readPlusOrMinus_27 : decode cX4_readPlusOrMinus 27 = .ok (.invokevirtual 48, 3) := by decide +kernel
theorem dX4_readPlusOrMinus_30 : decode cX4_readPlusOrMinus 30 = .ok (.iload_n 1, 1) := by decide +kernel
theorem dX4_readPlusOrMinus_31 : decode cX4_readPlusOrMinus 31 = .ok (.ifCond .eq 7, 3) := by decide +kernel
theorem dX4_readPlusOrMinus_34 : decode cX4_readPlusOrMinus 34 = .ok (.iconst (-1), 1) := by decide +kernel
theorem dX4_readPlusOrMinus_35 : decode cX4_readPlusOrMinus 35 = .ok (.goto 4, 3) := by decide +kernel
theorem dX4_readPlusOrMinus_38 : decode cX4_readPlusOrMinus 38 = .ok (.iconst 1, 1) := by decide +kernel
theorem dX4_readPlusOrMinus_39 : decode cX4_readPlusOrMinus 39 = .ok (.ireturn, 1) := by decide +kernel
theorem dX4_readOneOrTwoDigits_0 : decode cX4_readOneOrTwoDigits 0 = .ok (.aload_n 0, 1) := by decide +kernel
theorem dX4_readOneOrTwoDigits_1 : decode cX4_readOneOrTwoDigits 1 = .ok (.invokevirtual 60, 3) := by decide +kernel
theorem dX4_readOneOrTwoDigits_4 : decode cX4_readOneOrTwoDigits 4 = .ok (.istore_n 1, 1) := by decide +kernel
theorem dX4_readOneOrTwoDigits_5 : decode cX4_readOneOrTwoDigits 5 = .ok (.aload_n 0, 1) := by decide +kernel
theorem dX4_readOneOrTwoDigits_6 : decode cX4_readOneOrTwoDigits 6 = .ok (.aload_n 0, 1) := by decide +kernel
theorem dX4_readOneOrTwoDigits_7 : decode cX4_readOneOrTwoDigits 7 = .ok (.invokevirtual 76, 3) := by decide +kernel
theorem dX4_readOneOrTwoDigits_10 : decode cX4_readOneOrTwoDigits 10 = .ok (.invokevirtual 87, 3) := by decide +kernel
theorem dX4_readOneOrTwoDigits_13 : decode cX4_readOneOrTwoDigits 13 = .ok (.ifCond .eq 15, 3) := by decide +kernel
theorem dX4_readOneOrTwoDigits_16 : decode cX4_readOneOrTwoDigits 16 = .ok (.bipush 10, 2) := by decide +kernel
theorem dX4_readOneOrTwoDigits_18 : decode cX4_readOneOrTwoDigits 18 = .ok (.iload_n 1, 1) := by decide +kernel
theorem dX4_readOneOrTwoDigits_19 : decode cX4_readOneOrTwoDigits 19 = .ok (.imul, 1) := by decide +kernel
theorem dX4_readOneOrTwoDigits_20 : decode cX4_readOneOrTwoDigits 20 = .ok (.aload_n 0, 1) := by decide +kernel
theorem dX4_readOneOrTwoDigits_21 : decode cX4_readOneOrTwoDigits 21 = .ok (.invokevirtual 60, 3) := by decide +kernel
theorem dX4_readOneOrTwoDigits_24 : decode cX4_readOneOrTwoDigits 24 = .ok (.iadd, 1) := by decide +kernel
theorem dX4_readOneOrTwoDigits_25 : decode cX4_readOneOrTwoDigits 25 = .ok (.goto 4, 3) := by decide +kernel
theorem dX4_readOneOrTwoDigits_28 : decode cX4_readOneOrTwoDigits 28 = .ok (.iload_n 1, 1) := by decide +kernel
theorem dX4_readOneOrTwoDigits_29 : decode cX4_readOneOrTwoDigits 29 = .ok (.ireturn, 1) := by decide +kernel
theorem dX4_readDigit_0 : decode cX4_readDigit 0 = .ok (.aload_n 0, 1) := by decide +kernel
theorem dX4_readDigit_1 : decode cX4_readDigit 1 = .ok (.invokevirtual 76, 3) := by decide +kernel
theorem dX4_readDigit_4 : decode cX4_readDigit 4 = .ok (.istore_n 1, 1) := by decide +kernel
theorem dX4_readDigit_5 : decode cX4_readDigit 5 = .ok (.aload_n 0, 1) := by decide +kernel
theorem dX4_readDigit_6 : decode cX4_readDigit 6 = .ok (.aload_n 0, 1) := by decide +kernel
theorem dX4_readDigit_7 : decode cX4_readDigit 7 = .ok (.getfield 41, 3) := by decide +kernel
theorem dX4_readDigit_10 : decode cX4_readDigit 10 = .ok (.ifCond .ne 11, 3) := by decide +kernel
theorem dX4_readDigit_13 : decode cX4_readDigit 13 = .ok (.aload_n 0, 1) := by decide +kernel
theorem dX4_readDigit_14 : decode cX4_readDigit 14 = .ok (.iload_n 1, 1) := by decide +kernel
theorem dX4_readDigit_15 : decode cX4_readDigit 15 = .ok (.invokevirtual 87, 3) := by decide +kernel
theorem dX4_readDigit_18 : decode cX4_readDigit 18 = .ok (.ifCond .ne 7, 3) := by decide +kernel
theorem dX4_readDigit_21 : decode cX4_readDigit 21 = .ok (.iconst 1, 1) := by decide +kernel
theorem dX4_readDigit_22 : decode cX4_readDigit 22 = .ok (.goto 4, 3) := by decide +kernel
theorem dX4_readDigit_25 : decode cX4_readDigit 25 = .ok (.iconst 0, 1) := by decide +kernel
theorem dX4_readDigit_26 : decode cX4_readDigit 26 = .ok (.putfield 41, 3) := by decide +kernel
theorem dX4_readDigit_29 : decode cX4_readDigit 29 = .ok (.aload_n 0, 1) := by decide +kernel
theorem dX4_readDigit_30 : decode cX4_readDigit 30 = .ok (.dup, 1) := by decide +kernel
theorem dX4_readDigit_31 : decode cX4_readDigit 31 = .ok (.getfield 35, 3) := by decide +kernel
theorem dX4_readDigit_34 : decode cX4_readDigit 34 = .ok (.aload_n 0, 1) := by decide +kernel
theorem dX4_readDigit_35 : decode cX4_readDigit 35 = .ok (.getfield 41, 3) := by decide +kernel
theorem dX4_readDigit_38 : decode cX4_readDigit 38 = .ok (.ifCond .eq 7, 3) := by decide +kernel
theorem dX4_readDigit_41 : decode cX4_readDigit 41 = .ok (.iconst 0, 1) := by decide +kernel
theorem dX4_readDigit_42 : decode cX4_readDigit 42 = .ok (.goto 4, 3) := by decide +kernel
theorem dX4_readDigit_45 : decode cX4_readDigit 45 = .ok (.iconst 1, 1) := by decide +kernel
theorem dX4_readDigit_46 : decode cX4_readDigit 46 = .ok (.iadd, 1) := by decide +kernel
theorem dX4_readDigit_47 : decode cX4_readDigit 47 = .ok (.putfield 35, 3) := by decide +kernel
theorem dX4_readDigit_50 : decode cX4_readDigit 50 = .ok (.iload_n 1, 1) := by decide +kernel
theorem dX4_readDigit_51 : decode cX4_readDigit 51 = .ok (.bipush 48, 2) := by decide +kernel
theorem dX4_readDigit_53 : decode cX4_readDigit 53 = .ok (.isub, 1) := by decide +kernel
theorem dX4_readDigit_54 : decode cX4_readDigit 54 = .ok (.ireturn, 1) := by decide +kernel
theorem dX4_isDigit_0 : decode cX4_isDigit 0 = .ok (.iload_n 1, 1) := by decide +kernel
theorem dX4_isDigit_1 : decode cX4_isDigit 1 = .ok (.bipush 48, 2) := by decide +kernel
theorem dX4_isDigit_3 : decode cX4_isDigit 3 = .ok (.if_icmp .lt 13, 3) := by decide +kernel
theorem dX4_isDigit_6 : decode cX4_isDigit 6 = .ok (.iload_n 1, 1) := by decide +kernel
theorem dX4_isDigit_7 : decode cX4_isDigit 7 = .ok (.bipush 57, 2) := by decide +kernel
theorem dX4_isDigit_9 : decode cX4_isDigit 9 = .ok (.if_icmp .gt 7, 3) := by decide +kernel
theorem dX4_isDigit_12 : decode cX4_isDigit 12 = .ok (.iconst 1, 1) := by decide +kernel
theorem dX4_isDigit_13 : decode cX4_isDigit 13 = .ok (.goto 4, 3) := by decide +kernel
theorem dX4_isDigit_16 : decode cX4_isDigit 16 = .ok (.iconst 0, 1) := by decide +kernel
theorem dX4_isDigit_17 : decode cX4_isDigit 17 = .ok (.ireturn, 1) := by decide +kernel
theorem dX4_nextCharacter_0 : decode cX4_nextCharacter 0 = .ok (.aload_n 0, 1) := by decide +kernel
theorem dX4_nextCharacter_1 : decode cX4_nextCharacter 1 = .ok (.getfield 35, 3) := by decide +kernel
theorem dX4_nextCharacter_4 : decode cX4_nextCharacter 4 = .ok (.aload_n 0, 1) := by decide +kernel
theorem dX4_nextCharacter_5 : decode cX4_nextCharacter 5 = .ok (.getfield 32, 3) := by decide +kernel
theorem dX4_nextCharacter_8 : decode cX4_nextCharacter 8 = .ok (.if_icmp .ge 15, 3) := by decide +kernel
theorem dX4_nextCharacter_11 : decode cX4_nextCharacter 11 = .ok (.aload_n 0, 1) := by decide +kernel
theorem dX4_nextCharacter_12 : decode cX4_nextCharacter 12 = .ok (.getfield 9, 3) := by decide +kernel
theorem dX4_nextCharacter_15 : decode cX4_nextCharacter 15 = .ok (.aload_n 0, 1) := by decide +kernel
theorem dX4_nextCharacter_16 : decode cX4_nextCharacter 16 = .ok (.getfield 35, 3) := by decide +kernel
theorem dX4_nextCharacter_19 : decode cX4_nextCharacter 19 = .ok (.caload, 1) := by decide +kernel
theorem dX4_nextCharacter_20 : decode cX4_nextCharacter 20 = .ok (.goto 4, 3) := by decide +kernel
theorem dX4_nextCharacter_23 : decode cX4_nextCharacter 23 = .ok (.iconst 0, 1) := by decide +kernel
theorem dX4_nextCharacter_24 : decode cX4_nextCharacter 24 = .ok (.ireturn, 1) := by decide +kernel
theorem dX5_init_0 : decode cX5_init 0 = .ok (.aload_n 0, 1) := by decide +kernel
theorem dX5_init_1 : decode cX5_init 1 = .ok (.invokespecial 3, 3) := by decide +kernel
theorem dX5_init_4 : decode cX5_init 4 = .ok (.aload_n 0, 1) := by decide +kernel
theorem dX5_init_5 : decode cX5_init 5 = .ok (.aload_n 1, 1) := by decide +kernel
theorem dX5_init_6 : decode cX5_init 6 = .ok (.putfield 9, 3) := by decide +kernel
theorem dX5_init_9 : decode cX5_init 9 = .ok (.return_, 1) := by decide +kernel
theorem dX5_refusesMatter_0 : decode cX5_refusesMatter 0 = .ok (.aload_n 0, 1) := by decide +kernel
theorem dX5_refusesMatter_1 : decode cX5_refusesMatter 1 = .ok (.aload_n 0, 1) := by decide +kernel
theorem dX5_refusesMatter_2 : decode cX5_refusesMatter 2 = .ok (.getfield 9, 3) := by decide +kernel
theorem dX5_refusesMatter_5 : decode cX5_refusesMatter 5 = .ok (.getfield 15, 3) := by decide +kernel
theorem dX5_refusesMatter_8 : decode cX5_refusesMatter 8 = .ok (.bipush 8, 2) := by decide +kernel
theorem dX5_refusesMatter_10 : decode cX5_refusesMatter 10 = .ok (.if_icmp .lt 7, 3) := by decide +kernel
theorem dX5_refusesMatter_13 : decode cX5_refusesMatter 13 = .ok (.iconst 1, 1) := by decide +kernel
theorem dX5_refusesMatter_14 : decode cX5_refusesMatter 14 = .ok (.goto 4, 3) := by decide +kernel
theorem dX5_refusesMatter_17 : decode cX5_refusesMatter 17 = .ok (.iconst 0, 1) := by decide +kernel
theorem dX5_refusesMatter_18 : decode cX5_refusesMatter 18 = .ok (.iconst 1, 1) := by decide +kernel
theorem dX5_refusesMatter_19 : decode cX5_refusesMatter 19 = .ok (.aload_n 0, 1) := by decide +kernel
theorem dX5_refusesMatter_20 : decode cX5_refusesMatter 20 = .ok (.getfield 9, 3) := by decide +kernel
theorem dX5_refusesMatter_23 : decode cX5_refusesMatter 23 = .ok (.getfield 15, 3) := by decide +kernel
theorem dX5_refusesMatter_26 : decode cX5_refusesMatter 26 = .ok (.invokevirtual 21, 3) := by decide +kernel
theorem dX5_refusesMatter_29 : decode cX5_refusesMatter 29 = .ok (.ireturn, 1) := by decide +kernel
theorem dX5_refusesSet_0 : decode cX5_refusesSet 0 = .ok (.aload_n 0, 1) := by decide +kernel
theorem dX5_refusesSet_1 : decode cX5_refusesSet 1 = .ok (.getfield 9, 3) := by decide +kernel
theorem dX5_refusesSet_4 : decode cX5_refusesSet 4 = .ok (.iload_n 1, 1) := by decide +kernel
theorem dX5_refusesSet_5 : decode cX5_refusesSet 5 = .ok (.invokevirtual 25, 3) := by decide +kernel
theorem dX5_refusesSet_8 : decode cX5_refusesSet 8 = .ok (.istore 4, 2) := by decide +kernel
theorem dX5_refusesSet_10 : decode cX5_refusesSet 10 = .ok (.aload_n 0, 1) := by decide +kernel
theorem dX5_refusesSet_11 : decode cX5_refusesSet 11 = .ok (.iload_n 1, 1) := by decide +kernel
theorem dX5_refusesSet_12 : decode cX5_refusesSet 12 = .ok (.invokevirtual 29, 3) := by decide +kernel
theorem dX5_refusesSet_15 : decode cX5_refusesSet 15 = .ok (.ifCond .ne 52, 3) := by decide +kernel
theorem dX5_refusesSet_18 : decode cX5_refusesSet 18 = .ok (.aload_n 0, 1) := by decide +kernel
theorem dX5_refusesSet_19 : decode cX5_refusesSet 19 = .ok (.iload 4, 2) := by decide +kernel
theorem dX5_refusesSet_21 : decode cX5_refusesSet 21 = .ok (.ifCond .le 7, 3) := by decide +kernel
theorem dX5_refusesSet_24 : decode cX5_refusesSet 24 = .ok (.iconst 1, 1) := by decide +kernel
theorem dX5_refusesSet_25 : decode cX5_refusesSet 25 = .ok (.goto 4, 3) := by decide +kernel
theorem dX5_refusesSet_28 : decode cX5_refusesSet 28 = .ok (.iconst 0, 1) := by decide +kernel
theorem dX5_refusesSet_29 : decode cX5_refusesSet 29 = .ok (.bipush 6, 2) := by decide +kernel
theorem dX5_refusesSet_31 : decode cX5_refusesSet 31 = .ok (.iload 4, 2) := by decide +kernel
theorem dX5_refusesSet_33 : decode cX5_refusesSet 33 = .ok (.invokevirtual 21, 3) := by decide +kernel
theorem dX5_refusesSet_36 : decode cX5_refusesSet 36 = .ok (.ifCond .ne 31, 3) := by decide +kernel
theorem dX5_refusesSet_39 : decode cX5_refusesSet 39 = .ok (.aload_n 0, 1) := by decide +kernel
theorem dX5_refusesSet_40 : decode cX5_refusesSet 40 = .ok (.aload_n 0, 1) := by decide +kernel
theorem dX5_refusesSet_41 : decode cX5_refusesSet 41 = .ok (.getfield 9, 3) := by decide +kernel
theorem dX5_refusesSet_44 : decode cX5_refusesSet 44 = .ok (.iload_n 1, 1) := by decide +kernel
theorem dX5_refusesSet_45 : decode cX5_refusesSet 45 = .ok (.iload_n 2, 1) := by decide +kernel
theorem dX5_refusesSet_46 : decode cX5_refusesSet 46 = .ok (.invokevirtual 33, 3) := by decide +kernel
theorem dX5_refusesSet_49 : decode cX5_refusesSet 49 = .ok (.iload_n 3, 1) := by decide +kernel
theorem dX5_refusesSet_50 : decode cX5_refusesSet 50 = .ok (.if_icmp .ne 7, 3) := by decide +kernel
theorem dX5_refusesSet_53 : decode cX5_refusesSet 53 = .ok (.iconst 1, 1) := by decide +kernel
theorem dX5_refusesSet_54 : decode cX5_refusesSet 54 = .ok (.goto 4, 3) := by decide +kernel
theorem dX5_refusesSet_57 : decode cX5_refusesSet 57 = .ok (.iconst 0, 1) := by decide +kernel
theorem dX5_refusesSet_58 : decode cX5_refusesSet 58 = .ok (.bipush 10, 2) := by decide +kernel
theorem dX5_refusesSet_60 : decode cX5_refusesSet 60 = .ok (.iload_n 3, 1) := by decide +kernel
theorem dX5_refusesSet_61 : decode cX5_refusesSet 61 = .ok (.invokevirtual 21, 3) := by decide +kernel
theorem dX5_refusesSet_64 : decode cX5_refusesSet 64 = .ok (.ifCond .eq 7, 3) := by decide +kernel
theorem dX5_refusesSet_67 : decode cX5_refusesSet 67 = .ok (.iconst 1, 1) := by decide +kernel
theorem dX5_refusesSet_68 : decode cX5_refusesSet 68 = .ok (.goto 4, 3) := by decide +kernel
theorem dX5_refusesSet_71 : decode cX5_refusesSet 71 = .ok (.iconst 0, 1) := by decide +kernel
theorem dX5_refusesSet_72 : decode cX5_refusesSet 72 = .ok (.ireturn, 1) := by decide +kernel
theorem dX5_refusesAsk_0 : decode cX5_refusesAsk 0 = .ok (.aload_n 0, 1) := by decide +kernel
theorem dX5_refusesAsk_1 : decode cX5_refusesAsk 1 = .ok (.getfield 9, 3) := by decide +kernel
theorem dX5_refusesAsk_4 : decode cX5_refusesAsk 4 = .ok (.iload_n 1, 1) := by decide +kernel
theorem dX5_refusesAsk_5 : decode cX5_refusesAsk 5 = .ok (.iload_n 2, 1) := by decide +kernel
theorem dX5_refusesAsk_6 : decode cX5_refusesAsk 6 = .ok (.invokevirtual 37, 3) := by decide +kernel
theorem dX5_refusesAsk_9 : decode cX5_refusesAsk 9 = .ok (.istore_n 3, 1) := by decide +kernel
theorem dX5_refusesAsk_10 : decode cX5_refusesAsk 10 = .ok (.aload_n 0, 1) := by decide +kernel
theorem dX5_refusesAsk_11 : decode cX5_refusesAsk 11 = .ok (.invokevirtual 40, 3) := by decide +kernel
theorem dX5_refusesAsk_14 : decode cX5_refusesAsk 14 = .ok (.ifCond .ne 47, 3) := by decide +kernel
theorem dX5_refusesAsk_17 : decode cX5_refusesAsk 17 = .ok (.aload_n 0, 1) := by decide +kernel
theorem dX5_refusesAsk_18 : decode cX5_refusesAsk 18 = .ok (.iload_n 1, 1) := by decide +kernel
theorem dX5_refusesAsk_19 : decode cX5_refusesAsk 19 = .ok (.invokevirtual 29, 3) := by decide +kernel
theorem dX5_refusesAsk_22 : decode cX5_refusesAsk 22 = .ok (.ifCond .ne 39, 3) := by decide +kernel
theorem dX5_refusesAsk_25 : decode cX5_refusesAsk 25 = .ok (.aload_n 0, 1) := by decide +kernel
theorem dX5_refusesAsk_26 : decode cX5_refusesAsk 26 = .ok (.iload_n 1, 1) := by decide +kernel
theorem dX5_refusesAsk_27 : decode cX5_refusesAsk 27 = .ok (.iload_n 2, 1) := by decide +kernel
theorem dX5_refusesAsk_28 : decode cX5_refusesAsk 28 = .ok (.invokevirtual 44, 3) := by decide +kernel
theorem dX5_refusesAsk_31 : decode cX5_refusesAsk 31 = .ok (.ifCond .ne 30, 3) := by decide +kernel
theorem dX5_refusesAsk_34 : decode cX5_refusesAsk 34 = .ok (.aload_n 0, 1) := by decide +kernel
theorem dX5_refusesAsk_35 : decode cX5_refusesAsk 35 = .ok (.iload_n 2, 1) := by decide +kernel
theorem dX5_refusesAsk_36 : decode cX5_refusesAsk 36 = .ok (.invokevirtual 48, 3) := by decide +kernel
theorem dX5_refusesAsk_39 : decode cX5_refusesAsk 39 = .ok (.ifCond .ne 22, 3) := by decide +kernel
theorem dX5_refusesAsk_42 : decode cX5_refusesAsk 42 = .ok (.aload_n 0, 1) := by decide +kernel
theorem dX5_refusesAsk_43 : decode cX5_refusesAsk 43 = .ok (.iload_n 3, 1) := by decide +kernel
theorem dX5_refusesAsk_44 : decode cX5_refusesAsk 44 = .ok (.ifCond .eq 7, 3) := by decide +kernel
theorem dX5_refusesAsk_47 : decode cX5_refusesAsk 47 = .ok (.iconst 1, 1) := by decide +kernel
theorem dX5_refusesAsk_48 : decode cX5_refusesAsk 48 = .ok (.goto 4, 3) := by decide +kernel
theorem dX5_refusesAsk_51 : decode cX5_refusesAsk 51 = .ok (.iconst 0, 1) := by decide +kernel
theorem dX5_refusesAsk_52 : decode cX5_refusesAsk 52 = .ok (.bipush 9, 2) := by decide +kernel
theorem dX5_refusesAsk_54 : decode cX5_refusesAsk 54 = .ok (.iload_n 3, 1) := by decide +kernel
theorem dX5_refusesAsk_55 : decode cX5_refusesAsk 55 = .ok (.invokevirtual 21, 3) := by decide +kernel
theorem dX5_refusesAsk_58 : decode cX5_refusesAsk 58 = .ok (.ifCond .eq 7, 3) := by decide +kernel
theorem dX5_refusesAsk_61 : decode cX5_refusesAsk 61 = .ok (.iconst 1, 1) := by decide +kernel
theorem dX5_refusesAsk_62 : decode cX5_refusesAsk 62 = .ok (.goto 4, 3) := by decide +kernel
theorem dX5_refusesAsk_65 : decode cX5_refusesAsk 65 = .ok (.iconst 0, 1) := by decide +kernel
theorem dX5_refusesAsk_66 : decode cX5_refusesAsk 66 = .ok (.ireturn, 1) := by decide +kernel
theorem dX5_refusesDecide_0 : decode cX5_refusesDecide 0 = .ok (.aload_n 0, 1) := by decide +kernel
theorem dX5_refusesDecide_1 : decode cX5_refusesDecide 1 = .ok (.invokevirtual 40, 3) := by decide +kernel
theorem dX5_refusesDecide_4 : decode cX5_refusesDecide 4 = .ok (.ifCond .ne 19, 3) := by decide +kernel
theorem dX5_refusesDecide_7 : decode cX5_refusesDecide 7 = .ok (.aload_n 0, 1) := by decide +kernel
theorem dX5_refusesDecide_8 : decode cX5_refusesDecide 8 = .ok (.iload_n 1, 1) := by decide +kernel
theorem dX5_refusesDecide_9 : decode cX5_refusesDecide 9 = .ok (.invokevirtual 29, 3) := by decide +kernel
theorem dX5_refusesDecide_12 : decode cX5_refusesDecide 12 = .ok (.ifCond .ne 11, 3) := by decide +kernel
theorem dX5_refusesDecide_15 : decode cX5_refusesDecide 15 = .ok (.aload_n 0, 1) := by decide +kernel
theorem dX5_refusesDecide_16 : decode cX5_refusesDecide 16 = .ok (.iload_n 1, 1) := by decide +kernel
theorem dX5_refusesDecide_17 : decode cX5_refusesDecide 17 = .ok (.invokevirtual 51, 3) := by decide +kernel
theorem dX5_refusesDecide_20 : decode cX5_refusesDecide 20 = .ok (.ifCond .eq 7, 3) := by decide +kernel
theorem dX5_refusesDecide_23 : decode cX5_refusesDecide 23 = .ok (.iconst 1, 1) := by decide +kernel
theorem dX5_refusesDecide_24 : decode cX5_refusesDecide 24 = .ok (.goto 4, 3) := by decide +kernel
theorem dX5_refusesDecide_27 : decode cX5_refusesDecide 27 = .ok (.iconst 0, 1) := by decide +kernel
theorem dX5_refusesDecide_28 : decode cX5_refusesDecide 28 = .ok (.ireturn, 1) := by decide +kernel
theorem dX5_refusesTell_0 : decode cX5_refusesTell 0 = .ok (.aload_n 0, 1) := by decide +kernel
theorem dX5_refusesTell_1 : decode cX5_refusesTell 1 = .ok (.getfield 9, 3) := by decide +kernel
theorem dX5_refusesTell_4 : decode cX5_refusesTell 4 = .ok (.iload_n 1, 1) := by decide +kernel
theorem dX5_refusesTell_5 : decode cX5_refusesTell 5 = .ok (.iload_n 2, 1) := by decide +kernel
theorem dX5_refusesTell_6 : decode cX5_refusesTell 6 = .ok (.invokevirtual 37, 3) := by decide +kernel
theorem dX5_refusesTell_9 : decode cX5_refusesTell 9 = .ok (.istore_n 3, 1) := by decide +kernel
theorem dX5_refusesTell_10 : decode cX5_refusesTell 10 = .ok (.aload_n 0, 1) := by decide +kernel
theorem dX5_refusesTell_11 : decode cX5_refusesTell 11 = .ok (.invokevirtual 40, 3) := by decide +kernel
theorem dX5_refusesTell_14 : decode cX5_refusesTell 14 = .ok (.ifCond .ne 72, 3) := by decide +kernel
theorem dX5_refusesTell_17 : decode cX5_refusesTell 17 = .ok (.aload_n 0, 1) := by decide +kernel
theorem dX5_refusesTell_18 : decode cX5_refusesTell 18 = .ok (.aload_n 0, 1) := by decide +kernel
theorem dX5_refusesTell_19 : decode cX5_refusesTell 19 = .ok (.getfield 9, 3) := by decide +kernel
theorem dX5_refusesTell_22 : decode cX5_refusesTell 22 = .ok (.getfield 54, 3) := by decide +kernel
theorem dX5_refusesTell_25 : decode cX5_refusesTell 25 = .ok (.iload_n 1, 1) := by decide +kernel
theorem dX5_refusesTell_26 : decode cX5_refusesTell 26 = .ok (.iaload, 1) := by decide +kernel
theorem dX5_refusesTell_27 : decode cX5_refusesTell 27 = .ok (.ifCond .ne 7, 3) := by decide +kernel
theorem dX5_refusesTell_30 : decode cX5_refusesTell 30 = .ok (.iconst 1, 1) := by decide +kernel
theorem dX5_refusesTell_31 : decode cX5_refusesTell 31 = .ok (.goto 4, 3) := by decide +kernel
theorem dX5_refusesTell_34 : decode cX5_refusesTell 34 = .ok (.iconst 0, 1) := by decide +kernel
theorem dX5_refusesTell_35 : decode cX5_refusesTell 35 = .ok (.bipush 8, 2) := by decide +kernel
theorem dX5_refusesTell_37 : decode cX5_refusesTell 37 = .ok (.iload_n 1, 1) := by decide +kernel
theorem dX5_refusesTell_38 : decode cX5_refusesTell 38 = .ok (.invokevirtual 21, 3) := by decide +kernel
theorem dX5_refusesTell_41 : decode cX5_refusesTell 41 = .ok (.ifCond .ne 45, 3) := by decide +kernel
theorem dX5_refusesTell_44 : decode cX5_refusesTell 44 = .ok (.aload_n 0, 1) := by decide +kernel
theorem dX5_refusesTell_45 : decode cX5_refusesTell 45 = .ok (.iload_n 1, 1) := by decide +kernel
theorem dX5_refusesTell_46 : decode cX5_refusesTell 46 = .ok (.iload_n 2, 1) := by decide +kernel
theorem dX5_refusesTell_47 : decode cX5_refusesTell 47 = .ok (.invokevirtual 44, 3) := by decide +kernel
theorem dX5_refusesTell_50 : decode cX5_refusesTell 50 = .ok (.ifCond .ne 36, 3) := by decide +kernel
theorem dX5_refusesTell_53 : decode cX5_refusesTell 53 = .ok (.aload_n 0, 1) := by decide +kernel
theorem dX5_refusesTell_54 : decode cX5_refusesTell 54 = .ok (.iload_n 2, 1) := by decide +kernel
theorem dX5_refusesTell_55 : decode cX5_refusesTell 55 = .ok (.invokevirtual 48, 3) := by decide +kernel
theorem dX5_refusesTell_58 : decode cX5_refusesTell 58 = .ok (.ifCond .ne 28, 3) := by decide +kernel
theorem dX5_refusesTell_61 : decode cX5_refusesTell 61 = .ok (.aload_n 0, 1) := by decide +kernel
theorem dX5_refusesTell_62 : decode cX5_refusesTell 62 = .ok (.iload_n 3, 1) := by decide +kernel
theorem dX5_refusesTell_63 : decode cX5_refusesTell 63 = .ok (.iconst 3, 1) := by decide +kernel
theorem dX5_refusesTell_64 : decode cX5_refusesTell 64 = .ok (.if_icmp .eq 8, 3) := by decide +kernel
theorem dX5_refusesTell_67 : decode cX5_refusesTell 67 = .ok (.iload_n 3, 1) := by decide +kernel
theorem dX5_refusesTell_68 : decode cX5_refusesTell 68 = .ok (.iconst 4, 1) := by decide +kernel
theorem dX5_refusesTell_69 : decode cX5_refusesTell 69 = .ok (.if_icmp .ne 7, 3) := by decide +kernel
theorem dX5_refusesTell_72 : decode cX5_refusesTell 72 = .ok (.iconst 1, 1) := by decide +kernel
theorem dX5_refusesTell_73 : decode cX5_refusesTell 73 = .ok (.goto 4, 3) := by decide +kernel
theorem dX5_refusesTell_76 : decode cX5_refusesTell 76 = .ok (.iconst 0, 1) := by decide +kernel
theorem dX5_refusesTell_77 : decode cX5_refusesTell 77 = .ok (.bipush 9, 2) := by decide +kernel
theorem dX5_refusesTell_79 : decode cX5_refusesTell 79 = .ok (.iload_n 3, 1) := by decide +kernel
theorem dX5_refusesTell_80 : decode cX5_refusesTell 80 = .ok (.invokevirtual 21, 3) := by decide +kernel
theorem dX5_refusesTell_83 : decode cX5_refusesTell 83 = .ok (.ifCond .eq 7, 3) := by decide +kernel
theorem dX5_refusesTell_86 : decode cX5_refusesTell 86 = .ok (.iconst 1, 1) := by decide +kernel
theorem dX5_refusesTell_87 : decode cX5_refusesTell 87 = .ok (.goto 4, 3) := by decide +kernel
theorem dX5_refusesTell_90 : decode cX5_refusesTell 90 = .ok (.iconst 0, 1) := by decide +kernel
theorem dX5_refusesTell_91 : decode cX5_refusesTell 91 = .ok (.ireturn, 1) := by decide +kernel
theorem dX5_refusesFaint_0 : decode cX5_refusesFaint 0 = .ok (.aload_n 0, 1) := by decide +kernel
theorem dX5_refusesFaint_1 : decode cX5_refusesFaint 1 = .ok (.invokevirtual 40, 3) := by decide +kernel
theorem dX5_refusesFaint_4 : decode cX5_refusesFaint 4 = .ok (.ireturn, 1) := by decide +kernel
theorem dX5_refusesWake_0 : decode cX5_refusesWake 0 = .ok (.aload_n 0, 1) := by decide +kernel
theorem dX5_refusesWake_1 : decode cX5_refusesWake 1 = .ok (.aload_n 0, 1) := by decide +kernel
theorem dX5_refusesWake_2 : decode cX5_refusesWake 2 = .ok (.getfield 9, 3) := by decide +kernel
theorem dX5_refusesWake_5 : decode cX5_refusesWake 5 = .ok (.getfield 58, 3) := by decide +kernel
theorem dX5_refusesWake_8 : decode cX5_refusesWake 8 = .ok (.bipush 11, 2) := by decide +kernel
theorem dX5_refusesWake_10 : decode cX5_refusesWake 10 = .ok (.aload_n 0, 1) := by decide +kernel
theorem dX5_refusesWake_11 : decode cX5_refusesWake 11 = .ok (.getfield 9, 3) := by decide +kernel
theorem dX5_refusesWake_14 : decode cX5_refusesWake 14 = .ok (.getfield 62, 3) := by decide +kernel
theorem dX5_refusesWake_17 : decode cX5_refusesWake 17 = .ok (.invokevirtual 21, 3) := by decide +kernel
theorem dX5_refusesWake_20 : decode cX5_refusesWake 20 = .ok (.ireturn, 1) := by decide +kernel
theorem dX5_refusesSleep_0 : decode cX5_refusesSleep 0 = .ok (.aload_n 0, 1) := by decide +kernel
theorem dX5_refusesSleep_1 : decode cX5_refusesSleep 1 = .ok (.aload_n 0, 1) := by decide +kernel
theorem dX5_refusesSleep_2 : decode cX5_refusesSleep 2 = .ok (.getfield 9, 3) := by decide +kernel
theorem dX5_refusesSleep_5 : decode cX5_refusesSleep 5 = .ok (.getfield 65, 3) := by decide +kernel
theorem dX5_refusesSleep_8 : decode cX5_refusesSleep 8 = .ok (.iload_n 1, 1) := by decide +kernel
theorem dX5_refusesSleep_9 : decode cX5_refusesSleep 9 = .ok (.baload, 1) := by decide +kernel
theorem dX5_refusesSleep_10 : decode cX5_refusesSleep 10 = .ok (.ifCond .ne 7, 3) := by decide +kernel
theorem dX5_refusesSleep_13 : decode cX5_refusesSleep 13 = .ok (.iconst 1, 1) := by decide +kernel
theorem dX5_refusesSleep_14 : decode cX5_refusesSleep 14 = .ok (.goto 4, 3) := by decide +kernel
theorem dX5_refusesSleep_17 : decode cX5_refusesSleep 17 = .ok (.iconst 0, 1) := by decide +kernel
theorem dX5_refusesSleep_18 : decode cX5_refusesSleep 18 = .ok (.bipush 10, 2) := by decide +kernel
theorem dX5_refusesSleep_20 : decode cX5_refusesSleep 20 = .ok (.iconst 0, 1) := by decide +kernel
theorem dX5_refusesSleep_21 : decode cX5_refusesSleep 21 = .ok (.invokevirtual 21, 3) := by decide +kernel
theorem dX5_refusesSleep_24 : decode cX5_refusesSleep 24 = .ok (.ireturn, 1) := by decide +kernel
theorem dX5_refusesRouse_0 : decode cX5_refusesRouse 0 = .ok (.aload_n 0, 1) := by decide +kernel
theorem dX5_refusesRouse_1 : decode cX5_refusesRouse 1 = .ok (.aload_n 0, 1) := by decide +kernel
theorem dX5_refusesRouse_2 : decode cX5_refusesRouse 2 = .ok (.getfield 9, 3) := by decide +kernel
theorem dX5_refusesRouse_5 : decode cX5_refusesRouse 5 = .ok (.getfield 65, 3) := by decide +kernel
theorem dX5_refusesRouse_8 : decode cX5_refusesRouse 8 = .ok (.iload_n 1, 1) := by decide +kernel
theorem dX5_refusesRouse_9 : decode cX5_refusesRouse 9 = .ok (.baload, 1) := by decide +kernel
theorem dX5_refusesRouse_10 : decode cX5_refusesRouse 10 = .ok (.bipush 10, 2) := by decide +kernel
theorem dX5_refusesRouse_12 : decode cX5_refusesRouse 12 = .ok (.iconst 1, 1) := by decide +kernel
theorem dX5_refusesRouse_13 : decode cX5_refusesRouse 13 = .ok (.invokevirtual 21, 3) := by decide +kernel
theorem dX5_refusesRouse_16 : decode cX5_refusesRouse 16 = .ok (.ireturn, 1) := by decide +kernel
theorem dX5_refusesInquire_0 : decode cX5_refusesInquire 0 = .ok (.aload_n 0, 1) := by decide +kernel
theorem dX5_refusesInquire_1 : decode cX5_refusesInquire 1 = .ok (.getfield 9, 3) := by decide +kernel
theorem dX5_refusesInquire_4 : decode cX5_refusesInquire 4 = .ok (.iload_n 1, 1) := by decide +kernel
theorem dX5_refusesInquire_5 : decode cX5_refusesInquire 5 = .ok (.iload_n 2, 1) := by decide +kernel
theorem dX5_refusesInquire_6 : decode cX5_refusesInquire 6 = .ok (.invokevirtual 37, 3) := by decide +kernel
theorem dX5_refusesInquire_9 : decode cX5_refusesInquire 9 = .ok (.istore 4, 2) := by decide +kernel
theorem dX5_refusesInquire_11 : decode cX5_refusesInquire 11 = .ok (.aload_n 0, 1) := by decide +kernel
theorem dX5_refusesInquire_12 : decode cX5_refusesInquire 12 = .ok (.iload_n 1, 1) := by decide +kernel
theorem dX5_refusesInquire_13 : decode cX5_refusesInquire 13 = .ok (.iload_n 2, 1) := by decide +kernel
theorem dX5_refusesInquire_14 : decode cX5_refusesInquire 14 = .ok (.invokevirtual 44, 3) := by decide +kernel
theorem dX5_refusesInquire_17 : decode cX5_refusesInquire 17 = .ok (.ifCond .ne 78, 3) := by decide +kernel
theorem dX5_refusesInquire_20 : decode cX5_refusesInquire 20 = .ok (.aload_n 0, 1) := by decide +kernel
theorem dX5_refusesInquire_21 : decode cX5_refusesInquire 21 = .ok (.iload_n 1, 1) := by decide +kernel
theorem dX5_refusesInquire_22 : decode cX5_refusesInquire 22 = .ok (.iload_n 3, 1) := by decide +kernel
theorem dX5_refusesInquire_23 : decode cX5_refusesInquire 23 = .ok (.invokevirtual 44, 3) := by decide +kernel
theorem dX5_refusesInquire_26 : decode cX5_refusesInquire 26 = .ok (.ifCond .ne 69, 3) := by decide +kernel
theorem dX5_refusesInquire_29 : decode cX5_refusesInquire 29 = .ok (.aload_n 0, 1) := by decide +kernel
theorem dX5_refusesInquire_30 : decode cX5_refusesInquire 30 = .ok (.iload_n 2, 1) := by decide +kernel
theorem dX5_refusesInquire_31 : decode cX5_refusesInquire 31 = .ok (.invokevirtual 48, 3) := by decide +kernel
theorem dX5_refusesInquire_34 : decode cX5_refusesInquire 34 = .ok (.ifCond .ne 61, 3) := by decide +kernel
theorem dX5_refusesInquire_37 : decode cX5_refusesInquire 37 = .ok (.aload_n 0, 1) := by decide +kernel
theorem dX5_refusesInquire_38 : decode cX5_refusesInquire 38 = .ok (.iload_n 3, 1) := by decide +kernel
theorem dX5_refusesInquire_39 : decode cX5_refusesInquire 39 = .ok (.invokevirtual 48, 3) := by decide +kernel
theorem dX5_refusesInquire_42 : decode cX5_refusesInquire 42 = .ok (.ifCond .ne 53, 3) := by decide +kernel
theorem dX5_refusesInquire_45 : decode cX5_refusesInquire 45 = .ok (.aload_n 0, 1) := by decide +kernel
theorem dX5_refusesInquire_46 : decode cX5_refusesInquire 46 = .ok (.iload 4, 2) := by decide +kernel
theorem dX5_refusesInquire_48 : decode cX5_refusesInquire 48 = .ok (.iconst 1, 1) := by decide +kernel
theorem dX5_refusesInquire_49 : decode cX5_refusesInquire 49 = .ok (.if_icmp .eq 7, 3) := by decide +kernel
theorem dX5_refusesInquire_52 : decode cX5_refusesInquire 52 = .ok (.iconst 1, 1) := by decide +kernel
theorem dX5_refusesInquire_53 : decode cX5_refusesInquire 53 = .ok (.goto 4, 3) := by decide +kernel
theorem dX5_refusesInquire_56 : decode cX5_refusesInquire 56 = .ok (.iconst 0, 1) := by decide +kernel
theorem dX5_refusesInquire_57 : decode cX5_refusesInquire 57 = .ok (.bipush 12, 2) := by decide +kernel
theorem dX5_refusesInquire_59 : decode cX5_refusesInquire 59 = .ok (.iload 4, 2) := by decide +kernel
theorem dX5_refusesInquire_61 : decode cX5_refusesInquire 61 = .ok (.invokevirtual 21, 3) := by decide +kernel
theorem dX5_refusesInquire_64 : decode cX5_refusesInquire 64 = .ok (.ifCond .ne 31, 3) := by decide +kernel
theorem dX5_refusesInquire_67 : decode cX5_refusesInquire 67 = .ok (.aload_n 0, 1) := by decide +kernel
theorem dX5_refusesInquire_68 : decode cX5_refusesInquire 68 = .ok (.aload_n 0, 1) := by decide +kernel
theorem dX5_refusesInquire_69 : decode cX5_refusesInquire 69 = .ok (.getfield 9, 3) := by decide +kernel
theorem dX5_refusesInquire_72 : decode cX5_refusesInquire 72 = .ok (.iload_n 1, 1) := by decide +kernel
theorem dX5_refusesInquire_73 : decode cX5_refusesInquire 73 = .ok (.iload_n 3, 1) := by decide +kernel
theorem dX5_refusesInquire_74 : decode cX5_refusesInquire 74 = .ok (.invokevirtual 37, 3) := by decide +kernel
theorem dX5_refusesInquire_77 : decode cX5_refusesInquire 77 = .ok (.iconst 1, 1) := by decide +kernel
theorem dX5_refusesInquire_78 : decode cX5_refusesInquire 78 = .ok (.if_icmp .ne 7, 3) := by decide +kernel
theorem dX5_refusesInquire_81 : decode cX5_refusesInquire 81 = .ok (.iconst 1, 1) := by decide +kernel
theorem dX5_refusesInquire_82 : decode cX5_refusesInquire 82 = .ok (.goto 4, 3) := by decide +kernel
theorem dX5_refusesInquire_85 : decode cX5_refusesInquire 85 = .ok (.iconst 0, 1) := by decide +kernel
theorem dX5_refusesInquire_86 : decode cX5_refusesInquire 86 = .ok (.bipush 13, 2) := by decide +kernel
theorem dX5_refusesInquire_88 : decode cX5_refusesInquire 88 = .ok (.iload_n 3, 1) := by decide +kernel
theorem dX5_refusesInquire_89 : decode cX5_refusesInquire 89 = .ok (.invokevirtual 21, 3) := by decide +kernel
theorem dX5_refusesInquire_92 : decode cX5_refusesInquire 92 = .ok (.ifCond .eq 7, 3) := by decide +kernel
theorem dX5_refusesInquire_95 : decode cX5_refusesInquire 95 = .ok (.iconst 1, 1) := by decide +kernel
theorem dX5_refusesInquire_96 : decode cX5_refusesInquire 96 = .ok (.goto 4, 3) := by decide +kernel
theorem dX5_refusesInquire_99 : decode cX5_refusesInquire 99 = .ok (.iconst 0, 1) := by decide +kernel
theorem dX5_refusesInquire_100 : decode cX5_refusesInquire 100 = .ok (.ireturn, 1) := by decide +kernel
theorem dX5_hasFainted_0 : decode cX5_hasFainted 0 = .ok (.aload_n 0, 1) := by decide +kernel
theorem dX5_hasFainted_1 : decode cX5_hasFainted 1 = .ok (.aload_n 0, 1) := by decide +kernel
theorem dX5_hasFainted_2 : decode cX5_hasFainted 2 = .ok (.getfield 9, 3) := by decide +kernel
theorem dX5_hasFainted_5 : decode cX5_hasFainted 5 = .ok (.getfield 58, 3) := by decide +kernel
theorem dX5_hasFainted_8 : decode cX5_hasFainted 8 = .ok (.ifCond .ne 7, 3) := by decide +kernel
theorem dX5_hasFainted_11 : decode cX5_hasFainted 11 = .ok (.iconst 1, 1) := by decide +kernel
theorem dX5_hasFainted_12 : decode cX5_hasFainted 12 = .ok (.goto 4, 3) := by decide +kernel
theorem dX5_hasFainted_15 : decode cX5_hasFainted 15 = .ok (.iconst 0, 1) := by decide +kernel
theorem dX5_hasFainted_16 : decode cX5_hasFainted 16 = .ok (.iconst 2, 1) := by decide +kernel
theorem dX5_hasFainted_17 : decode cX5_hasFainted 17 = .ok (.aload_n 0, 1) := by decide +kernel
theorem dX5_hasFainted_18 : decode cX5_hasFainted 18 = .ok (.getfield 9, 3) := by decide +kernel
theorem dX5_hasFainted_21 : decode cX5_hasFainted 21 = .ok (.iconst 0, 1) := by decide +kernel
theorem dX5_hasFainted_22 : decode cX5_hasFainted 22 = .ok (.invokevirtual 69, 3) := by decide +kernel
theorem dX5_hasFainted_25 : decode cX5_hasFainted 25 = .ok (.invokevirtual 21, 3) := by decide +kernel
theorem dX5_hasFainted_28 : decode cX5_hasFainted 28 = .ok (.ireturn, 1) := by decide +kernel
theorem dX5_isNotOpen_0 : decode cX5_isNotOpen 0 = .ok (.aload_n 0, 1) := by decide +kernel
theorem dX5_isNotOpen_1 : decode cX5_isNotOpen 1 = .ok (.aload_n 0, 1) := by decide +kernel
theorem dX5_isNotOpen_2 : decode cX5_isNotOpen 2 = .ok (.getfield 9, 3) := by decide +kernel
theorem dX5_isNotOpen_5 : decode cX5_isNotOpen 5 = .ok (.getfield 54, 3) := by decide +kernel
theorem dX5_isNotOpen_8 : decode cX5_isNotOpen 8 = .ok (.iload_n 1, 1) := by decide +kernel
theorem dX5_isNotOpen_9 : decode cX5_isNotOpen 9 = .ok (.iaload, 1) := by decide +kernel
theorem dX5_isNotOpen_10 : decode cX5_isNotOpen 10 = .ok (.ifCond .eq 7, 3) := by decide +kernel
theorem dX5_isNotOpen_13 : decode cX5_isNotOpen 13 = .ok (.iconst 1, 1) := by decide +kernel
theorem dX5_isNotOpen_14 : decode cX5_isNotOpen 14 = .ok (.goto 4, 3) := by decide +kernel
theorem dX5_isNotOpen_17 : decode cX5_isNotOpen 17 = .ok (.iconst 0, 1) := by decide +kernel
theorem dX5_isNotOpen_18 : decode cX5_isNotOpen 18 = .ok (.iconst 3, 1) := by decide +kernel
theorem dX5_isNotOpen_19 : decode cX5_isNotOpen 19 = .ok (.aload_n 0, 1) := by decide +kernel
theorem dX5_isNotOpen_20 : decode cX5_isNotOpen 20 = .ok (.getfield 9, 3) := by decide +kernel
theorem dX5_isNotOpen_23 : decode cX5_isNotOpen 23 = .ok (.getfield 54, 3) := by decide +kernel
theorem dX5_isNotOpen_26 : decode cX5_isNotOpen 26 = .ok (.iload_n 1, 1) := by decide +kernel
theorem dX5_isNotOpen_27 : decode cX5_isNotOpen 27 = .ok (.iaload, 1) := by decide +kernel
theorem dX5_isNotOpen_28 : decode cX5_isNotOpen 28 = .ok (.invokevirtual 21, 3) := by decide +kernel
theorem dX5_isNotOpen_31 : decode cX5_isNotOpen 31 = .ok (.ireturn, 1) := by decide +kernel
theorem dX5_isNoGuildOf_0 : decode cX5_isNoGuildOf 0 = .ok (.aload_n 0, 1) := by decide +kernel
theorem dX5_isNoGuildOf_1 : decode cX5_isNoGuildOf 1 = .ok (.aload_n 0, 1) := by decide +kernel
theorem dX5_isNoGuildOf_2 : decode cX5_isNoGuildOf 2 = .ok (.getfield 9, 3) := by decide +kernel
theorem dX5_isNoGuildOf_5 : decode cX5_isNoGuildOf 5 = .ok (.iload_n 1, 1) := by decide +kernel
theorem dX5_isNoGuildOf_6 : decode cX5_isNoGuildOf 6 = .ok (.iload_n 2, 1) := by decide +kernel
theorem dX5_isNoGuildOf_7 : decode cX5_isNoGuildOf 7 = .ok (.invokevirtual 72, 3) := by decide +kernel
theorem dX5_isNoGuildOf_10 : decode cX5_isNoGuildOf 10 = .ok (.ifCond .ne 7, 3) := by decide +kernel
theorem dX5_isNoGuildOf_13 : decode cX5_isNoGuildOf 13 = .ok (.iconst 1, 1) := by decide +kernel
theorem dX5_isNoGuildOf_14 : decode cX5_isNoGuildOf 14 = .ok (.goto 4, 3) := by decide +kernel
theorem dX5_isNoGuildOf_17 : decode cX5_isNoGuildOf 17 = .ok (.iconst 0, 1) := by decide +kernel
theorem dX5_isNoGuildOf_18 : decode cX5_isNoGuildOf 18 = .ok (.iconst 4, 1) := by decide +kernel
theorem dX5_isNoGuildOf_19 : decode cX5_isNoGuildOf 19 = .ok (.iload_n 2, 1) := by decide +kernel
theorem dX5_isNoGuildOf_20 : decode cX5_isNoGuildOf 20 = .ok (.invokevirtual 21, 3) := by decide +kernel
theorem dX5_isNoGuildOf_23 : decode cX5_isNoGuildOf 23 = .ok (.ireturn, 1) := by decide +kernel
theorem dX5_isAsleep_0 : decode cX5_isAsleep 0 = .ok (.aload_n 0, 1) := by decide +kernel
theorem dX5_isAsleep_1 : decode cX5_isAsleep 1 = .ok (.aload_n 0, 1) := by decide +kernel
theorem dX5_isAsleep_2 : decode cX5_isAsleep 2 = .ok (.getfield 9, 3) := by decide +kernel
theorem dX5_isAsleep_5 : decode cX5_isAsleep 5 = .ok (.getfield 65, 3) := by decide +kernel
theorem dX5_isAsleep_8 : decode cX5_isAsleep 8 = .ok (.iload_n 1, 1) := by decide +kernel
theorem dX5_isAsleep_9 : decode cX5_isAsleep 9 = .ok (.baload, 1) := by decide +kernel
theorem dX5_isAsleep_10 : decode cX5_isAsleep 10 = .ok (.ifCond .ne 7, 3) := by decide +kernel
theorem dX5_isAsleep_13 : decode cX5_isAsleep 13 = .ok (.iconst 1, 1) := by decide +kernel
theorem dX5_isAsleep_14 : decode cX5_isAsleep 14 = .ok (.goto 4, 3) := by decide +kernel
theorem dX5_isAsleep_17 : decode cX5_isAsleep 17 = .ok (.iconst 0, 1) := by decide +kernel
theorem dX5_isAsleep_18 : decode cX5_isAsleep 18 = .ok (.iconst 5, 1) := by decide +kernel
theorem dX5_isAsleep_19 : decode cX5_isAsleep 19 = .ok (.iload_n 1, 1) := by decide +kernel
theorem dX5_isAsleep_20 : decode cX5_isAsleep 20 = .ok (.invokevirtual 21, 3) := by decide +kernel
theorem dX5_isAsleep_23 : decode cX5_isAsleep 23 = .ok (.ireturn, 1) := by decide +kernel
theorem dX5_isUndecided_0 : decode cX5_isUndecided 0 = .ok (.aload_n 0, 1) := by decide +kernel
theorem dX5_isUndecided_1 : decode cX5_isUndecided 1 = .ok (.getfield 9, 3) := by decide +kernel
theorem dX5_isUndecided_4 : decode cX5_isUndecided 4 = .ok (.iload_n 1, 1) := by decide +kernel
theorem dX5_isUndecided_5 : decode cX5_isUndecided 5 = .ok (.invokevirtual 75, 3) := by decide +kernel
theorem dX5_isUndecided_8 : decode cX5_isUndecided 8 = .ok (.istore_n 2, 1) := by decide +kernel
theorem dX5_isUndecided_9 : decode cX5_isUndecided 9 = .ok (.iload_n 2, 1) := by decide +kernel
theorem dX5_isUndecided_10 : decode cX5_isUndecided 10 = .ok (.bipush 6, 2) := by decide +kernel
theorem dX5_isUndecided_12 : decode cX5_isUndecided 12 = .ok (.if_icmp .lt 14, 3) := by decide +kernel
theorem dX5_isUndecided_15 : decode cX5_isUndecided 15 = .ok (.aload_n 0, 1) := by decide +kernel
theorem dX5_isUndecided_16 : decode cX5_isUndecided 16 = .ok (.getfield 9, 3) := by decide +kernel
theorem dX5_isUndecided_19 : decode cX5_isUndecided 19 = .ok (.iload_n 1, 1) := by decide +kernel
theorem dX5_isUndecided_20 : decode cX5_isUndecided 20 = .ok (.invokevirtual 78, 3) := by decide +kernel
theorem dX5_isUndecided_23 : decode cX5_isUndecided 23 = .ok (.ifCond .ne 7, 3) := by decide +kernel
theorem dX5_isUndecided_26 : decode cX5_isUndecided 26 = .ok (.iconst 1, 1) := by decide +kernel
theorem dX5_isUndecided_27 : decode cX5_isUndecided 27 = .ok (.goto 4, 3) := by decide +kernel
theorem dX5_isUndecided_30 : decode cX5_isUndecided 30 = .ok (.iconst 0, 1) := by decide +kernel
theorem dX5_isUndecided_31 : decode cX5_isUndecided 31 = .ok (.istore_n 3, 1) := by decide +kernel
theorem dX5_isUndecided_32 : decode cX5_isUndecided 32 = .ok (.aload_n 0, 1) := by decide +kernel
theorem dX5_isUndecided_33 : decode cX5_isUndecided 33 = .ok (.iload_n 3, 1) := by decide +kernel
theorem dX5_isUndecided_34 : decode cX5_isUndecided 34 = .ok (.ifCond .eq 18, 3) := by decide +kernel
theorem dX5_isUndecided_37 : decode cX5_isUndecided 37 = .ok (.aload_n 0, 1) := by decide +kernel
theorem dX5_isUndecided_38 : decode cX5_isUndecided 38 = .ok (.getfield 9, 3) := by decide +kernel
theorem dX5_isUndecided_41 : decode cX5_isUndecided 41 = .ok (.iload_n 1, 1) := by decide +kernel
theorem dX5_isUndecided_42 : decode cX5_isUndecided 42 = .ok (.invokevirtual 81, 3) := by decide +kernel
theorem dX5_isUndecided_45 : decode cX5_isUndecided 45 = .ok (.ifCond .ne 7, 3) := by decide +kernel
theorem dX5_isUndecided_48 : decode cX5_isUndecided 48 = .ok (.iconst 1, 1) := by decide +kernel
theorem dX5_isUndecided_49 : decode cX5_isUndecided 49 = .ok (.goto 4, 3) := by decide +kernel
theorem dX5_isUndecided_52 : decode cX5_isUndecided 52 = .ok (.iconst 0, 1) := by decide +kernel
theorem dX5_isUndecided_53 : decode cX5_isUndecided 53 = .ok (.bipush 7, 2) := by decide +kernel
theorem dX5_isUndecided_55 : decode cX5_isUndecided 55 = .ok (.iload_n 2, 1) := by decide +kernel
theorem dX5_isUndecided_56 : decode cX5_isUndecided 56 = .ok (.invokevirtual 21, 3) := by decide +kernel
theorem dX5_isUndecided_59 : decode cX5_isUndecided 59 = .ok (.ireturn, 1) := by decide +kernel
theorem dX5_keepIf_0 : decode cX5_keepIf 0 = .ok (.iload_n 1, 1) := by decide +kernel
theorem dX5_keepIf_1 : decode cX5_keepIf 1 = .ok (.ifCond .eq 13, 3) := by decide +kernel
theorem dX5_keepIf_4 : decode cX5_keepIf 4 = .ok (.aload_n 0, 1) := by decide +kernel
theorem dX5_keepIf_5 : decode cX5_keepIf 5 = .ok (.iload_n 2, 1) := by decide +kernel
theorem dX5_keepIf_6 : decode cX5_keepIf 6 = .ok (.putfield 84, 3) := by decide +kernel
theorem dX5_keepIf_9 : decode cX5_keepIf 9 = .ok (.aload_n 0, 1) := by decide +kernel
theorem dX5_keepIf_10 : decode cX5_keepIf 10 = .ok (.iload_n 3, 1) := by decide +kernel
theorem dX5_keepIf_11 : decode cX5_keepIf 11 = .ok (.putfield 87, 3) := by decide +kernel
theorem dX5_keepIf_14 : decode cX5_keepIf 14 = .ok (.iload_n 1, 1) := by decide +kernel
theorem dX5_keepIf_15 : decode cX5_keepIf 15 = .ok (.ireturn, 1) := by decide +kernel
theorem dX6_init_0 : decode cX6_init 0 = .ok (.aload_n 0, 1) := by decide +kernel
theorem dX6_init_1 : decode cX6_init 1 = .ok (.invokespecial 1, 3) := by decide +kernel
theorem dX6_init_4 : decode cX6_init 4 = .ok (.aload_n 0, 1) := by decide +kernel
theorem dX6_init_5 : decode cX6_init 5 = .ok (.new 7, 3) := by decide +kernel
theorem dX6_init_8 : decode cX6_init 8 = .ok (.dup, 1) := by decide +kernel
theorem dX6_init_9 : decode cX6_init 9 = .ok (.invokespecial 9, 3) := by decide +kernel
theorem dX6_init_12 : decode cX6_init 12 = .ok (.putfield 10, 3) := by decide +kernel
theorem dX6_init_15 : decode cX6_init 15 = .ok (.aload_n 0, 1) := by decide +kernel
theorem dX6_init_16 : decode cX6_init 16 = .ok (.new 7, 3) := by decide +kernel
theorem dX6_init_19 : decode cX6_init 19 = .ok (.dup, 1) := by decide +kernel
theorem dX6_init_20 : decode cX6_init 20 = .ok (.invokespecial 9, 3) := by decide +kernel
theorem dX6_init_23 : decode cX6_init 23 = .ok (.putfield 16, 3) := by decide +kernel
theorem dX6_init_26 : decode cX6_init 26 = .ok (.aload_n 0, 1) := by decide +kernel
theorem dX6_init_27 : decode cX6_init 27 = .ok (.new 7, 3) := by decide +kernel
theorem dX6_init_30 : decode cX6_init 30 = .ok (.dup, 1) := by decide +kernel
theorem dX6_init_31 : decode cX6_init 31 = .ok (.invokespecial 9, 3) := by decide +kernel
theorem dX6_init_34 : decode cX6_init 34 = .ok (.putfield 19, 3) := by decide +kernel
theorem dX6_init_37 : decode cX6_init 37 = .ok (.aload_n 0, 1) := by decide +kernel
theorem dX6_init_38 : decode cX6_init 38 = .ok (.new 22, 3) := by decide +kernel
theorem dX6_init_41 : decode cX6_init 41 = .ok (.dup, 1) := by decide +kernel
theorem dX6_init_42 : decode cX6_init 42 = .ok (.invokespecial 24, 3) := by decide +kernel
theorem dX6_init_45 : decode cX6_init 45 = .ok (.putfield 25, 3) := by decide +kernel
theorem dX6_init_48 : decode cX6_init 48 = .ok (.aload_n 0, 1) := by decide +kernel
theorem dX6_init_49 : decode cX6_init 49 = .ok (.new 29, 3) := by decide +kernel
theorem dX6_init_52 : decode cX6_init 52 = .ok (.dup, 1) := by decide +kernel
theorem dX6_init_53 : decode cX6_init 53 = .ok (.aload_n 0, 1) := by decide +kernel
theorem dX6_init_54 : decode cX6_init 54 = .ok (.getfield 10, 3) := by decide +kernel
theorem dX6_init_57 : decode cX6_init 57 = .ok (.invokespecial 31, 3) := by decide +kernel
theorem dX6_init_60 : decode cX6_init 60 = .ok (.putfield 34, 3) := by decide +kernel
theorem dX6_init_63 : decode cX6_init 63 = .ok (.aload_n 0, 1) := by decide +kernel
theorem dX6_init_64 : decode cX6_init 64 = .ok (.new 38, 3) := by decide +kernel
theorem dX6_init_67 : decode cX6_init 67 = .ok (.dup, 1) := by decide +kernel
theorem dX6_init_68 : decode cX6_init 68 = .ok (.invokespecial 40, 3) := by decide +kernel
theorem dX6_init_71 : decode cX6_init 71 = .ok (.putfield 41, 3) := by decide +kernel
theorem dX6_init_74 : decode cX6_init 74 = .ok (.aload_n 0, 1) := by decide +kernel
theorem dX6_init_75 : decode cX6_init 75 = .ok (.new 45, 3) := by decide +kernel
theorem dX6_init_78 : decode cX6_init 78 = .ok (.dup, 1) := by decide +kernel
theorem dX6_init_79 : decode cX6_init 79 = .ok (.aload_n 0, 1) := by decide +kernel
theorem dX6_init_80 : decode cX6_init 80 = .ok (.getfield 10, 3) := by decide +kernel
theorem dX6_init_83 : decode cX6_init 83 = .ok (.aload_n 0, 1) := by decide +kernel
theorem dX6_init_84 : decode cX6_init 84 = .ok (.getfield 34, 3) := by decide +kernel
theorem dX6_init_87 : decode cX6_init 87 = .ok (.invokespecial 47, 3) := by decide +kernel
theorem dX6_init_90 : decode cX6_init 90 = .ok (.putfield 50, 3) := by decide +kernel
theorem dX6_init_93 : decode cX6_init 93 = .ok (.aload_n 0, 1) := by decide +kernel
theorem dX6_init_94 : decode cX6_init 94 = .ok (.new 54, 3) := by decide +kernel
theorem dX6_init_97 : decode cX6_init 97 = .ok (.dup, 1) := by decide +kernel
theorem dX6_init_98 : decode cX6_init 98 = .ok (.invokespecial 56, 3) := by decide +kernel
theorem dX6_init_101 : decode cX6_init 101 = .ok (.putfield 57, 3) := by decide +kernel
theorem dX6_init_104 : decode cX6_init 104 = .ok (.return_, 1) := by decide +kernel
theorem dX6_matter_0 : decode cX6_matter 0 = .ok (.aload_n 0, 1) := by decide +kernel
theorem dX6_matter_1 : decode cX6_matter 1 = .ok (.aload_n 0, 1) := by decide +kernel
theorem dX6_matter_2 : decode cX6_matter 2 = .ok (.getfield 34, 3) := by decide +kernel
theorem dX6_matter_5 : decode cX6_matter 5 = .ok (.invokevirtual 61, 3) := by decide +kernel
theorem dX6_matter_8 : decode cX6_matter 8 = .ok (.invokevirtual 65, 3) := by decide +kernel
theorem dX6_matter_11 : decode cX6_matter 11 = .ok (.aload_n 0, 1) := by decide +kernel
theorem dX6_matter_12 : decode cX6_matter 12 = .ok (.getfield 10, 3) := by decide +kernel
theorem dX6_matter_15 : decode cX6_matter 15 = .ok (.invokevirtual 69, 3) := by decide +kernel
theorem dX6_matter_18 : decode cX6_matter 18 = .ok (.ireturn, 1) := by decide +kernel
theorem dX6_set_0 : decode cX6_set 0 = .ok (.aload_n 0, 1) := by decide +kernel
theorem dX6_set_1 : decode cX6_set 1 = .ok (.iload_n 1, 1) := by decide +kernel
theorem dX6_set_2 : decode cX6_set 2 = .ok (.invokevirtual 73, 3) := by decide +kernel
theorem dX6_set_5 : decode cX6_set 5 = .ok (.aload_n 0, 1) := by decide +kernel
theorem dX6_set_6 : decode cX6_set 6 = .ok (.getfield 10, 3) := by decide +kernel
theorem dX6_set_9 : decode cX6_set 9 = .ok (.iload_n 2, 1) := by decide +kernel
theorem dX6_set_10 : decode cX6_set 10 = .ok (.invokevirtual 77, 3) := by decide +kernel
theorem dX6_set_13 : decode cX6_set 13 = .ok (.ifCond .ne 13, 3) := by decide +kernel
theorem dX6_set_16 : decode cX6_set 16 = .ok (.new 81, 3) := by decide +kernel
theorem dX6_set_19 : decode cX6_set 19 = .ok (.dup, 1) := by decide +kernel
theorem dX6_set_20 : decode cX6_set 20 = .ok (.ldc 83, 2) := by decide +kernel
theorem dX6_set_22 : decode cX6_set 22 = .ok (.invokespecial 85, 3) := by decide +kernel
theorem dX6_set_25 : decode cX6_set 25 = .ok (.athrow, 1) := by decide +kernel
theorem dX6_set_26 : decode cX6_set 26 = .ok (.aload_n 0, 1) := by decide +kernel
theorem dX6_set_27 : decode cX6_set 27 = .ok (.iload_n 3, 1) := by decide +kernel
theorem dX6_set_28 : decode cX6_set 28 = .ok (.bipush (-50), 2) := by decide +kernel
theorem dX6_set_30 : decode cX6_set 30 = .ok (.bipush 50, 2) := by decide +kernel
theorem dX6_set_32 : decode cX6_set 32 = .ok (.invokevirtual 88, 3) := by decide +kernel
theorem dX6_set_35 : decode cX6_set 35 = .ok (.aload_n 0, 1) := by decide +kernel
theorem dX6_set_36 : decode cX6_set 36 = .ok (.aload_n 0, 1) := by decide +kernel
theorem dX6_set_37 : decode cX6_set 37 = .ok (.getfield 34, 3) := by decide +kernel
theorem dX6_set_40 : decode cX6_set 40 = .ok (.iload_n 1, 1) := by decide +kernel
theorem dX6_set_41 : decode cX6_set 41 = .ok (.iload_n 2, 1) := by decide +kernel
theorem dX6_set_42 : decode cX6_set 42 = .ok (.iload_n 3, 1) := by decide +kernel
theorem dX6_set_43 : decode cX6_set 43 = .ok (.invokevirtual 92, 3) := by decide +kernel
theorem dX6_set_46 : decode cX6_set 46 = .ok (.invokevirtual 65, 3) := by decide +kernel
theorem dX6_set_49 : decode cX6_set 49 = .ok (.aload_n 0, 1) := by decide +kernel
theorem dX6_set_50 : decode cX6_set 50 = .ok (.getfield 10, 3) := by decide +kernel
theorem dX6_set_53 : decode cX6_set 53 = .ok (.iload_n 1, 1) := by decide +kernel
theorem dX6_set_54 : decode cX6_set 54 = .ok (.iload_n 2, 1) := by decide +kernel
theorem dX6_set_55 : decode cX6_set 55 = .ok (.iload_n 3, 1) := by decide +kernel
theorem dX6_set_56 : decode cX6_set 56 = .ok (.invokevirtual 96, 3) := by decide +kernel
theorem dX6_set_59 : decode cX6_set 59 = .ok (.ireturn, 1) := by decide +kernel
theorem dX6_matterOf_0 : decode cX6_matterOf 0 = .ok (.aload_n 0, 1) := by decide +kernel
theorem dX6_matterOf_1 : decode cX6_matterOf 1 = .ok (.iload_n 1, 1) := by decide +kernel
theorem dX6_matterOf_2 : decode cX6_matterOf 2 = .ok (.invokevirtual 73, 3) := by decide +kernel
theorem dX6_matterOf_5 : decode cX6_matterOf 5 = .ok (.aload_n 0, 1) := by decide +kernel
theorem dX6_matterOf_6 : decode cX6_matterOf 6 = .ok (.iload_n 2, 1) := by decide +kernel
theorem dX6_matterOf_7 : decode cX6_matterOf 7 = .ok (.iconst 0, 1) := by decide +kernel
theorem dX6_matterOf_8 : decode cX6_matterOf 8 = .ok (.bipush 7, 2) := by decide +kernel
theorem dX6_matterOf_10 : decode cX6_matterOf 10 = .ok (.invokevirtual 88, 3) := by decide +kernel
theorem dX6_matterOf_13 : decode cX6_matterOf 13 = .ok (.aload_n 0, 1) := by decide +kernel
theorem dX6_matterOf_14 : decode cX6_matterOf 14 = .ok (.getfield 10, 3) := by decide +kernel
theorem dX6_matterOf_17 : decode cX6_matterOf 17 = .ok (.iload_n 1, 1) := by decide +kernel
theorem dX6_matterOf_18 : decode cX6_matterOf 18 = .ok (.iload_n 2, 1) := by decide +kernel
theorem dX6_matterOf_19 : decode cX6_matterOf 19 = .ok (.invokevirtual 100, 3) := by decide +kernel
theorem dX6_matterOf_22 : decode cX6_matterOf 22 = .ok (.ireturn, 1) := by decide +kernel
theorem dX6_answer_0 : decode cX6_answer 0 = .ok (.aload_n 0, 1) := by decide +kernel
theorem dX6_answer_1 : decode cX6_answer 1 = .ok (.iload_n 1, 1) := by decide +kernel
theorem dX6_answer_2 : decode cX6_answer 2 = .ok (.invokevirtual 73, 3) := by decide +kernel
theorem dX6_answer_5 : decode cX6_answer 5 = .ok (.aload_n 0, 1) := by decide +kernel
theorem dX6_answer_6 : decode cX6_answer 6 = .ok (.iload_n 2, 1) := by decide +kernel
theorem dX6_answer_7 : decode cX6_answer 7 = .ok (.invokevirtual 104, 3) := by decide +kernel
theorem dX6_answer_10 : decode cX6_answer 10 = .ok (.aload_n 0, 1) := by decide +kernel
theorem dX6_answer_11 : decode cX6_answer 11 = .ok (.getfield 10, 3) := by decide +kernel
theorem dX6_answer_14 : decode cX6_answer 14 = .ok (.iload_n 1, 1) := by decide +kernel
theorem dX6_answer_15 : decode cX6_answer 15 = .ok (.iload_n 2, 1) := by decide +kernel
theorem dX6_answer_16 : decode cX6_answer 16 = .ok (.invokevirtual 107, 3) := by decide +kernel
theorem dX6_answer_19 : decode cX6_answer 19 = .ok (.ifCond .eq 15, 3) := by decide +kernel
theorem dX6_answer_22 : decode cX6_answer 22 = .ok (.aload_n 0, 1) := by decide +kernel
theorem dX6_answer_23 : decode cX6_answer 23 = .ok (.getfield 10, 3) := by decide +kernel
theorem dX6_answer_26 : decode cX6_answer 26 = .ok (.iload_n 1, 1) := by decide +kernel
theorem dX6_answer_27 : decode cX6_answer 27 = .ok (.iload_n 2, 1) := by decide +kernel
theorem dX6_answer_28 : decode cX6_answer 28 = .ok (.invokevirtual 111, 3) := by decide +kernel
theorem dX6_answer_31 : decode cX6_answer 31 = .ok (.goto 4, 3) := by decide +kernel
theorem dX6_answer_34 : decode cX6_answer 34 = .ok (.iconst (-1), 1) := by decide +kernel
theorem dX6_answer_35 : decode cX6_answer 35 = .ok (.ireturn, 1) := by decide +kernel
theorem dX6_amount_0 : decode cX6_amount 0 = .ok (.aload_n 0, 1) := by decide +kernel
theorem dX6_amount_1 : decode cX6_amount 1 = .ok (.iload_n 1, 1) := by decide +kernel
theorem dX6_amount_2 : decode cX6_amount 2 = .ok (.invokevirtual 73, 3) := by decide +kernel
theorem dX6_amount_5 : decode cX6_amount 5 = .ok (.aload_n 0, 1) := by decide +kernel
theorem dX6_amount_6 : decode cX6_amount 6 = .ok (.iload_n 2, 1) := by decide +kernel
theorem dX6_amount_7 : decode cX6_amount 7 = .ok (.invokevirtual 104, 3) := by decide +kernel
theorem dX6_amount_10 : decode cX6_amount 10 = .ok (.aload_n 0, 1) := by decide +kernel
theorem dX6_amount_11 : decode cX6_amount 11 = .ok (.getfield 10, 3) := by decide +kernel
theorem dX6_amount_14 : decode cX6_amount 14 = .ok (.iload_n 1, 1) := by decide +kernel
theorem dX6_amount_15 : decode cX6_amount 15 = .ok (.iload_n 2, 1) := by decide +kernel
theorem dX6_amount_16 : decode cX6_amount 16 = .ok (.invokevirtual 114, 3) := by decide +kernel
theorem dX6_amount_19 : decode cX6_amount 19 = .ok (.ireturn, 1) := by decide +kernel
theorem dX6_ask_0 : decode cX6_ask 0 = .ok (.aload_n 0, 1) := by decide +kernel
theorem dX6_ask_1 : decode cX6_ask 1 = .ok (.iload_n 1, 1) := by decide +kernel
theorem dX6_ask_2 : decode cX6_ask 2 = .ok (.invokevirtual 73, 3) := by decide +kernel
theorem dX6_ask_5 : decode cX6_ask 5 = .ok (.aload_n 0, 1) := by decide +kernel
theorem dX6_ask_6 : decode cX6_ask 6 = .ok (.iload_n 2, 1) := by decide +kernel
theorem dX6_ask_7 : decode cX6_ask 7 = .ok (.invokevirtual 104, 3) := by decide +kernel
theorem dX6_ask_10 : decode cX6_ask 10 = .ok (.aload_n 0, 1) := by decide +kernel
theorem dX6_ask_11 : decode cX6_ask 11 = .ok (.aload_n 0, 1) := by decide +kernel
theorem dX6_ask_12 : decode cX6_ask 12 = .ok (.getfield 34, 3) := by decide +kernel
theorem dX6_ask_15 : decode cX6_ask 15 = .ok (.iload_n 1, 1) := by decide +kernel
theorem dX6_ask_16 : decode cX6_ask 16 = .ok (.iload_n 2, 1) := by decide +kernel
theorem dX6_ask_17 : decode cX6_ask 17 = .ok (.invokevirtual 117, 3) := by decide +kernel
theorem dX6_ask_20 : decode cX6_ask 20 = .ok (.invokevirtual 65, 3) := by decide +kernel
theorem dX6_ask_23 : decode cX6_ask 23 = .ok (.aload_n 0, 1) := by decide +kernel
theorem dX6_ask_24 : decode cX6_ask 24 = .ok (.getfield 10, 3) := by decide +kernel
theorem dX6_ask_27 : decode cX6_ask 27 = .ok (.iload_n 1, 1) := by decide +kernel
theorem dX6_ask_28 : decode cX6_ask 28 = .ok (.iload_n 2, 1) := by decide +kernel
theorem dX6_ask_29 : decode cX6_ask 29 = .ok (.invokevirtual 120, 3) := by decide +kernel
theorem dX6_ask_32 : decode cX6_ask 32 = .ok (.ireturn, 1) := by decide +kernel
theorem dX6_decide_0 : decode cX6_decide 0 = .ok (.aload_n 0, 1) := by decide +kernel
theorem dX6_decide_1 : decode cX6_decide 1 = .ok (.iload_n 1, 1) := by decide +kernel
theorem dX6_decide_2 : decode cX6_decide 2 = .ok (.invokevirtual 73, 3) := by decide +kernel
theorem dX6_decide_5 : decode cX6_decide 5 = .ok (.aload_n 0, 1) := by decide +kernel
theorem dX6_decide_6 : decode cX6_decide 6 = .ok (.aload_n 0, 1) := by decide +kernel
theorem dX6_decide_7 : decode cX6_decide 7 = .ok (.getfield 34, 3) := by decide +kernel
theorem dX6_decide_10 : decode cX6_decide 10 = .ok (.iload_n 1, 1) := by decide +kernel
theorem dX6_decide_11 : decode cX6_decide 11 = .ok (.invokevirtual 123, 3) := by decide +kernel
theorem dX6_decide_14 : decode cX6_decide 14 = .ok (.invokevirtual 65, 3) := by decide +kernel
theorem dX6_decide_17 : decode cX6_decide 17 = .ok (.aload_n 0, 1) := by decide +kernel
theorem dX6_decide_18 : decode cX6_decide 18 = .ok (.getfield 10, 3) := by decide +kernel
theorem dX6_decide_21 : decode cX6_decide 21 = .ok (.iload_n 1, 1) := by decide +kernel
theorem dX6_decide_22 : decode cX6_decide 22 = .ok (.invokevirtual 126, 3) := by decide +kernel
theorem dX6_decide_25 : decode cX6_decide 25 = .ok (.ireturn, 1) := by decide +kernel
theorem dX6_tell_0 : decode cX6_tell 0 = .ok (.aload_n 0, 1) := by decide +kernel
theorem dX6_tell_1 : decode cX6_tell 1 = .ok (.iload_n 1, 1) := by decide +kernel
theorem dX6_tell_2 : decode cX6_tell 2 = .ok (.invokevirtual 73, 3) := by decide +kernel
theorem dX6_tell_5 : decode cX6_tell 5 = .ok (.aload_n 0, 1) := by decide +kernel
theorem dX6_tell_6 : decode cX6_tell 6 = .ok (.iload_n 2, 1) := by decide +kernel
theorem dX6_tell_7 : decode cX6_tell 7 = .ok (.invokevirtual 104, 3) := by decide +kernel
theorem dX6_tell_10 : decode cX6_tell 10 = .ok (.aload_n 0, 1) := by decide +kernel
theorem dX6_tell_11 : decode cX6_tell 11 = .ok (.aload_n 0, 1) := by decide +kernel
theorem dX6_tell_12 : decode cX6_tell 12 = .ok (.getfield 34, 3) := by decide +kernel
theorem dX6_tell_15 : decode cX6_tell 15 = .ok (.iload_n 1, 1) := by decide +kernel
theorem dX6_tell_16 : decode cX6_tell 16 = .ok (.iload_n 2, 1) := by decide +kernel
theorem dX6_tell_17 : decode cX6_tell 17 = .ok (.invokevirtual 130, 3) := by decide +kernel
theorem dX6_tell_20 : decode cX6_tell 20 = .ok (.invokevirtual 65, 3) := by decide +kernel
theorem dX6_tell_23 : decode cX6_tell 23 = .ok (.aload_n 0, 1) := by decide +kernel
theorem dX6_tell_24 : decode cX6_tell 24 = .ok (.getfield 10, 3) := by decide +kernel
theorem dX6_tell_27 : decode cX6_tell 27 = .ok (.iload_n 1, 1) := by decide +kernel
theorem dX6_tell_28 : decode cX6_tell 28 = .ok (.iload_n 2, 1) := by decide +kernel
theorem dX6_tell_29 : decode cX6_tell 29 = .ok (.invokevirtual 133, 3) := by decide +kernel
theorem dX6_tell_32 : decode cX6_tell 32 = .ok (.ireturn, 1) := by decide +kernel
theorem dX6_faint_0 : decode cX6_faint 0 = .ok (.aload_n 0, 1) := by decide +kernel
theorem dX6_faint_1 : decode cX6_faint 1 = .ok (.aload_n 0, 1) := by decide +kernel
theorem dX6_faint_2 : decode cX6_faint 2 = .ok (.getfield 34, 3) := by decide +kernel
theorem dX6_faint_5 : decode cX6_faint 5 = .ok (.invokevirtual 136, 3) := by decide +kernel
theorem dX6_faint_8 : decode cX6_faint 8 = .ok (.invokevirtual 65, 3) := by decide +kernel
theorem dX6_faint_11 : decode cX6_faint 11 = .ok (.aload_n 0, 1) := by decide +kernel
theorem dX6_faint_12 : decode cX6_faint 12 = .ok (.getfield 10, 3) := by decide +kernel
theorem dX6_faint_15 : decode cX6_faint 15 = .ok (.invokevirtual 139, 3) := by decide +kernel
theorem dX6_faint_18 : decode cX6_faint 18 = .ok (.ireturn, 1) := by decide +kernel
theorem dX6_wake_0 : decode cX6_wake 0 = .ok (.aload_n 0, 1) := by decide +kernel
theorem dX6_wake_1 : decode cX6_wake 1 = .ok (.aload_n 0, 1) := by decide +kernel
theorem dX6_wake_2 : decode cX6_wake 2 = .ok (.getfield 34, 3) := by decide +kernel
theorem dX6_wake_5 : decode cX6_wake 5 = .ok (.invokevirtual 142, 3) := by decide +kernel
theorem dX6_wake_8 : decode cX6_wake 8 = .ok (.invokevirtual 65, 3) := by decide +kernel
theorem dX6_wake_11 : decode cX6_wake 11 = .ok (.aload_n 0, 1) := by decide +kernel
theorem dX6_wake_12 : decode cX6_wake 12 = .ok (.getfield 10, 3) := by decide +kernel
theorem dX6_wake_15 : decode cX6_wake 15 = .ok (.invokevirtual 145, 3) := by decide +kernel
theorem dX6_wake_18 : decode cX6_wake 18 = .ok (.ireturn, 1) := by decide +kernel
theorem dX6_isAwake_0 : decode cX6_isAwake 0 = .ok (.aload_n 0, 1) := by decide +kernel
theorem dX6_isAwake_1 : decode cX6_isAwake 1 = .ok (.getfield 10, 3) := by decide +kernel
theorem dX6_isAwake_4 : decode cX6_isAwake 4 = .ok (.getfield 148, 3) := by decide +kernel
theorem dX6_isAwake_7 : decode cX6_isAwake 7 = .ok (.ireturn, 1) := by decide +kernel
theorem dX6_book_0 : decode cX6_book 0 = .ok (.iload_n 1, 1) := by decide +kernel
theorem dX6_book_1 : decode cX6_book 1 = .ok (.ifCond .lt 14, 3) := by decide +kernel
theorem dX6_book_4 : decode cX6_book 4 = .ok (.iload_n 1, 1) := by decide +kernel
theorem dX6_book_5 : decode cX6_book 5 = .ok (.aload_n 0, 1) := by decide +kernel
theorem dX6_book_6 : decode cX6_book 6 = .ok (.getfield 10, 3) := by decide +kernel
theorem dX6_book_9 : decode cX6_book 9 = .ok (.getfield 152, 3) := by decide +kernel
theorem dX6_book_12 : decode cX6_book 12 = .ok (.if_icmp .lt 13, 3) := by decide +kernel
theorem dX6_book_15 : decode cX6_book 15 = .ok (.new 81, 3) := by decide +kernel
theorem dX6_book_18 : decode cX6_book 18 = .ok (.dup, 1) := by decide +kernel
theorem dX6_book_19 : decode cX6_book 19 = .ok (.ldc 156, 2) := by decide +kernel
theorem dX6_book_21 : decode cX6_book 21 = .ok (.invokespecial 85, 3) := by decide +kernel
theorem dX6_book_24 : decode cX6_book 24 = .ok (.athrow, 1) := by decide +kernel
theorem dX6_book_25 : decode cX6_book 25 = .ok (.aload_n 0, 1) := by decide +kernel
theorem dX6_book_26 : decode cX6_book 26 = .ok (.getfield 10, 3) := by decide +kernel
theorem dX6_book_29 : decode cX6_book 29 = .ok (.getfield 158, 3) := by decide +kernel
theorem dX6_book_32 : decode cX6_book 32 = .ok (.iload_n 1, 1) := by decide +kernel
theorem dX6_book_33 : decode cX6_book 33 = .ok (.iaload, 1) := by decide +kernel
theorem dX6_book_34 : decode cX6_book 34 = .ok (.ireturn, 1) := by decide +kernel
theorem dX6_wouldSeal_0 : decode cX6_wouldSeal 0 = .ok (.aload_n 0, 1) := by decide +kernel
theorem dX6_wouldSeal_1 : decode cX6_wouldSeal 1 = .ok (.iload_n 1, 1) := by decide +kernel
theorem dX6_wouldSeal_2 : decode cX6_wouldSeal 2 = .ok (.invokevirtual 73, 3) := by decide +kernel
theorem dX6_wouldSeal_5 : decode cX6_wouldSeal 5 = .ok (.aload_n 0, 1) := by decide +kernel
theorem dX6_wouldSeal_6 : decode cX6_wouldSeal 6 = .ok (.getfield 10, 3) := by decide +kernel
theorem dX6_wouldSeal_9 : decode cX6_wouldSeal 9 = .ok (.getfield 162, 3) := by decide +kernel
theorem dX6_wouldSeal_12 : decode cX6_wouldSeal 12 = .ok (.iload_n 1, 1) := by decide +kernel
theorem dX6_wouldSeal_13 : decode cX6_wouldSeal 13 = .ok (.iaload, 1) := by decide +kernel
theorem dX6_wouldSeal_14 : decode cX6_wouldSeal 14 = .ok (.ifCond .ne 14, 3) := by decide +kernel
theorem dX6_wouldSeal_17 : decode cX6_wouldSeal 17 = .ok (.aload_n 0, 1) := by decide +kernel
theorem dX6_wouldSeal_18 : decode cX6_wouldSeal 18 = .ok (.getfield 10, 3) := by decide +kernel
theorem dX6_wouldSeal_21 : decode cX6_wouldSeal 21 = .ok (.iload_n 1, 1) := by decide +kernel
theorem dX6_wouldSeal_22 : decode cX6_wouldSeal 22 = .ok (.invokevirtual 165, 3) := by decide +kernel
theorem dX6_wouldSeal_25 : decode cX6_wouldSeal 25 = .ok (.ifCond .ne 13, 3) := by decide +kernel
theorem dX6_wouldSeal_28 : decode cX6_wouldSeal 28 = .ok (.new 168, 3) := by decide +kernel
theorem dX6_wouldSeal_31 : decode cX6_wouldSeal 31 = .ok (.dup, 1) := by decide +kernel
theorem dX6_wouldSeal_32 : decode cX6_wouldSeal 32 = .ok (.ldc 170, 2) := by decide +kernel
theorem dX6_wouldSeal_34 : decode cX6_wouldSeal 34 = .ok (.invokespecial 172, 3) := by decide +kernel
theorem dX6_wouldSeal_37 : decode cX6_wouldSeal 37 = .ok (.athrow, 1) := by decide +kernel
theorem dX6_wouldSeal_38 : decode cX6_wouldSeal 38 = .ok (.aload_n 0, 1) := by decide +kernel
theorem dX6_wouldSeal_39 : decode cX6_wouldSeal 39 = .ok (.getfield 10, 3) := by decide +kernel
theorem dX6_wouldSeal_42 : decode cX6_wouldSeal 42 = .ok (.iload_n 1, 1) := by decide +kernel
theorem dX6_wouldSeal_43 : decode cX6_wouldSeal 43 = .ok (.invokevirtual 173, 3) := by decide +kernel
theorem dX6_wouldSeal_46 : decode cX6_wouldSeal 46 = .ok (.ireturn, 1) := by decide +kernel
theorem dX6_sleep_0 : decode cX6_sleep 0 = .ok (.aload_n 0, 1) := by decide +kernel
theorem dX6_sleep_1 : decode cX6_sleep 1 = .ok (.iload_n 1, 1) := by decide +kernel
theorem dX6_sleep_2 : decode cX6_sleep 2 = .ok (.invokevirtual 104, 3) := by decide +kernel
theorem dX6_sleep_5 : decode cX6_sleep 5 = .ok (.aload_n 0, 1) := by decide +kernel
theorem dX6_sleep_6 : decode cX6_sleep 6 = .ok (.aload_n 0, 1) := by decide +kernel
theorem dX6_sleep_7 : decode cX6_sleep 7 = .ok (.getfield 34, 3) := by decide +kernel
theorem dX6_sleep_10 : decode cX6_sleep 10 = .ok (.iload_n 1, 1) := by decide +kernel
theorem dX6_sleep_11 : decode cX6_sleep 11 = .ok (.invokevirtual 176, 3) := by decide +kernel
theorem dX6_sleep_14 : decode cX6_sleep 14 = .ok (.invokevirtual 65, 3) := by decide +kernel
theorem dX6_sleep_17 : decode cX6_sleep 17 = .ok (.aload_n 0, 1) := by decide +kernel
theorem dX6_sleep_18 : decode cX6_sleep 18 = .ok (.getfield 10, 3) := by decide +kernel
theorem dX6_sleep_21 : decode cX6_sleep 21 = .ok (.iload_n 1, 1) := by decide +kernel
theorem dX6_sleep_22 : decode cX6_sleep 22 = .ok (.iconst 0, 1) := by decide +kernel
theorem dX6_sleep_23 : decode cX6_sleep 23 = .ok (.invokevirtual 179, 3) := by decide +kernel
theorem dX6_sleep_26 : decode cX6_sleep 26 = .ok (.ireturn, 1) := by decide +kernel
theorem dX6_rouse_0 : decode cX6_rouse 0 = .ok (.aload_n 0, 1) := by decide +kernel
theorem dX6_rouse_1 : decode cX6_rouse 1 = .ok (.iload_n 1, 1) := by decide +kernel
theorem dX6_rouse_2 : decode cX6_rouse 2 = .ok (.invokevirtual 104, 3) := by decide +kernel
theorem dX6_rouse_5 : decode cX6_rouse 5 = .ok (.aload_n 0, 1) := by decide +kernel
theorem dX6_rouse_6 : decode cX6_rouse 6 = .ok (.aload_n 0, 1) := by decide +kernel
theorem dX6_rouse_7 : decode cX6_rouse 7 = .ok (.getfield 34, 3) := by decide +kernel
theorem dX6_rouse_10 : decode cX6_rouse 10 = .ok (.iload_n 1, 1) := by decide +kernel
theorem dX6_rouse_11 : decode cX6_rouse 11 = .ok (.invokevirtual 183, 3) := by decide +kernel
theorem dX6_rouse_14 : decode cX6_rouse 14 = .ok (.invokevirtual 65, 3) := by decide +kernel
theorem dX6_rouse_17 : decode cX6_rouse 17 = .ok (.aload_n 0, 1) := by decide +kernel
theorem dX6_rouse_18 : decode cX6_rouse 18 = .ok (.getfield 10, 3) := by decide +kernel
theorem dX6_rouse_21 : decode cX6_rouse 21 = .ok (.iload_n 1, 1) := by decide +kernel
theorem dX6_rouse_22 : decode cX6_rouse 22 = .ok (.iconst 1, 1) := by decide +kernel
theorem dX6_rouse_23 : decode cX6_rouse 23 = .ok (.invokevirtual 179, 3) := by decide +kernel
theorem dX6_rouse_26 : decode cX6_rouse 26 = .ok (.ireturn, 1) := by decide +kernel
theorem dX6_inquire_0 : decode cX6_inquire 0 = .ok (.aload_n 0, 1) := by decide +kernel
theorem dX6_inquire_1 : decode cX6_inquire 1 = .ok (.iload_n 1, 1) := by decide +kernel
theorem dX6_inquire_2 : decode cX6_inquire 2 = .ok (.invokevirtual 73, 3) := by decide +kernel
theorem dX6_inquire_5 : decode cX6_inquire 5 = .ok (.aload_n 0, 1) := by decide +kernel
theorem dX6_inquire_6 : decode cX6_inquire 6 = .ok (.iload_n 2, 1) := by decide +kernel
theorem dX6_inquire_7 : decode cX6_inquire 7 = .ok (.invokevirtual 104, 3) := by decide +kernel
theorem dX6_inquire_10 : decode cX6_inquire 10 = .ok (.aload_n 0, 1) := by decide +kernel
theorem dX6_inquire_11 : decode cX6_inquire 11 = .ok (.iload_n 3, 1) := by decide +kernel
theorem dX6_inquire_12 : decode cX6_inquire 12 = .ok (.invokevirtual 104, 3) := by decide +kernel
theorem dX6_inquire_15 : decode cX6_inquire 15 = .ok (.aload_n 0, 1) := by decide +kernel
theorem dX6_inquire_16 : decode cX6_inquire 16 = .ok (.aload_n 0, 1) := by decide +kernel
theorem dX6_inquire_17 : decode cX6_inquire 17 = .ok (.getfield 34, 3) := by decide +kernel
theorem dX6_inquire_20 : decode cX6_inquire 20 = .ok (.iload_n 1, 1) := by decide +kernel
theorem dX6_inquire_21 : decode cX6_inquire 21 = .ok (.iload_n 2, 1) := by decide +kernel
theorem dX6_inquire_22 : decode cX6_inquire 22 = .ok (.iload_n 3, 1) := by decide +kernel
theorem dX6_inquire_23 : decode cX6_inquire 23 = .ok (.invokevirtual 186, 3) := by decide +kernel
theorem dX6_inquire_26 : decode cX6_inquire 26 = .ok (.invokevirtual 65, 3) := by decide +kernel
theorem dX6_inquire_29 : decode cX6_inquire 29 = .ok (.aload_n 0, 1) := by decide +kernel
theorem dX6_inquire_30 : decode cX6_inquire 30 = .ok (.getfield 10, 3) := by decide +kernel
theorem dX6_inquire_33 : decode cX6_inquire 33 = .ok (.iload_n 1, 1) := by decide +kernel
theorem dX6_inquire_34 : decode cX6_inquire 34 = .ok (.iload_n 2, 1) := by decide +kernel
theorem dX6_inquire_35 : decode cX6_inquire 35 = .ok (.iload_n 3, 1) := by decide +kernel
theorem dX6_inquire_36 : decode cX6_inquire 36 = .ok (.invokevirtual 189, 3) := by decide +kernel
theorem dX6_inquire_39 : decode cX6_inquire 39 = .ok (.ireturn, 1) := by decide +kernel
theorem dX6_guildOf_0 : decode cX6_guildOf 0 = .ok (.aload_n 0, 1) := by decide +kernel
theorem dX6_guildOf_1 : decode cX6_guildOf 1 = .ok (.iload_n 1, 1) := by decide +kernel
theorem dX6_guildOf_2 : decode cX6_guildOf 2 = .ok (.invokevirtual 104, 3) := by decide +kernel
theorem dX6_guildOf_5 : decode cX6_guildOf 5 = .ok (.aload_n 0, 1) := by decide +kernel
theorem dX6_guildOf_6 : decode cX6_guildOf 6 = .ok (.iload_n 2, 1) := by decide +kernel
theorem dX6_guildOf_7 : decode cX6_guildOf 7 = .ok (.iconst 0, 1) := by decide +kernel
theorem dX6_guildOf_8 : decode cX6_guildOf 8 = .ok (.iconst 5, 1) := by decide +kernel
theorem dX6_guildOf_9 : decode cX6_guildOf 9 = .ok (.invokevirtual 88, 3) := by decide +kernel
theorem dX6_guildOf_12 : decode cX6_guildOf 12 = .ok (.aload_n 0, 1) := by decide +kernel
theorem dX6_guildOf_13 : decode cX6_guildOf 13 = .ok (.getfield 10, 3) := by decide +kernel
theorem dX6_guildOf_16 : decode cX6_guildOf 16 = .ok (.iload_n 1, 1) := by decide +kernel
theorem dX6_guildOf_17 : decode cX6_guildOf 17 = .ok (.iload_n 2, 1) := by decide +kernel
theorem dX6_guildOf_18 : decode cX6_guildOf 18 = .ok (.invokevirtual 192, 3) := by decide +kernel
theorem dX6_guildOf_21 : decode cX6_guildOf 21 = .ok (.ireturn, 1) := by decide +kernel
theorem dX6_canLearn_0 : decode cX6_canLearn 0 = .ok (.aload_n 0, 1) := by decide +kernel
theorem dX6_canLearn_1 : decode cX6_canLearn 1 = .ok (.iload_n 1, 1) := by decide +kernel
theorem dX6_canLearn_2 : decode cX6_canLearn 2 = .ok (.invokevirtual 104, 3) := by decide +kernel
theorem dX6_canLearn_5 : decode cX6_canLearn 5 = .ok (.iload_n 2, 1) := by decide +kernel
theorem dX6_canLearn_6 : decode cX6_canLearn 6 = .ok (.ifCond .eq 14, 3) := by decide +kernel
theorem dX6_canLearn_9 : decode cX6_canLearn 9 = .ok (.aload_n 0, 1) := by decide +kernel
theorem dX6_canLearn_10 : decode cX6_canLearn 10 = .ok (.getfield 10, 3) := by decide +kernel
theorem dX6_canLearn_13 : decode cX6_canLearn 13 = .ok (.iload_n 1, 1) := by decide +kernel
theorem dX6_canLearn_14 : decode cX6_canLearn 14 = .ok (.invokevirtual 195, 3) := by decide +kernel
theorem dX6_canLearn_17 : decode cX6_canLearn 17 = .ok (.goto 11, 3) := by decide +kernel
theorem dX6_canLearn_20 : decode cX6_canLearn 20 = .ok (.aload_n 0, 1) := by decide +kernel
theorem dX6_canLearn_21 : decode cX6_canLearn 21 = .ok (.getfield 10, 3) := by decide +kernel
theorem dX6_canLearn_24 : decode cX6_canLearn 24 = .ok (.iload_n 1, 1) := by decide +kernel
theorem dX6_canLearn_25 : decode cX6_canLearn 25 = .ok (.invokevirtual 198, 3) := by decide +kernel
theorem dX6_canLearn_28 : decode cX6_canLearn 28 = .ok (.ireturn, 1) := by decide +kernel
theorem dX6_pass_0 : decode cX6_pass 0 = .ok (.aload_n 0, 1) := by decide +kernel
theorem dX6_pass_1 : decode cX6_pass 1 = .ok (.iload_n 1, 1) := by decide +kernel
theorem dX6_pass_2 : decode cX6_pass 2 = .ok (.iconst 1, 1) := by decide +kernel
theorem dX6_pass_3 : decode cX6_pass 3 = .ok (.bipush 24, 2) := by decide +kernel
theorem dX6_pass_5 : decode cX6_pass 5 = .ok (.invokevirtual 88, 3) := by decide +kernel
theorem dX6_pass_8 : decode cX6_pass 8 = .ok (.aload_n 0, 1) := by decide +kernel
theorem dX6_pass_9 : decode cX6_pass 9 = .ok (.iconst 0, 1) := by decide +kernel
theorem dX6_pass_10 : decode cX6_pass 10 = .ok (.invokevirtual 65, 3) := by decide +kernel
theorem dX6_pass_13 : decode cX6_pass 13 = .ok (.aload_n 0, 1) := by decide +kernel
theorem dX6_pass_14 : decode cX6_pass 14 = .ok (.getfield 10, 3) := by decide +kernel
theorem dX6_pass_17 : decode cX6_pass 17 = .ok (.iload_n 1, 1) := by decide +kernel
theorem dX6_pass_18 : decode cX6_pass 18 = .ok (.invokevirtual 201, 3) := by decide +kernel
theorem dX6_pass_21 : decode cX6_pass 21 = .ok (.ireturn, 1) := by decide +kernel
theorem dX6_ranked_0 : decode cX6_ranked 0 = .ok (.iload_n 1, 1) := by decide +kernel
theorem dX6_ranked_1 : decode cX6_ranked 1 = .ok (.ifCond .lt 9, 3) := by decide +kernel
theorem dX6_ranked_4 : decode cX6_ranked 4 = .ok (.iload_n 1, 1) := by decide +kernel
theorem dX6_ranked_5 : decode cX6_ranked 5 = .ok (.bipush 6, 2) := by decide +kernel
theorem dX6_ranked_7 : decode cX6_ranked 7 = .ok (.if_icmp .lt 13, 3) := by decide +kernel
theorem dX6_ranked_10 : decode cX6_ranked 10 = .ok (.new 204, 3) := by decide +kernel
theorem dX6_ranked_13 : decode cX6_ranked 13 = .ok (.dup, 1) := by decide +kernel
theorem dX6_ranked_14 : decode cX6_ranked 14 = .ok (.ldc 206, 2) := by decide +kernel
theorem dX6_ranked_16 : decode cX6_ranked 16 = .ok (.invokespecial 208, 3) := by decide +kernel
theorem dX6_ranked_19 : decode cX6_ranked 19 = .ok (.athrow, 1) := by decide +kernel
theorem dX6_ranked_20 : decode cX6_ranked 20 = .ok (.aload_n 0, 1) := by decide +kernel
theorem dX6_ranked_21 : decode cX6_ranked 21 = .ok (.getfield 10, 3) := by decide +kernel
theorem dX6_ranked_24 : decode cX6_ranked 24 = .ok (.iload_n 1, 1) := by decide +kernel
theorem dX6_ranked_25 : decode cX6_ranked 25 = .ok (.invokevirtual 209, 3) := by decide +kernel
theorem dX6_ranked_28 : decode cX6_ranked 28 = .ok (.ireturn, 1) := by decide +kernel
theorem dX6_coins_0 : decode cX6_coins 0 = .ok (.iload_n 1, 1) := by decide +kernel
theorem dX6_coins_1 : decode cX6_coins 1 = .ok (.ifCond .eq 13, 3) := by decide +kernel
theorem dX6_coins_4 : decode cX6_coins 4 = .ok (.aload_n 0, 1) := by decide +kernel
theorem dX6_coins_5 : decode cX6_coins 5 = .ok (.getfield 10, 3) := by decide +kernel
theorem dX6_coins_8 : decode cX6_coins 8 = .ok (.invokevirtual 212, 3) := by decide +kernel
theorem dX6_coins_11 : decode cX6_coins 11 = .ok (.goto 10, 3) := by decide +kernel
theorem dX6_coins_14 : decode cX6_coins 14 = .ok (.aload_n 0, 1) := by decide +kernel
theorem dX6_coins_15 : decode cX6_coins 15 = .ok (.getfield 10, 3) := by decide +kernel
theorem dX6_coins_18 : decode cX6_coins 18 = .ok (.invokevirtual 215, 3) := by decide +kernel
theorem dX6_coins_21 : decode cX6_coins 21 = .ok (.ireturn, 1) := by decide +kernel
theorem dX6_line_0 : decode cX6_line 0 = .ok (.aload_n 0, 1) := by decide +kernel
theorem dX6_line_1 : decode cX6_line 1 = .ok (.iload_n 1, 1) := by decide +kernel
theorem dX6_line_2 : decode cX6_line 2 = .ok (.invokevirtual 73, 3) := by decide +kernel
theorem dX6_line_5 : decode cX6_line 5 = .ok (.aload_n 0, 1) := by decide +kernel
theorem dX6_line_6 : decode cX6_line 6 = .ok (.getfield 57, 3) := by decide +kernel
theorem dX6_line_9 : decode cX6_line 9 = .ok (.aload_n 0, 1) := by decide +kernel
theorem dX6_line_10 : decode cX6_line 10 = .ok (.getfield 10, 3) := by decide +kernel
theorem dX6_line_13 : decode cX6_line 13 = .ok (.iload_n 1, 1) := by decide +kernel
theorem dX6_line_14 : decode cX6_line 14 = .ok (.invokevirtual 218, 3) := by decide +kernel
theorem dX6_line_17 : decode cX6_line 17 = .ok (.aload_n 0, 1) := by decide +kernel
theorem dX6_line_18 : decode cX6_line 18 = .ok (.getfield 57, 3) := by decide +kernel
theorem dX6_line_21 : decode cX6_line 21 = .ok (.getfield 222, 3) := by decide +kernel
theorem dX6_line_24 : decode cX6_line 24 = .ok (.ireturn, 1) := by decide +kernel
theorem dX6_character_0 : decode cX6_character 0 = .ok (.iload_n 1, 1) := by decide +kernel
theorem dX6_character_1 : decode cX6_character 1 = .ok (.ifCond .lt 14, 3) := by decide +kernel
theorem dX6_character_4 : decode cX6_character 4 = .ok (.iload_n 1, 1) := by decide +kernel
theorem dX6_character_5 : decode cX6_character 5 = .ok (.aload_n 0, 1) := by decide +kernel
theorem dX6_character_6 : decode cX6_character 6 = .ok (.getfield 57, 3) := by decide +kernel
theorem dX6_character_9 : decode cX6_character 9 = .ok (.getfield 222, 3) := by decide +kernel
theorem dX6_character_12 : decode cX6_character 12 = .ok (.if_icmp .lt 13, 3) := by decide +kernel
theorem dX6_character_15 : decode cX6_character 15 = .ok (.new 204, 3) := by decide +kernel
theorem dX6_character_18 : decode cX6_character 18 = .ok (.dup, 1) := by decide +kernel
theorem dX6_character_19 : decode cX6_character 19 = .ok (.ldc 225, 2) := by decide +kernel
theorem dX6_character_21 : decode cX6_character 21 = .ok (.invokespecial 208, 3) := by decide +kernel
theorem dX6_character_24 : decode cX6_character 24 = .ok (.athrow, 1) := by decide +kernel
theorem dX6_character_25 : decode cX6_character 25 = .ok (.aload_n 0, 1) := by decide +kernel
theorem dX6_character_26 : decode cX6_character 26 = .ok (.getfield 57, 3) := by decide +kernel
theorem dX6_character_29 : decode cX6_character 29 = .ok (.getfield 227, 3) := by decide +kernel
theorem dX6_character_32 : decode cX6_character 32 = .ok (.iload_n 1, 1) := by decide +kernel
theorem dX6_character_33 : decode cX6_character 33 = .ok (.caload, 1) := by decide +kernel
theorem dX6_character_34 : decode cX6_character 34 = .ok (.ireturn, 1) := by decide +kernel
theorem dX6_append_0 : decode cX6_append 0 = .ok (.aload_n 0, 1) := by decide +kernel
theorem dX6_append_1 : decode cX6_append 1 = .ok (.getfield 41, 3) := by decide +kernel
theorem dX6_append_4 : decode cX6_append 4 = .ok (.getfield 231, 3) := by decide +kernel
theorem dX6_append_7 : decode cX6_append 7 = .ok (.bipush 60, 2) := by decide +kernel
theorem dX6_append_9 : decode cX6_append 9 = .ok (.if_icmp .lt 13, 3) := by decide +kernel
theorem dX6_append_12 : decode cX6_append 12 = .ok (.new 168, 3) := by decide +kernel
theorem dX6_append_15 : decode cX6_append 15 = .ok (.dup, 1) := by decide +kernel
theorem dX6_append_16 : decode cX6_append 16 = .ok (.ldc 232, 2) := by decide +kernel
theorem dX6_append_18 : decode cX6_append 18 = .ok (.invokespecial 172, 3) := by decide +kernel
theorem dX6_append_21 : decode cX6_append 21 = .ok (.athrow, 1) := by decide +kernel
theorem dX6_append_22 : decode cX6_append 22 = .ok (.aload_n 0, 1) := by decide +kernel
theorem dX6_append_23 : decode cX6_append 23 = .ok (.getfield 41, 3) := by decide +kernel
theorem dX6_append_26 : decode cX6_append 26 = .ok (.iload_n 1, 1) := by decide +kernel
theorem dX6_append_27 : decode cX6_append 27 = .ok (.invokevirtual 234, 3) := by decide +kernel
theorem dX6_append_30 : decode cX6_append 30 = .ok (.aload_n 0, 1) := by decide +kernel
theorem dX6_append_31 : decode cX6_append 31 = .ok (.getfield 41, 3) := by decide +kernel
theorem dX6_append_34 : decode cX6_append 34 = .ok (.getfield 231, 3) := by decide +kernel
theorem dX6_append_37 : decode cX6_append 37 = .ok (.ireturn, 1) := by decide +kernel
theorem dX6_run_0 : decode cX6_run 0 = .ok (.aload_n 0, 1) := by decide +kernel
theorem dX6_run_1 : decode cX6_run 1 = .ok (.getfield 41, 3) := by decide +kernel
theorem dX6_run_4 : decode cX6_run 4 = .ok (.invokevirtual 238, 3) := by decide +kernel
theorem dX6_run_7 : decode cX6_run 7 = .ok (.ifCond .ne 13, 3) := by decide +kernel
theorem dX6_run_10 : decode cX6_run 10 = .ok (.new 241, 3) := by decide +kernel
theorem dX6_run_13 : decode cX6_run 13 = .ok (.dup, 1) := by decide +kernel
theorem dX6_run_14 : decode cX6_run 14 = .ok (.ldc 243, 2) := by decide +kernel
theorem dX6_run_16 : decode cX6_run 16 = .ok (.invokespecial 245, 3) := by decide +kernel
theorem dX6_run_19 : decode cX6_run 19 = .ok (.athrow, 1) := by decide +kernel
theorem dX6_run_20 : decode cX6_run 20 = .ok (.aload_n 0, 1) := by decide +kernel
theorem dX6_run_21 : decode cX6_run 21 = .ok (.getfield 16, 3) := by decide +kernel
theorem dX6_run_24 : decode cX6_run 24 = .ok (.aload_n 0, 1) := by decide +kernel
theorem dX6_run_25 : decode cX6_run 25 = .ok (.getfield 10, 3) := by decide +kernel
theorem dX6_run_28 : decode cX6_run 28 = .ok (.invokevirtual 246, 3) := by decide +kernel
theorem dX6_run_31 : decode cX6_run 31 = .ok (.aload_n 0, 1) := by decide +kernel
theorem dX6_run_32 : decode cX6_run 32 = .ok (.getfield 50, 3) := by decide +kernel
theorem dX6_run_35 : decode cX6_run 35 = .ok (.aload_n 0, 1) := by decide +kernel
theorem dX6_run_36 : decode cX6_run 36 = .ok (.getfield 41, 3) := by decide +kernel
theorem dX6_run_39 : decode cX6_run 39 = .ok (.invokevirtual 249, 3) := by decide +kernel
theorem dX6_run_42 : decode cX6_run 42 = .ok (.istore_n 1, 1) := by decide +kernel
theorem dX6_run_43 : decode cX6_run 43 = .ok (.iload_n 1, 1) := by decide +kernel
theorem dX6_run_44 : decode cX6_run 44 = .ok (.ifCond .eq 14, 3) := by decide +kernel
theorem dX6_run_47 : decode cX6_run 47 = .ok (.aload_n 0, 1) := by decide +kernel
theorem dX6_run_48 : decode cX6_run 48 = .ok (.getfield 10, 3) := by decide +kernel
theorem dX6_run_51 : decode cX6_run 51 = .ok (.aload_n 0, 1) := by decide +kernel
theorem dX6_run_52 : decode cX6_run 52 = .ok (.getfield 16, 3) := by decide +kernel
theorem dX6_run_55 : decode cX6_run 55 = .ok (.invokevirtual 246, 3) := by decide +kernel
theorem dX6_run_58 : decode cX6_run 58 = .ok (.iload_n 1, 1) := by decide +kernel
theorem dX6_run_59 : decode cX6_run 59 = .ok (.iconst 1, 1) := by decide +kernel
theorem dX6_run_60 : decode cX6_run 60 = .ok (.if_icmp .ne 13, 3) := by decide +kernel
theorem dX6_run_63 : decode cX6_run 63 = .ok (.new 253, 3) := by decide +kernel
theorem dX6_run_66 : decode cX6_run 66 = .ok (.dup, 1) := by decide +kernel
theorem dX6_run_67 : decode cX6_run 67 = .ok (.ldc 255, 2) := by decide +kernel
theorem dX6_run_69 : decode cX6_run 69 = .ok (.invokespecial 257, 3) := by decide +kernel
theorem dX6_run_72 : decode cX6_run 72 = .ok (.athrow, 1) := by decide +kernel
theorem dX6_run_73 : decode cX6_run 73 = .ok (.iload_n 1, 1) := by decide +kernel
theorem dX6_run_74 : decode cX6_run 74 = .ok (.iconst 2, 1) := by decide +kernel
theorem dX6_run_75 : decode cX6_run 75 = .ok (.if_icmp .ne 14, 3) := by decide +kernel
theorem dX6_run_78 : decode cX6_run 78 = .ok (.new 241, 3) := by decide +kernel
theorem dX6_run_81 : decode cX6_run 81 = .ok (.dup, 1) := by decide +kernel
theorem dX6_run_82 : decode cX6_run 82 = .ok (.ldc_w 258, 3) := by decide +kernel
theorem dX6_run_85 : decode cX6_run 85 = .ok (.invokespecial 245, 3) := by decide +kernel
theorem dX6_run_88 : decode cX6_run 88 = .ok (.athrow, 1) := by decide +kernel
theorem dX6_run_89 : decode cX6_run 89 = .ok (.aload_n 0, 1) := by decide +kernel
theorem dX6_run_90 : decode cX6_run 90 = .ok (.getfield 25, 3) := by decide +kernel
theorem dX6_run_93 : decode cX6_run 93 = .ok (.aload_n 0, 1) := by decide +kernel
theorem dX6_run_94 : decode cX6_run 94 = .ok (.getfield 16, 3) := by decide +kernel
theorem dX6_run_97 : decode cX6_run 97 = .ok (.invokevirtual 260, 3) := by decide +kernel
theorem dX6_run_100 : decode cX6_run 100 = .ok (.aload_n 0, 1) := by decide +kernel
theorem dX6_run_101 : decode cX6_run 101 = .ok (.getfield 41, 3) := by decide +kernel
theorem dX6_run_104 : decode cX6_run 104 = .ok (.getfield 263, 3) := by decide +kernel
theorem dX6_run_107 : decode cX6_run 107 = .ok (.ireturn, 1) := by decide +kernel
theorem dX6_account_0 : decode cX6_account 0 = .ok (.aload_n 0, 1) := by decide +kernel
theorem dX6_account_1 : decode cX6_account 1 = .ok (.iload_n 1, 1) := by decide +kernel
theorem dX6_account_2 : decode cX6_account 2 = .ok (.iconst 0, 1) := by decide +kernel
theorem dX6_account_3 : decode cX6_account 3 = .ok (.bipush 12, 2) := by decide +kernel
theorem dX6_account_5 : decode cX6_account 5 = .ok (.invokevirtual 88, 3) := by decide +kernel
theorem dX6_account_8 : decode cX6_account 8 = .ok (.iload_n 1, 1) := by decide +kernel
theorem dX6_account_9 : decode cX6_account 9 = .ok (.lookupswitch 43 #[(11, 27), (12, 35)], 27) := by decide +kernel
theorem dX6_account_36 : decode cX6_account 36 = .ok (.aload_n 0, 1) := by decide +kernel
theorem dX6_account_37 : decode cX6_account 37 = .ok (.getfield 41, 3) := by decide +kernel
theorem dX6_account_40 : decode cX6_account 40 = .ok (.getfield 231, 3) := by decide +kernel
theorem dX6_account_43 : decode cX6_account 43 = .ok (.ireturn, 1) := by decide +kernel
theorem dX6_account_44 : decode cX6_account 44 = .ok (.aload_n 0, 1) := by decide +kernel
theorem dX6_account_45 : decode cX6_account 45 = .ok (.getfield 25, 3) := by decide +kernel
theorem dX6_account_48 : decode cX6_account 48 = .ok (.getfield 277, 3) := by decide +kernel
theorem dX6_account_51 : decode cX6_account 51 = .ok (.ireturn, 1) := by decide +kernel
theorem dX6_account_52 : decode cX6_account 52 = .ok (.aload_n 0, 1) := by decide +kernel
theorem dX6_account_53 : decode cX6_account 53 = .ok (.getfield 10, 3) := by decide +kernel
theorem dX6_account_56 : decode cX6_account 56 = .ok (.iload_n 1, 1) := by decide +kernel
theorem dX6_account_57 : decode cX6_account 57 = .ok (.invokevirtual 280, 3) := by decide +kernel
theorem dX6_account_60 : decode cX6_account 60 = .ok (.ireturn, 1) := by decide +kernel
theorem dX6_isWell_0 : decode cX6_isWell 0 = .ok (.aload_n 0, 1) := by decide +kernel
theorem dX6_isWell_1 : decode cX6_isWell 1 = .ok (.getfield 10, 3) := by decide +kernel
theorem dX6_isWell_4 : decode cX6_isWell 4 = .ok (.invokevirtual 283, 3) := by decide +kernel
theorem dX6_isWell_7 : decode cX6_isWell 7 = .ok (.ifCond .eq 27, 3) := by decide +kernel
theorem dX6_isWell_10 : decode cX6_isWell 10 = .ok (.aload_n 0, 1) := by decide +kernel
theorem dX6_isWell_11 : decode cX6_isWell 11 = .ok (.getfield 10, 3) := by decide +kernel
theorem dX6_isWell_14 : decode cX6_isWell 14 = .ok (.invokevirtual 286, 3) := by decide +kernel
theorem dX6_isWell_17 : decode cX6_isWell 17 = .ok (.ifCond .eq 17, 3) := by decide +kernel
theorem dX6_isWell_20 : decode cX6_isWell 20 = .ok (.aload_n 0, 1) := by decide +kernel
theorem dX6_isWell_21 : decode cX6_isWell 21 = .ok (.getfield 10, 3) := by decide +kernel
theorem dX6_isWell_24 : decode cX6_isWell 24 = .ok (.invokevirtual 289, 3) := by decide +kernel
theorem dX6_isWell_27 : decode cX6_isWell 27 = .ok (.ifCond .eq 7, 3) := by decide +kernel
theorem dX6_isWell_30 : decode cX6_isWell 30 = .ok (.iconst 1, 1) := by decide +kernel
theorem dX6_isWell_31 : decode cX6_isWell 31 = .ok (.goto 4, 3) := by decide +kernel
theorem dX6_isWell_34 : decode cX6_isWell 34 = .ok (.iconst 0, 1) := by decide +kernel
theorem dX6_isWell_35 : decode cX6_isWell 35 = .ok (.ireturn, 1) := by decide +kernel
theorem dX6_meanDoubt_0 : decode cX6_meanDoubt 0 = .ok (.aload_n 0, 1) := by decide +kernel
theorem dX6_meanDoubt_1 : decode cX6_meanDoubt 1 = .ok (.getfield 10, 3) := by decide +kernel
theorem dX6_meanDoubt_4 : decode cX6_meanDoubt 4 = .ok (.invokevirtual 292, 3) := by decide +kernel
theorem dX6_meanDoubt_7 : decode cX6_meanDoubt 7 = .ok (.i2d, 1) := by decide +kernel
theorem dX6_meanDoubt_8 : decode cX6_meanDoubt 8 = .ok (.ldc2_w 295, 3) := by decide +kernel
theorem dX6_meanDoubt_11 : decode cX6_meanDoubt 11 = .ok (.ddiv, 1) := by decide +kernel
theorem dX6_meanDoubt_12 : decode cX6_meanDoubt 12 = .ok (.dreturn, 1) := by decide +kernel
theorem dX6_sealedShare_0 : decode cX6_sealedShare 0 = .ok (.aload_n 0, 1) := by decide +kernel
theorem dX6_sealedShare_1 : decode cX6_sealedShare 1 = .ok (.getfield 10, 3) := by decide +kernel
theorem dX6_sealedShare_4 : decode cX6_sealedShare 4 = .ok (.getfield 152, 3) := by decide +kernel
theorem dX6_sealedShare_7 : decode cX6_sealedShare 7 = .ok (.ifCond .ne 14, 3) := by decide +kernel
theorem dX6_sealedShare_10 : decode cX6_sealedShare 10 = .ok (.new 297, 3) := by decide +kernel
theorem dX6_sealedShare_13 : decode cX6_sealedShare 13 = .ok (.dup, 1) := by decide +kernel
theorem dX6_sealedShare_14 : decode cX6_sealedShare 14 = .ok (.ldc_w 299, 3) := by decide +kernel
theorem dX6_sealedShare_17 : decode cX6_sealedShare 17 = .ok (.invokespecial 301, 3) := by decide +kernel
theorem dX6_sealedShare_20 : decode cX6_sealedShare 20 = .ok (.athrow, 1) := by decide +kernel
theorem dX6_sealedShare_21 : decode cX6_sealedShare 21 = .ok (.aload_n 0, 1) := by decide +kernel
theorem dX6_sealedShare_22 : decode cX6_sealedShare 22 = .ok (.getfield 10, 3) := by decide +kernel
theorem dX6_sealedShare_25 : decode cX6_sealedShare 25 = .ok (.iconst 1, 1) := by decide +kernel
theorem dX6_sealedShare_26 : decode cX6_sealedShare 26 = .ok (.invokevirtual 302, 3) := by decide +kernel
theorem dX6_sealedShare_29 : decode cX6_sealedShare 29 = .ok (.i2f, 1) := by decide +kernel
theorem dX6_sealedShare_30 : decode cX6_sealedShare 30 = .ok (.aload_n 0, 1) := by decide +kernel
theorem dX6_sealedShare_31 : decode cX6_sealedShare 31 = .ok (.getfield 10, 3) := by decide +kernel
theorem dX6_sealedShare_34 : decode cX6_sealedShare 34 = .ok (.getfield 152, 3) := by decide +kernel
theorem dX6_sealedShare_37 : decode cX6_sealedShare 37 = .ok (.i2f, 1) := by decide +kernel
theorem dX6_sealedShare_38 : decode cX6_sealedShare 38 = .ok (.fdiv, 1) := by decide +kernel
theorem dX6_sealedShare_39 : decode cX6_sealedShare 39 = .ok (.freturn, 1) := by decide +kernel
theorem dX6_undo_0 : decode cX6_undo 0 = .ok (.aload_n 0, 1) := by decide +kernel
theorem dX6_undo_1 : decode cX6_undo 1 = .ok (.getfield 25, 3) := by decide +kernel
theorem dX6_undo_4 : decode cX6_undo 4 = .ok (.getfield 277, 3) := by decide +kernel
theorem dX6_undo_7 : decode cX6_undo 7 = .ok (.ifCond .ne 14, 3) := by decide +kernel
theorem dX6_undo_10 : decode cX6_undo 10 = .ok (.new 168, 3) := by decide +kernel
theorem dX6_undo_13 : decode cX6_undo 13 = .ok (.dup, 1) := by decide +kernel
theorem dX6_undo_14 : decode cX6_undo 14 = .ok (.ldc_w 305, 3) := by decide +kernel
theorem dX6_undo_17 : decode cX6_undo 17 = .ok (.invokespecial 172, 3) := by decide +kernel
theorem dX6_undo_20 : decode cX6_undo 20 = .ok (.athrow, 1) := by decide +kernel
theorem dX6_undo_21 : decode cX6_undo 21 = .ok (.aload_n 0, 1) := by decide +kernel
theorem dX6_undo_22 : decode cX6_undo 22 = .ok (.getfield 25, 3) := by decide +kernel
theorem dX6_undo_25 : decode cX6_undo 25 = .ok (.aload_n 0, 1) := by decide +kernel
theorem dX6_undo_26 : decode cX6_undo 26 = .ok (.getfield 10, 3) := by decide +kernel
theorem dX6_undo_29 : decode cX6_undo 29 = .ok (.invokevirtual 307, 3) := by decide +kernel
theorem dX6_undo_32 : decode cX6_undo 32 = .ok (.aload_n 0, 1) := by decide +kernel
theorem dX6_undo_33 : decode cX6_undo 33 = .ok (.getfield 25, 3) := by decide +kernel
theorem dX6_undo_36 : decode cX6_undo 36 = .ok (.getfield 277, 3) := by decide +kernel
theorem dX6_undo_39 : decode cX6_undo 39 = .ok (.ireturn, 1) := by decide +kernel
theorem dX6_startChange_0 : decode cX6_startChange 0 = .ok (.iload_n 1, 1) := by decide +kernel
theorem dX6_startChange_1 : decode cX6_startChange 1 = .ok (.ifCond .eq 14, 3) := by decide +kernel
theorem dX6_startChange_4 : decode cX6_startChange 4 = .ok (.new 253, 3) := by decide +kernel
theorem dX6_startChange_7 : decode cX6_startChange 7 = .ok (.dup, 1) := by decide +kernel
theorem dX6_startChange_8 : decode cX6_startChange 8 = .ok (.ldc_w 321, 3) := by decide +kernel
theorem dX6_startChange_11 : decode cX6_startChange 11 = .ok (.invokespecial 257, 3) := by decide +kernel
theorem dX6_startChange_14 : decode cX6_startChange 14 = .ok (.athrow, 1) := by decide +kernel
theorem dX6_startChange_15 : decode cX6_startChange 15 = .ok (.aload_n 0, 1) := by decide +kernel
theorem dX6_startChange_16 : decode cX6_startChange 16 = .ok (.getfield 25, 3) := by decide +kernel
theorem dX6_startChange_19 : decode cX6_startChange 19 = .ok (.aload_n 0, 1) := by decide +kernel
theorem dX6_startChange_20 : decode cX6_startChange 20 = .ok (.getfield 10, 3) := by decide +kernel
theorem dX6_startChange_23 : decode cX6_startChange 23 = .ok (.invokevirtual 260, 3) := by decide +kernel
theorem dX6_startChange_26 : decode cX6_startChange 26 = .ok (.return_, 1) := by decide +kernel
theorem dX6_requireMatter_0 : decode cX6_requireMatter 0 = .ok (.aload_n 0, 1) := by decide +kernel
theorem dX6_requireMatter_1 : decode cX6_requireMatter 1 = .ok (.getfield 10, 3) := by decide +kernel
theorem dX6_requireMatter_4 : decode cX6_requireMatter 4 = .ok (.iload_n 1, 1) := by decide +kernel
theorem dX6_requireMatter_5 : decode cX6_requireMatter 5 = .ok (.invokevirtual 323, 3) := by decide +kernel
theorem dX6_requireMatter_8 : decode cX6_requireMatter 8 = .ok (.ifCond .ne 14, 3) := by decide +kernel
theorem dX6_requireMatter_11 : decode cX6_requireMatter 11 = .ok (.new 81, 3) := by decide +kernel
theorem dX6_requireMatter_14 : decode cX6_requireMatter 14 = .ok (.dup, 1) := by decide +kernel
theorem dX6_requireMatter_15 : decode cX6_requireMatter 15 = .ok (.ldc_w 326, 3) := by decide +kernel
theorem dX6_requireMatter_18 : decode cX6_requireMatter 18 = .ok (.invokespecial 85, 3) := by decide +kernel
theorem dX6_requireMatter_21 : decode cX6_requireMatter 21 = .ok (.athrow, 1) := by decide +kernel
theorem dX6_requireMatter_22 : decode cX6_requireMatter 22 = .ok (.return_, 1) := by decide +kernel
theorem dX6_requireGuild_0 : decode cX6_requireGuild 0 = .ok (.aload_n 0, 1) := by decide +kernel
theorem dX6_requireGuild_1 : decode cX6_requireGuild 1 = .ok (.getfield 10, 3) := by decide +kernel
theorem dX6_requireGuild_4 : decode cX6_requireGuild 4 = .ok (.iload_n 1, 1) := by decide +kernel
theorem dX6_requireGuild_5 : decode cX6_requireGuild 5 = .ok (.invokevirtual 77, 3) := by decide +kernel
theorem dX6_requireGuild_8 : decode cX6_requireGuild 8 = .ok (.ifCond .ne 13, 3) := by decide +kernel
theorem dX6_requireGuild_11 : decode cX6_requireGuild 11 = .ok (.new 204, 3) := by decide +kernel
theorem dX6_requireGuild_14 : decode cX6_requireGuild 14 = .ok (.dup, 1) := by decide +kernel
theorem dX6_requireGuild_15 : decode cX6_requireGuild 15 = .ok (.ldc 83, 2) := by decide +kernel
theorem dX6_requireGuild_17 : decode cX6_requireGuild 17 = .ok (.invokespecial 208, 3) := by decide +kernel
theorem dX6_requireGuild_20 : decode cX6_requireGuild 20 = .ok (.athrow, 1) := by decide +kernel
theorem dX6_requireGuild_21 : decode cX6_requireGuild 21 = .ok (.return_, 1) := by decide +kernel
theorem dX6_requireFromTo_0 : decode cX6_requireFromTo 0 = .ok (.iload_n 1, 1) := by decide +kernel
theorem dX6_requireFromTo_1 : decode cX6_requireFromTo 1 = .ok (.iload_n 2, 1) := by decide +kernel
theorem dX6_requireFromTo_2 : decode cX6_requireFromTo 2 = .ok (.if_icmp .lt 8, 3) := by decide +kernel
theorem dX6_requireFromTo_5 : decode cX6_requireFromTo 5 = .ok (.iload_n 1, 1) := by decide +kernel
theorem dX6_requireFromTo_6 : decode cX6_requireFromTo 6 = .ok (.iload_n 3, 1) := by decide +kernel
theorem dX6_requireFromTo_7 : decode cX6_requireFromTo 7 = .ok (.if_icmp .le 14, 3) := by decide +kernel
theorem dX6_requireFromTo_10 : decode cX6_requireFromTo 10 = .ok (.new 241, 3) := by decide +kernel
theorem dX6_requireFromTo_13 : decode cX6_requireFromTo 13 = .ok (.dup, 1) := by decide +kernel
theorem dX6_requireFromTo_14 : decode cX6_requireFromTo 14 = .ok (.ldc_w 328, 3) := by decide +kernel
theorem dX6_requireFromTo_17 : decode cX6_requireFromTo 17 = .ok (.invokespecial 245, 3) := by decide +kernel
theorem dX6_requireFromTo_20 : decode cX6_requireFromTo 20 = .ok (.athrow, 1) := by decide +kernel
theorem dX6_requireFromTo_21 : decode cX6_requireFromTo 21 = .ok (.return_, 1) := by decide +kernel
theorem dL_cell_0 : decode cL_cell 0 = .ok (.iload_n 1, 1) := by decide +kernel
theorem dL_cell_1 : decode cL_cell 1 = .ok (.aload_n 0, 1) := by decide +kernel
theorem dL_cell_2 : decode cL_cell 2 = .ok (.arraylength, 1) := by decide +kernel
theorem dL_cell_3 : decode cL_cell 3 = .ok (.if_icmp .ge 9, 3) := by decide +kernel
theorem dL_cell_6 : decode cL_cell 6 = .ok (.aload_n 0, 1) := by decide +kernel
theorem dL_cell_7 : decode cL_cell 7 = .ok (.iload_n 1, 1) := by decide +kernel
theorem dL_cell_8 : decode cL_cell 8 = .ok (.iaload, 1) := by decide +kernel
theorem dL_cell_9 : decode cL_cell 9 = .ok (.goto 7, 3) := by decide +kernel
theorem dL_cell_12 : decode cL_cell 12 = .ok (.ldc 7, 2) := by decide +kernel
theorem dL_cell_14 : decode cL_cell 14 = .ok (.iload_n 1, 1) := by decide +kernel
theorem dL_cell_15 : decode cL_cell 15 = .ok (.imul, 1) := by decide +kernel
theorem dL_cell_16 : decode cL_cell 16 = .ok (.ireturn, 1) := by decide +kernel
theorem dL_matter_0 : decode cL_matter 0 = .ok (.aload_n 0, 1) := by decide +kernel
theorem dL_matter_1 : decode cL_matter 1 = .ok (.invokevirtual 8, 3) := by decide +kernel
theorem dL_matter_4 : decode cL_matter 4 = .ok (.ireturn, 1) := by decide +kernel
theorem dL_matter_5 : decode cL_matter 5 = .ok (.astore_n 1, 1) := by decide +kernel
theorem dL_matter_6 : decode cL_matter 6 = .ok (.bipush (-2), 2) := by decide +kernel
theorem dL_matter_8 : decode cL_matter 8 = .ok (.ireturn, 1) := by decide +kernel
theorem dL_set_0 : decode cL_set 0 = .ok (.aload_n 0, 1) := by decide +kernel
theorem dL_set_1 : decode cL_set 1 = .ok (.iload_n 1, 1) := by decide +kernel
theorem dL_set_2 : decode cL_set 2 = .ok (.iload_n 2, 1) := by decide +kernel
theorem dL_set_3 : decode cL_set 3 = .ok (.iload_n 3, 1) := by decide +kernel
theorem dL_set_4 : decode cL_set 4 = .ok (.invokevirtual 16, 3) := by decide +kernel
theorem dL_set_7 : decode cL_set 7 = .ok (.ireturn, 1) := by decide +kernel
theorem dL_set_8 : decode cL_set 8 = .ok (.astore 4, 2) := by decide +kernel
theorem dL_set_10 : decode cL_set 10 = .ok (.iconst (-1), 1) := by decide +kernel
theorem dL_set_11 : decode cL_set 11 = .ok (.ireturn, 1) := by decide +kernel
theorem dL_set_12 : decode cL_set 12 = .ok (.astore 4, 2) := by decide +kernel
theorem dL_set_14 : decode cL_set 14 = .ok (.bipush (-2), 2) := by decide +kernel
theorem dL_set_16 : decode cL_set 16 = .ok (.ireturn, 1) := by decide +kernel
theorem dL_set_17 : decode cL_set 17 = .ok (.astore 4, 2) := by decide +kernel
theorem dL_set_19 : decode cL_set 19 = .ok (.bipush (-3), 2) := by decide +kernel
theorem dL_set_21 : decode cL_set 21 = .ok (.ireturn, 1) := by decide +kernel
theorem dL_of_0 : decode cL_of 0 = .ok (.aload_n 0, 1) := by decide +kernel
theorem dL_of_1 : decode cL_of 1 = .ok (.iload_n 1, 1) := by decide +kernel
theorem dL_of_2 : decode cL_of 2 = .ok (.iload_n 2, 1) := by decide +kernel
theorem dL_of_3 : decode cL_of 3 = .ok (.invokevirtual 24, 3) := by decide +kernel
theorem dL_of_6 : decode cL_of 6 = .ok (.ireturn, 1) := by decide +kernel
theorem dL_of_7 : decode cL_of 7 = .ok (.astore_n 3, 1) := by decide +kernel
theorem dL_of_8 : decode cL_of 8 = .ok (.bipush (-13), 2) := by decide +kernel
theorem dL_of_10 : decode cL_of 10 = .ok (.ireturn, 1) := by decide +kernel
theorem dL_of_11 : decode cL_of 11 = .ok (.astore_n 3, 1) := by decide +kernel
theorem dL_of_12 : decode cL_of 12 = .ok (.bipush (-12), 2) := by decide +kernel
theorem dL_of_14 : decode cL_of 14 = .ok (.ireturn, 1) := by decide +kernel
theorem dL_answer_0 : decode cL_answer 0 = .ok (.aload_n 0, 1) := by decide +kernel
theorem dL_answer_1 : decode cL_answer 1 = .ok (.iload_n 1, 1) := by decide +kernel
theorem dL_answer_2 : decode cL_answer 2 = .ok (.iload_n 2, 1) := by decide +kernel
theorem dL_answer_3 : decode cL_answer 3 = .ok (.invokevirtual 28, 3) := by decide +kernel
theorem dL_answer_6 : decode cL_answer 6 = .ok (.ireturn, 1) := by decide +kernel
theorem dL_answer_7 : decode cL_answer 7 = .ok (.astore_n 3, 1) := by decide +kernel
theorem dL_answer_8 : decode cL_answer 8 = .ok (.bipush (-13), 2) := by decide +kernel
theorem dL_answer_10 : decode cL_answer 10 = .ok (.ireturn, 1) := by decide +kernel
theorem dL_answer_11 : decode cL_answer 11 = .ok (.astore_n 3, 1) := by decide +kernel
theorem dL_answer_12 : decode cL_answer 12 = .ok (.bipush (-11), 2) := by decide +kernel
theorem dL_answer_14 : decode cL_answer 14 = .ok (.ireturn, 1) := by decide +kernel
theorem dL_amount_0 : decode cL_amount 0 = .ok (.aload_n 0, 1) := by decide +kernel
theorem dL_amount_1 : decode cL_amount 1 = .ok (.iload_n 1, 1) := by decide +kernel
theorem dL_amount_2 : decode cL_amount 2 = .ok (.iload_n 2, 1) := by decide +kernel
theorem dL_amount_3 : decode cL_amount 3 = .ok (.invokevirtual 33, 3) := by decide +kernel
theorem dL_amount_6 : decode cL_amount 6 = .ok (.ireturn, 1) := by decide +kernel
theorem dL_amount_7 : decode cL_amount 7 = .ok (.astore_n 3, 1) := by decide +kernel
theorem dL_amount_8 : decode cL_amount 8 = .ok (.bipush (-113), 2) := by decide +kernel
theorem dL_amount_10 : decode cL_amount 10 = .ok (.ireturn, 1) := by decide +kernel
theorem dL_amount_11 : decode cL_amount 11 = .ok (.astore_n 3, 1) := by decide +kernel
theorem dL_amount_12 : decode cL_amount 12 = .ok (.bipush (-111), 2) := by decide +kernel
theorem dL_amount_14 : decode cL_amount 14 = .ok (.ireturn, 1) := by decide +kernel
theorem dL_ask_0 : decode cL_ask 0 = .ok (.aload_n 0, 1) := by decide +kernel
theorem dL_ask_1 : decode cL_ask 1 = .ok (.iload_n 1, 1) := by decide +kernel
theorem dL_ask_2 : decode cL_ask 2 = .ok (.iload_n 2, 1) := by decide +kernel
theorem dL_ask_3 : decode cL_ask 3 = .ok (.invokevirtual 36, 3) := by decide +kernel
theorem dL_ask_6 : decode cL_ask 6 = .ok (.ireturn, 1) := by decide +kernel
theorem dL_ask_7 : decode cL_ask 7 = .ok (.astore_n 3, 1) := by decide +kernel
theorem dL_ask_8 : decode cL_ask 8 = .ok (.iconst (-1), 1) := by decide +kernel
theorem dL_ask_9 : decode cL_ask 9 = .ok (.ireturn, 1) := by decide +kernel
theorem dL_ask_10 : decode cL_ask 10 = .ok (.astore_n 3, 1) := by decide +kernel
theorem dL_ask_11 : decode cL_ask 11 = .ok (.bipush (-2), 2) := by decide +kernel
theorem dL_ask_13 : decode cL_ask 13 = .ok (.ireturn, 1) := by decide +kernel
theorem dL_ask_14 : decode cL_ask 14 = .ok (.astore_n 3, 1) := by decide +kernel
theorem dL_ask_15 : decode cL_ask 15 = .ok (.bipush (-3), 2) := by decide +kernel
theorem dL_ask_17 : decode cL_ask 17 = .ok (.ireturn, 1) := by decide +kernel
theorem dL_decide_0 : decode cL_decide 0 = .ok (.aload_n 0, 1) := by decide +kernel
theorem dL_decide_1 : decode cL_decide 1 = .ok (.iload_n 1, 1) := by decide +kernel
theorem dL_decide_2 : decode cL_decide 2 = .ok (.invokevirtual 39, 3) := by decide +kernel
theorem dL_decide_5 : decode cL_decide 5 = .ok (.ireturn, 1) := by decide +kernel
theorem dL_decide_6 : decode cL_decide 6 = .ok (.astore_n 2, 1) := by decide +kernel
theorem dL_decide_7 : decode cL_decide 7 = .ok (.iconst (-1), 1) := by decide +kernel
theorem dL_decide_8 : decode cL_decide 8 = .ok (.ireturn, 1) := by decide +kernel
theorem dL_decide_9 : decode cL_decide 9 = .ok (.astore_n 2, 1) := by decide +kernel
theorem dL_decide_10 : decode cL_decide 10 = .ok (.bipush (-2), 2) := by decide +kernel
theorem dL_decide_12 : decode cL_decide 12 = .ok (.ireturn, 1) := by decide +kernel
theorem dL_tell_0 : decode cL_tell 0 = .ok (.aload_n 0, 1) := by decide +kernel
theorem dL_tell_1 : decode cL_tell 1 = .ok (.iload_n 1, 1) := by decide +kernel
theorem dL_tell_2 : decode cL_tell 2 = .ok (.iload_n 2, 1) := by decide +kernel
theorem dL_tell_3 : decode cL_tell 3 = .ok (.invokevirtual 43, 3) := by decide +kernel
theorem dL_tell_6 : decode cL_tell 6 = .ok (.ireturn, 1) := by decide +kernel
theorem dL_tell_7 : decode cL_tell 7 = .ok (.astore_n 3, 1) := by decide +kernel
theorem dL_tell_8 : decode cL_tell 8 = .ok (.iconst (-1), 1) := by decide +kernel
theorem dL_tell_9 : decode cL_tell 9 = .ok (.ireturn, 1) := by decide +kernel
theorem dL_tell_10 : decode cL_tell 10 = .ok (.astore_n 3, 1) := by decide +kernel
theorem dL_tell_11 : decode cL_tell 11 = .ok (.bipush (-2), 2) := by decide +kernel
theorem dL_tell_13 : decode cL_tell 13 = .ok (.ireturn, 1) := by decide +kernel
theorem dL_tell_14 : decode cL_tell 14 = .ok (.astore_n 3, 1) := by decide +kernel
theorem dL_tell_15 : decode cL_tell 15 = .ok (.bipush (-3), 2) := by decide +kernel
theorem dL_tell_17 : decode cL_tell 17 = .ok (.ireturn, 1) := by decide +kernel
theorem dL_faint_0 : decode cL_faint 0 = .ok (.aload_n 0, 1) := by decide +kernel
theorem dL_faint_1 : decode cL_faint 1 = .ok (.invokevirtual 46, 3) := by decide +kernel
theorem dL_faint_4 : decode cL_faint 4 = .ok (.ireturn, 1) := by decide +kernel
theorem dL_faint_5 : decode cL_faint 5 = .ok (.astore_n 1, 1) := by decide +kernel
theorem dL_faint_6 : decode cL_faint 6 = .ok (.bipush (-2), 2) := by decide +kernel
theorem dL_faint_8 : decode cL_faint 8 = .ok (.ireturn, 1) := by decide +kernel
theorem dL_wake_0 : decode cL_wake 0 = .ok (.aload_n 0, 1) := by decide +kernel
theorem dL_wake_1 : decode cL_wake 1 = .ok (.invokevirtual 49, 3) := by decide +kernel
theorem dL_wake_4 : decode cL_wake 4 = .ok (.ireturn, 1) := by decide +kernel
theorem dL_wake_5 : decode cL_wake 5 = .ok (.astore_n 1, 1) := by decide +kernel
theorem dL_wake_6 : decode cL_wake 6 = .ok (.bipush (-2), 2) := by decide +kernel
theorem dL_wake_8 : decode cL_wake 8 = .ok (.ireturn, 1) := by decide +kernel
theorem dL_book_0 : decode cL_book 0 = .ok (.aload_n 0, 1) := by decide +kernel
theorem dL_book_1 : decode cL_book 1 = .ok (.iload_n 1, 1) := by decide +kernel
theorem dL_book_2 : decode cL_book 2 = .ok (.invokevirtual 52, 3) := by decide +kernel
theorem dL_book_5 : decode cL_book 5 = .ok (.ireturn, 1) := by decide +kernel
theorem dL_book_6 : decode cL_book 6 = .ok (.astore_n 2, 1) := by decide +kernel
theorem dL_book_7 : decode cL_book 7 = .ok (.bipush (-13), 2) := by decide +kernel
theorem dL_book_9 : decode cL_book 9 = .ok (.ireturn, 1) := by decide +kernel
theorem dL_wouldSeal_0 : decode cL_wouldSeal 0 = .ok (.aload_n 0, 1) := by decide +kernel
theorem dL_wouldSeal_1 : decode cL_wouldSeal 1 = .ok (.iload_n 1, 1) := by decide +kernel
theorem dL_wouldSeal_2 : decode cL_wouldSeal 2 = .ok (.invokevirtual 55, 3) := by decide +kernel
theorem dL_wouldSeal_5 : decode cL_wouldSeal 5 = .ok (.ifCond .eq 7, 3) := by decide +kernel
theorem dL_wouldSeal_8 : decode cL_wouldSeal 8 = .ok (.iconst 1, 1) := by decide +kernel
theorem dL_wouldSeal_9 : decode cL_wouldSeal 9 = .ok (.goto 4, 3) := by decide +kernel
theorem dL_wouldSeal_12 : decode cL_wouldSeal 12 = .ok (.iconst 0, 1) := by decide +kernel
theorem dL_wouldSeal_13 : decode cL_wouldSeal 13 = .ok (.ireturn, 1) := by decide +kernel
theorem dL_wouldSeal_14 : decode cL_wouldSeal 14 = .ok (.astore_n 2, 1) := by decide +kernel
theorem dL_wouldSeal_15 : decode cL_wouldSeal 15 = .ok (.bipush (-13), 2) := by decide +kernel
theorem dL_wouldSeal_17 : decode cL_wouldSeal 17 = .ok (.ireturn, 1) := by decide +kernel
theorem dL_wouldSeal_18 : decode cL_wouldSeal 18 = .ok (.astore_n 2, 1) := by decide +kernel
theorem dL_wouldSeal_19 : decode cL_wouldSeal 19 = .ok (.bipush (-14), 2) := by decide +kernel
theorem dL_wouldSeal_21 : decode cL_wouldSeal 21 = .ok (.ireturn, 1) := by decide +kernel
theorem dL_sleep_0 : decode cL_sleep 0 = .ok (.aload_n 0, 1) := by decide +kernel
theorem dL_sleep_1 : decode cL_sleep 1 = .ok (.iload_n 1, 1) := by decide +kernel
theorem dL_sleep_2 : decode cL_sleep 2 = .ok (.invokevirtual 61, 3) := by decide +kernel
theorem dL_sleep_5 : decode cL_sleep 5 = .ok (.ireturn, 1) := by decide +kernel
theorem dL_sleep_6 : decode cL_sleep 6 = .ok (.astore_n 2, 1) := by decide +kernel
theorem dL_sleep_7 : decode cL_sleep 7 = .ok (.iconst (-1), 1) := by decide +kernel
theorem dL_sleep_8 : decode cL_sleep 8 = .ok (.ireturn, 1) := by decide +kernel
theorem dL_sleep_9 : decode cL_sleep 9 = .ok (.astore_n 2, 1) := by decide +kernel
theorem dL_sleep_10 : decode cL_sleep 10 = .ok (.bipush (-2), 2) := by decide +kernel
theorem dL_sleep_12 : decode cL_sleep 12 = .ok (.ireturn, 1) := by decide +kernel
theorem dL_rouse_0 : decode cL_rouse 0 = .ok (.aload_n 0, 1) := by decide +kernel
theorem dL_rouse_1 : decode cL_rouse 1 = .ok (.iload_n 1, 1) := by decide +kernel
theorem dL_rouse_2 : decode cL_rouse 2 = .ok (.invokevirtual 64, 3) := by decide +kernel
theorem dL_rouse_5 : decode cL_rouse 5 = .ok (.ireturn, 1) := by decide +kernel
theorem dL_rouse_6 : decode cL_rouse 6 = .ok (.astore_n 2, 1) := by decide +kernel
theorem dL_rouse_7 : decode cL_rouse 7 = .ok (.iconst (-1), 1) := by decide +kernel
theorem dL_rouse_8 : decode cL_rouse 8 = .ok (.ireturn, 1) := by decide +kernel
theorem dL_rouse_9 : decode cL_rouse 9 = .ok (.astore_n 2, 1) := by decide +kernel
theorem dL_rouse_10 : decode cL_rouse 10 = .ok (.bipush (-2), 2) := by decide +kernel
theorem dL_rouse_12 : decode cL_rouse 12 = .ok (.ireturn, 1) := by decide +kernel
theorem dL_inquire_0 : decode cL_inquire 0 = .ok (.aload_n 0, 1) := by decide +kernel
theorem dL_inquire_1 : decode cL_inquire 1 = .ok (.iload_n 1, 1) := by decide +kernel
theorem dL_inquire_2 : decode cL_inquire 2 = .ok (.iload_n 2, 1) := by decide +kernel
theorem dL_inquire_3 : decode cL_inquire 3 = .ok (.iload_n 3, 1) := by decide +kernel
theorem dL_inquire_4 : decode cL_inquire 4 = .ok (.invokevirtual 67, 3) := by decide +kernel
theorem dL_inquire_7 : decode cL_inquire 7 = .ok (.ireturn, 1) := by decide +kernel
theorem dL_inquire_8 : decode cL_inquire 8 = .ok (.astore 4, 2) := by decide +kernel
theorem dL_inquire_10 : decode cL_inquire 10 = .ok (.iconst (-1), 1) := by decide +kernel
theorem dL_inquire_11 : decode cL_inquire 11 = .ok (.ireturn, 1) := by decide +kernel
theorem dL_inquire_12 : decode cL_inquire 12 = .ok (.astore 4, 2) := by decide +kernel
theorem dL_inquire_14 : decode cL_inquire 14 = .ok (.bipush (-2), 2) := by decide +kernel
theorem dL_inquire_16 : decode cL_inquire 16 = .ok (.ireturn, 1) := by decide +kernel
theorem dL_inquire_17 : decode cL_inquire 17 = .ok (.astore 4, 2) := by decide +kernel
theorem dL_inquire_19 : decode cL_inquire 19 = .ok (.bipush (-3), 2) := by decide +kernel
theorem dL_inquire_21 : decode cL_inquire 21 = .ok (.ireturn, 1) := by decide +kernel
theorem dL_guildOf_0 : decode cL_guildOf 0 = .ok (.aload_n 0, 1) := by decide +kernel
theorem dL_guildOf_1 : decode cL_guildOf 1 = .ok (.iload_n 1, 1) := by decide +kernel
theorem dL_guildOf_2 : decode cL_guildOf 2 = .ok (.iload_n 2, 1) := by decide +kernel
theorem dL_guildOf_3 : decode cL_guildOf 3 = .ok (.invokevirtual 70, 3) := by decide +kernel
theorem dL_guildOf_6 : decode cL_guildOf 6 = .ok (.ireturn, 1) := by decide +kernel
theorem dL_guildOf_7 : decode cL_guildOf 7 = .ok (.astore_n 3, 1) := by decide +kernel
theorem dL_guildOf_8 : decode cL_guildOf 8 = .ok (.bipush (-11), 2) := by decide +kernel
theorem dL_guildOf_10 : decode cL_guildOf 10 = .ok (.ireturn, 1) := by decide +kernel
theorem dL_guildOf_11 : decode cL_guildOf 11 = .ok (.astore_n 3, 1) := by decide +kernel
theorem dL_guildOf_12 : decode cL_guildOf 12 = .ok (.bipush (-12), 2) := by decide +kernel
theorem dL_guildOf_14 : decode cL_guildOf 14 = .ok (.ireturn, 1) := by decide +kernel
theorem dL_canLearn_0 : decode cL_canLearn 0 = .ok (.aload_n 0, 1) := by decide +kernel
theorem dL_canLearn_1 : decode cL_canLearn 1 = .ok (.iload_n 1, 1) := by decide +kernel
theorem dL_canLearn_2 : decode cL_canLearn 2 = .ok (.iload_n 2, 1) := by decide +kernel
theorem dL_canLearn_3 : decode cL_canLearn 3 = .ok (.invokevirtual 73, 3) := by decide +kernel
theorem dL_canLearn_6 : decode cL_canLearn 6 = .ok (.ifCond .eq 7, 3) := by decide +kernel
theorem dL_canLearn_9 : decode cL_canLearn 9 = .ok (.iconst 1, 1) := by decide +kernel
theorem dL_canLearn_10 : decode cL_canLearn 10 = .ok (.goto 4, 3) := by decide +kernel
theorem dL_canLearn_13 : decode cL_canLearn 13 = .ok (.iconst 0, 1) := by decide +kernel
theorem dL_canLearn_14 : decode cL_canLearn 14 = .ok (.ireturn, 1) := by decide +kernel
theorem dL_canLearn_15 : decode cL_canLearn 15 = .ok (.astore_n 3, 1) := by decide +kernel
theorem dL_canLearn_16 : decode cL_canLearn 16 = .ok (.bipush (-11), 2) := by decide +kernel
theorem dL_canLearn_18 : decode cL_canLearn 18 = .ok (.ireturn, 1) := by decide +kernel
theorem dL_pass_0 : decode cL_pass 0 = .ok (.aload_n 0, 1) := by decide +kernel
theorem dL_pass_1 : decode cL_pass 1 = .ok (.iload_n 1, 1) := by decide +kernel
theorem dL_pass_2 : decode cL_pass 2 = .ok (.invokevirtual 77, 3) := by decide +kernel
theorem dL_pass_5 : decode cL_pass 5 = .ok (.ireturn, 1) := by decide +kernel
theorem dL_pass_6 : decode cL_pass 6 = .ok (.astore_n 2, 1) := by decide +kernel
theorem dL_pass_7 : decode cL_pass 7 = .ok (.iconst (-1), 1) := by decide +kernel
theorem dL_pass_8 : decode cL_pass 8 = .ok (.ireturn, 1) := by decide +kernel
theorem dL_ranked_0 : decode cL_ranked 0 = .ok (.aload_n 0, 1) := by decide +kernel
theorem dL_ranked_1 : decode cL_ranked 1 = .ok (.iload_n 1, 1) := by decide +kernel
theorem dL_ranked_2 : decode cL_ranked 2 = .ok (.invokevirtual 80, 3) := by decide +kernel
theorem dL_ranked_5 : decode cL_ranked 5 = .ok (.ireturn, 1) := by decide +kernel
theorem dL_ranked_6 : decode cL_ranked 6 = .ok (.astore_n 2, 1) := by decide +kernel
theorem dL_ranked_7 : decode cL_ranked 7 = .ok (.bipush (-11), 2) := by decide +kernel
theorem dL_ranked_9 : decode cL_ranked 9 = .ok (.ireturn, 1) := by decide +kernel
theorem dL_line_0 : decode cL_line 0 = .ok (.aload_n 0, 1) := by decide +kernel
theorem dL_line_1 : decode cL_line 1 = .ok (.iload_n 1, 1) := by decide +kernel
theorem dL_line_2 : decode cL_line 2 = .ok (.invokevirtual 83, 3) := by decide +kernel
theorem dL_line_5 : decode cL_line 5 = .ok (.ireturn, 1) := by decide +kernel
theorem dL_line_6 : decode cL_line 6 = .ok (.astore_n 2, 1) := by decide +kernel
theorem dL_line_7 : decode cL_line 7 = .ok (.bipush (-13), 2) := by decide +kernel
theorem dL_line_9 : decode cL_line 9 = .ok (.ireturn, 1) := by decide +kernel
theorem dL_character_0 : decode cL_character 0 = .ok (.aload_n 0, 1) := by decide +kernel
theorem dL_character_1 : decode cL_character 1 = .ok (.iload_n 1, 1) := by decide +kernel
theorem dL_character_2 : decode cL_character 2 = .ok (.invokevirtual 86, 3) := by decide +kernel
theorem dL_character_5 : decode cL_character 5 = .ok (.ireturn, 1) := by decide +kernel
theorem dL_character_6 : decode cL_character 6 = .ok (.astore_n 2, 1) := by decide +kernel
theorem dL_character_7 : decode cL_character 7 = .ok (.bipush (-11), 2) := by decide +kernel
theorem dL_character_9 : decode cL_character 9 = .ok (.ireturn, 1) := by decide +kernel
theorem dL_append_0 : decode cL_append 0 = .ok (.aload_n 0, 1) := by decide +kernel
theorem dL_append_1 : decode cL_append 1 = .ok (.iload_n 1, 1) := by decide +kernel
theorem dL_append_2 : decode cL_append 2 = .ok (.invokevirtual 90, 3) := by decide +kernel
theorem dL_append_5 : decode cL_append 5 = .ok (.ireturn, 1) := by decide +kernel
theorem dL_append_6 : decode cL_append 6 = .ok (.astore_n 2, 1) := by decide +kernel
theorem dL_append_7 : decode cL_append 7 = .ok (.iconst (-1), 1) := by decide +kernel
theorem dL_append_8 : decode cL_append 8 = .ok (.ireturn, 1) := by decide +kernel
theorem dL_runs_0 : decode cL_runs 0 = .ok (.aload_n 0, 1) := by decide +kernel
theorem dL_runs_1 : decode cL_runs 1 = .ok (.invokevirtual 94, 3) := by decide +kernel
theorem dL_runs_4 : decode cL_runs 4 = .ok (.ireturn, 1) := by decide +kernel
theorem dL_runs_5 : decode cL_runs 5 = .ok (.astore_n 1, 1) := by decide +kernel
theorem dL_runs_6 : decode cL_runs 6 = .ok (.iconst (-1), 1) := by decide +kernel
theorem dL_runs_7 : decode cL_runs 7 = .ok (.ireturn, 1) := by decide +kernel
theorem dL_runs_8 : decode cL_runs 8 = .ok (.astore_n 1, 1) := by decide +kernel
theorem dL_runs_9 : decode cL_runs 9 = .ok (.bipush (-2), 2) := by decide +kernel
theorem dL_runs_11 : decode cL_runs 11 = .ok (.ireturn, 1) := by decide +kernel
theorem dL_run_0 : decode cL_run 0 = .ok (.iconst 0, 1) := by decide +kernel
theorem dL_run_1 : decode cL_run 1 = .ok (.istore_n 2, 1) := by decide +kernel
theorem dL_run_2 : decode cL_run 2 = .ok (.iload_n 2, 1) := by decide +kernel
theorem dL_run_3 : decode cL_run 3 = .ok (.aload_n 1, 1) := by decide +kernel
theorem dL_run_4 : decode cL_run 4 = .ok (.invokevirtual 97, 3) := by decide +kernel
theorem dL_run_7 : decode cL_run 7 = .ok (.if_icmp .ge 27, 3) := by decide +kernel
theorem dL_run_10 : decode cL_run 10 = .ok (.aload_n 0, 1) := by decide +kernel
theorem dL_run_11 : decode cL_run 11 = .ok (.aload_n 1, 1) := by decide +kernel
theorem dL_run_12 : decode cL_run 12 = .ok (.iload_n 2, 1) := by decide +kernel
theorem dL_run_13 : decode cL_run 13 = .ok (.invokevirtual 102, 3) := by decide +kernel
theorem dL_run_16 : decode cL_run 16 = .ok (.invokestatic 105, 3) := by decide +kernel
theorem dL_run_19 : decode cL_run 19 = .ok (.iload_n 2, 1) := by decide +kernel
theorem dL_run_20 : decode cL_run 20 = .ok (.iconst 1, 1) := by decide +kernel
theorem dL_run_21 : decode cL_run 21 = .ok (.iadd, 1) := by decide +kernel
theorem dL_run_22 : decode cL_run 22 = .ok (.if_icmp .eq 6, 3) := by decide +kernel
theorem dL_run_25 : decode cL_run 25 = .ok (.bipush (-9), 2) := by decide +kernel
theorem dL_run_27 : decode cL_run 27 = .ok (.ireturn, 1) := by decide +kernel
theorem dL_run_28 : decode cL_run 28 = .ok (.iinc 2 1, 3) := by decide +kernel
theorem dL_run_31 : decode cL_run 31 = .ok (.goto (-29), 3) := by decide +kernel
theorem dL_run_34 : decode cL_run 34 = .ok (.aload_n 0, 1) := by decide +kernel
theorem dL_run_35 : decode cL_run 35 = .ok (.invokestatic 110, 3) := by decide +kernel
theorem dL_run_38 : decode cL_run 38 = .ok (.ireturn, 1) := by decide +kernel
theorem dL_undo_0 : decode cL_undo 0 = .ok (.aload_n 0, 1) := by decide +kernel
theorem dL_undo_1 : decode cL_undo 1 = .ok (.invokevirtual 118, 3) := by decide +kernel
theorem dL_undo_4 : decode cL_undo 4 = .ok (.ireturn, 1) := by decide +kernel
theorem dL_undo_5 : decode cL_undo 5 = .ok (.astore_n 1, 1) := by decide +kernel
theorem dL_undo_6 : decode cL_undo 6 = .ok (.iconst (-1), 1) := by decide +kernel
theorem dL_undo_7 : decode cL_undo 7 = .ok (.ireturn, 1) := by decide +kernel
theorem dL_drawn_0 : decode cL_drawn 0 = .ok (.new 9, 3) := by decide +kernel
theorem dL_drawn_3 : decode cL_drawn 3 = .ok (.dup, 1) := by decide +kernel
theorem dL_drawn_4 : decode cL_drawn 4 = .ok (.invokespecial 121, 3) := by decide +kernel
theorem dL_drawn_7 : decode cL_drawn 7 = .ok (.astore_n 1, 1) := by decide +kernel
theorem dL_drawn_8 : decode cL_drawn 8 = .ok (.aload_n 0, 1) := by decide +kernel
theorem dL_drawn_9 : decode cL_drawn 9 = .ok (.iconst 0, 1) := by decide +kernel
theorem dL_drawn_10 : decode cL_drawn 10 = .ok (.invokestatic 122, 3) := by decide +kernel
theorem dL_drawn_13 : decode cL_drawn 13 = .ok (.iconst 1, 1) := by decide +kernel
theorem dL_drawn_14 : decode cL_drawn 14 = .ok (.iushr, 1) := by decide +kernel
theorem dL_drawn_15 : decode cL_drawn 15 = .ok (.istore_n 2, 1) := by decide +kernel
theorem dL_drawn_16 : decode cL_drawn 16 = .ok (.iconst 1, 1) := by decide +kernel
theorem dL_drawn_17 : decode cL_drawn 17 = .ok (.iload_n 2, 1) := by decide +kernel
theorem dL_drawn_18 : decode cL_drawn 18 = .ok (.iconst 5, 1) := by decide +kernel
theorem dL_drawn_19 : decode cL_drawn 19 = .ok (.irem, 1) := by decide +kernel
theorem dL_drawn_20 : decode cL_drawn 20 = .ok (.iadd, 1) := by decide +kernel
theorem dL_drawn_21 : decode cL_drawn 21 = .ok (.istore_n 3, 1) := by decide +kernel
theorem dL_drawn_22 : decode cL_drawn 22 = .ok (.iconst 0, 1) := by decide +kernel
theorem dL_drawn_23 : decode cL_drawn 23 = .ok (.istore 4, 2) := by decide +kernel
theorem dL_drawn_25 : decode cL_drawn 25 = .ok (.iload 4, 2) := by decide +kernel
theorem dL_drawn_27 : decode cL_drawn 27 = .ok (.iload_n 3, 1) := by decide +kernel
theorem dL_drawn_28 : decode cL_drawn 28 = .ok (.if_icmp .ge 100, 3) := by decide +kernel
theorem dL_drawn_31 : decode cL_drawn 31 = .ok (.aload_n 1, 1) := by decide +kernel
theorem dL_drawn_32 : decode cL_drawn 32 = .ok (.invokestatic 126, 3) := by decide +kernel
theorem dL_drawn_35 : decode cL_drawn 35 = .ok (.iload 4, 2) := by decide +kernel
theorem dL_drawn_37 : decode cL_drawn 37 = .ok (.if_icmp .eq 5, 3) := by decide +kernel
theorem dL_drawn_40 : decode cL_drawn 40 = .ok (.aconst_null, 1) := by decide +kernel
theorem dL_drawn_41 : decode cL_drawn 41 = .ok (.areturn, 1) := by decide +kernel
theorem dL_drawn_42 : decode cL_drawn 42 = .ok (.aload_n 0, 1) := by decide +kernel
theorem dL_drawn_43 : decode cL_drawn 43 = .ok (.iconst 1, 1) := by decide +kernel
theorem dL_drawn_44 : decode cL_drawn 44 = .ok (.iload 4, 2) := by decide +kernel
theorem dL_drawn_46 : decode cL_drawn 46 = .ok (.iadd, 1) := by decide +kernel
theorem dL_drawn_47 : decode cL_drawn 47 = .ok (.invokestatic 122, 3) := by decide +kernel
theorem dL_drawn_50 : decode cL_drawn 50 = .ok (.iconst 1, 1) := by decide +kernel
theorem dL_drawn_51 : decode cL_drawn 51 = .ok (.iushr, 1) := by decide +kernel
theorem dL_drawn_52 : decode cL_drawn 52 = .ok (.istore 5, 2) := by decide +kernel
theorem dL_drawn_54 : decode cL_drawn 54 = .ok (.iconst 0, 1) := by decide +kernel
theorem dL_drawn_55 : decode cL_drawn 55 = .ok (.istore 6, 2) := by decide +kernel
theorem dL_drawn_57 : decode cL_drawn 57 = .ok (.iload 6, 2) := by decide +kernel
theorem dL_drawn_59 : decode cL_drawn 59 = .ok (.bipush 6, 2) := by decide +kernel
theorem dL_drawn_61 : decode cL_drawn 61 = .ok (.if_icmp .ge 61, 3) := by decide +kernel
theorem dL_drawn_64 : decode cL_drawn 64 = .ok (.iload 5, 2) := by decide +kernel
theorem dL_drawn_66 : decode cL_drawn 66 = .ok (.iconst 4, 1) := by decide +kernel
theorem dL_drawn_67 : decode cL_drawn 67 = .ok (.iload 6, 2) := by decide +kernel
theorem dL_drawn_69 : decode cL_drawn 69 = .ok (.imul, 1) := by decide +kernel
theorem dL_drawn_70 : decode cL_drawn 70 = .ok (.iushr, 1) := by decide +kernel
theorem dL_drawn_71 : decode cL_drawn 71 = .ok (.iconst 3, 1) := by decide +kernel
theorem dL_drawn_72 : decode cL_drawn 72 = .ok (.irem, 1) := by decide +kernel
theorem dL_drawn_73 : decode cL_drawn 73 = .ok (.ifCond .ne 7, 3) := by decide +kernel
theorem dL_drawn_76 : decode cL_drawn 76 = .ok (.iconst 0, 1) := by decide +kernel
theorem dL_drawn_77 : decode cL_drawn 77 = .ok (.goto 16, 3) := by decide +kernel
theorem dL_drawn_80 : decode cL_drawn 80 = .ok (.iload 5, 2) := by decide +kernel
theorem dL_drawn_82 : decode cL_drawn 82 = .ok (.iconst 4, 1) := by decide +kernel
theorem dL_drawn_83 : decode cL_drawn 83 = .ok (.iload 6, 2) := by decide +kernel
theorem dL_drawn_85 : decode cL_drawn 85 = .ok (.imul, 1) := by decide +kernel
theorem dL_drawn_86 : decode cL_drawn 86 = .ok (.iushr, 1) := by decide +kernel
theorem dL_drawn_87 : decode cL_drawn 87 = .ok (.bipush 60, 2) := by decide +kernel
theorem dL_drawn_89 : decode cL_drawn 89 = .ok (.irem, 1) := by decide +kernel
theorem dL_drawn_90 : decode cL_drawn 90 = .ok (.bipush 30, 2) := by decide +kernel
theorem dL_drawn_92 : decode cL_drawn 92 = .ok (.isub, 1) := by decide +kernel
theorem dL_drawn_93 : decode cL_drawn 93 = .ok (.istore 7, 2) := by decide +kernel
theorem dL_drawn_95 : decode cL_drawn 95 = .ok (.iload 7, 2) := by decide +kernel
theorem dL_drawn_97 : decode cL_drawn 97 = .ok (.ifCond .eq 19, 3) := by decide +kernel
theorem dL_drawn_100 : decode cL_drawn 100 = .ok (.aload_n 1, 1) := by decide +kernel
theorem dL_drawn_101 : decode cL_drawn 101 = .ok (.iload 4, 2) := by decide +kernel
theorem dL_drawn_103 : decode cL_drawn 103 = .ok (.iload 6, 2) := by decide +kernel
theorem dL_drawn_105 : decode cL_drawn 105 = .ok (.iload 7, 2) := by decide +kernel
theorem dL_drawn_107 : decode cL_drawn 107 = .ok (.invokestatic 128, 3) := by decide +kernel
theorem dL_drawn_110 : decode cL_drawn 110 = .ok (.iconst 1, 1) := by decide +kernel
theorem dL_drawn_111 : decode cL_drawn 111 = .ok (.if_icmp .ge 5, 3) := by decide +kernel
theorem dL_drawn_114 : decode cL_drawn 114 = .ok (.aconst_null, 1) := by decide +kernel
theorem dL_drawn_115 : decode cL_drawn 115 = .ok (.areturn, 1) := by decide +kernel
theorem dL_drawn_116 : decode cL_drawn 116 = .ok (.iinc 6 1, 3) := by decide +kernel
theorem dL_drawn_119 : decode cL_drawn 119 = .ok (.goto (-62), 3) := by decide +kernel
theorem dL_drawn_122 : decode cL_drawn 122 = .ok (.iinc 4 1, 3) := by decide +kernel
theorem dL_drawn_125 : decode cL_drawn 125 = .ok (.goto (-100), 3) := by decide +kernel
theorem dL_drawn_128 : decode cL_drawn 128 = .ok (.iload_n 2, 1) := by decide +kernel
theorem dL_drawn_129 : decode cL_drawn 129 = .ok (.iconst 4, 1) := by decide +kernel
theorem dL_drawn_130 : decode cL_drawn 130 = .ok (.iushr, 1) := by decide +kernel
theorem dL_drawn_131 : decode cL_drawn 131 = .ok (.bipush 45, 2) := by decide +kernel
theorem dL_drawn_133 : decode cL_drawn 133 = .ok (.irem, 1) := by decide +kernel
theorem dL_drawn_134 : decode cL_drawn 134 = .ok (.istore 4, 2) := by decide +kernel
theorem dL_drawn_136 : decode cL_drawn 136 = .ok (.iconst 0, 1) := by decide +kernel
theorem dL_drawn_137 : decode cL_drawn 137 = .ok (.istore 5, 2) := by decide +kernel
theorem dL_drawn_139 : decode cL_drawn 139 = .ok (.iload 5, 2) := by decide +kernel
theorem dL_drawn_141 : decode cL_drawn 141 = .ok (.iload 4, 2) := by decide +kernel
theorem dL_drawn_143 : decode cL_drawn 143 = .ok (.if_icmp .ge 337, 3) := by decide +kernel
theorem dL_drawn_146 : decode cL_drawn 146 = .ok (.aload_n 0, 1) := by decide +kernel
theorem dL_drawn_147 : decode cL_drawn 147 = .ok (.bipush 6, 2) := by decide +kernel
theorem dL_drawn_149 : decode cL_drawn 149 = .ok (.iload 5, 2) := by decide +kernel
theorem dL_drawn_151 : decode cL_drawn 151 = .ok (.iadd, 1) := by decide +kernel
theorem dL_drawn_152 : decode cL_drawn 152 = .ok (.invokestatic 122, 3) := by decide +kernel
theorem dL_drawn_155 : decode cL_drawn 155 = .ok (.iconst 1, 1) := by decide +kernel
theorem dL_drawn_156 : decode cL_drawn 156 = .ok (.iushr, 1) := by decide +kernel
theorem dL_drawn_157 : decode cL_drawn 157 = .ok (.istore 6, 2) := by decide +kernel
theorem dL_drawn_159 : decode cL_drawn 159 = .ok (.iload 6, 2) := by decide +kernel
theorem dL_drawn_161 : decode cL_drawn 161 = .ok (.iconst 4, 1) := by decide +kernel
theorem dL_drawn_162 : decode cL_drawn 162 = .ok (.iushr, 1) := by decide +kernel
theorem dL_drawn_163 : decode cL_drawn 163 = .ok (.istore 7, 2) := by decide +kernel
theorem dL_drawn_165 : decode cL_drawn 165 = .ok (.iload 7, 2) := by decide +kernel
theorem dL_drawn_167 : decode cL_drawn 167 = .ok (.iload_n 3, 1) := by decide +kernel
theorem dL_drawn_168 : decode cL_drawn 168 = .ok (.irem, 1) := by decide +kernel
theorem dL_drawn_169 : decode cL_drawn 169 = .ok (.istore 8, 2) := by decide +kernel
theorem dL_drawn_171 : decode cL_drawn 171 = .ok (.iload 7, 2) := by decide +kernel
theorem dL_drawn_173 : decode cL_drawn 173 = .ok (.iconst 3, 1) := by decide +kernel
theorem dL_drawn_174 : decode cL_drawn 174 = .ok (.iushr, 1) := by decide +kernel
theorem dL_drawn_175 : decode cL_drawn 175 = .ok (.bipush 6, 2) := by decide +kernel
theorem dL_drawn_177 : decode cL_drawn 177 = .ok (.irem, 1) := by decide +kernel
theorem dL_drawn_178 : decode cL_drawn 178 = .ok (.istore 9, 2) := by decide +kernel
theorem dL_drawn_180 : decode cL_drawn 180 = .ok (.iload 6, 2) := by decide +kernel
theorem dL_drawn_182 : decode cL_drawn 182 = .ok (.bipush 14, 2) := by decide +kernel
theorem dL_drawn_184 : decode cL_drawn 184 = .ok (.irem, 1) := by decide +kernel
theorem dL_drawn_185 : decode cL_drawn 185 = .ok (.tableswitch 267 0 12 #[67, 67, 67, 67, 67, 95, 95, 121, 121, 121, 149, 185, 222], 67) := by decide +kernel
theorem dL_drawn_252 : decode cL_drawn 252 = .ok (.aload_n 1, 1) := by decide +kernel
theorem dL_drawn_253 : decode cL_drawn 253 = .ok (.iload 8, 2) := by decide +kernel
theorem dL_drawn_255 : decode cL_drawn 255 = .ok (.iload 9, 2) := by decide +kernel
theorem dL_drawn_257 : decode cL_drawn 257 = .ok (.invokestatic 131, 3) := by decide +kernel
theorem dL_drawn_260 : decode cL_drawn 260 = .ok (.istore 10, 2) := by decide +kernel
theorem dL_drawn_262 : decode cL_drawn 262 = .ok (.iload 10, 2) := by decide +kernel
theorem dL_drawn_264 : decode cL_drawn 264 = .ok (.bipush (-3), 2) := by decide +kernel
theorem dL_drawn_266 : decode cL_drawn 266 = .ok (.if_icmp .ne 7, 3) := by decide +kernel
theorem dL_drawn_269 : decode cL_drawn 269 = .ok (.iconst 0, 1) := by decide +kernel
theorem dL_drawn_270 : decode cL_drawn 270 = .ok (.goto 5, 3) := by decide +kernel
theorem dL_drawn_273 : decode cL_drawn 273 = .ok (.iload 10, 2) := by decide +kernel
theorem dL_drawn_275 : decode cL_drawn 275 = .ok (.istore 10, 2) := by decide +kernel
theorem dL_drawn_277 : decode cL_drawn 277 = .ok (.goto 190, 3) := by decide +kernel
theorem dL_drawn_280 : decode cL_drawn 280 = .ok (.aload_n 1, 1) := by decide +kernel
theorem dL_drawn_281 : decode cL_drawn 281 = .ok (.iload 8, 2) := by decide +kernel
theorem dL_drawn_283 : decode cL_drawn 283 = .ok (.invokestatic 134, 3) := by decide +kernel
theorem dL_drawn_286 : decode cL_drawn 286 = .ok (.istore 10, 2) := by decide +kernel
theorem dL_drawn_288 : decode cL_drawn 288 = .ok (.iload 10, 2) := by decide +kernel
theorem dL_drawn_290 : decode cL_drawn 290 = .ok (.bipush (-2), 2) := by decide +kernel
theorem dL_drawn_292 : decode cL_drawn 292 = .ok (.if_icmp .ne 7, 3) := by decide +kernel
theorem dL_drawn_295 : decode cL_drawn 295 = .ok (.iconst 0, 1) := by decide +kernel
theorem dL_drawn_296 : decode cL_drawn 296 = .ok (.goto 5, 3) := by decide +kernel
theorem dL_drawn_299 : decode cL_drawn 299 = .ok (.iload 10, 2) := by decide +kernel
theorem dL_drawn_301 : decode cL_drawn 301 = .ok (.istore 10, 2) := by decide +kernel
theorem dL_drawn_303 : decode cL_drawn 303 = .ok (.goto 164, 3) := by decide +kernel
theorem dL_drawn_306 : decode cL_drawn 306 = .ok (.aload_n 1, 1) := by decide +kernel
theorem dL_drawn_307 : decode cL_drawn 307 = .ok (.iload 8, 2) := by decide +kernel
theorem dL_drawn_309 : decode cL_drawn 309 = .ok (.iload 9, 2) := by decide +kernel
theorem dL_drawn_311 : decode cL_drawn 311 = .ok (.invokestatic 137, 3) := by decide +kernel
theorem dL_drawn_314 : decode cL_drawn 314 = .ok (.istore 10, 2) := by decide +kernel
theorem dL_drawn_316 : decode cL_drawn 316 = .ok (.iload 10, 2) := by decide +kernel
theorem dL_drawn_318 : decode cL_drawn 318 = .ok (.bipush (-3), 2) := by decide +kernel
theorem dL_drawn_320 : decode cL_drawn 320 = .ok (.if_icmp .ne 7, 3) := by decide +kernel
theorem dL_drawn_323 : decode cL_drawn 323 = .ok (.iconst 0, 1) := by decide +kernel
theorem dL_drawn_324 : decode cL_drawn 324 = .ok (.goto 5, 3) := by decide +kernel
theorem dL_drawn_327 : decode cL_drawn 327 = .ok (.iload 10, 2) := by decide +kernel
theorem dL_drawn_329 : decode cL_drawn 329 = .ok (.istore 10, 2) := by decide +kernel
theorem dL_drawn_331 : decode cL_drawn 331 = .ok (.goto 136, 3) := by decide +kernel
theorem dL_drawn_334 : decode cL_drawn 334 = .ok (.aload_n 1, 1) := by decide +kernel
theorem dL_drawn_335 : decode cL_drawn 335 = .ok (.iload 8, 2) := by decide +kernel
theorem dL_drawn_337 : decode cL_drawn 337 = .ok (.iload 9, 2) := by decide +kernel
theorem dL_drawn_339 : decode cL_drawn 339 = .ok (.iload 7, 2) := by decide +kernel
theorem dL_drawn_341 : decode cL_drawn 341 = .ok (.bipush 6, 2) := by decide +kernel
theorem dL_drawn_343 : decode cL_drawn 343 = .ok (.iushr, 1) := by decide +kernel
theorem dL_drawn_344 : decode cL_drawn 344 = .ok (.bipush 6, 2) := by decide +kernel
theorem dL_drawn_346 : decode cL_drawn 346 = .ok (.irem, 1) := by decide +kernel
theorem dL_drawn_347 : decode cL_drawn 347 = .ok (.invokestatic 139, 3) := by decide +kernel
theorem dL_drawn_350 : decode cL_drawn 350 = .ok (.istore 10, 2) := by decide +kernel
theorem dL_drawn_352 : decode cL_drawn 352 = .ok (.iload 10, 2) := by decide +kernel
theorem dL_drawn_354 : decode cL_drawn 354 = .ok (.bipush (-3), 2) := by decide +kernel
theorem dL_drawn_356 : decode cL_drawn 356 = .ok (.if_icmp .ne 7, 3) := by decide +kernel
theorem dL_drawn_359 : decode cL_drawn 359 = .ok (.iconst 0, 1) := by decide +kernel
theorem dL_drawn_360 : decode cL_drawn 360 = .ok (.goto 5, 3) := by decide +kernel
theorem dL_drawn_363 : decode cL_drawn 363 = .ok (.iload 10, 2) := by decide +kernel
theorem dL_drawn_365 : decode cL_drawn 365 = .ok (.istore 10, 2) := by decide +kernel
theorem dL_drawn_367 : decode cL_drawn 367 = .ok (.goto 100, 3) := by decide +kernel
theorem dL_drawn_370 : decode cL_drawn 370 = .ok (.iload 7, 2) := by decide +kernel
theorem dL_drawn_372 : decode cL_drawn 372 = .ok (.bipush 6, 2) := by decide +kernel
theorem dL_drawn_374 : decode cL_drawn 374 = .ok (.iushr, 1) := by decide +kernel
theorem dL_drawn_375 : decode cL_drawn 375 = .ok (.iconst 3, 1) := by decide +kernel
theorem dL_drawn_376 : decode cL_drawn 376 = .ok (.irem, 1) := by decide +kernel
theorem dL_drawn_377 : decode cL_drawn 377 = .ok (.ifCond .ne 24, 3) := by decide +kernel
theorem dL_drawn_380 : decode cL_drawn 380 = .ok (.aload_n 1, 1) := by decide +kernel
theorem dL_drawn_381 : decode cL_drawn 381 = .ok (.invokevirtual 141, 3) := by decide +kernel
theorem dL_drawn_384 : decode cL_drawn 384 = .ok (.ifCond .eq 10, 3) := by decide +kernel
theorem dL_drawn_387 : decode cL_drawn 387 = .ok (.aload_n 1, 1) := by decide +kernel
theorem dL_drawn_388 : decode cL_drawn 388 = .ok (.invokestatic 145, 3) := by decide +kernel
theorem dL_drawn_391 : decode cL_drawn 391 = .ok (.goto 11, 3) := by decide +kernel
theorem dL_drawn_394 : decode cL_drawn 394 = .ok (.aload_n 1, 1) := by decide +kernel
theorem dL_drawn_395 : decode cL_drawn 395 = .ok (.invokestatic 147, 3) := by decide +kernel
theorem dL_drawn_398 : decode cL_drawn 398 = .ok (.goto 4, 3) := by decide +kernel
theorem dL_drawn_401 : decode cL_drawn 401 = .ok (.iconst 0, 1) := by decide +kernel
theorem dL_drawn_402 : decode cL_drawn 402 = .ok (.istore 10, 2) := by decide +kernel
theorem dL_drawn_404 : decode cL_drawn 404 = .ok (.goto 63, 3) := by decide +kernel
theorem dL_drawn_407 : decode cL_drawn 407 = .ok (.iload 7, 2) := by decide +kernel
theorem dL_drawn_409 : decode cL_drawn 409 = .ok (.bipush 6, 2) := by decide +kernel
theorem dL_drawn_411 : decode cL_drawn 411 = .ok (.iushr, 1) := by decide +kernel
theorem dL_drawn_412 : decode cL_drawn 412 = .ok (.iconst 3, 1) := by decide +kernel
theorem dL_drawn_413 : decode cL_drawn 413 = .ok (.irem, 1) := by decide +kernel
theorem dL_drawn_414 : decode cL_drawn 414 = .ok (.ifCond .le 7, 3) := by decide +kernel
theorem dL_drawn_417 : decode cL_drawn 417 = .ok (.iconst 0, 1) := by decide +kernel
theorem dL_drawn_418 : decode cL_drawn 418 = .ok (.goto 29, 3) := by decide +kernel
theorem dL_drawn_421 : decode cL_drawn 421 = .ok (.aload_n 1, 1) := by decide +kernel
theorem dL_drawn_422 : decode cL_drawn 422 = .ok (.iload 9, 2) := by decide +kernel
theorem dL_drawn_424 : decode cL_drawn 424 = .ok (.iconst 1, 1) := by decide +kernel
theorem dL_drawn_425 : decode cL_drawn 425 = .ok (.invokestatic 149, 3) := by decide +kernel
theorem dL_drawn_428 : decode cL_drawn 428 = .ok (.iconst 1, 1) := by decide +kernel
theorem dL_drawn_429 : decode cL_drawn 429 = .ok (.if_icmp .ne 12, 3) := by decide +kernel
theorem dL_drawn_432 : decode cL_drawn 432 = .ok (.aload_n 1, 1) := by decide +kernel
theorem dL_drawn_433 : decode cL_drawn 433 = .ok (.iload 9, 2) := by decide +kernel
theorem dL_drawn_435 : decode cL_drawn 435 = .ok (.invokestatic 151, 3) := by decide +kernel
theorem dL_drawn_438 : decode cL_drawn 438 = .ok (.goto 9, 3) := by decide +kernel
theorem dL_drawn_441 : decode cL_drawn 441 = .ok (.aload_n 1, 1) := by decide +kernel
theorem dL_drawn_442 : decode cL_drawn 442 = .ok (.iload 9, 2) := by decide +kernel
theorem dL_drawn_444 : decode cL_drawn 444 = .ok (.invokestatic 153, 3) := by decide +kernel
theorem dL_drawn_447 : decode cL_drawn 447 = .ok (.istore 10, 2) := by decide +kernel
theorem dL_drawn_449 : decode cL_drawn 449 = .ok (.goto 18, 3) := by decide +kernel
theorem dL_drawn_452 : decode cL_drawn 452 = .ok (.aload_n 1, 1) := by decide +kernel
theorem dL_drawn_453 : decode cL_drawn 453 = .ok (.iconst 1, 1) := by decide +kernel
theorem dL_drawn_454 : decode cL_drawn 454 = .ok (.iload 7, 2) := by decide +kernel
theorem dL_drawn_456 : decode cL_drawn 456 = .ok (.bipush 6, 2) := by decide +kernel
theorem dL_drawn_458 : decode cL_drawn 458 = .ok (.iushr, 1) := by decide +kernel
theorem dL_drawn_459 : decode cL_drawn 459 = .ok (.iconst 5, 1) := by decide +kernel
theorem dL_drawn_460 : decode cL_drawn 460 = .ok (.irem, 1) := by decide +kernel
theorem dL_drawn_461 : decode cL_drawn 461 = .ok (.iadd, 1) := by decide +kernel
theorem dL_drawn_462 : decode cL_drawn 462 = .ok (.invokestatic 155, 3) := by decide +kernel
theorem dL_drawn_465 : decode cL_drawn 465 = .ok (.istore 10, 2) := by decide +kernel
theorem dL_drawn_467 : decode cL_drawn 467 = .ok (.iload 10, 2) := by decide +kernel
theorem dL_drawn_469 : decode cL_drawn 469 = .ok (.ifCond .ge 5, 3) := by decide +kernel
theorem dL_drawn_472 : decode cL_drawn 472 = .ok (.aconst_null, 1) := by decide +kernel
theorem dL_drawn_473 : decode cL_drawn 473 = .ok (.areturn, 1) := by decide +kernel
theorem dL_drawn_474 : decode cL_drawn 474 = .ok (.iinc 5 1, 3) := by decide +kernel
theorem dL_drawn_477 : decode cL_drawn 477 = .ok (.goto (-338), 3) := by decide +kernel
theorem dL_drawn_480 : decode cL_drawn 480 = .ok (.aload_n 1, 1) := by decide +kernel
theorem dL_drawn_481 : decode cL_drawn 481 = .ok (.areturn, 1) := by decide +kernel
theorem dL_doubt_0 : decode cL_doubt 0 = .ok (.iconst (-1), 1) := by decide +kernel
theorem dL_doubt_1 : decode cL_doubt 1 = .ok (.istore_n 2, 1) := by decide +kernel
theorem dL_doubt_2 : decode cL_doubt 2 = .ok (.aload_n 0, 1) := by decide +kernel
theorem dL_doubt_3 : decode cL_doubt 3 = .ok (.iconst 0, 1) := by decide +kernel
theorem dL_doubt_4 : decode cL_doubt 4 = .ok (.invokevirtual 157, 3) := by decide +kernel
theorem dL_doubt_7 : decode cL_doubt 7 = .ok (.iconst 1, 1) := by decide +kernel
theorem dL_doubt_8 : decode cL_doubt 8 = .ok (.isub, 1) := by decide +kernel
theorem dL_doubt_9 : decode cL_doubt 9 = .ok (.istore_n 3, 1) := by decide +kernel
theorem dL_doubt_10 : decode cL_doubt 10 = .ok (.iload_n 3, 1) := by decide +kernel
theorem dL_doubt_11 : decode cL_doubt 11 = .ok (.ifCond .lt 25, 3) := by decide +kernel
theorem dL_doubt_14 : decode cL_doubt 14 = .ok (.aload_n 0, 1) := by decide +kernel
theorem dL_doubt_15 : decode cL_doubt 15 = .ok (.iload_n 3, 1) := by decide +kernel
theorem dL_doubt_16 : decode cL_doubt 16 = .ok (.iload_n 1, 1) := by decide +kernel
theorem dL_doubt_17 : decode cL_doubt 17 = .ok (.invokestatic 160, 3) := by decide +kernel
theorem dL_doubt_20 : decode cL_doubt 20 = .ok (.iconst 1, 1) := by decide +kernel
theorem dL_doubt_21 : decode cL_doubt 21 = .ok (.if_icmp .ne 7, 3) := by decide +kernel
theorem dL_doubt_24 : decode cL_doubt 24 = .ok (.iload_n 3, 1) := by decide +kernel
theorem dL_doubt_25 : decode cL_doubt 25 = .ok (.goto 4, 3) := by decide +kernel
theorem dL_doubt_28 : decode cL_doubt 28 = .ok (.iload_n 2, 1) := by decide +kernel
theorem dL_doubt_29 : decode cL_doubt 29 = .ok (.istore_n 2, 1) := by decide +kernel
theorem dL_doubt_30 : decode cL_doubt 30 = .ok (.iinc 3 (-1), 3) := by decide +kernel
theorem dL_doubt_33 : decode cL_doubt 33 = .ok (.goto (-23), 3) := by decide +kernel
theorem dL_doubt_36 : decode cL_doubt 36 = .ok (.iload_n 2, 1) := by decide +kernel
theorem dL_doubt_37 : decode cL_doubt 37 = .ok (.ireturn, 1) := by decide +kernel
theorem dL_count_0 : decode cL_count 0 = .ok (.iconst 0, 1) := by decide +kernel
theorem dL_count_1 : decode cL_count 1 = .ok (.istore_n 3, 1) := by decide +kernel
theorem dL_count_2 : decode cL_count 2 = .ok (.iconst 0, 1) := by decide +kernel
theorem dL_count_3 : decode cL_count 3 = .ok (.istore 4, 2) := by decide +kernel
theorem dL_count_5 : decode cL_count 5 = .ok (.iload 4, 2) := by decide +kernel
theorem dL_count_7 : decode cL_count 7 = .ok (.bipush 6, 2) := by decide +kernel
theorem dL_count_9 : decode cL_count 9 = .ok (.if_icmp .ge 28, 3) := by decide +kernel
theorem dL_count_12 : decode cL_count 12 = .ok (.iload_n 3, 1) := by decide +kernel
theorem dL_count_13 : decode cL_count 13 = .ok (.aload_n 0, 1) := by decide +kernel
theorem dL_count_14 : decode cL_count 14 = .ok (.iload_n 1, 1) := by decide +kernel
theorem dL_count_15 : decode cL_count 15 = .ok (.iload 4, 2) := by decide +kernel
theorem dL_count_17 : decode cL_count 17 = .ok (.invokestatic 160, 3) := by decide +kernel
theorem dL_count_20 : decode cL_count 20 = .ok (.iload_n 2, 1) := by decide +kernel
theorem dL_count_21 : decode cL_count 21 = .ok (.if_icmp .ne 7, 3) := by decide +kernel
theorem dL_count_24 : decode cL_count 24 = .ok (.iconst 1, 1) := by decide +kernel
theorem dL_count_25 : decode cL_count 25 = .ok (.goto 4, 3) := by decide +kernel
theorem dL_count_28 : decode cL_count 28 = .ok (.iconst 0, 1) := by decide +kernel
theorem dL_count_29 : decode cL_count 29 = .ok (.iadd, 1) := by decide +kernel
theorem dL_count_30 : decode cL_count 30 = .ok (.istore_n 3, 1) := by decide +kernel
theorem dL_count_31 : decode cL_count 31 = .ok (.iinc 4 1, 3) := by decide +kernel
theorem dL_count_34 : decode cL_count 34 = .ok (.goto (-29), 3) := by decide +kernel
theorem dL_count_37 : decode cL_count 37 = .ok (.iload_n 3, 1) := by decide +kernel
theorem dL_count_38 : decode cL_count 38 = .ok (.ireturn, 1) := by decide +kernel
theorem dL_law_0 : decode cL_law 0 = .ok (.aload_n 0, 1) := by decide +kernel
theorem dL_law_1 : decode cL_law 1 = .ok (.invokestatic 162, 3) := by decide +kernel
theorem dL_law_4 : decode cL_law 4 = .ok (.astore_n 1, 1) := by decide +kernel
theorem dL_law_5 : decode cL_law 5 = .ok (.aload_n 1, 1) := by decide +kernel
theorem dL_law_6 : decode cL_law 6 = .ok (.ifnull 43, 3) := by decide +kernel
theorem dL_law_9 : decode cL_law 9 = .ok (.aload_n 1, 1) := by decide +kernel
theorem dL_law_10 : decode cL_law 10 = .ok (.invokestatic 166, 3) := by decide +kernel
theorem dL_law_13 : decode cL_law 13 = .ok (.ifCond .eq 36, 3) := by decide +kernel
theorem dL_law_16 : decode cL_law 16 = .ok (.aload_n 1, 1) := by decide +kernel
theorem dL_law_17 : decode cL_law 17 = .ok (.invokestatic 170, 3) := by decide +kernel
theorem dL_law_20 : decode cL_law 20 = .ok (.ifCond .eq 29, 3) := by decide +kernel
theorem dL_law_23 : decode cL_law 23 = .ok (.aload_n 1, 1) := by decide +kernel
theorem dL_law_24 : decode cL_law 24 = .ok (.invokestatic 173, 3) := by decide +kernel
theorem dL_law_27 : decode cL_law 27 = .ok (.ifCond .eq 22, 3) := by decide +kernel
theorem dL_law_30 : decode cL_law 30 = .ok (.aload_n 1, 1) := by decide +kernel
theorem dL_law_31 : decode cL_law 31 = .ok (.invokestatic 175, 3) := by decide +kernel
theorem dL_law_34 : decode cL_law 34 = .ok (.ifCond .eq 15, 3) := by decide +kernel
theorem dL_law_37 : decode cL_law 37 = .ok (.aload_n 0, 1) := by decide +kernel
theorem dL_law_38 : decode cL_law 38 = .ok (.aload_n 1, 1) := by decide +kernel
theorem dL_law_39 : decode cL_law 39 = .ok (.invokestatic 178, 3) := by decide +kernel
theorem dL_law_42 : decode cL_law 42 = .ok (.ifCond .eq 7, 3) := by decide +kernel
theorem dL_law_45 : decode cL_law 45 = .ok (.iconst 1, 1) := by decide +kernel
theorem dL_law_46 : decode cL_law 46 = .ok (.goto 4, 3) := by decide +kernel
theorem dL_law_49 : decode cL_law 49 = .ok (.iconst 0, 1) := by decide +kernel
theorem dL_law_50 : decode cL_law 50 = .ok (.ireturn, 1) := by decide +kernel
theorem dL_matters_0 : decode cL_matters 0 = .ok (.iconst 3, 1) := by decide +kernel
theorem dL_matters_1 : decode cL_matters 1 = .ok (.newarray .int, 2) := by decide +kernel
theorem dL_matters_3 : decode cL_matters 3 = .ok (.astore_n 1, 1) := by decide +kernel
theorem dL_matters_4 : decode cL_matters 4 = .ok (.iconst 0, 1) := by decide +kernel
theorem dL_matters_5 : decode cL_matters 5 = .ok (.istore_n 2, 1) := by decide +kernel
theorem dL_matters_6 : decode cL_matters 6 = .ok (.iconst 0, 1) := by decide +kernel
theorem dL_matters_7 : decode cL_matters 7 = .ok (.istore_n 3, 1) := by decide +kernel
theorem dL_matters_8 : decode cL_matters 8 = .ok (.iload_n 3, 1) := by decide +kernel
theorem dL_matters_9 : decode cL_matters 9 = .ok (.aload_n 0, 1) := by decide +kernel
theorem dL_matters_10 : decode cL_matters 10 = .ok (.iconst 0, 1) := by decide +kernel
theorem dL_matters_11 : decode cL_matters 11 = .ok (.invokevirtual 157, 3) := by decide +kernel
theorem dL_matters_14 : decode cL_matters 14 = .ok (.if_icmp .ge 508, 3) := by decide +kernel
theorem dL_matters_17 : decode cL_matters 17 = .ok (.iconst 0, 1) := by decide +kernel
theorem dL_matters_18 : decode cL_matters 18 = .ok (.istore 4, 2) := by decide +kernel
theorem dL_matters_20 : decode cL_matters 20 = .ok (.iconst 0, 1) := by decide +kernel
theorem dL_matters_21 : decode cL_matters 21 = .ok (.istore 5, 2) := by decide +kernel
theorem dL_matters_23 : decode cL_matters 23 = .ok (.iconst 1, 1) := by decide +kernel
theorem dL_matters_24 : decode cL_matters 24 = .ok (.istore 6, 2) := by decide +kernel
theorem dL_matters_26 : decode cL_matters 26 = .ok (.iconst 0, 1) := by decide +kernel
theorem dL_matters_27 : decode cL_matters 27 = .ok (.istore 7, 2) := by decide +kernel
theorem dL_matters_29 : decode cL_matters 29 = .ok (.iload 7, 2) := by decide +kernel
theorem dL_matters_31 : decode cL_matters 31 = .ok (.bipush 6, 2) := by decide +kernel
theorem dL_matters_33 : decode cL_matters 33 = .ok (.if_icmp .ge 94, 3) := by decide +kernel
theorem dL_matters_36 : decode cL_matters 36 = .ok (.aload_n 0, 1) := by decide +kernel
theorem dL_matters_37 : decode cL_matters 37 = .ok (.iload_n 3, 1) := by decide +kernel
theorem dL_matters_38 : decode cL_matters 38 = .ok (.iload 7, 2) := by decide +kernel
theorem dL_matters_40 : decode cL_matters 40 = .ok (.invokestatic 182, 3) := by decide +kernel
theorem dL_matters_43 : decode cL_matters 43 = .ok (.ifCond .eq 7, 3) := by decide +kernel
theorem dL_matters_46 : decode cL_matters 46 = .ok (.iconst 1, 1) := by decide +kernel
theorem dL_matters_47 : decode cL_matters 47 = .ok (.goto 4, 3) := by decide +kernel
theorem dL_matters_50 : decode cL_matters 50 = .ok (.iconst 0, 1) := by decide +kernel
theorem dL_matters_51 : decode cL_matters 51 = .ok (.istore 8, 2) := by decide +kernel
theorem dL_matters_53 : decode cL_matters 53 = .ok (.iload 4, 2) := by decide +kernel
theorem dL_matters_55 : decode cL_matters 55 = .ok (.iload 8, 2) := by decide +kernel
theorem dL_matters_57 : decode cL_matters 57 = .ok (.ifCond .eq 7, 3) := by decide +kernel
theorem dL_matters_60 : decode cL_matters 60 = .ok (.iconst 1, 1) := by decide +kernel
theorem dL_matters_61 : decode cL_matters 61 = .ok (.goto 4, 3) := by decide +kernel
theorem dL_matters_64 : decode cL_matters 64 = .ok (.iconst 0, 1) := by decide +kernel
theorem dL_matters_65 : decode cL_matters 65 = .ok (.iadd, 1) := by decide +kernel
theorem dL_matters_66 : decode cL_matters 66 = .ok (.istore 4, 2) := by decide +kernel
theorem dL_matters_68 : decode cL_matters 68 = .ok (.iload 5, 2) := by decide +kernel
theorem dL_matters_70 : decode cL_matters 70 = .ok (.aload_n 0, 1) := by decide +kernel
theorem dL_matters_71 : decode cL_matters 71 = .ok (.iload_n 3, 1) := by decide +kernel
theorem dL_matters_72 : decode cL_matters 72 = .ok (.iload 7, 2) := by decide +kernel
theorem dL_matters_74 : decode cL_matters 74 = .ok (.invokestatic 182, 3) := by decide +kernel
theorem dL_matters_77 : decode cL_matters 77 = .ok (.iadd, 1) := by decide +kernel
theorem dL_matters_78 : decode cL_matters 78 = .ok (.istore 5, 2) := by decide +kernel
theorem dL_matters_80 : decode cL_matters 80 = .ok (.iload 6, 2) := by decide +kernel
theorem dL_matters_82 : decode cL_matters 82 = .ok (.ifCond .eq 36, 3) := by decide +kernel
theorem dL_matters_85 : decode cL_matters 85 = .ok (.aload_n 0, 1) := by decide +kernel
theorem dL_matters_86 : decode cL_matters 86 = .ok (.iload_n 3, 1) := by decide +kernel
theorem dL_matters_87 : decode cL_matters 87 = .ok (.iload 7, 2) := by decide +kernel
theorem dL_matters_89 : decode cL_matters 89 = .ok (.invokestatic 160, 3) := by decide +kernel
theorem dL_matters_92 : decode cL_matters 92 = .ok (.iconst (-1), 1) := by decide +kernel
theorem dL_matters_93 : decode cL_matters 93 = .ok (.if_icmp .ne 7, 3) := by decide +kernel
theorem dL_matters_96 : decode cL_matters 96 = .ok (.iconst 1, 1) := by decide +kernel
theorem dL_matters_97 : decode cL_matters 97 = .ok (.goto 4, 3) := by decide +kernel
theorem dL_matters_100 : decode cL_matters 100 = .ok (.iconst 0, 1) := by decide +kernel
theorem dL_matters_101 : decode cL_matters 101 = .ok (.iload 8, 2) := by decide +kernel
theorem dL_matters_103 : decode cL_matters 103 = .ok (.ifCond .ne 7, 3) := by decide +kernel
theorem dL_matters_106 : decode cL_matters 106 = .ok (.iconst 1, 1) := by decide +kernel
theorem dL_matters_107 : decode cL_matters 107 = .ok (.goto 4, 3) := by decide +kernel
theorem dL_matters_110 : decode cL_matters 110 = .ok (.iconst 0, 1) := by decide +kernel
theorem dL_matters_111 : decode cL_matters 111 = .ok (.if_icmp .ne 7, 3) := by decide +kernel
theorem dL_matters_114 : decode cL_matters 114 = .ok (.iconst 1, 1) := by decide +kernel
theorem dL_matters_115 : decode cL_matters 115 = .ok (.goto 4, 3) := by decide +kernel
theorem dL_matters_118 : decode cL_matters 118 = .ok (.iconst 0, 1) := by decide +kernel
theorem dL_matters_119 : decode cL_matters 119 = .ok (.istore 6, 2) := by decide +kernel
theorem dL_matters_121 : decode cL_matters 121 = .ok (.iinc 7 1, 3) := by decide +kernel
theorem dL_matters_124 : decode cL_matters 124 = .ok (.goto (-95), 3) := by decide +kernel
theorem dL_matters_127 : decode cL_matters 127 = .ok (.iload 4, 2) := by decide +kernel
theorem dL_matters_129 : decode cL_matters 129 = .ok (.aload_n 0, 1) := by decide +kernel
theorem dL_matters_130 : decode cL_matters 130 = .ok (.iload_n 3, 1) := by decide +kernel
theorem dL_matters_131 : decode cL_matters 131 = .ok (.iconst 0, 1) := by decide +kernel
theorem dL_matters_132 : decode cL_matters 132 = .ok (.invokestatic 184, 3) := by decide +kernel
theorem dL_matters_135 : decode cL_matters 135 = .ok (.isub, 1) := by decide +kernel
theorem dL_matters_136 : decode cL_matters 136 = .ok (.istore 7, 2) := by decide +kernel
theorem dL_matters_138 : decode cL_matters 138 = .ok (.aload_n 0, 1) := by decide +kernel
theorem dL_matters_139 : decode cL_matters 139 = .ok (.iload_n 3, 1) := by decide +kernel
theorem dL_matters_140 : decode cL_matters 140 = .ok (.iconst 0, 1) := by decide +kernel
theorem dL_matters_141 : decode cL_matters 141 = .ok (.invokestatic 187, 3) := by decide +kernel
theorem dL_matters_144 : decode cL_matters 144 = .ok (.istore 8, 2) := by decide +kernel
theorem dL_matters_146 : decode cL_matters 146 = .ok (.aload_n 0, 1) := by decide +kernel
theorem dL_matters_147 : decode cL_matters 147 = .ok (.iload_n 3, 1) := by decide +kernel
theorem dL_matters_148 : decode cL_matters 148 = .ok (.invokestatic 190, 3) := by decide +kernel
theorem dL_matters_151 : decode cL_matters 151 = .ok (.istore 9, 2) := by decide +kernel
theorem dL_matters_153 : decode cL_matters 153 = .ok (.aload_n 1, 1) := by decide +kernel
theorem dL_matters_154 : decode cL_matters 154 = .ok (.iload 8, 2) := by decide +kernel
theorem dL_matters_156 : decode cL_matters 156 = .ok (.dup2, 1) := by decide +kernel
theorem dL_matters_157 : decode cL_matters 157 = .ok (.iaload, 1) := by decide +kernel
theorem dL_matters_158 : decode cL_matters 158 = .ok (.iconst 1, 1) := by decide +kernel
theorem dL_matters_159 : decode cL_matters 159 = .ok (.iadd, 1) := by decide +kernel
theorem dL_matters_160 : decode cL_matters 160 = .ok (.iastore, 1) := by decide +kernel
theorem dL_matters_161 : decode cL_matters 161 = .ok (.iload_n 2, 1) := by decide +kernel
theorem dL_matters_162 : decode cL_matters 162 = .ok (.iload 4, 2) := by decide +kernel
theorem dL_matters_164 : decode cL_matters 164 = .ok (.ifCond .le 25, 3) := by decide +kernel
theorem dL_matters_167 : decode cL_matters 167 = .ok (.aload_n 0, 1) := by decide +kernel
theorem dL_matters_168 : decode cL_matters 168 = .ok (.iload_n 3, 1) := by decide +kernel
theorem dL_matters_169 : decode cL_matters 169 = .ok (.iconst 3, 1) := by decide +kernel
theorem dL_matters_170 : decode cL_matters 170 = .ok (.invokestatic 184, 3) := by decide +kernel
theorem dL_matters_173 : decode cL_matters 173 = .ok (.aload_n 0, 1) := by decide +kernel
theorem dL_matters_174 : decode cL_matters 174 = .ok (.iload_n 3, 1) := by decide +kernel
theorem dL_matters_175 : decode cL_matters 175 = .ok (.iconst 4, 1) := by decide +kernel
theorem dL_matters_176 : decode cL_matters 176 = .ok (.invokestatic 184, 3) := by decide +kernel
theorem dL_matters_179 : decode cL_matters 179 = .ok (.iadd, 1) := by decide +kernel
theorem dL_matters_180 : decode cL_matters 180 = .ok (.iload 4, 2) := by decide +kernel
theorem dL_matters_182 : decode cL_matters 182 = .ok (.if_icmp .ne 7, 3) := by decide +kernel
theorem dL_matters_185 : decode cL_matters 185 = .ok (.iconst 1, 1) := by decide +kernel
theorem dL_matters_186 : decode cL_matters 186 = .ok (.goto 4, 3) := by decide +kernel
theorem dL_matters_189 : decode cL_matters 189 = .ok (.iconst 0, 1) := by decide +kernel
theorem dL_matters_190 : decode cL_matters 190 = .ok (.iadd, 1) := by decide +kernel
theorem dL_matters_191 : decode cL_matters 191 = .ok (.istore_n 2, 1) := by decide +kernel
theorem dL_matters_192 : decode cL_matters 192 = .ok (.iload 6, 2) := by decide +kernel
theorem dL_matters_194 : decode cL_matters 194 = .ok (.ifCond .eq 115, 3) := by decide +kernel
theorem dL_matters_197 : decode cL_matters 197 = .ok (.aload_n 0, 1) := by decide +kernel
theorem dL_matters_198 : decode cL_matters 198 = .ok (.iload_n 3, 1) := by decide +kernel
theorem dL_matters_199 : decode cL_matters 199 = .ok (.iconst 1, 1) := by decide +kernel
theorem dL_matters_200 : decode cL_matters 200 = .ok (.invokestatic 187, 3) := by decide +kernel
theorem dL_matters_203 : decode cL_matters 203 = .ok (.iload 4, 2) := by decide +kernel
theorem dL_matters_205 : decode cL_matters 205 = .ok (.if_icmp .ne 104, 3) := by decide +kernel
theorem dL_matters_208 : decode cL_matters 208 = .ok (.aload_n 0, 1) := by decide +kernel
theorem dL_matters_209 : decode cL_matters 209 = .ok (.iload_n 3, 1) := by decide +kernel
theorem dL_matters_210 : decode cL_matters 210 = .ok (.iconst 2, 1) := by decide +kernel
theorem dL_matters_211 : decode cL_matters 211 = .ok (.invokestatic 187, 3) := by decide +kernel
theorem dL_matters_214 : decode cL_matters 214 = .ok (.iload 7, 2) := by decide +kernel
theorem dL_matters_216 : decode cL_matters 216 = .ok (.if_icmp .ne 93, 3) := by decide +kernel
theorem dL_matters_219 : decode cL_matters 219 = .ok (.aload_n 0, 1) := by decide +kernel
theorem dL_matters_220 : decode cL_matters 220 = .ok (.iload_n 3, 1) := by decide +kernel
theorem dL_matters_221 : decode cL_matters 221 = .ok (.iconst 3, 1) := by decide +kernel
theorem dL_matters_222 : decode cL_matters 222 = .ok (.invokestatic 187, 3) := by decide +kernel
theorem dL_matters_225 : decode cL_matters 225 = .ok (.aload_n 0, 1) := by decide +kernel
theorem dL_matters_226 : decode cL_matters 226 = .ok (.iload_n 3, 1) := by decide +kernel
theorem dL_matters_227 : decode cL_matters 227 = .ok (.iconst 1, 1) := by decide +kernel
theorem dL_matters_228 : decode cL_matters 228 = .ok (.invokestatic 184, 3) := by decide +kernel
theorem dL_matters_231 : decode cL_matters 231 = .ok (.if_icmp .ne 78, 3) := by decide +kernel
theorem dL_matters_234 : decode cL_matters 234 = .ok (.aload_n 0, 1) := by decide +kernel
theorem dL_matters_235 : decode cL_matters 235 = .ok (.iload_n 3, 1) := by decide +kernel
theorem dL_matters_236 : decode cL_matters 236 = .ok (.iconst 4, 1) := by decide +kernel
theorem dL_matters_237 : decode cL_matters 237 = .ok (.invokestatic 187, 3) := by decide +kernel
theorem dL_matters_240 : decode cL_matters 240 = .ok (.aload_n 0, 1) := by decide +kernel
theorem dL_matters_241 : decode cL_matters 241 = .ok (.iload_n 3, 1) := by decide +kernel
theorem dL_matters_242 : decode cL_matters 242 = .ok (.iconst 2, 1) := by decide +kernel
theorem dL_matters_243 : decode cL_matters 243 = .ok (.invokestatic 184, 3) := by decide +kernel
theorem dL_matters_246 : decode cL_matters 246 = .ok (.if_icmp .ne 63, 3) := by decide +kernel
theorem dL_matters_249 : decode cL_matters 249 = .ok (.aload_n 0, 1) := by decide +kernel
theorem dL_matters_250 : decode cL_matters 250 = .ok (.iload_n 3, 1) := by decide +kernel
theorem dL_matters_251 : decode cL_matters 251 = .ok (.iconst 5, 1) := by decide +kernel
theorem dL_matters_252 : decode cL_matters 252 = .ok (.invokestatic 187, 3) := by decide +kernel
theorem dL_matters_255 : decode cL_matters 255 = .ok (.aload_n 0, 1) := by decide +kernel
theorem dL_matters_256 : decode cL_matters 256 = .ok (.iload_n 3, 1) := by decide +kernel
theorem dL_matters_257 : decode cL_matters 257 = .ok (.iconst 3, 1) := by decide +kernel
theorem dL_matters_258 : decode cL_matters 258 = .ok (.invokestatic 184, 3) := by decide +kernel
theorem dL_matters_261 : decode cL_matters 261 = .ok (.aload_n 0, 1) := by decide +kernel
theorem dL_matters_262 : decode cL_matters 262 = .ok (.iload_n 3, 1) := by decide +kernel
theorem dL_matters_263 : decode cL_matters 263 = .ok (.iconst 4, 1) := by decide +kernel
theorem dL_matters_264 : decode cL_matters 264 = .ok (.invokestatic 184, 3) := by decide +kernel
theorem dL_matters_267 : decode cL_matters 267 = .ok (.iadd, 1) := by decide +kernel
theorem dL_matters_268 : decode cL_matters 268 = .ok (.if_icmp .ne 41, 3) := by decide +kernel
theorem dL_matters_271 : decode cL_matters 271 = .ok (.aload_n 0, 1) := by decide +kernel
theorem dL_matters_272 : decode cL_matters 272 = .ok (.iload_n 3, 1) := by decide +kernel
theorem dL_matters_273 : decode cL_matters 273 = .ok (.bipush 6, 2) := by decide +kernel
theorem dL_matters_275 : decode cL_matters 275 = .ok (.invokestatic 187, 3) := by decide +kernel
theorem dL_matters_278 : decode cL_matters 278 = .ok (.iload 5, 2) := by decide +kernel
theorem dL_matters_280 : decode cL_matters 280 = .ok (.if_icmp .ne 29, 3) := by decide +kernel
theorem dL_matters_283 : decode cL_matters 283 = .ok (.aload_n 0, 1) := by decide +kernel
theorem dL_matters_284 : decode cL_matters 284 = .ok (.iload_n 3, 1) := by decide +kernel
theorem dL_matters_285 : decode cL_matters 285 = .ok (.bipush 7, 2) := by decide +kernel
theorem dL_matters_287 : decode cL_matters 287 = .ok (.invokestatic 187, 3) := by decide +kernel
theorem dL_matters_290 : decode cL_matters 290 = .ok (.ifCond .ne 19, 3) := by decide +kernel
theorem dL_matters_293 : decode cL_matters 293 = .ok (.aload_n 0, 1) := by decide +kernel
theorem dL_matters_294 : decode cL_matters 294 = .ok (.iload_n 3, 1) := by decide +kernel
theorem dL_matters_295 : decode cL_matters 295 = .ok (.bipush 8, 2) := by decide +kernel
theorem dL_matters_297 : decode cL_matters 297 = .ok (.invokestatic 187, 3) := by decide +kernel
theorem dL_matters_300 : decode cL_matters 300 = .ok (.bipush (-12), 2) := by decide +kernel
theorem dL_matters_302 : decode cL_matters 302 = .ok (.if_icmp .ne 7, 3) := by decide +kernel
theorem dL_matters_305 : decode cL_matters 305 = .ok (.iconst 1, 1) := by decide +kernel
theorem dL_matters_306 : decode cL_matters 306 = .ok (.goto 4, 3) := by decide +kernel
theorem dL_matters_309 : decode cL_matters 309 = .ok (.iconst 0, 1) := by decide +kernel
theorem dL_matters_310 : decode cL_matters 310 = .ok (.istore 6, 2) := by decide +kernel
theorem dL_matters_312 : decode cL_matters 312 = .ok (.iload 6, 2) := by decide +kernel
theorem dL_matters_314 : decode cL_matters 314 = .ok (.ifCond .eq 55, 3) := by decide +kernel
theorem dL_matters_317 : decode cL_matters 317 = .ok (.aload_n 0, 1) := by decide +kernel
theorem dL_matters_318 : decode cL_matters 318 = .ok (.iload_n 3, 1) := by decide +kernel
theorem dL_matters_319 : decode cL_matters 319 = .ok (.iconst 3, 1) := by decide +kernel
theorem dL_matters_320 : decode cL_matters 320 = .ok (.invokestatic 184, 3) := by decide +kernel
theorem dL_matters_323 : decode cL_matters 323 = .ok (.ifCond .eq 18, 3) := by decide +kernel
theorem dL_matters_326 : decode cL_matters 326 = .ok (.iload 8, 2) := by decide +kernel
theorem dL_matters_328 : decode cL_matters 328 = .ok (.iconst 1, 1) := by decide +kernel
theorem dL_matters_329 : decode cL_matters 329 = .ok (.if_icmp .ne 40, 3) := by decide +kernel
theorem dL_matters_332 : decode cL_matters 332 = .ok (.aload_n 0, 1) := by decide +kernel
theorem dL_matters_333 : decode cL_matters 333 = .ok (.iload_n 3, 1) := by decide +kernel
theorem dL_matters_334 : decode cL_matters 334 = .ok (.iconst 4, 1) := by decide +kernel
theorem dL_matters_335 : decode cL_matters 335 = .ok (.invokestatic 184, 3) := by decide +kernel
theorem dL_matters_338 : decode cL_matters 338 = .ok (.ifCond .ne 31, 3) := by decide +kernel
theorem dL_matters_341 : decode cL_matters 341 = .ok (.iload 8, 2) := by decide +kernel
theorem dL_matters_343 : decode cL_matters 343 = .ok (.iconst 1, 1) := by decide +kernel
theorem dL_matters_344 : decode cL_matters 344 = .ok (.if_icmp .ne 21, 3) := by decide +kernel
theorem dL_matters_347 : decode cL_matters 347 = .ok (.aload_n 0, 1) := by decide +kernel
theorem dL_matters_348 : decode cL_matters 348 = .ok (.iload_n 3, 1) := by decide +kernel
theorem dL_matters_349 : decode cL_matters 349 = .ok (.iconst 1, 1) := by decide +kernel
theorem dL_matters_350 : decode cL_matters 350 = .ok (.invokestatic 184, 3) := by decide +kernel
theorem dL_matters_353 : decode cL_matters 353 = .ok (.aload_n 0, 1) := by decide +kernel
theorem dL_matters_354 : decode cL_matters 354 = .ok (.iload_n 3, 1) := by decide +kernel
theorem dL_matters_355 : decode cL_matters 355 = .ok (.iconst 3, 1) := by decide +kernel
theorem dL_matters_356 : decode cL_matters 356 = .ok (.invokestatic 184, 3) := by decide +kernel
theorem dL_matters_359 : decode cL_matters 359 = .ok (.iadd, 1) := by decide +kernel
theorem dL_matters_360 : decode cL_matters 360 = .ok (.iload 4, 2) := by decide +kernel
theorem dL_matters_362 : decode cL_matters 362 = .ok (.if_icmp .ne 7, 3) := by decide +kernel
theorem dL_matters_365 : decode cL_matters 365 = .ok (.iconst 1, 1) := by decide +kernel
theorem dL_matters_366 : decode cL_matters 366 = .ok (.goto 4, 3) := by decide +kernel
theorem dL_matters_369 : decode cL_matters 369 = .ok (.iconst 0, 1) := by decide +kernel
theorem dL_matters_370 : decode cL_matters 370 = .ok (.istore 6, 2) := by decide +kernel
theorem dL_matters_372 : decode cL_matters 372 = .ok (.iconst 1, 1) := by decide +kernel
theorem dL_matters_373 : decode cL_matters 373 = .ok (.istore 10, 2) := by decide +kernel
theorem dL_matters_375 : decode cL_matters 375 = .ok (.iconst 0, 1) := by decide +kernel
theorem dL_matters_376 : decode cL_matters 376 = .ok (.istore 11, 2) := by decide +kernel
theorem dL_matters_378 : decode cL_matters 378 = .ok (.iload 11, 2) := by decide +kernel
theorem dL_matters_380 : decode cL_matters 380 = .ok (.bipush 6, 2) := by decide +kernel
theorem dL_matters_382 : decode cL_matters 382 = .ok (.if_icmp .ge 74, 3) := by decide +kernel
theorem dL_matters_385 : decode cL_matters 385 = .ok (.aload_n 0, 1) := by decide +kernel
theorem dL_matters_386 : decode cL_matters 386 = .ok (.iload_n 3, 1) := by decide +kernel
theorem dL_matters_387 : decode cL_matters 387 = .ok (.iload 11, 2) := by decide +kernel
theorem dL_matters_389 : decode cL_matters 389 = .ok (.invokestatic 160, 3) := by decide +kernel
theorem dL_matters_392 : decode cL_matters 392 = .ok (.istore 12, 2) := by decide +kernel
theorem dL_matters_394 : decode cL_matters 394 = .ok (.iload 10, 2) := by decide +kernel
theorem dL_matters_396 : decode cL_matters 396 = .ok (.ifCond .eq 51, 3) := by decide +kernel
theorem dL_matters_399 : decode cL_matters 399 = .ok (.iload 12, 2) := by decide +kernel
theorem dL_matters_401 : decode cL_matters 401 = .ok (.iconst (-1), 1) := by decide +kernel
theorem dL_matters_402 : decode cL_matters 402 = .ok (.if_icmp .eq 41, 3) := by decide +kernel
theorem dL_matters_405 : decode cL_matters 405 = .ok (.iload 12, 2) := by decide +kernel
theorem dL_matters_407 : decode cL_matters 407 = .ok (.iconst 1, 1) := by decide +kernel
theorem dL_matters_408 : decode cL_matters 408 = .ok (.if_icmp .eq 35, 3) := by decide +kernel
theorem dL_matters_411 : decode cL_matters 411 = .ok (.iload 12, 2) := by decide +kernel
theorem dL_matters_413 : decode cL_matters 413 = .ok (.ifCond .ne 34, 3) := by decide +kernel
theorem dL_matters_416 : decode cL_matters 416 = .ok (.aload_n 0, 1) := by decide +kernel
theorem dL_matters_417 : decode cL_matters 417 = .ok (.iload 11, 2) := by decide +kernel
theorem dL_matters_419 : decode cL_matters 419 = .ok (.invokestatic 192, 3) := by decide +kernel
theorem dL_matters_422 : decode cL_matters 422 = .ok (.ifCond .ge 25, 3) := by decide +kernel
theorem dL_matters_425 : decode cL_matters 425 = .ok (.aload_n 0, 1) := by decide +kernel
theorem dL_matters_426 : decode cL_matters 426 = .ok (.iload 11, 2) := by decide +kernel
theorem dL_matters_428 : decode cL_matters 428 = .ok (.iconst 0, 1) := by decide +kernel
theorem dL_matters_429 : decode cL_matters 429 = .ok (.invokestatic 149, 3) := by decide +kernel
theorem dL_matters_432 : decode cL_matters 432 = .ok (.aload_n 0, 1) := by decide +kernel
theorem dL_matters_433 : decode cL_matters 433 = .ok (.iload_n 3, 1) := by decide +kernel
theorem dL_matters_434 : decode cL_matters 434 = .ok (.iload 11, 2) := by decide +kernel
theorem dL_matters_436 : decode cL_matters 436 = .ok (.invokestatic 182, 3) := by decide +kernel
theorem dL_matters_439 : decode cL_matters 439 = .ok (.iadd, 1) := by decide +kernel
theorem dL_matters_440 : decode cL_matters 440 = .ok (.ifCond .lt 7, 3) := by decide +kernel
theorem dL_matters_443 : decode cL_matters 443 = .ok (.iconst 1, 1) := by decide +kernel
theorem dL_matters_444 : decode cL_matters 444 = .ok (.goto 4, 3) := by decide +kernel
theorem dL_matters_447 : decode cL_matters 447 = .ok (.iconst 0, 1) := by decide +kernel
theorem dL_matters_448 : decode cL_matters 448 = .ok (.istore 10, 2) := by decide +kernel
theorem dL_matters_450 : decode cL_matters 450 = .ok (.iinc 11 1, 3) := by decide +kernel
theorem dL_matters_453 : decode cL_matters 453 = .ok (.goto (-75), 3) := by decide +kernel
theorem dL_matters_456 : decode cL_matters 456 = .ok (.iload 6, 2) := by decide +kernel
theorem dL_matters_458 : decode cL_matters 458 = .ok (.ifCond .eq 56, 3) := by decide +kernel
theorem dL_matters_461 : decode cL_matters 461 = .ok (.iload 9, 2) := by decide +kernel
theorem dL_matters_463 : decode cL_matters 463 = .ok (.iload 8, 2) := by decide +kernel
theorem dL_matters_465 : decode cL_matters 465 = .ok (.ifCond .ne 8, 3) := by decide +kernel
theorem dL_matters_468 : decode cL_matters 468 = .ok (.iload 4, 2) := by decide +kernel
theorem dL_matters_470 : decode cL_matters 470 = .ok (.ifCond .ne 8, 3) := by decide +kernel
theorem dL_matters_473 : decode cL_matters 473 = .ok (.bipush (-14), 2) := by decide +kernel
theorem dL_matters_475 : decode cL_matters 475 = .ok (.goto 13, 3) := by decide +kernel
theorem dL_matters_478 : decode cL_matters 478 = .ok (.iload 10, 2) := by decide +kernel
theorem dL_matters_480 : decode cL_matters 480 = .ok (.ifCond .eq 7, 3) := by decide +kernel
theorem dL_matters_483 : decode cL_matters 483 = .ok (.iconst 1, 1) := by decide +kernel
theorem dL_matters_484 : decode cL_matters 484 = .ok (.goto 4, 3) := by decide +kernel
theorem dL_matters_487 : decode cL_matters 487 = .ok (.iconst 0, 1) := by decide +kernel
theorem dL_matters_488 : decode cL_matters 488 = .ok (.if_icmp .ne 26, 3) := by decide +kernel
theorem dL_matters_491 : decode cL_matters 491 = .ok (.aload_n 0, 1) := by decide +kernel
theorem dL_matters_492 : decode cL_matters 492 = .ok (.iload_n 3, 1) := by decide +kernel
theorem dL_matters_493 : decode cL_matters 493 = .ok (.bipush 6, 2) := by decide +kernel
theorem dL_matters_495 : decode cL_matters 495 = .ok (.invokestatic 160, 3) := by decide +kernel
theorem dL_matters_498 : decode cL_matters 498 = .ok (.bipush (-11), 2) := by decide +kernel
theorem dL_matters_500 : decode cL_matters 500 = .ok (.if_icmp .ne 14, 3) := by decide +kernel
theorem dL_matters_503 : decode cL_matters 503 = .ok (.aload_n 0, 1) := by decide +kernel
theorem dL_matters_504 : decode cL_matters 504 = .ok (.iload_n 3, 1) := by decide +kernel
theorem dL_matters_505 : decode cL_matters 505 = .ok (.iconst (-1), 1) := by decide +kernel
theorem dL_matters_506 : decode cL_matters 506 = .ok (.invokestatic 182, 3) := by decide +kernel
theorem dL_matters_509 : decode cL_matters 509 = .ok (.bipush (-111), 2) := by decide +kernel
theorem dL_matters_511 : decode cL_matters 511 = .ok (.if_icmp .eq 5, 3) := by decide +kernel
theorem dL_matters_514 : decode cL_matters 514 = .ok (.iconst 0, 1) := by decide +kernel
theorem dL_matters_515 : decode cL_matters 515 = .ok (.ireturn, 1) := by decide +kernel
theorem dL_matters_516 : decode cL_matters 516 = .ok (.iinc 3 1, 3) := by decide +kernel
theorem dL_matters_519 : decode cL_matters 519 = .ok (.goto (-511), 3) := by decide +kernel
theorem dL_matters_522 : decode cL_matters 522 = .ok (.aload_n 1, 1) := by decide +kernel
theorem dL_matters_523 : decode cL_matters 523 = .ok (.iconst 1, 1) := by decide +kernel
theorem dL_matters_524 : decode cL_matters 524 = .ok (.iaload, 1) := by decide +kernel
theorem dL_matters_525 : decode cL_matters 525 = .ok (.aload_n 1, 1) := by decide +kernel
theorem dL_matters_526 : decode cL_matters 526 = .ok (.iconst 2, 1) := by decide +kernel
theorem dL_matters_527 : decode cL_matters 527 = .ok (.iaload, 1) := by decide +kernel
theorem dL_matters_528 : decode cL_matters 528 = .ok (.iadd, 1) := by decide +kernel
theorem dL_matters_529 : decode cL_matters 529 = .ok (.ifCond .eq 24, 3) := by decide +kernel
theorem dL_matters_532 : decode cL_matters 532 = .ok (.aload_n 0, 1) := by decide +kernel
theorem dL_matters_533 : decode cL_matters 533 = .ok (.invokevirtual 195, 3) := by decide +kernel
theorem dL_matters_536 : decode cL_matters 536 = .ok (.aload_n 1, 1) := by decide +kernel
theorem dL_matters_537 : decode cL_matters 537 = .ok (.iconst 1, 1) := by decide +kernel
theorem dL_matters_538 : decode cL_matters 538 = .ok (.iaload, 1) := by decide +kernel
theorem dL_matters_539 : decode cL_matters 539 = .ok (.i2f, 1) := by decide +kernel
theorem dL_matters_540 : decode cL_matters 540 = .ok (.aload_n 1, 1) := by decide +kernel
theorem dL_matters_541 : decode cL_matters 541 = .ok (.iconst 1, 1) := by decide +kernel
theorem dL_matters_542 : decode cL_matters 542 = .ok (.iaload, 1) := by decide +kernel
theorem dL_matters_543 : decode cL_matters 543 = .ok (.aload_n 1, 1) := by decide +kernel
theorem dL_matters_544 : decode cL_matters 544 = .ok (.iconst 2, 1) := by decide +kernel
theorem dL_matters_545 : decode cL_matters 545 = .ok (.iaload, 1) := by decide +kernel
theorem dL_matters_546 : decode cL_matters 546 = .ok (.iadd, 1) := by decide +kernel
theorem dL_matters_547 : decode cL_matters 547 = .ok (.i2f, 1) := by decide +kernel
theorem dL_matters_548 : decode cL_matters 548 = .ok (.fdiv, 1) := by decide +kernel
theorem dL_matters_549 : decode cL_matters 549 = .ok (.fcmp .l, 1) := by decide +kernel
theorem dL_matters_550 : decode cL_matters 550 = .ok (.ifCond .ne 7, 3) := by decide +kernel
theorem dL_matters_553 : decode cL_matters 553 = .ok (.iconst 1, 1) := by decide +kernel
theorem dL_matters_554 : decode cL_matters 554 = .ok (.goto 4, 3) := by decide +kernel
theorem dL_matters_557 : decode cL_matters 557 = .ok (.iconst 0, 1) := by decide +kernel
theorem dL_matters_558 : decode cL_matters 558 = .ok (.istore_n 3, 1) := by decide +kernel
theorem dL_matters_559 : decode cL_matters 559 = .ok (.iload_n 3, 1) := by decide +kernel
theorem dL_matters_560 : decode cL_matters 560 = .ok (.ifCond .eq 91, 3) := by decide +kernel
theorem dL_matters_563 : decode cL_matters 563 = .ok (.aload_n 0, 1) := by decide +kernel
theorem dL_matters_564 : decode cL_matters 564 = .ok (.iconst 1, 1) := by decide +kernel
theorem dL_matters_565 : decode cL_matters 565 = .ok (.invokevirtual 157, 3) := by decide +kernel
theorem dL_matters_568 : decode cL_matters 568 = .ok (.aload_n 1, 1) := by decide +kernel
theorem dL_matters_569 : decode cL_matters 569 = .ok (.iconst 0, 1) := by decide +kernel
theorem dL_matters_570 : decode cL_matters 570 = .ok (.iaload, 1) := by decide +kernel
theorem dL_matters_571 : decode cL_matters 571 = .ok (.if_icmp .ne 80, 3) := by decide +kernel
theorem dL_matters_574 : decode cL_matters 574 = .ok (.aload_n 0, 1) := by decide +kernel
theorem dL_matters_575 : decode cL_matters 575 = .ok (.iconst 2, 1) := by decide +kernel
theorem dL_matters_576 : decode cL_matters 576 = .ok (.invokevirtual 157, 3) := by decide +kernel
theorem dL_matters_579 : decode cL_matters 579 = .ok (.aload_n 1, 1) := by decide +kernel
theorem dL_matters_580 : decode cL_matters 580 = .ok (.iconst 1, 1) := by decide +kernel
theorem dL_matters_581 : decode cL_matters 581 = .ok (.iaload, 1) := by decide +kernel
theorem dL_matters_582 : decode cL_matters 582 = .ok (.if_icmp .ne 69, 3) := by decide +kernel
theorem dL_matters_585 : decode cL_matters 585 = .ok (.aload_n 0, 1) := by decide +kernel
theorem dL_matters_586 : decode cL_matters 586 = .ok (.iconst 3, 1) := by decide +kernel
theorem dL_matters_587 : decode cL_matters 587 = .ok (.invokevirtual 157, 3) := by decide +kernel
theorem dL_matters_590 : decode cL_matters 590 = .ok (.aload_n 1, 1) := by decide +kernel
theorem dL_matters_591 : decode cL_matters 591 = .ok (.iconst 2, 1) := by decide +kernel
theorem dL_matters_592 : decode cL_matters 592 = .ok (.iaload, 1) := by decide +kernel
theorem dL_matters_593 : decode cL_matters 593 = .ok (.if_icmp .ne 58, 3) := by decide +kernel
theorem dL_matters_596 : decode cL_matters 596 = .ok (.aload_n 0, 1) := by decide +kernel
theorem dL_matters_597 : decode cL_matters 597 = .ok (.bipush 10, 2) := by decide +kernel
theorem dL_matters_599 : decode cL_matters 599 = .ok (.invokevirtual 157, 3) := by decide +kernel
theorem dL_matters_602 : decode cL_matters 602 = .ok (.iload_n 2, 1) := by decide +kernel
theorem dL_matters_603 : decode cL_matters 603 = .ok (.if_icmp .ne 48, 3) := by decide +kernel
theorem dL_matters_606 : decode cL_matters 606 = .ok (.aload_n 0, 1) := by decide +kernel
theorem dL_matters_607 : decode cL_matters 607 = .ok (.aload_n 0, 1) := by decide +kernel
theorem dL_matters_608 : decode cL_matters 608 = .ok (.iconst 0, 1) := by decide +kernel
theorem dL_matters_609 : decode cL_matters 609 = .ok (.invokevirtual 157, 3) := by decide +kernel
theorem dL_matters_612 : decode cL_matters 612 = .ok (.iconst 0, 1) := by decide +kernel
theorem dL_matters_613 : decode cL_matters 613 = .ok (.invokestatic 187, 3) := by decide +kernel
theorem dL_matters_616 : decode cL_matters 616 = .ok (.bipush (-13), 2) := by decide +kernel
theorem dL_matters_618 : decode cL_matters 618 = .ok (.if_icmp .ne 33, 3) := by decide +kernel
theorem dL_matters_621 : decode cL_matters 621 = .ok (.aload_n 0, 1) := by decide +kernel
theorem dL_matters_622 : decode cL_matters 622 = .ok (.aload_n 0, 1) := by decide +kernel
theorem dL_matters_623 : decode cL_matters 623 = .ok (.iconst 0, 1) := by decide +kernel
theorem dL_matters_624 : decode cL_matters 624 = .ok (.invokevirtual 157, 3) := by decide +kernel
theorem dL_matters_627 : decode cL_matters 627 = .ok (.bipush 9, 2) := by decide +kernel
theorem dL_matters_629 : decode cL_matters 629 = .ok (.invokestatic 160, 3) := by decide +kernel
theorem dL_matters_632 : decode cL_matters 632 = .ok (.bipush (-13), 2) := by decide +kernel
theorem dL_matters_634 : decode cL_matters 634 = .ok (.if_icmp .ne 17, 3) := by decide +kernel
theorem dL_matters_637 : decode cL_matters 637 = .ok (.aload_n 0, 1) := by decide +kernel
theorem dL_matters_638 : decode cL_matters 638 = .ok (.iconst (-1), 1) := by decide +kernel
theorem dL_matters_639 : decode cL_matters 639 = .ok (.invokestatic 190, 3) := by decide +kernel
theorem dL_matters_642 : decode cL_matters 642 = .ok (.bipush (-13), 2) := by decide +kernel
theorem dL_matters_644 : decode cL_matters 644 = .ok (.if_icmp .ne 7, 3) := by decide +kernel
theorem dL_matters_647 : decode cL_matters 647 = .ok (.iconst 1, 1) := by decide +kernel
theorem dL_matters_648 : decode cL_matters 648 = .ok (.goto 4, 3) := by decide +kernel
theorem dL_matters_651 : decode cL_matters 651 = .ok (.iconst 0, 1) := by decide +kernel
theorem dL_matters_652 : decode cL_matters 652 = .ok (.ireturn, 1) := by decide +kernel
theorem dL_guilds_0 : decode cL_guilds 0 = .ok (.iconst 0, 1) := by decide +kernel
theorem dL_guilds_1 : decode cL_guilds 1 = .ok (.istore_n 1, 1) := by decide +kernel
theorem dL_guilds_2 : decode cL_guilds 2 = .ok (.bipush 120, 2) := by decide +kernel
theorem dL_guilds_4 : decode cL_guilds 4 = .ok (.istore_n 2, 1) := by decide +kernel
theorem dL_guilds_5 : decode cL_guilds 5 = .ok (.iconst 0, 1) := by decide +kernel
theorem dL_guilds_6 : decode cL_guilds 6 = .ok (.istore_n 3, 1) := by decide +kernel
theorem dL_guilds_7 : decode cL_guilds 7 = .ok (.iconst 0, 1) := by decide +kernel
theorem dL_guilds_8 : decode cL_guilds 8 = .ok (.istore 4, 2) := by decide +kernel
theorem dL_guilds_10 : decode cL_guilds 10 = .ok (.iconst 0, 1) := by decide +kernel
theorem dL_guilds_11 : decode cL_guilds 11 = .ok (.istore 5, 2) := by decide +kernel
theorem dL_guilds_13 : decode cL_guilds 13 = .ok (.iconst (-1), 1) := by decide +kernel
theorem dL_guilds_14 : decode cL_guilds 14 = .ok (.istore 6, 2) := by decide +kernel
theorem dL_guilds_16 : decode cL_guilds 16 = .ok (.iconst 0, 1) := by decide +kernel
theorem dL_guilds_17 : decode cL_guilds 17 = .ok (.istore 7, 2) := by decide +kernel
theorem dL_guilds_19 : decode cL_guilds 19 = .ok (.iload 7, 2) := by decide +kernel
theorem dL_guilds_21 : decode cL_guilds 21 = .ok (.bipush 6, 2) := by decide +kernel
theorem dL_guilds_23 : decode cL_guilds 23 = .ok (.if_icmp .ge 441, 3) := by decide +kernel
theorem dL_guilds_26 : decode cL_guilds 26 = .ok (.iconst 0, 1) := by decide +kernel
theorem dL_guilds_27 : decode cL_guilds 27 = .ok (.istore 8, 2) := by decide +kernel
theorem dL_guilds_29 : decode cL_guilds 29 = .ok (.iconst 0, 1) := by decide +kernel
theorem dL_guilds_30 : decode cL_guilds 30 = .ok (.istore 9, 2) := by decide +kernel
theorem dL_guilds_32 : decode cL_guilds 32 = .ok (.iconst 0, 1) := by decide +kernel
theorem dL_guilds_33 : decode cL_guilds 33 = .ok (.istore 10, 2) := by decide +kernel
theorem dL_guilds_35 : decode cL_guilds 35 = .ok (.bipush 20, 2) := by decide +kernel
theorem dL_guilds_37 : decode cL_guilds 37 = .ok (.istore 11, 2) := by decide +kernel
theorem dL_guilds_39 : decode cL_guilds 39 = .ok (.iconst 0, 1) := by decide +kernel
theorem dL_guilds_40 : decode cL_guilds 40 = .ok (.istore 12, 2) := by decide +kernel
theorem dL_guilds_42 : decode cL_guilds 42 = .ok (.iload 12, 2) := by decide +kernel
theorem dL_guilds_44 : decode cL_guilds 44 = .ok (.aload_n 0, 1) := by decide +kernel
theorem dL_guilds_45 : decode cL_guilds 45 = .ok (.iconst 0, 1) := by decide +kernel
theorem dL_guilds_46 : decode cL_guilds 46 = .ok (.invokevirtual 157, 3) := by decide +kernel
theorem dL_guilds_49 : decode cL_guilds 49 = .ok (.if_icmp .ge 104, 3) := by decide +kernel
theorem dL_guilds_52 : decode cL_guilds 52 = .ok (.iload 8, 2) := by decide +kernel
theorem dL_guilds_54 : decode cL_guilds 54 = .ok (.aload_n 0, 1) := by decide +kernel
theorem dL_guilds_55 : decode cL_guilds 55 = .ok (.iload 12, 2) := by decide +kernel
theorem dL_guilds_57 : decode cL_guilds 57 = .ok (.iload 7, 2) := by decide +kernel
theorem dL_guilds_59 : decode cL_guilds 59 = .ok (.invokestatic 160, 3) := by decide +kernel
theorem dL_guilds_62 : decode cL_guilds 62 = .ok (.iconst 3, 1) := by decide +kernel
theorem dL_guilds_63 : decode cL_guilds 63 = .ok (.if_icmp .ne 7, 3) := by decide +kernel
theorem dL_guilds_66 : decode cL_guilds 66 = .ok (.iconst 1, 1) := by decide +kernel
theorem dL_guilds_67 : decode cL_guilds 67 = .ok (.goto 4, 3) := by decide +kernel
theorem dL_guilds_70 : decode cL_guilds 70 = .ok (.iconst 0, 1) := by decide +kernel
theorem dL_guilds_71 : decode cL_guilds 71 = .ok (.iadd, 1) := by decide +kernel
theorem dL_guilds_72 : decode cL_guilds 72 = .ok (.istore 8, 2) := by decide +kernel
theorem dL_guilds_74 : decode cL_guilds 74 = .ok (.iload 9, 2) := by decide +kernel
theorem dL_guilds_76 : decode cL_guilds 76 = .ok (.aload_n 0, 1) := by decide +kernel
theorem dL_guilds_77 : decode cL_guilds 77 = .ok (.iload 12, 2) := by decide +kernel
theorem dL_guilds_79 : decode cL_guilds 79 = .ok (.iload 7, 2) := by decide +kernel
theorem dL_guilds_81 : decode cL_guilds 81 = .ok (.invokestatic 160, 3) := by decide +kernel
theorem dL_guilds_84 : decode cL_guilds 84 = .ok (.iconst 4, 1) := by decide +kernel
theorem dL_guilds_85 : decode cL_guilds 85 = .ok (.if_icmp .ne 7, 3) := by decide +kernel
theorem dL_guilds_88 : decode cL_guilds 88 = .ok (.iconst 1, 1) := by decide +kernel
theorem dL_guilds_89 : decode cL_guilds 89 = .ok (.goto 4, 3) := by decide +kernel
theorem dL_guilds_92 : decode cL_guilds 92 = .ok (.iconst 0, 1) := by decide +kernel
theorem dL_guilds_93 : decode cL_guilds 93 = .ok (.iadd, 1) := by decide +kernel
theorem dL_guilds_94 : decode cL_guilds 94 = .ok (.istore 9, 2) := by decide +kernel
theorem dL_guilds_96 : decode cL_guilds 96 = .ok (.iload 10, 2) := by decide +kernel
theorem dL_guilds_98 : decode cL_guilds 98 = .ok (.aload_n 0, 1) := by decide +kernel
theorem dL_guilds_99 : decode cL_guilds 99 = .ok (.iload 12, 2) := by decide +kernel
theorem dL_guilds_101 : decode cL_guilds 101 = .ok (.iload 7, 2) := by decide +kernel
theorem dL_guilds_103 : decode cL_guilds 103 = .ok (.invokestatic 160, 3) := by decide +kernel
theorem dL_guilds_106 : decode cL_guilds 106 = .ok (.iconst 1, 1) := by decide +kernel
theorem dL_guilds_107 : decode cL_guilds 107 = .ok (.if_icmp .ne 7, 3) := by decide +kernel
theorem dL_guilds_110 : decode cL_guilds 110 = .ok (.iconst 1, 1) := by decide +kernel
theorem dL_guilds_111 : decode cL_guilds 111 = .ok (.goto 4, 3) := by decide +kernel
theorem dL_guilds_114 : decode cL_guilds 114 = .ok (.iconst 0, 1) := by decide +kernel
theorem dL_guilds_115 : decode cL_guilds 115 = .ok (.iadd, 1) := by decide +kernel
theorem dL_guilds_116 : decode cL_guilds 116 = .ok (.istore 10, 2) := by decide +kernel
theorem dL_guilds_118 : decode cL_guilds 118 = .ok (.iload 11, 2) := by decide +kernel
theorem dL_guilds_120 : decode cL_guilds 120 = .ok (.aload_n 0, 1) := by decide +kernel
theorem dL_guilds_121 : decode cL_guilds 121 = .ok (.iload 12, 2) := by decide +kernel
theorem dL_guilds_123 : decode cL_guilds 123 = .ok (.iload 7, 2) := by decide +kernel
theorem dL_guilds_125 : decode cL_guilds 125 = .ok (.invokestatic 160, 3) := by decide +kernel
theorem dL_guilds_128 : decode cL_guilds 128 = .ok (.iconst 3, 1) := by decide +kernel
theorem dL_guilds_129 : decode cL_guilds 129 = .ok (.if_icmp .ne 14, 3) := by decide +kernel
theorem dL_guilds_132 : decode cL_guilds 132 = .ok (.aload_n 0, 1) := by decide +kernel
theorem dL_guilds_133 : decode cL_guilds 133 = .ok (.iload 12, 2) := by decide +kernel
theorem dL_guilds_135 : decode cL_guilds 135 = .ok (.iload 7, 2) := by decide +kernel
theorem dL_guilds_137 : decode cL_guilds 137 = .ok (.invokestatic 182, 3) := by decide +kernel
theorem dL_guilds_140 : decode cL_guilds 140 = .ok (.goto 4, 3) := by decide +kernel
theorem dL_guilds_143 : decode cL_guilds 143 = .ok (.iconst 0, 1) := by decide +kernel
theorem dL_guilds_144 : decode cL_guilds 144 = .ok (.iadd, 1) := by decide +kernel
theorem dL_guilds_145 : decode cL_guilds 145 = .ok (.istore 11, 2) := by decide +kernel
theorem dL_guilds_147 : decode cL_guilds 147 = .ok (.iinc 12 1, 3) := by decide +kernel
theorem dL_guilds_150 : decode cL_guilds 150 = .ok (.goto (-108), 3) := by decide +kernel
theorem dL_guilds_153 : decode cL_guilds 153 = .ok (.aload_n 0, 1) := by decide +kernel
theorem dL_guilds_154 : decode cL_guilds 154 = .ok (.iload 7, 2) := by decide +kernel
theorem dL_guilds_156 : decode cL_guilds 156 = .ok (.invokestatic 192, 3) := by decide +kernel
theorem dL_guilds_159 : decode cL_guilds 159 = .ok (.istore 12, 2) := by decide +kernel
theorem dL_guilds_161 : decode cL_guilds 161 = .ok (.iconst 0, 1) := by decide +kernel
theorem dL_guilds_162 : decode cL_guilds 162 = .ok (.istore 13, 2) := by decide +kernel
theorem dL_guilds_164 : decode cL_guilds 164 = .ok (.iconst 0, 1) := by decide +kernel
theorem dL_guilds_165 : decode cL_guilds 165 = .ok (.istore 14, 2) := by decide +kernel
theorem dL_guilds_167 : decode cL_guilds 167 = .ok (.iload 14, 2) := by decide +kernel
theorem dL_guilds_169 : decode cL_guilds 169 = .ok (.bipush 6, 2) := by decide +kernel
theorem dL_guilds_171 : decode cL_guilds 171 = .ok (.if_icmp .ge 67, 3) := by decide +kernel
theorem dL_guilds_174 : decode cL_guilds 174 = .ok (.iload 12, 2) := by decide +kernel
theorem dL_guilds_176 : decode cL_guilds 176 = .ok (.ifCond .lt 62, 3) := by decide +kernel
theorem dL_guilds_179 : decode cL_guilds 179 = .ok (.aload_n 0, 1) := by decide +kernel
theorem dL_guilds_180 : decode cL_guilds 180 = .ok (.iload 7, 2) := by decide +kernel
theorem dL_guilds_182 : decode cL_guilds 182 = .ok (.iconst 1, 1) := by decide +kernel
theorem dL_guilds_183 : decode cL_guilds 183 = .ok (.invokestatic 149, 3) := by decide +kernel
theorem dL_guilds_186 : decode cL_guilds 186 = .ok (.iconst 1, 1) := by decide +kernel
theorem dL_guilds_187 : decode cL_guilds 187 = .ok (.if_icmp .ne 51, 3) := by decide +kernel
theorem dL_guilds_190 : decode cL_guilds 190 = .ok (.aload_n 0, 1) := by decide +kernel
theorem dL_guilds_191 : decode cL_guilds 191 = .ok (.iload 14, 2) := by decide +kernel
theorem dL_guilds_193 : decode cL_guilds 193 = .ok (.iconst 1, 1) := by decide +kernel
theorem dL_guilds_194 : decode cL_guilds 194 = .ok (.invokestatic 149, 3) := by decide +kernel
theorem dL_guilds_197 : decode cL_guilds 197 = .ok (.iconst 1, 1) := by decide +kernel
theorem dL_guilds_198 : decode cL_guilds 198 = .ok (.if_icmp .ne 30, 3) := by decide +kernel
theorem dL_guilds_201 : decode cL_guilds 201 = .ok (.aload_n 0, 1) := by decide +kernel
theorem dL_guilds_202 : decode cL_guilds 202 = .ok (.iload 12, 2) := by decide +kernel
theorem dL_guilds_204 : decode cL_guilds 204 = .ok (.iload 14, 2) := by decide +kernel
theorem dL_guilds_206 : decode cL_guilds 206 = .ok (.invokestatic 160, 3) := by decide +kernel
theorem dL_guilds_209 : decode cL_guilds 209 = .ok (.ifCond .lt 19, 3) := by decide +kernel
theorem dL_guilds_212 : decode cL_guilds 212 = .ok (.aload_n 0, 1) := by decide +kernel
theorem dL_guilds_213 : decode cL_guilds 213 = .ok (.iload 12, 2) := by decide +kernel
theorem dL_guilds_215 : decode cL_guilds 215 = .ok (.iload 14, 2) := by decide +kernel
theorem dL_guilds_217 : decode cL_guilds 217 = .ok (.invokestatic 160, 3) := by decide +kernel
theorem dL_guilds_220 : decode cL_guilds 220 = .ok (.iconst 1, 1) := by decide +kernel
theorem dL_guilds_221 : decode cL_guilds 221 = .ok (.if_icmp .eq 7, 3) := by decide +kernel
theorem dL_guilds_224 : decode cL_guilds 224 = .ok (.iconst 1, 1) := by decide +kernel
theorem dL_guilds_225 : decode cL_guilds 225 = .ok (.goto 5, 3) := by decide +kernel
theorem dL_guilds_228 : decode cL_guilds 228 = .ok (.iload 13, 2) := by decide +kernel
theorem dL_guilds_230 : decode cL_guilds 230 = .ok (.istore 13, 2) := by decide +kernel
theorem dL_guilds_232 : decode cL_guilds 232 = .ok (.iinc 14 1, 3) := by decide +kernel
theorem dL_guilds_235 : decode cL_guilds 235 = .ok (.goto (-68), 3) := by decide +kernel
theorem dL_guilds_238 : decode cL_guilds 238 = .ok (.iload_n 1, 1) := by decide +kernel
theorem dL_guilds_239 : decode cL_guilds 239 = .ok (.aload_n 0, 1) := by decide +kernel
theorem dL_guilds_240 : decode cL_guilds 240 = .ok (.iload 7, 2) := by decide +kernel
theorem dL_guilds_242 : decode cL_guilds 242 = .ok (.iconst 0, 1) := by decide +kernel
theorem dL_guilds_243 : decode cL_guilds 243 = .ok (.invokestatic 149, 3) := by decide +kernel
theorem dL_guilds_246 : decode cL_guilds 246 = .ok (.iadd, 1) := by decide +kernel
theorem dL_guilds_247 : decode cL_guilds 247 = .ok (.istore_n 1, 1) := by decide +kernel
theorem dL_guilds_248 : decode cL_guilds 248 = .ok (.iload_n 2, 1) := by decide +kernel
theorem dL_guilds_249 : decode cL_guilds 249 = .ok (.iload 11, 2) := by decide +kernel
theorem dL_guilds_251 : decode cL_guilds 251 = .ok (.bipush 20, 2) := by decide +kernel
theorem dL_guilds_253 : decode cL_guilds 253 = .ok (.isub, 1) := by decide +kernel
theorem dL_guilds_254 : decode cL_guilds 254 = .ok (.iadd, 1) := by decide +kernel
theorem dL_guilds_255 : decode cL_guilds 255 = .ok (.istore_n 2, 1) := by decide +kernel
theorem dL_guilds_256 : decode cL_guilds 256 = .ok (.iload_n 3, 1) := by decide +kernel
theorem dL_guilds_257 : decode cL_guilds 257 = .ok (.aload_n 0, 1) := by decide +kernel
theorem dL_guilds_258 : decode cL_guilds 258 = .ok (.iload 7, 2) := by decide +kernel
theorem dL_guilds_260 : decode cL_guilds 260 = .ok (.iconst 1, 1) := by decide +kernel
theorem dL_guilds_261 : decode cL_guilds 261 = .ok (.invokestatic 149, 3) := by decide +kernel
theorem dL_guilds_264 : decode cL_guilds 264 = .ok (.iadd, 1) := by decide +kernel
theorem dL_guilds_265 : decode cL_guilds 265 = .ok (.istore_n 3, 1) := by decide +kernel
theorem dL_guilds_266 : decode cL_guilds 266 = .ok (.iload 4, 2) := by decide +kernel
theorem dL_guilds_268 : decode cL_guilds 268 = .ok (.iload 12, 2) := by decide +kernel
theorem dL_guilds_270 : decode cL_guilds 270 = .ok (.ifCond .ge 7, 3) := by decide +kernel
theorem dL_guilds_273 : decode cL_guilds 273 = .ok (.iconst 0, 1) := by decide +kernel
theorem dL_guilds_274 : decode cL_guilds 274 = .ok (.goto 4, 3) := by decide +kernel
theorem dL_guilds_277 : decode cL_guilds 277 = .ok (.iconst 1, 1) := by decide +kernel
theorem dL_guilds_278 : decode cL_guilds 278 = .ok (.iadd, 1) := by decide +kernel
theorem dL_guilds_279 : decode cL_guilds 279 = .ok (.istore 4, 2) := by decide +kernel
theorem dL_guilds_281 : decode cL_guilds 281 = .ok (.iload 5, 2) := by decide +kernel
theorem dL_guilds_283 : decode cL_guilds 283 = .ok (.aload_n 0, 1) := by decide +kernel
theorem dL_guilds_284 : decode cL_guilds 284 = .ok (.iload 7, 2) := by decide +kernel
theorem dL_guilds_286 : decode cL_guilds 286 = .ok (.iconst 3, 1) := by decide +kernel
theorem dL_guilds_287 : decode cL_guilds 287 = .ok (.invokestatic 149, 3) := by decide +kernel
theorem dL_guilds_290 : decode cL_guilds 290 = .ok (.iadd, 1) := by decide +kernel
theorem dL_guilds_291 : decode cL_guilds 291 = .ok (.istore 5, 2) := by decide +kernel
theorem dL_guilds_293 : decode cL_guilds 293 = .ok (.iload 10, 2) := by decide +kernel
theorem dL_guilds_295 : decode cL_guilds 295 = .ok (.iconst 2, 1) := by decide +kernel
theorem dL_guilds_296 : decode cL_guilds 296 = .ok (.if_icmp .ge 97, 3) := by decide +kernel
theorem dL_guilds_299 : decode cL_guilds 299 = .ok (.aload_n 0, 1) := by decide +kernel
theorem dL_guilds_300 : decode cL_guilds 300 = .ok (.iload 7, 2) := by decide +kernel
theorem dL_guilds_302 : decode cL_guilds 302 = .ok (.iconst 0, 1) := by decide +kernel
theorem dL_guilds_303 : decode cL_guilds 303 = .ok (.invokestatic 149, 3) := by decide +kernel
theorem dL_guilds_306 : decode cL_guilds 306 = .ok (.iload 11, 2) := by decide +kernel
theorem dL_guilds_308 : decode cL_guilds 308 = .ok (.if_icmp .ne 85, 3) := by decide +kernel
theorem dL_guilds_311 : decode cL_guilds 311 = .ok (.iload 11, 2) := by decide +kernel
theorem dL_guilds_313 : decode cL_guilds 313 = .ok (.ifCond .lt 80, 3) := by decide +kernel
theorem dL_guilds_316 : decode cL_guilds 316 = .ok (.aload_n 0, 1) := by decide +kernel
theorem dL_guilds_317 : decode cL_guilds 317 = .ok (.iload 7, 2) := by decide +kernel
theorem dL_guilds_319 : decode cL_guilds 319 = .ok (.iconst 2, 1) := by decide +kernel
theorem dL_guilds_320 : decode cL_guilds 320 = .ok (.invokestatic 149, 3) := by decide +kernel
theorem dL_guilds_323 : decode cL_guilds 323 = .ok (.iload 12, 2) := by decide +kernel
theorem dL_guilds_325 : decode cL_guilds 325 = .ok (.if_icmp .ne 68, 3) := by decide +kernel
theorem dL_guilds_328 : decode cL_guilds 328 = .ok (.aload_n 0, 1) := by decide +kernel
theorem dL_guilds_329 : decode cL_guilds 329 = .ok (.iload 7, 2) := by decide +kernel
theorem dL_guilds_331 : decode cL_guilds 331 = .ok (.iconst 4, 1) := by decide +kernel
theorem dL_guilds_332 : decode cL_guilds 332 = .ok (.invokestatic 149, 3) := by decide +kernel
theorem dL_guilds_335 : decode cL_guilds 335 = .ok (.iload 8, 2) := by decide +kernel
theorem dL_guilds_337 : decode cL_guilds 337 = .ok (.if_icmp .ne 56, 3) := by decide +kernel
theorem dL_guilds_340 : decode cL_guilds 340 = .ok (.aload_n 0, 1) := by decide +kernel
theorem dL_guilds_341 : decode cL_guilds 341 = .ok (.iload 7, 2) := by decide +kernel
theorem dL_guilds_343 : decode cL_guilds 343 = .ok (.iconst 5, 1) := by decide +kernel
theorem dL_guilds_344 : decode cL_guilds 344 = .ok (.invokestatic 149, 3) := by decide +kernel
theorem dL_guilds_347 : decode cL_guilds 347 = .ok (.iload 9, 2) := by decide +kernel
theorem dL_guilds_349 : decode cL_guilds 349 = .ok (.if_icmp .ne 44, 3) := by decide +kernel
theorem dL_guilds_352 : decode cL_guilds 352 = .ok (.aload_n 0, 1) := by decide +kernel
theorem dL_guilds_353 : decode cL_guilds 353 = .ok (.iload 7, 2) := by decide +kernel
theorem dL_guilds_355 : decode cL_guilds 355 = .ok (.iconst 0, 1) := by decide +kernel
theorem dL_guilds_356 : decode cL_guilds 356 = .ok (.invokestatic 199, 3) := by decide +kernel
theorem dL_guilds_359 : decode cL_guilds 359 = .ok (.iload 13, 2) := by decide +kernel
theorem dL_guilds_361 : decode cL_guilds 361 = .ok (.if_icmp .ne 32, 3) := by decide +kernel
theorem dL_guilds_364 : decode cL_guilds 364 = .ok (.aload_n 0, 1) := by decide +kernel
theorem dL_guilds_365 : decode cL_guilds 365 = .ok (.iload 7, 2) := by decide +kernel
theorem dL_guilds_367 : decode cL_guilds 367 = .ok (.iconst 1, 1) := by decide +kernel
theorem dL_guilds_368 : decode cL_guilds 368 = .ok (.invokestatic 199, 3) := by decide +kernel
theorem dL_guilds_371 : decode cL_guilds 371 = .ok (.iload 13, 2) := by decide +kernel
theorem dL_guilds_373 : decode cL_guilds 373 = .ok (.if_icmp .ne 20, 3) := by decide +kernel
theorem dL_guilds_376 : decode cL_guilds 376 = .ok (.aload_n 0, 1) := by decide +kernel
theorem dL_guilds_377 : decode cL_guilds 377 = .ok (.iload 7, 2) := by decide +kernel
theorem dL_guilds_379 : decode cL_guilds 379 = .ok (.bipush 6, 2) := by decide +kernel
theorem dL_guilds_381 : decode cL_guilds 381 = .ok (.invokestatic 149, 3) := by decide +kernel
theorem dL_guilds_384 : decode cL_guilds 384 = .ok (.bipush (-12), 2) := by decide +kernel
theorem dL_guilds_386 : decode cL_guilds 386 = .ok (.if_icmp .ne 7, 3) := by decide +kernel
theorem dL_guilds_389 : decode cL_guilds 389 = .ok (.iconst 1, 1) := by decide +kernel
theorem dL_guilds_390 : decode cL_guilds 390 = .ok (.goto 4, 3) := by decide +kernel
theorem dL_guilds_393 : decode cL_guilds 393 = .ok (.iconst 0, 1) := by decide +kernel
theorem dL_guilds_394 : decode cL_guilds 394 = .ok (.istore 14, 2) := by decide +kernel
theorem dL_guilds_396 : decode cL_guilds 396 = .ok (.aload_n 0, 1) := by decide +kernel
theorem dL_guilds_397 : decode cL_guilds 397 = .ok (.iload 7, 2) := by decide +kernel
theorem dL_guilds_399 : decode cL_guilds 399 = .ok (.invokestatic 202, 3) := by decide +kernel
theorem dL_guilds_402 : decode cL_guilds 402 = .ok (.istore 15, 2) := by decide +kernel
theorem dL_guilds_404 : decode cL_guilds 404 = .ok (.iload 6, 2) := by decide +kernel
theorem dL_guilds_406 : decode cL_guilds 406 = .ok (.ifCond .ge 7, 3) := by decide +kernel
theorem dL_guilds_409 : decode cL_guilds 409 = .ok (.iconst 1, 1) := by decide +kernel
theorem dL_guilds_410 : decode cL_guilds 410 = .ok (.goto 18, 3) := by decide +kernel
theorem dL_guilds_413 : decode cL_guilds 413 = .ok (.aload_n 0, 1) := by decide +kernel
theorem dL_guilds_414 : decode cL_guilds 414 = .ok (.iload 6, 2) := by decide +kernel
theorem dL_guilds_416 : decode cL_guilds 416 = .ok (.iconst 3, 1) := by decide +kernel
theorem dL_guilds_417 : decode cL_guilds 417 = .ok (.invokestatic 149, 3) := by decide +kernel
theorem dL_guilds_420 : decode cL_guilds 420 = .ok (.aload_n 0, 1) := by decide +kernel
theorem dL_guilds_421 : decode cL_guilds 421 = .ok (.iload 15, 2) := by decide +kernel
theorem dL_guilds_423 : decode cL_guilds 423 = .ok (.iconst 3, 1) := by decide +kernel
theorem dL_guilds_424 : decode cL_guilds 424 = .ok (.invokestatic 149, 3) := by decide +kernel
theorem dL_guilds_427 : decode cL_guilds 427 = .ok (.isub, 1) := by decide +kernel
theorem dL_guilds_428 : decode cL_guilds 428 = .ok (.istore 16, 2) := by decide +kernel
theorem dL_guilds_430 : decode cL_guilds 430 = .ok (.iload 14, 2) := by decide +kernel
theorem dL_guilds_432 : decode cL_guilds 432 = .ok (.ifCond .eq 20, 3) := by decide +kernel
theorem dL_guilds_435 : decode cL_guilds 435 = .ok (.iload 16, 2) := by decide +kernel
theorem dL_guilds_437 : decode cL_guilds 437 = .ok (.ifCond .lt 15, 3) := by decide +kernel
theorem dL_guilds_440 : decode cL_guilds 440 = .ok (.iload 16, 2) := by decide +kernel
theorem dL_guilds_442 : decode cL_guilds 442 = .ok (.ifCond .ne 12, 3) := by decide +kernel
theorem dL_guilds_445 : decode cL_guilds 445 = .ok (.iload 15, 2) := by decide +kernel
theorem dL_guilds_447 : decode cL_guilds 447 = .ok (.iload 6, 2) := by decide +kernel
theorem dL_guilds_449 : decode cL_guilds 449 = .ok (.if_icmp .ge 5, 3) := by decide +kernel
theorem dL_guilds_452 : decode cL_guilds 452 = .ok (.iconst 0, 1) := by decide +kernel
theorem dL_guilds_453 : decode cL_guilds 453 = .ok (.ireturn, 1) := by decide +kernel
theorem dL_guilds_454 : decode cL_guilds 454 = .ok (.iload 15, 2) := by decide +kernel
theorem dL_guilds_456 : decode cL_guilds 456 = .ok (.istore 6, 2) := by decide +kernel
theorem dL_guilds_458 : decode cL_guilds 458 = .ok (.iinc 7 1, 3) := by decide +kernel
theorem dL_guilds_461 : decode cL_guilds 461 = .ok (.goto (-442), 3) := by decide +kernel
theorem dL_guilds_464 : decode cL_guilds 464 = .ok (.aload_n 0, 1) := by decide +kernel
theorem dL_guilds_465 : decode cL_guilds 465 = .ok (.iconst 0, 1) := by decide +kernel
theorem dL_guilds_466 : decode cL_guilds 466 = .ok (.invokevirtual 204, 3) := by decide +kernel
theorem dL_guilds_469 : decode cL_guilds 469 = .ok (.iload_n 1, 1) := by decide +kernel
theorem dL_guilds_470 : decode cL_guilds 470 = .ok (.if_icmp .ne 36, 3) := by decide +kernel
theorem dL_guilds_473 : decode cL_guilds 473 = .ok (.aload_n 0, 1) := by decide +kernel
theorem dL_guilds_474 : decode cL_guilds 474 = .ok (.iconst 1, 1) := by decide +kernel
theorem dL_guilds_475 : decode cL_guilds 475 = .ok (.invokevirtual 204, 3) := by decide +kernel
theorem dL_guilds_478 : decode cL_guilds 478 = .ok (.iload_n 1, 1) := by decide +kernel
theorem dL_guilds_479 : decode cL_guilds 479 = .ok (.if_icmp .ne 27, 3) := by decide +kernel
theorem dL_guilds_482 : decode cL_guilds 482 = .ok (.iload_n 2, 1) := by decide +kernel
theorem dL_guilds_483 : decode cL_guilds 483 = .ok (.iload_n 1, 1) := by decide +kernel
theorem dL_guilds_484 : decode cL_guilds 484 = .ok (.if_icmp .ne 22, 3) := by decide +kernel
theorem dL_guilds_487 : decode cL_guilds 487 = .ok (.aload_n 0, 1) := by decide +kernel
theorem dL_guilds_488 : decode cL_guilds 488 = .ok (.invokevirtual 207, 3) := by decide +kernel
theorem dL_guilds_491 : decode cL_guilds 491 = .ok (.iload 5, 2) := by decide +kernel
theorem dL_guilds_493 : decode cL_guilds 493 = .ok (.i2d, 1) := by decide +kernel
theorem dL_guilds_494 : decode cL_guilds 494 = .ok (.ldc2_w 211, 3) := by decide +kernel
theorem dL_guilds_497 : decode cL_guilds 497 = .ok (.ddiv, 1) := by decide +kernel
theorem dL_guilds_498 : decode cL_guilds 498 = .ok (.dcmp .l, 1) := by decide +kernel
theorem dL_guilds_499 : decode cL_guilds 499 = .ok (.ifCond .ne 7, 3) := by decide +kernel
theorem dL_guilds_502 : decode cL_guilds 502 = .ok (.iconst 1, 1) := by decide +kernel
theorem dL_guilds_503 : decode cL_guilds 503 = .ok (.goto 4, 3) := by decide +kernel
theorem dL_guilds_506 : decode cL_guilds 506 = .ok (.iconst 0, 1) := by decide +kernel
theorem dL_guilds_507 : decode cL_guilds 507 = .ok (.istore 7, 2) := by decide +kernel
theorem dL_guilds_509 : decode cL_guilds 509 = .ok (.iload 7, 2) := by decide +kernel
theorem dL_guilds_511 : decode cL_guilds 511 = .ok (.ifCond .eq 79, 3) := by decide +kernel
theorem dL_guilds_514 : decode cL_guilds 514 = .ok (.aload_n 0, 1) := by decide +kernel
theorem dL_guilds_515 : decode cL_guilds 515 = .ok (.iconst 4, 1) := by decide +kernel
theorem dL_guilds_516 : decode cL_guilds 516 = .ok (.invokevirtual 157, 3) := by decide +kernel
theorem dL_guilds_519 : decode cL_guilds 519 = .ok (.iload_n 3, 1) := by decide +kernel
theorem dL_guilds_520 : decode cL_guilds 520 = .ok (.if_icmp .ne 70, 3) := by decide +kernel
theorem dL_guilds_523 : decode cL_guilds 523 = .ok (.aload_n 0, 1) := by decide +kernel
theorem dL_guilds_524 : decode cL_guilds 524 = .ok (.iconst 5, 1) := by decide +kernel
theorem dL_guilds_525 : decode cL_guilds 525 = .ok (.invokevirtual 157, 3) := by decide +kernel
theorem dL_guilds_528 : decode cL_guilds 528 = .ok (.iload 4, 2) := by decide +kernel
theorem dL_guilds_530 : decode cL_guilds 530 = .ok (.if_icmp .ne 60, 3) := by decide +kernel
theorem dL_guilds_533 : decode cL_guilds 533 = .ok (.aload_n 0, 1) := by decide +kernel
theorem dL_guilds_534 : decode cL_guilds 534 = .ok (.bipush 7, 2) := by decide +kernel
theorem dL_guilds_536 : decode cL_guilds 536 = .ok (.invokevirtual 157, 3) := by decide +kernel
theorem dL_guilds_539 : decode cL_guilds 539 = .ok (.iload 5, 2) := by decide +kernel
theorem dL_guilds_541 : decode cL_guilds 541 = .ok (.if_icmp .ne 49, 3) := by decide +kernel
theorem dL_guilds_544 : decode cL_guilds 544 = .ok (.aload_n 0, 1) := by decide +kernel
theorem dL_guilds_545 : decode cL_guilds 545 = .ok (.invokevirtual 213, 3) := by decide +kernel
theorem dL_guilds_548 : decode cL_guilds 548 = .ok (.ifCond .eq 42, 3) := by decide +kernel
theorem dL_guilds_551 : decode cL_guilds 551 = .ok (.aload_n 0, 1) := by decide +kernel
theorem dL_guilds_552 : decode cL_guilds 552 = .ok (.bipush 6, 2) := by decide +kernel
theorem dL_guilds_554 : decode cL_guilds 554 = .ok (.invokestatic 202, 3) := by decide +kernel
theorem dL_guilds_557 : decode cL_guilds 557 = .ok (.bipush (-11), 2) := by decide +kernel
theorem dL_guilds_559 : decode cL_guilds 559 = .ok (.if_icmp .ne 31, 3) := by decide +kernel
theorem dL_guilds_562 : decode cL_guilds 562 = .ok (.aload_n 0, 1) := by decide +kernel
theorem dL_guilds_563 : decode cL_guilds 563 = .ok (.bipush 6, 2) := by decide +kernel
theorem dL_guilds_565 : decode cL_guilds 565 = .ok (.bipush 9, 2) := by decide +kernel
theorem dL_guilds_567 : decode cL_guilds 567 = .ok (.invokestatic 149, 3) := by decide +kernel
theorem dL_guilds_570 : decode cL_guilds 570 = .ok (.bipush (-11), 2) := by decide +kernel
theorem dL_guilds_572 : decode cL_guilds 572 = .ok (.if_icmp .ne 18, 3) := by decide +kernel
theorem dL_guilds_575 : decode cL_guilds 575 = .ok (.aload_n 0, 1) := by decide +kernel
theorem dL_guilds_576 : decode cL_guilds 576 = .ok (.iconst (-1), 1) := by decide +kernel
theorem dL_guilds_577 : decode cL_guilds 577 = .ok (.iconst 1, 1) := by decide +kernel
theorem dL_guilds_578 : decode cL_guilds 578 = .ok (.invokestatic 199, 3) := by decide +kernel
theorem dL_guilds_581 : decode cL_guilds 581 = .ok (.bipush (-11), 2) := by decide +kernel
theorem dL_guilds_583 : decode cL_guilds 583 = .ok (.if_icmp .ne 7, 3) := by decide +kernel
theorem dL_guilds_586 : decode cL_guilds 586 = .ok (.iconst 1, 1) := by decide +kernel
theorem dL_guilds_587 : decode cL_guilds 587 = .ok (.goto 4, 3) := by decide +kernel
theorem dL_guilds_590 : decode cL_guilds 590 = .ok (.iconst 0, 1) := by decide +kernel
theorem dL_guilds_591 : decode cL_guilds 591 = .ok (.ireturn, 1) := by decide +kernel
theorem dL_book__0 : decode cL_book_ 0 = .ok (.aload_n 0, 1) := by decide +kernel
theorem dL_book__1 : decode cL_book_ 1 = .ok (.iconst 2, 1) := by decide +kernel
theorem dL_book__2 : decode cL_book_ 2 = .ok (.invokevirtual 157, 3) := by decide +kernel
theorem dL_book__5 : decode cL_book_ 5 = .ok (.aload_n 0, 1) := by decide +kernel
theorem dL_book__6 : decode cL_book_ 6 = .ok (.iconst 3, 1) := by decide +kernel
theorem dL_book__7 : decode cL_book_ 7 = .ok (.invokevirtual 157, 3) := by decide +kernel
theorem dL_book__10 : decode cL_book_ 10 = .ok (.iadd, 1) := by decide +kernel
theorem dL_book__11 : decode cL_book_ 11 = .ok (.istore_n 1, 1) := by decide +kernel
theorem dL_book__12 : decode cL_book_ 12 = .ok (.iconst 0, 1) := by decide +kernel
theorem dL_book__13 : decode cL_book_ 13 = .ok (.istore_n 2, 1) := by decide +kernel
theorem dL_book__14 : decode cL_book_ 14 = .ok (.iconst 0, 1) := by decide +kernel
theorem dL_book__15 : decode cL_book_ 15 = .ok (.istore_n 3, 1) := by decide +kernel
theorem dL_book__16 : decode cL_book_ 16 = .ok (.iload_n 3, 1) := by decide +kernel
theorem dL_book__17 : decode cL_book_ 17 = .ok (.iload_n 1, 1) := by decide +kernel
theorem dL_book__18 : decode cL_book_ 18 = .ok (.if_icmp .ge 50, 3) := by decide +kernel
theorem dL_book__21 : decode cL_book_ 21 = .ok (.aload_n 0, 1) := by decide +kernel
theorem dL_book__22 : decode cL_book_ 22 = .ok (.iload_n 3, 1) := by decide +kernel
theorem dL_book__23 : decode cL_book_ 23 = .ok (.invokestatic 216, 3) := by decide +kernel
theorem dL_book__26 : decode cL_book_ 26 = .ok (.istore 4, 2) := by decide +kernel
theorem dL_book__28 : decode cL_book_ 28 = .ok (.iload 4, 2) := by decide +kernel
theorem dL_book__30 : decode cL_book_ 30 = .ok (.ifCond .lt 23, 3) := by decide +kernel
theorem dL_book__33 : decode cL_book_ 33 = .ok (.aload_n 0, 1) := by decide +kernel
theorem dL_book__34 : decode cL_book_ 34 = .ok (.iload 4, 2) := by decide +kernel
theorem dL_book__36 : decode cL_book_ 36 = .ok (.iconst 0, 1) := by decide +kernel
theorem dL_book__37 : decode cL_book_ 37 = .ok (.invokestatic 187, 3) := by decide +kernel
theorem dL_book__40 : decode cL_book_ 40 = .ok (.ifCond .eq 13, 3) := by decide +kernel
theorem dL_book__43 : decode cL_book_ 43 = .ok (.iload_n 2, 1) := by decide +kernel
theorem dL_book__44 : decode cL_book_ 44 = .ok (.iload 4, 2) := by decide +kernel
theorem dL_book__46 : decode cL_book_ 46 = .ok (.ishr, 1) := by decide +kernel
theorem dL_book__47 : decode cL_book_ 47 = .ok (.iconst 1, 1) := by decide +kernel
theorem dL_book__48 : decode cL_book_ 48 = .ok (.iand, 1) := by decide +kernel
theorem dL_book__49 : decode cL_book_ 49 = .ok (.iconst 1, 1) := by decide +kernel
theorem dL_book__50 : decode cL_book_ 50 = .ok (.if_icmp .ne 5, 3) := by decide +kernel
theorem dL_book__53 : decode cL_book_ 53 = .ok (.iconst 0, 1) := by decide +kernel
theorem dL_book__54 : decode cL_book_ 54 = .ok (.ireturn, 1) := by decide +kernel
theorem dL_book__55 : decode cL_book_ 55 = .ok (.iload_n 2, 1) := by decide +kernel
theorem dL_book__56 : decode cL_book_ 56 = .ok (.iconst 1, 1) := by decide +kernel
theorem dL_book__57 : decode cL_book_ 57 = .ok (.iload 4, 2) := by decide +kernel
theorem dL_book__59 : decode cL_book_ 59 = .ok (.ishl, 1) := by decide +kernel
theorem dL_book__60 : decode cL_book_ 60 = .ok (.ior, 1) := by decide +kernel
theorem dL_book__61 : decode cL_book_ 61 = .ok (.istore_n 2, 1) := by decide +kernel
theorem dL_book__62 : decode cL_book_ 62 = .ok (.iinc 3 1, 3) := by decide +kernel
theorem dL_book__65 : decode cL_book_ 65 = .ok (.goto (-49), 3) := by decide +kernel
theorem dL_book__68 : decode cL_book_ 68 = .ok (.aload_n 0, 1) := by decide +kernel
theorem dL_book__69 : decode cL_book_ 69 = .ok (.iload_n 1, 1) := by decide +kernel
theorem dL_book__70 : decode cL_book_ 70 = .ok (.invokestatic 216, 3) := by decide +kernel
theorem dL_book__73 : decode cL_book_ 73 = .ok (.bipush (-13), 2) := by decide +kernel
theorem dL_book__75 : decode cL_book_ 75 = .ok (.if_icmp .ne 17, 3) := by decide +kernel
theorem dL_book__78 : decode cL_book_ 78 = .ok (.aload_n 0, 1) := by decide +kernel
theorem dL_book__79 : decode cL_book_ 79 = .ok (.iconst (-1), 1) := by decide +kernel
theorem dL_book__80 : decode cL_book_ 80 = .ok (.invokestatic 216, 3) := by decide +kernel
theorem dL_book__83 : decode cL_book_ 83 = .ok (.bipush (-13), 2) := by decide +kernel
theorem dL_book__85 : decode cL_book_ 85 = .ok (.if_icmp .ne 7, 3) := by decide +kernel
theorem dL_book__88 : decode cL_book_ 88 = .ok (.iconst 1, 1) := by decide +kernel
theorem dL_book__89 : decode cL_book_ 89 = .ok (.goto 4, 3) := by decide +kernel
theorem dL_book__92 : decode cL_book_ 92 = .ok (.iconst 0, 1) := by decide +kernel
theorem dL_book__93 : decode cL_book_ 93 = .ok (.ireturn, 1) := by decide +kernel
theorem dL_told_0 : decode cL_told 0 = .ok (.iconst 0, 1) := by decide +kernel
theorem dL_told_1 : decode cL_told 1 = .ok (.istore_n 1, 1) := by decide +kernel
theorem dL_told_2 : decode cL_told 2 = .ok (.iload_n 1, 1) := by decide +kernel
theorem dL_told_3 : decode cL_told 3 = .ok (.aload_n 0, 1) := by decide +kernel
theorem dL_told_4 : decode cL_told 4 = .ok (.iconst 0, 1) := by decide +kernel
theorem dL_told_5 : decode cL_told 5 = .ok (.invokevirtual 157, 3) := by decide +kernel
theorem dL_told_8 : decode cL_told 8 = .ok (.if_icmp .ge 226, 3) := by decide +kernel
theorem dL_told_11 : decode cL_told 11 = .ok (.new 218, 3) := by decide +kernel
theorem dL_told_14 : decode cL_told 14 = .ok (.dup, 1) := by decide +kernel
theorem dL_told_15 : decode cL_told 15 = .ok (.invokespecial 220, 3) := by decide +kernel
theorem dL_told_18 : decode cL_told 18 = .ok (.ldc 221, 2) := by decide +kernel
theorem dL_told_20 : decode cL_told 20 = .ok (.invokevirtual 223, 3) := by decide +kernel
theorem dL_told_23 : decode cL_told 23 = .ok (.iload_n 1, 1) := by decide +kernel
theorem dL_told_24 : decode cL_told 24 = .ok (.invokevirtual 226, 3) := by decide +kernel
theorem dL_told_27 : decode cL_told 27 = .ok (.ldc 229, 2) := by decide +kernel
theorem dL_told_29 : decode cL_told 29 = .ok (.aload_n 0, 1) := by decide +kernel
theorem dL_told_30 : decode cL_told 30 = .ok (.iload_n 1, 1) := by decide +kernel
theorem dL_told_31 : decode cL_told 31 = .ok (.iconst 0, 1) := by decide +kernel
theorem dL_told_32 : decode cL_told 32 = .ok (.invokestatic 187, 3) := by decide +kernel
theorem dL_told_35 : decode cL_told 35 = .ok (.invokevirtual 102, 3) := by decide +kernel
theorem dL_told_38 : decode cL_told 38 = .ok (.invokevirtual 231, 3) := by decide +kernel
theorem dL_told_41 : decode cL_told 41 = .ok (.invokevirtual 234, 3) := by decide +kernel
theorem dL_told_44 : decode cL_told 44 = .ok (.astore_n 2, 1) := by decide +kernel
theorem dL_told_45 : decode cL_told 45 = .ok (.iconst 0, 1) := by decide +kernel
theorem dL_told_46 : decode cL_told 46 = .ok (.istore_n 3, 1) := by decide +kernel
theorem dL_told_47 : decode cL_told 47 = .ok (.iload_n 3, 1) := by decide +kernel
theorem dL_told_48 : decode cL_told 48 = .ok (.bipush 6, 2) := by decide +kernel
theorem dL_told_50 : decode cL_told 50 = .ok (.if_icmp .ge 98, 3) := by decide +kernel
theorem dL_told_53 : decode cL_told 53 = .ok (.aload_n 0, 1) := by decide +kernel
theorem dL_told_54 : decode cL_told 54 = .ok (.iload_n 1, 1) := by decide +kernel
theorem dL_told_55 : decode cL_told 55 = .ok (.iload_n 3, 1) := by decide +kernel
theorem dL_told_56 : decode cL_told 56 = .ok (.invokestatic 182, 3) := by decide +kernel
theorem dL_told_59 : decode cL_told 59 = .ok (.istore 4, 2) := by decide +kernel
theorem dL_told_61 : decode cL_told 61 = .ok (.new 218, 3) := by decide +kernel
theorem dL_told_64 : decode cL_told 64 = .ok (.dup, 1) := by decide +kernel
theorem dL_told_65 : decode cL_told 65 = .ok (.invokespecial 220, 3) := by decide +kernel
theorem dL_told_68 : decode cL_told 68 = .ok (.aload_n 2, 1) := by decide +kernel
theorem dL_told_69 : decode cL_told 69 = .ok (.invokevirtual 223, 3) := by decide +kernel
theorem dL_told_72 : decode cL_told 72 = .ok (.iload 4, 2) := by decide +kernel
theorem dL_told_74 : decode cL_told 74 = .ok (.ifCond .ne 8, 3) := by decide +kernel
theorem dL_told_77 : decode cL_told 77 = .ok (.ldc 238, 2) := by decide +kernel
theorem dL_told_79 : decode cL_told 79 = .ok (.goto 56, 3) := by decide +kernel
theorem dL_told_82 : decode cL_told 82 = .ok (.new 218, 3) := by decide +kernel
theorem dL_told_85 : decode cL_told 85 = .ok (.dup, 1) := by decide +kernel
theorem dL_told_86 : decode cL_told 86 = .ok (.invokespecial 220, 3) := by decide +kernel
theorem dL_told_89 : decode cL_told 89 = .ok (.ldc 240, 2) := by decide +kernel
theorem dL_told_91 : decode cL_told 91 = .ok (.invokevirtual 223, 3) := by decide +kernel
theorem dL_told_94 : decode cL_told 94 = .ok (.iload_n 3, 1) := by decide +kernel
theorem dL_told_95 : decode cL_told 95 = .ok (.invokevirtual 226, 3) := by decide +kernel
theorem dL_told_98 : decode cL_told 98 = .ok (.iload 4, 2) := by decide +kernel
theorem dL_told_100 : decode cL_told 100 = .ok (.ifCond .le 8, 3) := by decide +kernel
theorem dL_told_103 : decode cL_told 103 = .ok (.ldc 242, 2) := by decide +kernel
theorem dL_told_105 : decode cL_told 105 = .ok (.goto 5, 3) := by decide +kernel
theorem dL_told_108 : decode cL_told 108 = .ok (.ldc 238, 2) := by decide +kernel
theorem dL_told_110 : decode cL_told 110 = .ok (.invokevirtual 223, 3) := by decide +kernel
theorem dL_told_113 : decode cL_told 113 = .ok (.iload 4, 2) := by decide +kernel
theorem dL_told_115 : decode cL_told 115 = .ok (.invokevirtual 226, 3) := by decide +kernel
theorem dL_told_118 : decode cL_told 118 = .ok (.ldc 244, 2) := by decide +kernel
theorem dL_told_120 : decode cL_told 120 = .ok (.aload_n 0, 1) := by decide +kernel
theorem dL_told_121 : decode cL_told 121 = .ok (.iload_n 1, 1) := by decide +kernel
theorem dL_told_122 : decode cL_told 122 = .ok (.iload_n 3, 1) := by decide +kernel
theorem dL_told_123 : decode cL_told 123 = .ok (.invokestatic 160, 3) := by decide +kernel
theorem dL_told_126 : decode cL_told 126 = .ok (.invokevirtual 102, 3) := by decide +kernel
theorem dL_told_129 : decode cL_told 129 = .ok (.invokevirtual 231, 3) := by decide +kernel
theorem dL_told_132 : decode cL_told 132 = .ok (.invokevirtual 234, 3) := by decide +kernel
theorem dL_told_135 : decode cL_told 135 = .ok (.invokevirtual 223, 3) := by decide +kernel
theorem dL_told_138 : decode cL_told 138 = .ok (.invokevirtual 234, 3) := by decide +kernel
theorem dL_told_141 : decode cL_told 141 = .ok (.astore_n 2, 1) := by decide +kernel
theorem dL_told_142 : decode cL_told 142 = .ok (.iinc 3 1, 3) := by decide +kernel
theorem dL_told_145 : decode cL_told 145 = .ok (.goto (-98), 3) := by decide +kernel
theorem dL_told_148 : decode cL_told 148 = .ok (.aload_n 0, 1) := by decide +kernel
theorem dL_told_149 : decode cL_told 149 = .ok (.iload_n 1, 1) := by decide +kernel
theorem dL_told_150 : decode cL_told 150 = .ok (.invokestatic 246, 3) := by decide +kernel
theorem dL_told_153 : decode cL_told 153 = .ok (.aload_n 2, 1) := by decide +kernel
theorem dL_told_154 : decode cL_told 154 = .ok (.invokevirtual 97, 3) := by decide +kernel
theorem dL_told_157 : decode cL_told 157 = .ok (.if_icmp .ne 7, 3) := by decide +kernel
theorem dL_told_160 : decode cL_told 160 = .ok (.iconst 1, 1) := by decide +kernel
theorem dL_told_161 : decode cL_told 161 = .ok (.goto 4, 3) := by decide +kernel
theorem dL_told_164 : decode cL_told 164 = .ok (.iconst 0, 1) := by decide +kernel
theorem dL_told_165 : decode cL_told 165 = .ok (.istore_n 3, 1) := by decide +kernel
theorem dL_told_166 : decode cL_told 166 = .ok (.iconst 0, 1) := by decide +kernel
theorem dL_told_167 : decode cL_told 167 = .ok (.istore 4, 2) := by decide +kernel
theorem dL_told_169 : decode cL_told 169 = .ok (.iload 4, 2) := by decide +kernel
theorem dL_told_171 : decode cL_told 171 = .ok (.aload_n 2, 1) := by decide +kernel
theorem dL_told_172 : decode cL_told 172 = .ok (.invokevirtual 97, 3) := by decide +kernel
theorem dL_told_175 : decode cL_told 175 = .ok (.if_icmp .ge 34, 3) := by decide +kernel
theorem dL_told_178 : decode cL_told 178 = .ok (.iload_n 3, 1) := by decide +kernel
theorem dL_told_179 : decode cL_told 179 = .ok (.ifCond .eq 30, 3) := by decide +kernel
theorem dL_told_182 : decode cL_told 182 = .ok (.aload_n 0, 1) := by decide +kernel
theorem dL_told_183 : decode cL_told 183 = .ok (.iload 4, 2) := by decide +kernel
theorem dL_told_185 : decode cL_told 185 = .ok (.invokestatic 248, 3) := by decide +kernel
theorem dL_told_188 : decode cL_told 188 = .ok (.aload_n 2, 1) := by decide +kernel
theorem dL_told_189 : decode cL_told 189 = .ok (.iload 4, 2) := by decide +kernel
theorem dL_told_191 : decode cL_told 191 = .ok (.invokevirtual 102, 3) := by decide +kernel
theorem dL_told_194 : decode cL_told 194 = .ok (.if_icmp .ne 7, 3) := by decide +kernel
theorem dL_told_197 : decode cL_told 197 = .ok (.iconst 1, 1) := by decide +kernel
theorem dL_told_198 : decode cL_told 198 = .ok (.goto 4, 3) := by decide +kernel
theorem dL_told_201 : decode cL_told 201 = .ok (.iconst 0, 1) := by decide +kernel
theorem dL_told_202 : decode cL_told 202 = .ok (.istore_n 3, 1) := by decide +kernel
theorem dL_told_203 : decode cL_told 203 = .ok (.iinc 4 1, 3) := by decide +kernel
theorem dL_told_206 : decode cL_told 206 = .ok (.goto (-37), 3) := by decide +kernel
theorem dL_told_209 : decode cL_told 209 = .ok (.iload_n 3, 1) := by decide +kernel
theorem dL_told_210 : decode cL_told 210 = .ok (.ifCond .eq 16, 3) := by decide +kernel
theorem dL_told_213 : decode cL_told 213 = .ok (.aload_n 0, 1) := by decide +kernel
theorem dL_told_214 : decode cL_told 214 = .ok (.aload_n 2, 1) := by decide +kernel
theorem dL_told_215 : decode cL_told 215 = .ok (.invokevirtual 97, 3) := by decide +kernel
theorem dL_told_218 : decode cL_told 218 = .ok (.invokestatic 248, 3) := by decide +kernel
theorem dL_told_221 : decode cL_told 221 = .ok (.bipush (-11), 2) := by decide +kernel
theorem dL_told_223 : decode cL_told 223 = .ok (.if_icmp .eq 5, 3) := by decide +kernel
theorem dL_told_226 : decode cL_told 226 = .ok (.iconst 0, 1) := by decide +kernel
theorem dL_told_227 : decode cL_told 227 = .ok (.ireturn, 1) := by decide +kernel
theorem dL_told_228 : decode cL_told 228 = .ok (.iinc 1 1, 3) := by decide +kernel
theorem dL_told_231 : decode cL_told 231 = .ok (.goto (-229), 3) := by decide +kernel
theorem dL_told_234 : decode cL_told 234 = .ok (.aload_n 0, 1) := by decide +kernel
theorem dL_told_235 : decode cL_told 235 = .ok (.aload_n 0, 1) := by decide +kernel
theorem dL_told_236 : decode cL_told 236 = .ok (.iconst 0, 1) := by decide +kernel
theorem dL_told_237 : decode cL_told 237 = .ok (.invokevirtual 157, 3) := by decide +kernel
theorem dL_told_240 : decode cL_told 240 = .ok (.invokestatic 246, 3) := by decide +kernel
theorem dL_told_243 : decode cL_told 243 = .ok (.bipush (-13), 2) := by decide +kernel
theorem dL_told_245 : decode cL_told 245 = .ok (.if_icmp .ne 7, 3) := by decide +kernel
theorem dL_told_248 : decode cL_told 248 = .ok (.iconst 1, 1) := by decide +kernel
theorem dL_told_249 : decode cL_told 249 = .ok (.goto 4, 3) := by decide +kernel
theorem dL_told_252 : decode cL_told 252 = .ok (.iconst 0, 1) := by decide +kernel
theorem dL_told_253 : decode cL_told 253 = .ok (.ireturn, 1) := by decide +kernel
theorem dL_sum_0 : decode cL_sum 0 = .ok (.aload_n 0, 1) := by decide +kernel
theorem dL_sum_1 : decode cL_sum 1 = .ok (.invokevirtual 141, 3) := by decide +kernel
theorem dL_sum_4 : decode cL_sum 4 = .ok (.ifCond .eq 9, 3) := by decide +kernel
theorem dL_sum_7 : decode cL_sum 7 = .ok (.ldc2_w 250, 3) := by decide +kernel
theorem dL_sum_10 : decode cL_sum 10 = .ok (.goto 6, 3) := by decide +kernel
theorem dL_sum_13 : decode cL_sum 13 = .ok (.ldc2_w 252, 3) := by decide +kernel
theorem dL_sum_16 : decode cL_sum 16 = .ok (.lstore_n 1, 1) := by decide +kernel
theorem dL_sum_17 : decode cL_sum 17 = .ok (.iconst 0, 1) := by decide +kernel
theorem dL_sum_18 : decode cL_sum 18 = .ok (.istore_n 3, 1) := by decide +kernel
theorem dL_sum_19 : decode cL_sum 19 = .ok (.iload_n 3, 1) := by decide +kernel
theorem dL_sum_20 : decode cL_sum 20 = .ok (.bipush 11, 2) := by decide +kernel
theorem dL_sum_22 : decode cL_sum 22 = .ok (.if_icmp .ge 22, 3) := by decide +kernel
theorem dL_sum_25 : decode cL_sum 25 = .ok (.ldc2_w 254, 3) := by decide +kernel
theorem dL_sum_28 : decode cL_sum 28 = .ok (.lload_n 1, 1) := by decide +kernel
theorem dL_sum_29 : decode cL_sum 29 = .ok (.lmul, 1) := by decide +kernel
theorem dL_sum_30 : decode cL_sum 30 = .ok (.aload_n 0, 1) := by decide +kernel
theorem dL_sum_31 : decode cL_sum 31 = .ok (.iload_n 3, 1) := by decide +kernel
theorem dL_sum_32 : decode cL_sum 32 = .ok (.invokevirtual 157, 3) := by decide +kernel
theorem dL_sum_35 : decode cL_sum 35 = .ok (.i2l, 1) := by decide +kernel
theorem dL_sum_36 : decode cL_sum 36 = .ok (.ladd, 1) := by decide +kernel
theorem dL_sum_37 : decode cL_sum 37 = .ok (.lstore_n 1, 1) := by decide +kernel
theorem dL_sum_38 : decode cL_sum 38 = .ok (.iinc 3 1, 3) := by decide +kernel
theorem dL_sum_41 : decode cL_sum 41 = .ok (.goto (-22), 3) := by decide +kernel
theorem dL_sum_44 : decode cL_sum 44 = .ok (.iconst 0, 1) := by decide +kernel
theorem dL_sum_45 : decode cL_sum 45 = .ok (.istore_n 3, 1) := by decide +kernel
theorem dL_sum_46 : decode cL_sum 46 = .ok (.iload_n 3, 1) := by decide +kernel
theorem dL_sum_47 : decode cL_sum 47 = .ok (.aload_n 0, 1) := by decide +kernel
theorem dL_sum_48 : decode cL_sum 48 = .ok (.iconst 0, 1) := by decide +kernel
theorem dL_sum_49 : decode cL_sum 49 = .ok (.invokevirtual 157, 3) := by decide +kernel
theorem dL_sum_52 : decode cL_sum 52 = .ok (.if_icmp .ge 78, 3) := by decide +kernel
theorem dL_sum_55 : decode cL_sum 55 = .ok (.ldc2_w 256, 3) := by decide +kernel
theorem dL_sum_58 : decode cL_sum 58 = .ok (.lload_n 1, 1) := by decide +kernel
theorem dL_sum_59 : decode cL_sum 59 = .ok (.lmul, 1) := by decide +kernel
theorem dL_sum_60 : decode cL_sum 60 = .ok (.aload_n 0, 1) := by decide +kernel
theorem dL_sum_61 : decode cL_sum 61 = .ok (.iload_n 3, 1) := by decide +kernel
theorem dL_sum_62 : decode cL_sum 62 = .ok (.iconst 0, 1) := by decide +kernel
theorem dL_sum_63 : decode cL_sum 63 = .ok (.invokestatic 187, 3) := by decide +kernel
theorem dL_sum_66 : decode cL_sum 66 = .ok (.i2l, 1) := by decide +kernel
theorem dL_sum_67 : decode cL_sum 67 = .ok (.ladd, 1) := by decide +kernel
theorem dL_sum_68 : decode cL_sum 68 = .ok (.ldc2_w 258, 3) := by decide +kernel
theorem dL_sum_71 : decode cL_sum 71 = .ok (.aload_n 0, 1) := by decide +kernel
theorem dL_sum_72 : decode cL_sum 72 = .ok (.iload_n 3, 1) := by decide +kernel
theorem dL_sum_73 : decode cL_sum 73 = .ok (.invokestatic 216, 3) := by decide +kernel
theorem dL_sum_76 : decode cL_sum 76 = .ok (.i2l, 1) := by decide +kernel
theorem dL_sum_77 : decode cL_sum 77 = .ok (.lmul, 1) := by decide +kernel
theorem dL_sum_78 : decode cL_sum 78 = .ok (.ladd, 1) := by decide +kernel
theorem dL_sum_79 : decode cL_sum 79 = .ok (.lstore_n 1, 1) := by decide +kernel
theorem dL_sum_80 : decode cL_sum 80 = .ok (.iconst 0, 1) := by decide +kernel
theorem dL_sum_81 : decode cL_sum 81 = .ok (.istore 4, 2) := by decide +kernel
theorem dL_sum_83 : decode cL_sum 83 = .ok (.iload 4, 2) := by decide +kernel
theorem dL_sum_85 : decode cL_sum 85 = .ok (.bipush 6, 2) := by decide +kernel
theorem dL_sum_87 : decode cL_sum 87 = .ok (.if_icmp .ge 37, 3) := by decide +kernel
theorem dL_sum_90 : decode cL_sum 90 = .ok (.ldc2_w 260, 3) := by decide +kernel
theorem dL_sum_93 : decode cL_sum 93 = .ok (.lload_n 1, 1) := by decide +kernel
theorem dL_sum_94 : decode cL_sum 94 = .ok (.lmul, 1) := by decide +kernel
theorem dL_sum_95 : decode cL_sum 95 = .ok (.ldc2_w 262, 3) := by decide +kernel
theorem dL_sum_98 : decode cL_sum 98 = .ok (.aload_n 0, 1) := by decide +kernel
theorem dL_sum_99 : decode cL_sum 99 = .ok (.iload_n 3, 1) := by decide +kernel
theorem dL_sum_100 : decode cL_sum 100 = .ok (.iload 4, 2) := by decide +kernel
theorem dL_sum_102 : decode cL_sum 102 = .ok (.invokestatic 160, 3) := by decide +kernel
theorem dL_sum_105 : decode cL_sum 105 = .ok (.i2l, 1) := by decide +kernel
theorem dL_sum_106 : decode cL_sum 106 = .ok (.lmul, 1) := by decide +kernel
theorem dL_sum_107 : decode cL_sum 107 = .ok (.ladd, 1) := by decide +kernel
theorem dL_sum_108 : decode cL_sum 108 = .ok (.aload_n 0, 1) := by decide +kernel
theorem dL_sum_109 : decode cL_sum 109 = .ok (.iload_n 3, 1) := by decide +kernel
theorem dL_sum_110 : decode cL_sum 110 = .ok (.iload 4, 2) := by decide +kernel
theorem dL_sum_112 : decode cL_sum 112 = .ok (.invokestatic 182, 3) := by decide +kernel
theorem dL_sum_115 : decode cL_sum 115 = .ok (.i2l, 1) := by decide +kernel
theorem dL_sum_116 : decode cL_sum 116 = .ok (.ladd, 1) := by decide +kernel
theorem dL_sum_117 : decode cL_sum 117 = .ok (.lstore_n 1, 1) := by decide +kernel
theorem dL_sum_118 : decode cL_sum 118 = .ok (.iinc 4 1, 3) := by decide +kernel
theorem dL_sum_121 : decode cL_sum 121 = .ok (.goto (-38), 3) := by decide +kernel
theorem dL_sum_124 : decode cL_sum 124 = .ok (.iinc 3 1, 3) := by decide +kernel
theorem dL_sum_127 : decode cL_sum 127 = .ok (.goto (-81), 3) := by decide +kernel
theorem dL_sum_130 : decode cL_sum 130 = .ok (.iconst 0, 1) := by decide +kernel
theorem dL_sum_131 : decode cL_sum 131 = .ok (.istore_n 3, 1) := by decide +kernel
theorem dL_sum_132 : decode cL_sum 132 = .ok (.iload_n 3, 1) := by decide +kernel
theorem dL_sum_133 : decode cL_sum 133 = .ok (.bipush 6, 2) := by decide +kernel
theorem dL_sum_135 : decode cL_sum 135 = .ok (.if_icmp .ge 47, 3) := by decide +kernel
theorem dL_sum_138 : decode cL_sum 138 = .ok (.ldc2_w 264, 3) := by decide +kernel
theorem dL_sum_141 : decode cL_sum 141 = .ok (.lload_n 1, 1) := by decide +kernel
theorem dL_sum_142 : decode cL_sum 142 = .ok (.lmul, 1) := by decide +kernel
theorem dL_sum_143 : decode cL_sum 143 = .ok (.aload_n 0, 1) := by decide +kernel
theorem dL_sum_144 : decode cL_sum 144 = .ok (.iload_n 3, 1) := by decide +kernel
theorem dL_sum_145 : decode cL_sum 145 = .ok (.iconst 0, 1) := by decide +kernel
theorem dL_sum_146 : decode cL_sum 146 = .ok (.invokestatic 149, 3) := by decide +kernel
theorem dL_sum_149 : decode cL_sum 149 = .ok (.i2l, 1) := by decide +kernel
theorem dL_sum_150 : decode cL_sum 150 = .ok (.ladd, 1) := by decide +kernel
theorem dL_sum_151 : decode cL_sum 151 = .ok (.ldc2_w 266, 3) := by decide +kernel
theorem dL_sum_154 : decode cL_sum 154 = .ok (.aload_n 0, 1) := by decide +kernel
theorem dL_sum_155 : decode cL_sum 155 = .ok (.iload_n 3, 1) := by decide +kernel
theorem dL_sum_156 : decode cL_sum 156 = .ok (.iconst 1, 1) := by decide +kernel
theorem dL_sum_157 : decode cL_sum 157 = .ok (.invokestatic 149, 3) := by decide +kernel
theorem dL_sum_160 : decode cL_sum 160 = .ok (.i2l, 1) := by decide +kernel
theorem dL_sum_161 : decode cL_sum 161 = .ok (.lmul, 1) := by decide +kernel
theorem dL_sum_162 : decode cL_sum 162 = .ok (.ladd, 1) := by decide +kernel
theorem dL_sum_163 : decode cL_sum 163 = .ok (.ldc2_w 268, 3) := by decide +kernel
theorem dL_sum_166 : decode cL_sum 166 = .ok (.aload_n 0, 1) := by decide +kernel
theorem dL_sum_167 : decode cL_sum 167 = .ok (.iload_n 3, 1) := by decide +kernel
theorem dL_sum_168 : decode cL_sum 168 = .ok (.iconst 3, 1) := by decide +kernel
theorem dL_sum_169 : decode cL_sum 169 = .ok (.invokestatic 149, 3) := by decide +kernel
theorem dL_sum_172 : decode cL_sum 172 = .ok (.i2l, 1) := by decide +kernel
theorem dL_sum_173 : decode cL_sum 173 = .ok (.lmul, 1) := by decide +kernel
theorem dL_sum_174 : decode cL_sum 174 = .ok (.ladd, 1) := by decide +kernel
theorem dL_sum_175 : decode cL_sum 175 = .ok (.lstore_n 1, 1) := by decide +kernel
theorem dL_sum_176 : decode cL_sum 176 = .ok (.iinc 3 1, 3) := by decide +kernel
theorem dL_sum_179 : decode cL_sum 179 = .ok (.goto (-47), 3) := by decide +kernel
theorem dL_sum_182 : decode cL_sum 182 = .ok (.lload_n 1, 1) := by decide +kernel
theorem dL_sum_183 : decode cL_sum 183 = .ok (.lreturn, 1) := by decide +kernel
theorem dL_undone_0 : decode cL_undone 0 = .ok (.bipush 9, 2) := by decide +kernel
theorem dL_undone_2 : decode cL_undone 2 = .ok (.newarray .long, 2) := by decide +kernel
theorem dL_undone_4 : decode cL_undone 4 = .ok (.astore_n 2, 1) := by decide +kernel
theorem dL_undone_5 : decode cL_undone 5 = .ok (.iconst 0, 1) := by decide +kernel
theorem dL_undone_6 : decode cL_undone 6 = .ok (.istore_n 3, 1) := by decide +kernel
theorem dL_undone_7 : decode cL_undone 7 = .ok (.iconst 0, 1) := by decide +kernel
theorem dL_undone_8 : decode cL_undone 8 = .ok (.istore 4, 2) := by decide +kernel
theorem dL_undone_10 : decode cL_undone 10 = .ok (.iload 4, 2) := by decide +kernel
theorem dL_undone_12 : decode cL_undone 12 = .ok (.bipush 7, 2) := by decide +kernel
theorem dL_undone_14 : decode cL_undone 14 = .ok (.if_icmp .ge 423, 3) := by decide +kernel
theorem dL_undone_17 : decode cL_undone 17 = .ok (.aload_n 0, 1) := by decide +kernel
theorem dL_undone_18 : decode cL_undone 18 = .ok (.bipush 52, 2) := by decide +kernel
theorem dL_undone_20 : decode cL_undone 20 = .ok (.iload 4, 2) := by decide +kernel
theorem dL_undone_22 : decode cL_undone 22 = .ok (.iadd, 1) := by decide +kernel
theorem dL_undone_23 : decode cL_undone 23 = .ok (.invokestatic 122, 3) := by decide +kernel
theorem dL_undone_26 : decode cL_undone 26 = .ok (.iconst 1, 1) := by decide +kernel
theorem dL_undone_27 : decode cL_undone 27 = .ok (.iushr, 1) := by decide +kernel
theorem dL_undone_28 : decode cL_undone 28 = .ok (.istore 5, 2) := by decide +kernel
theorem dL_undone_30 : decode cL_undone 30 = .ok (.iload 5, 2) := by decide +kernel
theorem dL_undone_32 : decode cL_undone 32 = .ok (.iconst 4, 1) := by decide +kernel
theorem dL_undone_33 : decode cL_undone 33 = .ok (.iushr, 1) := by decide +kernel
theorem dL_undone_34 : decode cL_undone 34 = .ok (.istore 6, 2) := by decide +kernel
theorem dL_undone_36 : decode cL_undone 36 = .ok (.iload 6, 2) := by decide +kernel
theorem dL_undone_38 : decode cL_undone 38 = .ok (.bipush 6, 2) := by decide +kernel
theorem dL_undone_40 : decode cL_undone 40 = .ok (.irem, 1) := by decide +kernel
theorem dL_undone_41 : decode cL_undone 41 = .ok (.istore 7, 2) := by decide +kernel
theorem dL_undone_43 : decode cL_undone 43 = .ok (.iload 6, 2) := by decide +kernel
theorem dL_undone_45 : decode cL_undone 45 = .ok (.iconst 3, 1) := by decide +kernel
theorem dL_undone_46 : decode cL_undone 46 = .ok (.iushr, 1) := by decide +kernel
theorem dL_undone_47 : decode cL_undone 47 = .ok (.bipush 7, 2) := by decide +kernel
theorem dL_undone_49 : decode cL_undone 49 = .ok (.irem, 1) := by decide +kernel
theorem dL_undone_50 : decode cL_undone 50 = .ok (.istore 8, 2) := by decide +kernel
theorem dL_undone_52 : decode cL_undone 52 = .ok (.aload_n 2, 1) := by decide +kernel
theorem dL_undone_53 : decode cL_undone 53 = .ok (.iload_n 3, 1) := by decide +kernel
theorem dL_undone_54 : decode cL_undone 54 = .ok (.aload_n 1, 1) := by decide +kernel
theorem dL_undone_55 : decode cL_undone 55 = .ok (.invokestatic 270, 3) := by decide +kernel
theorem dL_undone_58 : decode cL_undone 58 = .ok (.lastore, 1) := by decide +kernel
theorem dL_undone_59 : decode cL_undone 59 = .ok (.iload 5, 2) := by decide +kernel
theorem dL_undone_61 : decode cL_undone 61 = .ok (.bipush 13, 2) := by decide +kernel
theorem dL_undone_63 : decode cL_undone 63 = .ok (.irem, 1) := by decide +kernel
theorem dL_undone_64 : decode cL_undone 64 = .ok (.tableswitch 208 0 10 #[60, 69, 93, 106, 117, 130, 139, 148, 159, 170, 191], 60) := by decide +kernel
theorem dL_undone_124 : decode cL_undone 124 = .ok (.aload_n 1, 1) := by decide +kernel
theorem dL_undone_125 : decode cL_undone 125 = .ok (.invokestatic 126, 3) := by decide +kernel
theorem dL_undone_128 : decode cL_undone 128 = .ok (.istore 9, 2) := by decide +kernel
theorem dL_undone_130 : decode cL_undone 130 = .ok (.goto 270, 3) := by decide +kernel
theorem dL_undone_133 : decode cL_undone 133 = .ok (.aload_n 1, 1) := by decide +kernel
theorem dL_undone_134 : decode cL_undone 134 = .ok (.iload 7, 2) := by decide +kernel
theorem dL_undone_136 : decode cL_undone 136 = .ok (.iload 8, 2) := by decide +kernel
theorem dL_undone_138 : decode cL_undone 138 = .ok (.iload 6, 2) := by decide +kernel
theorem dL_undone_140 : decode cL_undone 140 = .ok (.bipush 6, 2) := by decide +kernel
theorem dL_undone_142 : decode cL_undone 142 = .ok (.iushr, 1) := by decide +kernel
theorem dL_undone_143 : decode cL_undone 143 = .ok (.bipush 103, 2) := by decide +kernel
theorem dL_undone_145 : decode cL_undone 145 = .ok (.irem, 1) := by decide +kernel
theorem dL_undone_146 : decode cL_undone 146 = .ok (.bipush 51, 2) := by decide +kernel
theorem dL_undone_148 : decode cL_undone 148 = .ok (.isub, 1) := by decide +kernel
theorem dL_undone_149 : decode cL_undone 149 = .ok (.invokestatic 128, 3) := by decide +kernel
theorem dL_undone_152 : decode cL_undone 152 = .ok (.istore 9, 2) := by decide +kernel
theorem dL_undone_154 : decode cL_undone 154 = .ok (.goto 246, 3) := by decide +kernel
theorem dL_undone_157 : decode cL_undone 157 = .ok (.aload_n 1, 1) := by decide +kernel
theorem dL_undone_158 : decode cL_undone 158 = .ok (.iload 7, 2) := by decide +kernel
theorem dL_undone_160 : decode cL_undone 160 = .ok (.iload 8, 2) := by decide +kernel
theorem dL_undone_162 : decode cL_undone 162 = .ok (.invokestatic 131, 3) := by decide +kernel
theorem dL_undone_165 : decode cL_undone 165 = .ok (.istore 9, 2) := by decide +kernel
theorem dL_undone_167 : decode cL_undone 167 = .ok (.goto 233, 3) := by decide +kernel
theorem dL_undone_170 : decode cL_undone 170 = .ok (.aload_n 1, 1) := by decide +kernel
theorem dL_undone_171 : decode cL_undone 171 = .ok (.iload 7, 2) := by decide +kernel
theorem dL_undone_173 : decode cL_undone 173 = .ok (.invokestatic 134, 3) := by decide +kernel
theorem dL_undone_176 : decode cL_undone 176 = .ok (.istore 9, 2) := by decide +kernel
theorem dL_undone_178 : decode cL_undone 178 = .ok (.goto 222, 3) := by decide +kernel
theorem dL_undone_181 : decode cL_undone 181 = .ok (.aload_n 1, 1) := by decide +kernel
theorem dL_undone_182 : decode cL_undone 182 = .ok (.iload 7, 2) := by decide +kernel
theorem dL_undone_184 : decode cL_undone 184 = .ok (.iload 8, 2) := by decide +kernel
theorem dL_undone_186 : decode cL_undone 186 = .ok (.invokestatic 137, 3) := by decide +kernel
theorem dL_undone_189 : decode cL_undone 189 = .ok (.istore 9, 2) := by decide +kernel
theorem dL_undone_191 : decode cL_undone 191 = .ok (.goto 209, 3) := by decide +kernel
theorem dL_undone_194 : decode cL_undone 194 = .ok (.aload_n 1, 1) := by decide +kernel
theorem dL_undone_195 : decode cL_undone 195 = .ok (.invokestatic 145, 3) := by decide +kernel
theorem dL_undone_198 : decode cL_undone 198 = .ok (.istore 9, 2) := by decide +kernel
theorem dL_undone_200 : decode cL_undone 200 = .ok (.goto 200, 3) := by decide +kernel
theorem dL_undone_203 : decode cL_undone 203 = .ok (.aload_n 1, 1) := by decide +kernel
theorem dL_undone_204 : decode cL_undone 204 = .ok (.invokestatic 147, 3) := by decide +kernel
theorem dL_undone_207 : decode cL_undone 207 = .ok (.istore 9, 2) := by decide +kernel
theorem dL_undone_209 : decode cL_undone 209 = .ok (.goto 191, 3) := by decide +kernel
theorem dL_undone_212 : decode cL_undone 212 = .ok (.aload_n 1, 1) := by decide +kernel
theorem dL_undone_213 : decode cL_undone 213 = .ok (.iload 8, 2) := by decide +kernel
theorem dL_undone_215 : decode cL_undone 215 = .ok (.invokestatic 151, 3) := by decide +kernel
theorem dL_undone_218 : decode cL_undone 218 = .ok (.istore 9, 2) := by decide +kernel
theorem dL_undone_220 : decode cL_undone 220 = .ok (.goto 180, 3) := by decide +kernel
theorem dL_undone_223 : decode cL_undone 223 = .ok (.aload_n 1, 1) := by decide +kernel
theorem dL_undone_224 : decode cL_undone 224 = .ok (.iload 8, 2) := by decide +kernel
theorem dL_undone_226 : decode cL_undone 226 = .ok (.invokestatic 153, 3) := by decide +kernel
theorem dL_undone_229 : decode cL_undone 229 = .ok (.istore 9, 2) := by decide +kernel
theorem dL_undone_231 : decode cL_undone 231 = .ok (.goto 169, 3) := by decide +kernel
theorem dL_undone_234 : decode cL_undone 234 = .ok (.aload_n 1, 1) := by decide +kernel
theorem dL_undone_235 : decode cL_undone 235 = .ok (.iload 7, 2) := by decide +kernel
theorem dL_undone_237 : decode cL_undone 237 = .ok (.iload 8, 2) := by decide +kernel
theorem dL_undone_239 : decode cL_undone 239 = .ok (.iload 6, 2) := by decide +kernel
theorem dL_undone_241 : decode cL_undone 241 = .ok (.bipush 6, 2) := by decide +kernel
theorem dL_undone_243 : decode cL_undone 243 = .ok (.iushr, 1) := by decide +kernel
theorem dL_undone_244 : decode cL_undone 244 = .ok (.bipush 6, 2) := by decide +kernel
theorem dL_undone_246 : decode cL_undone 246 = .ok (.irem, 1) := by decide +kernel
theorem dL_undone_247 : decode cL_undone 247 = .ok (.invokestatic 139, 3) := by decide +kernel
theorem dL_undone_250 : decode cL_undone 250 = .ok (.istore 9, 2) := by decide +kernel
theorem dL_undone_252 : decode cL_undone 252 = .ok (.goto 148, 3) := by decide +kernel
theorem dL_undone_255 : decode cL_undone 255 = .ok (.aload_n 1, 1) := by decide +kernel
theorem dL_undone_256 : decode cL_undone 256 = .ok (.iload 6, 2) := by decide +kernel
theorem dL_undone_258 : decode cL_undone 258 = .ok (.bipush 6, 2) := by decide +kernel
theorem dL_undone_260 : decode cL_undone 260 = .ok (.iushr, 1) := by decide +kernel
theorem dL_undone_261 : decode cL_undone 261 = .ok (.bipush 26, 2) := by decide +kernel
theorem dL_undone_263 : decode cL_undone 263 = .ok (.irem, 1) := by decide +kernel
theorem dL_undone_264 : decode cL_undone 264 = .ok (.invokestatic 155, 3) := by decide +kernel
theorem dL_undone_267 : decode cL_undone 267 = .ok (.istore 9, 2) := by decide +kernel
theorem dL_undone_269 : decode cL_undone 269 = .ok (.goto 131, 3) := by decide +kernel
theorem dL_undone_272 : decode cL_undone 272 = .ok (.aload_n 1, 1) := by decide +kernel
theorem dL_undone_273 : decode cL_undone 273 = .ok (.new 218, 3) := by decide +kernel
theorem dL_undone_276 : decode cL_undone 276 = .ok (.dup, 1) := by decide +kernel
theorem dL_undone_277 : decode cL_undone 277 = .ok (.invokespecial 220, 3) := by decide +kernel
theorem dL_undone_280 : decode cL_undone 280 = .ok (.ldc_w 274, 3) := by decide +kernel
theorem dL_undone_283 : decode cL_undone 283 = .ok (.invokevirtual 223, 3) := by decide +kernel
theorem dL_undone_286 : decode cL_undone 286 = .ok (.iload 7, 2) := by decide +kernel
theorem dL_undone_288 : decode cL_undone 288 = .ok (.invokevirtual 226, 3) := by decide +kernel
theorem dL_undone_291 : decode cL_undone 291 = .ok (.ldc_w 276, 3) := by decide +kernel
theorem dL_undone_294 : decode cL_undone 294 = .ok (.invokevirtual 223, 3) := by decide +kernel
theorem dL_undone_297 : decode cL_undone 297 = .ok (.iload 8, 2) := by decide +kernel
theorem dL_undone_299 : decode cL_undone 299 = .ok (.invokevirtual 226, 3) := by decide +kernel
theorem dL_undone_302 : decode cL_undone 302 = .ok (.ldc_w 278, 3) := by decide +kernel
theorem dL_undone_305 : decode cL_undone 305 = .ok (.invokevirtual 223, 3) := by decide +kernel
theorem dL_undone_308 : decode cL_undone 308 = .ok (.iload 7, 2) := by decide +kernel
theorem dL_undone_310 : decode cL_undone 310 = .ok (.invokevirtual 226, 3) := by decide +kernel
theorem dL_undone_313 : decode cL_undone 313 = .ok (.ldc_w 276, 3) := by decide +kernel
theorem dL_undone_316 : decode cL_undone 316 = .ok (.invokevirtual 223, 3) := by decide +kernel
theorem dL_undone_319 : decode cL_undone 319 = .ok (.iload 6, 2) := by decide +kernel
theorem dL_undone_321 : decode cL_undone 321 = .ok (.bipush 6, 2) := by decide +kernel
theorem dL_undone_323 : decode cL_undone 323 = .ok (.iushr, 1) := by decide +kernel
theorem dL_undone_324 : decode cL_undone 324 = .ok (.bipush 6, 2) := by decide +kernel
theorem dL_undone_326 : decode cL_undone 326 = .ok (.irem, 1) := by decide +kernel
theorem dL_undone_327 : decode cL_undone 327 = .ok (.invokevirtual 226, 3) := by decide +kernel
theorem dL_undone_330 : decode cL_undone 330 = .ok (.iload 5, 2) := by decide +kernel
theorem dL_undone_332 : decode cL_undone 332 = .ok (.bipush 26, 2) := by decide +kernel
theorem dL_undone_334 : decode cL_undone 334 = .ok (.irem, 1) := by decide +kernel
theorem dL_undone_335 : decode cL_undone 335 = .ok (.bipush 13, 2) := by decide +kernel
theorem dL_undone_337 : decode cL_undone 337 = .ok (.if_icmp .ge 8, 3) := by decide +kernel
theorem dL_undone_340 : decode cL_undone 340 = .ok (.ldc 238, 2) := by decide +kernel
theorem dL_undone_342 : decode cL_undone 342 = .ok (.goto 24, 3) := by decide +kernel
theorem dL_undone_345 : decode cL_undone 345 = .ok (.new 218, 3) := by decide +kernel
theorem dL_undone_348 : decode cL_undone 348 = .ok (.dup, 1) := by decide +kernel
theorem dL_undone_349 : decode cL_undone 349 = .ok (.invokespecial 220, 3) := by decide +kernel
theorem dL_undone_352 : decode cL_undone 352 = .ok (.ldc_w 280, 3) := by decide +kernel
theorem dL_undone_355 : decode cL_undone 355 = .ok (.invokevirtual 223, 3) := by decide +kernel
theorem dL_undone_358 : decode cL_undone 358 = .ok (.iload 7, 2) := by decide +kernel
theorem dL_undone_360 : decode cL_undone 360 = .ok (.invokevirtual 226, 3) := by decide +kernel
theorem dL_undone_363 : decode cL_undone 363 = .ok (.invokevirtual 234, 3) := by decide +kernel
theorem dL_undone_366 : decode cL_undone 366 = .ok (.invokevirtual 223, 3) := by decide +kernel
theorem dL_undone_369 : decode cL_undone 369 = .ok (.ldc_w 282, 3) := by decide +kernel
theorem dL_undone_372 : decode cL_undone 372 = .ok (.invokevirtual 223, 3) := by decide +kernel
theorem dL_undone_375 : decode cL_undone 375 = .ok (.iload 6, 2) := by decide +kernel
theorem dL_undone_377 : decode cL_undone 377 = .ok (.bipush 9, 2) := by decide +kernel
theorem dL_undone_379 : decode cL_undone 379 = .ok (.iushr, 1) := by decide +kernel
theorem dL_undone_380 : decode cL_undone 380 = .ok (.bipush 6, 2) := by decide +kernel
theorem dL_undone_382 : decode cL_undone 382 = .ok (.irem, 1) := by decide +kernel
theorem dL_undone_383 : decode cL_undone 383 = .ok (.invokevirtual 226, 3) := by decide +kernel
theorem dL_undone_386 : decode cL_undone 386 = .ok (.ldc_w 284, 3) := by decide +kernel
theorem dL_undone_389 : decode cL_undone 389 = .ok (.invokevirtual 223, 3) := by decide +kernel
theorem dL_undone_392 : decode cL_undone 392 = .ok (.invokevirtual 234, 3) := by decide +kernel
theorem dL_undone_395 : decode cL_undone 395 = .ok (.invokestatic 286, 3) := by decide +kernel
theorem dL_undone_398 : decode cL_undone 398 = .ok (.istore 9, 2) := by decide +kernel
theorem dL_undone_400 : decode cL_undone 400 = .ok (.iload 9, 2) := by decide +kernel
theorem dL_undone_402 : decode cL_undone 402 = .ok (.ifCond .ge 16, 3) := by decide +kernel
theorem dL_undone_405 : decode cL_undone 405 = .ok (.aload_n 1, 1) := by decide +kernel
theorem dL_undone_406 : decode cL_undone 406 = .ok (.invokestatic 270, 3) := by decide +kernel
theorem dL_undone_409 : decode cL_undone 409 = .ok (.aload_n 2, 1) := by decide +kernel
theorem dL_undone_410 : decode cL_undone 410 = .ok (.iload_n 3, 1) := by decide +kernel
theorem dL_undone_411 : decode cL_undone 411 = .ok (.laload, 1) := by decide +kernel
theorem dL_undone_412 : decode cL_undone 412 = .ok (.lcmp, 1) := by decide +kernel
theorem dL_undone_413 : decode cL_undone 413 = .ok (.ifCond .eq 5, 3) := by decide +kernel
theorem dL_undone_416 : decode cL_undone 416 = .ok (.iconst 0, 1) := by decide +kernel
theorem dL_undone_417 : decode cL_undone 417 = .ok (.ireturn, 1) := by decide +kernel
theorem dL_undone_418 : decode cL_undone 418 = .ok (.iload_n 3, 1) := by decide +kernel
theorem dL_undone_419 : decode cL_undone 419 = .ok (.iload 9, 2) := by decide +kernel
theorem dL_undone_421 : decode cL_undone 421 = .ok (.ifCond .ge 7, 3) := by decide +kernel
theorem dL_undone_424 : decode cL_undone 424 = .ok (.iconst 0, 1) := by decide +kernel
theorem dL_undone_425 : decode cL_undone 425 = .ok (.goto 4, 3) := by decide +kernel
theorem dL_undone_428 : decode cL_undone 428 = .ok (.iconst 1, 1) := by decide +kernel
theorem dL_undone_429 : decode cL_undone 429 = .ok (.iadd, 1) := by decide +kernel
theorem dL_undone_430 : decode cL_undone 430 = .ok (.istore_n 3, 1) := by decide +kernel
theorem dL_undone_431 : decode cL_undone 431 = .ok (.iinc 4 1, 3) := by decide +kernel
theorem dL_undone_434 : decode cL_undone 434 = .ok (.goto (-424), 3) := by decide +kernel
theorem dL_undone_437 : decode cL_undone 437 = .ok (.iload_n 3, 1) := by decide +kernel
theorem dL_undone_438 : decode cL_undone 438 = .ok (.iconst 1, 1) := by decide +kernel
theorem dL_undone_439 : decode cL_undone 439 = .ok (.isub, 1) := by decide +kernel
theorem dL_undone_440 : decode cL_undone 440 = .ok (.istore 4, 2) := by decide +kernel
theorem dL_undone_442 : decode cL_undone 442 = .ok (.iload 4, 2) := by decide +kernel
theorem dL_undone_444 : decode cL_undone 444 = .ok (.ifCond .lt 30, 3) := by decide +kernel
theorem dL_undone_447 : decode cL_undone 447 = .ok (.aload_n 1, 1) := by decide +kernel
theorem dL_undone_448 : decode cL_undone 448 = .ok (.invokestatic 289, 3) := by decide +kernel
theorem dL_undone_451 : decode cL_undone 451 = .ok (.ifCond .lt 15, 3) := by decide +kernel
theorem dL_undone_454 : decode cL_undone 454 = .ok (.aload_n 1, 1) := by decide +kernel
theorem dL_undone_455 : decode cL_undone 455 = .ok (.invokestatic 270, 3) := by decide +kernel
theorem dL_undone_458 : decode cL_undone 458 = .ok (.aload_n 2, 1) := by decide +kernel
theorem dL_undone_459 : decode cL_undone 459 = .ok (.iload 4, 2) := by decide +kernel
theorem dL_undone_461 : decode cL_undone 461 = .ok (.laload, 1) := by decide +kernel
theorem dL_undone_462 : decode cL_undone 462 = .ok (.lcmp, 1) := by decide +kernel
theorem dL_undone_463 : decode cL_undone 463 = .ok (.ifCond .eq 5, 3) := by decide +kernel
theorem dL_undone_466 : decode cL_undone 466 = .ok (.iconst 0, 1) := by decide +kernel
theorem dL_undone_467 : decode cL_undone 467 = .ok (.ireturn, 1) := by decide +kernel
theorem dL_undone_468 : decode cL_undone 468 = .ok (.iinc 4 (-1), 3) := by decide +kernel
theorem dL_undone_471 : decode cL_undone 471 = .ok (.goto (-29), 3) := by decide +kernel
theorem dL_undone_474 : decode cL_undone 474 = .ok (.iconst 1, 1) := by decide +kernel
theorem dL_undone_475 : decode cL_undone 475 = .ok (.ireturn, 1) := by decide +kernel
