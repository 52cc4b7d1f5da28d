theorem dX0_init_0 : decode cX0_init 0 = .ok (.aload_n 0, 1) := by decide +kernel
theorem dX0_init_1 : decode cX0_init 1 = .ok (.invokespecial 3, 3) := by decide +kernel
theorem dX0_init_4 : decode cX0_init 4 = .ok (.aload_n 0, 1) := by decide +kernel
theorem dX0_init_5 : decode cX0_init 5 = .ok (.aload_n 1, 1) := by decide +kernel
theorem dX0_init_6 : decode cX0_init 6 = .ok (.putfield 9, 3) := by decide +kernel
theorem dX0_init_9 : decode cX0_init 9 = .ok (.aload_n 0, 1) := by decide +kernel
theorem dX0_init_10 : decode cX0_init 10 = .ok (.aload_n 2, 1) := by decide +kernel
theorem dX0_init_11 : decode cX0_init 11 = .ok (.putfield 15, 3) := by decide +kernel
theorem dX0_init_14 : decode cX0_init 14 = .ok (.return_, 1) := by decide +kernel
theorem dX0_carryOutAll_0 : decode cX0_carryOutAll 0 = .ok (.iconst 0, 1) := by decide +kernel
theorem dX0_carryOutAll_1 : decode cX0_carryOutAll 1 = .ok (.istore_n 2, 1) := by decide +kernel
theorem dX0_carryOutAll_2 : decode cX0_carryOutAll 2 = .ok (.iload_n 2, 1) := by decide +kernel
theorem dX0_carryOutAll_3 : decode cX0_carryOutAll 3 = .ok (.aload_n 1, 1) := by decide +kernel
theorem dX0_carryOutAll_4 : decode cX0_carryOutAll 4 = .ok (.getfield 19, 3) := by decide +kernel
theorem dX0_carryOutAll_7 : decode cX0_carryOutAll 7 = .ok (.if_icmp .ge 84, 3) := by decide +kernel
theorem dX0_carryOutAll_10 : decode cX0_carryOutAll 10 = .ok (.aload_n 1, 1) := by decide +kernel
theorem dX0_carryOutAll_11 : decode cX0_carryOutAll 11 = .ok (.getfield 25, 3) := by decide +kernel
theorem dX0_carryOutAll_14 : decode cX0_carryOutAll 14 = .ok (.iload_n 2, 1) := by decide +kernel
theorem dX0_carryOutAll_15 : decode cX0_carryOutAll 15 = .ok (.iaload, 1) := by decide +kernel
theorem dX0_carryOutAll_16 : decode cX0_carryOutAll 16 = .ok (.istore_n 3, 1) := by decide +kernel
theorem dX0_carryOutAll_17 : decode cX0_carryOutAll 17 = .ok (.aload_n 1, 1) := by decide +kernel
theorem dX0_carryOutAll_18 : decode cX0_carryOutAll 18 = .ok (.getfield 29, 3) := by decide +kernel
theorem dX0_carryOutAll_21 : decode cX0_carryOutAll 21 = .ok (.iload_n 2, 1) := by decide +kernel
theorem dX0_carryOutAll_22 : decode cX0_carryOutAll 22 = .ok (.iaload, 1) := by decide +kernel
theorem dX0_carryOutAll_23 : decode cX0_carryOutAll 23 = .ok (.istore 4, 2) := by decide +kernel
theorem dX0_carryOutAll_25 : decode cX0_carryOutAll 25 = .ok (.aload_n 1, 1) := by decide +kernel
theorem dX0_carryOutAll_26 : decode cX0_carryOutAll 26 = .ok (.getfield 32, 3) := by decide +kernel
theorem dX0_carryOutAll_29 : decode cX0_carryOutAll 29 = .ok (.iload_n 2, 1) := by decide +kernel
theorem dX0_carryOutAll_30 : decode cX0_carryOutAll 30 = .ok (.iaload, 1) := by decide +kernel
theorem dX0_carryOutAll_31 : decode cX0_carryOutAll 31 = .ok (.istore 5, 2) := by decide +kernel
theorem dX0_carryOutAll_33 : decode cX0_carryOutAll 33 = .ok (.aload_n 1, 1) := by decide +kernel
theorem dX0_carryOutAll_34 : decode cX0_carryOutAll 34 = .ok (.getfield 35, 3) := by decide +kernel
theorem dX0_carryOutAll_37 : decode cX0_carryOutAll 37 = .ok (.iload_n 2, 1) := by decide +kernel
theorem dX0_carryOutAll_38 : decode cX0_carryOutAll 38 = .ok (.iaload, 1) := by decide +kernel
theorem dX0_carryOutAll_39 : decode cX0_carryOutAll 39 = .ok (.istore 6, 2) := by decide +kernel
theorem dX0_carryOutAll_41 : decode cX0_carryOutAll 41 = .ok (.aload_n 0, 1) := by decide +kernel
theorem dX0_carryOutAll_42 : decode cX0_carryOutAll 42 = .ok (.iload_n 3, 1) := by decide +kernel
theorem dX0_carryOutAll_43 : decode cX0_carryOutAll 43 = .ok (.iload 4, 2) := by decide +kernel
theorem dX0_carryOutAll_45 : decode cX0_carryOutAll 45 = .ok (.iload 5, 2) := by decide +kernel
theorem dX0_carryOutAll_47 : decode cX0_carryOutAll 47 = .ok (.iload 6, 2) := by decide +kernel
theorem dX0_carryOutAll_49 : decode cX0_carryOutAll 49 = .ok (.invokevirtual 38, 3) := by decide +kernel
theorem dX0_carryOutAll_52 : decode cX0_carryOutAll 52 = .ok (.ifCond .eq 5, 3) := by decide +kernel
theorem dX0_carryOutAll_55 : decode cX0_carryOutAll 55 = .ok (.iconst 2, 1) := by decide +kernel
theorem dX0_carryOutAll_56 : decode cX0_carryOutAll 56 = .ok (.ireturn, 1) := by decide +kernel
theorem dX0_carryOutAll_57 : decode cX0_carryOutAll 57 = .ok (.aload_n 0, 1) := by decide +kernel
theorem dX0_carryOutAll_58 : decode cX0_carryOutAll 58 = .ok (.iload_n 3, 1) := by decide +kernel
theorem dX0_carryOutAll_59 : decode cX0_carryOutAll 59 = .ok (.iload 4, 2) := by decide +kernel
theorem dX0_carryOutAll_61 : decode cX0_carryOutAll 61 = .ok (.iload 5, 2) := by decide +kernel
theorem dX0_carryOutAll_63 : decode cX0_carryOutAll 63 = .ok (.iload 6, 2) := by decide +kernel
theorem dX0_carryOutAll_65 : decode cX0_carryOutAll 65 = .ok (.invokevirtual 42, 3) := by decide +kernel
theorem dX0_carryOutAll_68 : decode cX0_carryOutAll 68 = .ok (.ifCond .eq 5, 3) := by decide +kernel
theorem dX0_carryOutAll_71 : decode cX0_carryOutAll 71 = .ok (.iconst 1, 1) := by decide +kernel
theorem dX0_carryOutAll_72 : decode cX0_carryOutAll 72 = .ok (.ireturn, 1) := by decide +kernel
theorem dX0_carryOutAll_73 : decode cX0_carryOutAll 73 = .ok (.aload_n 0, 1) := by decide +kernel
theorem dX0_carryOutAll_74 : decode cX0_carryOutAll 74 = .ok (.iload_n 3, 1) := by decide +kernel
theorem dX0_carryOutAll_75 : decode cX0_carryOutAll 75 = .ok (.iload 4, 2) := by decide +kernel
theorem dX0_carryOutAll_77 : decode cX0_carryOutAll 77 = .ok (.iload 5, 2) := by decide +kernel
theorem dX0_carryOutAll_79 : decode cX0_carryOutAll 79 = .ok (.iload 6, 2) := by decide +kernel
theorem dX0_carryOutAll_81 : decode cX0_carryOutAll 81 = .ok (.invokevirtual 45, 3) := by decide +kernel
theorem dX0_carryOutAll_84 : decode cX0_carryOutAll 84 = .ok (.pop, 1) := by decide +kernel
theorem dX0_carryOutAll_85 : decode cX0_carryOutAll 85 = .ok (.iinc 2 1, 3) := by decide +kernel
theorem dX0_carryOutAll_88 : decode cX0_carryOutAll 88 = .ok (.goto (-86), 3) := by decide +kernel
theorem dX0_carryOutAll_91 : decode cX0_carryOutAll 91 = .ok (.iconst 0, 1) := by decide +kernel
theorem dX0_carryOutAll_92 : decode cX0_carryOutAll 92 = .ok (.ireturn, 1) := by decide +kernel
theorem dX0_isWrong_0 : decode cX0_isWrong 0 = .ok (.iload_n 1, 1) := by decide +kernel
theorem dX0_isWrong_1 : decode cX0_isWrong 1 = .ok (.tableswitch 211 97 116 #[95, 211, 211, 158, 211, 211, 211, 192, 131, 211, 211, 211, 211, 211, 211, 211, 124, 175, 175, 124], 95) := by decide +kernel
theorem dX0_isWrong_96 : decode cX0_isWrong 96 = .ok (.aload_n 0, 1) := by decide +kernel
theorem dX0_isWrong_97 : decode cX0_isWrong 97 = .ok (.iload_n 2, 1) := by decide +kernel
theorem dX0_isWrong_98 : decode cX0_isWrong 98 = .ok (.iload_n 3, 1) := by decide +kernel
theorem dX0_isWrong_99 : decode cX0_isWrong 99 = .ok (.invokevirtual 49, 3) := by decide +kernel
theorem dX0_isWrong_102 : decode cX0_isWrong 102 = .ok (.ifCond .ne 17, 3) := by decide +kernel
theorem dX0_isWrong_105 : decode cX0_isWrong 105 = .ok (.iload 4, 2) := by decide +kernel
theorem dX0_isWrong_107 : decode cX0_isWrong 107 = .ok (.bipush (-50), 2) := by decide +kernel
theorem dX0_isWrong_109 : decode cX0_isWrong 109 = .ok (.if_icmp .lt 10, 3) := by decide +kernel
theorem dX0_isWrong_112 : decode cX0_isWrong 112 = .ok (.iload 4, 2) := by decide +kernel
theorem dX0_isWrong_114 : decode cX0_isWrong 114 = .ok (.bipush 50, 2) := by decide +kernel
theorem dX0_isWrong_116 : decode cX0_isWrong 116 = .ok (.if_icmp .le 7, 3) := by decide +kernel
theorem dX0_isWrong_119 : decode cX0_isWrong 119 = .ok (.iconst 1, 1) := by decide +kernel
theorem dX0_isWrong_120 : decode cX0_isWrong 120 = .ok (.goto 4, 3) := by decide +kernel
theorem dX0_isWrong_123 : decode cX0_isWrong 123 = .ok (.iconst 0, 1) := by decide +kernel
theorem dX0_isWrong_124 : decode cX0_isWrong 124 = .ok (.ireturn, 1) := by decide +kernel
theorem dX0_isWrong_125 : decode cX0_isWrong 125 = .ok (.aload_n 0, 1) := by decide +kernel
theorem dX0_isWrong_126 : decode cX0_isWrong 126 = .ok (.iload_n 2, 1) := by decide +kernel
theorem dX0_isWrong_127 : decode cX0_isWrong 127 = .ok (.iload_n 3, 1) := by decide +kernel
theorem dX0_isWrong_128 : decode cX0_isWrong 128 = .ok (.invokevirtual 49, 3) := by decide +kernel
theorem dX0_isWrong_131 : decode cX0_isWrong 131 = .ok (.ireturn, 1) := by decide +kernel
theorem dX0_isWrong_132 : decode cX0_isWrong 132 = .ok (.aload_n 0, 1) := by decide +kernel
theorem dX0_isWrong_133 : decode cX0_isWrong 133 = .ok (.iload_n 2, 1) := by decide +kernel
theorem dX0_isWrong_134 : decode cX0_isWrong 134 = .ok (.iload_n 3, 1) := by decide +kernel
theorem dX0_isWrong_135 : decode cX0_isWrong 135 = .ok (.invokevirtual 49, 3) := by decide +kernel
theorem dX0_isWrong_138 : decode cX0_isWrong 138 = .ok (.ifCond .ne 15, 3) := by decide +kernel
theorem dX0_isWrong_141 : decode cX0_isWrong 141 = .ok (.aload_n 0, 1) := by decide +kernel
theorem dX0_isWrong_142 : decode cX0_isWrong 142 = .ok (.getfield 9, 3) := by decide +kernel
theorem dX0_isWrong_145 : decode cX0_isWrong 145 = .ok (.iload 4, 2) := by decide +kernel
theorem dX0_isWrong_147 : decode cX0_isWrong 147 = .ok (.invokevirtual 53, 3) := by decide +kernel
theorem dX0_isWrong_150 : decode cX0_isWrong 150 = .ok (.ifCond .ne 7, 3) := by decide +kernel
theorem dX0_isWrong_153 : decode cX0_isWrong 153 = .ok (.iconst 1, 1) := by decide +kernel
theorem dX0_isWrong_154 : decode cX0_isWrong 154 = .ok (.goto 4, 3) := by decide +kernel
theorem dX0_isWrong_157 : decode cX0_isWrong 157 = .ok (.iconst 0, 1) := by decide +kernel
theorem dX0_isWrong_158 : decode cX0_isWrong 158 = .ok (.ireturn, 1) := by decide +kernel
theorem dX0_isWrong_159 : decode cX0_isWrong 159 = .ok (.aload_n 0, 1) := by decide +kernel
theorem dX0_isWrong_160 : decode cX0_isWrong 160 = .ok (.getfield 9, 3) := by decide +kernel
theorem dX0_isWrong_163 : decode cX0_isWrong 163 = .ok (.iload_n 2, 1) := by decide +kernel
theorem dX0_isWrong_164 : decode cX0_isWrong 164 = .ok (.invokevirtual 59, 3) := by decide +kernel
theorem dX0_isWrong_167 : decode cX0_isWrong 167 = .ok (.ifCond .ne 7, 3) := by decide +kernel
theorem dX0_isWrong_170 : decode cX0_isWrong 170 = .ok (.iconst 1, 1) := by decide +kernel
theorem dX0_isWrong_171 : decode cX0_isWrong 171 = .ok (.goto 4, 3) := by decide +kernel
theorem dX0_isWrong_174 : decode cX0_isWrong 174 = .ok (.iconst 0, 1) := by decide +kernel
theorem dX0_isWrong_175 : decode cX0_isWrong 175 = .ok (.ireturn, 1) := by decide +kernel
theorem dX0_isWrong_176 : decode cX0_isWrong 176 = .ok (.aload_n 0, 1) := by decide +kernel
theorem dX0_isWrong_177 : decode cX0_isWrong 177 = .ok (.getfield 9, 3) := by decide +kernel
theorem dX0_isWrong_180 : decode cX0_isWrong 180 = .ok (.iload_n 3, 1) := by decide +kernel
theorem dX0_isWrong_181 : decode cX0_isWrong 181 = .ok (.invokevirtual 53, 3) := by decide +kernel
theorem dX0_isWrong_184 : decode cX0_isWrong 184 = .ok (.ifCond .ne 7, 3) := by decide +kernel
theorem dX0_isWrong_187 : decode cX0_isWrong 187 = .ok (.iconst 1, 1) := by decide +kernel
theorem dX0_isWrong_188 : decode cX0_isWrong 188 = .ok (.goto 4, 3) := by decide +kernel
theorem dX0_isWrong_191 : decode cX0_isWrong 191 = .ok (.iconst 0, 1) := by decide +kernel
theorem dX0_isWrong_192 : decode cX0_isWrong 192 = .ok (.ireturn, 1) := by decide +kernel
theorem dX0_isWrong_193 : decode cX0_isWrong 193 = .ok (.iload 4, 2) := by decide +kernel
theorem dX0_isWrong_195 : decode cX0_isWrong 195 = .ok (.iconst 1, 1) := by decide +kernel
theorem dX0_isWrong_196 : decode cX0_isWrong 196 = .ok (.if_icmp .lt 10, 3) := by decide +kernel
theorem dX0_isWrong_199 : decode cX0_isWrong 199 = .ok (.iload 4, 2) := by decide +kernel
theorem dX0_isWrong_201 : decode cX0_isWrong 201 = .ok (.bipush 24, 2) := by decide +kernel
theorem dX0_isWrong_203 : decode cX0_isWrong 203 = .ok (.if_icmp .le 7, 3) := by decide +kernel
theorem dX0_isWrong_206 : decode cX0_isWrong 206 = .ok (.iconst 1, 1) := by decide +kernel
theorem dX0_isWrong_207 : decode cX0_isWrong 207 = .ok (.goto 4, 3) := by decide +kernel
theorem dX0_isWrong_210 : decode cX0_isWrong 210 = .ok (.iconst 0, 1) := by decide +kernel
theorem dX0_isWrong_211 : decode cX0_isWrong 211 = .ok (.ireturn, 1) := by decide +kernel
theorem dX0_isWrong_212 : decode cX0_isWrong 212 = .ok (.iconst 0, 1) := by decide +kernel
theorem dX0_isWrong_213 : decode cX0_isWrong 213 = .ok (.ireturn, 1) := by decide +kernel
theorem dX0_lacks_0 : decode cX0_lacks 0 = .ok (.aload_n 0, 1) := by decide +kernel
theorem dX0_lacks_1 : decode cX0_lacks 1 = .ok (.getfield 9, 3) := by decide +kernel
theorem dX0_lacks_4 : decode cX0_lacks 4 = .ok (.iload_n 1, 1) := by decide +kernel
theorem dX0_lacks_5 : decode cX0_lacks 5 = .ok (.invokevirtual 59, 3) := by decide +kernel
theorem dX0_lacks_8 : decode cX0_lacks 8 = .ok (.ifCond .eq 14, 3) := by decide +kernel
theorem dX0_lacks_11 : decode cX0_lacks 11 = .ok (.aload_n 0, 1) := by decide +kernel
theorem dX0_lacks_12 : decode cX0_lacks 12 = .ok (.getfield 9, 3) := by decide +kernel
theorem dX0_lacks_15 : decode cX0_lacks 15 = .ok (.iload_n 2, 1) := by decide +kernel
theorem dX0_lacks_16 : decode cX0_lacks 16 = .ok (.invokevirtual 53, 3) := by decide +kernel
theorem dX0_lacks_19 : decode cX0_lacks 19 = .ok (.ifCond .ne 7, 3) := by decide +kernel
theorem dX0_lacks_22 : decode cX0_lacks 22 = .ok (.iconst 1, 1) := by decide +kernel
theorem dX0_lacks_23 : decode cX0_lacks 23 = .ok (.goto 4, 3) := by decide +kernel
theorem dX0_lacks_26 : decode cX0_lacks 26 = .ok (.iconst 0, 1) := by decide +kernel
theorem dX0_lacks_27 : decode cX0_lacks 27 = .ok (.ireturn, 1) := by decide +kernel
theorem dX0_isRefused_0 : decode cX0_isRefused 0 = .ok (.iload_n 1, 1) := by decide +kernel
theorem dX0_isRefused_1 : decode cX0_isRefused 1 = .ok (.tableswitch 202 97 119 #[115, 202, 202, 137, 202, 156, 202, 202, 190, 202, 202, 202, 202, 107, 202, 202, 127, 181, 172, 146, 202, 202, 164], 107) := by decide +kernel
theorem dX0_isRefused_108 : decode cX0_isRefused 108 = .ok (.aload_n 0, 1) := by decide +kernel
theorem dX0_isRefused_109 : decode cX0_isRefused 109 = .ok (.getfield 15, 3) := by decide +kernel
theorem dX0_isRefused_112 : decode cX0_isRefused 112 = .ok (.invokevirtual 62, 3) := by decide +kernel
theorem dX0_isRefused_115 : decode cX0_isRefused 115 = .ok (.ireturn, 1) := by decide +kernel
theorem dX0_isRefused_116 : decode cX0_isRefused 116 = .ok (.aload_n 0, 1) := by decide +kernel
theorem dX0_isRefused_117 : decode cX0_isRefused 117 = .ok (.getfield 15, 3) := by decide +kernel
theorem dX0_isRefused_120 : decode cX0_isRefused 120 = .ok (.iload_n 2, 1) := by decide +kernel
theorem dX0_isRefused_121 : decode cX0_isRefused 121 = .ok (.iload_n 3, 1) := by decide +kernel
theorem dX0_isRefused_122 : decode cX0_isRefused 122 = .ok (.iload 4, 2) := by decide +kernel
theorem dX0_isRefused_124 : decode cX0_isRefused 124 = .ok (.invokevirtual 68, 3) := by decide +kernel
theorem dX0_isRefused_127 : decode cX0_isRefused 127 = .ok (.ireturn, 1) := by decide +kernel
theorem dX0_isRefused_128 : decode cX0_isRefused 128 = .ok (.aload_n 0, 1) := by decide +kernel
theorem dX0_isRefused_129 : decode cX0_isRefused 129 = .ok (.getfield 15, 3) := by decide +kernel
theorem dX0_isRefused_132 : decode cX0_isRefused 132 = .ok (.iload_n 2, 1) := by decide +kernel
theorem dX0_isRefused_133 : decode cX0_isRefused 133 = .ok (.iload_n 3, 1) := by decide +kernel
theorem dX0_isRefused_134 : decode cX0_isRefused 134 = .ok (.invokevirtual 72, 3) := by decide +kernel
theorem dX0_isRefused_137 : decode cX0_isRefused 137 = .ok (.ireturn, 1) := by decide +kernel
theorem dX0_isRefused_138 : decode cX0_isRefused 138 = .ok (.aload_n 0, 1) := by decide +kernel
theorem dX0_isRefused_139 : decode cX0_isRefused 139 = .ok (.getfield 15, 3) := by decide +kernel
theorem dX0_isRefused_142 : decode cX0_isRefused 142 = .ok (.iload_n 2, 1) := by decide +kernel
theorem dX0_isRefused_143 : decode cX0_isRefused 143 = .ok (.invokevirtual 75, 3) := by decide +kernel
theorem dX0_isRefused_146 : decode cX0_isRefused 146 = .ok (.ireturn, 1) := by decide +kernel
theorem dX0_isRefused_147 : decode cX0_isRefused 147 = .ok (.aload_n 0, 1) := by decide +kernel
theorem dX0_isRefused_148 : decode cX0_isRefused 148 = .ok (.getfield 15, 3) := by decide +kernel
theorem dX0_isRefused_151 : decode cX0_isRefused 151 = .ok (.iload_n 2, 1) := by decide +kernel
theorem dX0_isRefused_152 : decode cX0_isRefused 152 = .ok (.iload_n 3, 1) := by decide +kernel
theorem dX0_isRefused_153 : decode cX0_isRefused 153 = .ok (.invokevirtual 78, 3) := by decide +kernel
theorem dX0_isRefused_156 : decode cX0_isRefused 156 = .ok (.ireturn, 1) := by decide +kernel
theorem dX0_isRefused_157 : decode cX0_isRefused 157 = .ok (.aload_n 0, 1) := by decide +kernel
theorem dX0_isRefused_158 : decode cX0_isRefused 158 = .ok (.getfield 15, 3) := by decide +kernel
theorem dX0_isRefused_161 : decode cX0_isRefused 161 = .ok (.invokevirtual 81, 3) := by decide +kernel
theorem dX0_isRefused_164 : decode cX0_isRefused 164 = .ok (.ireturn, 1) := by decide +kernel
theorem dX0_isRefused_165 : decode cX0_isRefused 165 = .ok (.aload_n 0, 1) := by decide +kernel
theorem dX0_isRefused_166 : decode cX0_isRefused 166 = .ok (.getfield 15, 3) := by decide +kernel
theorem dX0_isRefused_169 : decode cX0_isRefused 169 = .ok (.invokevirtual 84, 3) := by decide +kernel
theorem dX0_isRefused_172 : decode cX0_isRefused 172 = .ok (.ireturn, 1) := by decide +kernel
theorem dX0_isRefused_173 : decode cX0_isRefused 173 = .ok (.aload_n 0, 1) := by decide +kernel
theorem dX0_isRefused_174 : decode cX0_isRefused 174 = .ok (.getfield 15, 3) := by decide +kernel
theorem dX0_isRefused_177 : decode cX0_isRefused 177 = .ok (.iload_n 3, 1) := by decide +kernel
theorem dX0_isRefused_178 : decode cX0_isRefused 178 = .ok (.invokevirtual 87, 3) := by decide +kernel
theorem dX0_isRefused_181 : decode cX0_isRefused 181 = .ok (.ireturn, 1) := by decide +kernel
theorem dX0_isRefused_182 : decode cX0_isRefused 182 = .ok (.aload_n 0, 1) := by decide +kernel
theorem dX0_isRefused_183 : decode cX0_isRefused 183 = .ok (.getfield 15, 3) := by decide +kernel
theorem dX0_isRefused_186 : decode cX0_isRefused 186 = .ok (.iload_n 3, 1) := by decide +kernel
theorem dX0_isRefused_187 : decode cX0_isRefused 187 = .ok (.invokevirtual 90, 3) := by decide +kernel
theorem dX0_isRefused_190 : decode cX0_isRefused 190 = .ok (.ireturn, 1) := by decide +kernel
theorem dX0_isRefused_191 : decode cX0_isRefused 191 = .ok (.aload_n 0, 1) := by decide +kernel
theorem dX0_isRefused_192 : decode cX0_isRefused 192 = .ok (.getfield 15, 3) := by decide +kernel
theorem dX0_isRefused_195 : decode cX0_isRefused 195 = .ok (.iload_n 2, 1) := by decide +kernel
theorem dX0_isRefused_196 : decode cX0_isRefused 196 = .ok (.iload_n 3, 1) := by decide +kernel
theorem dX0_isRefused_197 : decode cX0_isRefused 197 = .ok (.iload 4, 2) := by decide +kernel
theorem dX0_isRefused_199 : decode cX0_isRefused 199 = .ok (.invokevirtual 93, 3) := by decide +kernel
theorem dX0_isRefused_202 : decode cX0_isRefused 202 = .ok (.ireturn, 1) := by decide +kernel
theorem dX0_isRefused_203 : decode cX0_isRefused 203 = .ok (.iconst 0, 1) := by decide +kernel
theorem dX0_isRefused_204 : decode cX0_isRefused 204 = .ok (.ireturn, 1) := by decide +kernel
theorem dX0_perform_0 : decode cX0_perform 0 = .ok (.iload_n 1, 1) := by decide +kernel
theorem dX0_perform_1 : decode cX0_perform 1 = .ok (.tableswitch 204 97 119 #[115, 204, 204, 137, 204, 156, 204, 204, 192, 204, 204, 204, 204, 107, 204, 204, 127, 182, 172, 146, 204, 204, 164], 107) := by decide +kernel
theorem dX0_perform_108 : decode cX0_perform 108 = .ok (.aload_n 0, 1) := by decide +kernel
theorem dX0_perform_109 : decode cX0_perform 109 = .ok (.getfield 9, 3) := by decide +kernel
theorem dX0_perform_112 : decode cX0_perform 112 = .ok (.invokevirtual 96, 3) := by decide +kernel
theorem dX0_perform_115 : decode cX0_perform 115 = .ok (.ireturn, 1) := by decide +kernel
theorem dX0_perform_116 : decode cX0_perform 116 = .ok (.aload_n 0, 1) := by decide +kernel
theorem dX0_perform_117 : decode cX0_perform 117 = .ok (.getfield 9, 3) := by decide +kernel
theorem dX0_perform_120 : decode cX0_perform 120 = .ok (.iload_n 2, 1) := by decide +kernel
theorem dX0_perform_121 : decode cX0_perform 121 = .ok (.iload_n 3, 1) := by decide +kernel
theorem dX0_perform_122 : decode cX0_perform 122 = .ok (.iload 4, 2) := by decide +kernel
theorem dX0_perform_124 : decode cX0_perform 124 = .ok (.invokevirtual 100, 3) := by decide +kernel
theorem dX0_perform_127 : decode cX0_perform 127 = .ok (.ireturn, 1) := by decide +kernel
theorem dX0_perform_128 : decode cX0_perform 128 = .ok (.aload_n 0, 1) := by decide +kernel
theorem dX0_perform_129 : decode cX0_perform 129 = .ok (.getfield 9, 3) := by decide +kernel
theorem dX0_perform_132 : decode cX0_perform 132 = .ok (.iload_n 2, 1) := by decide +kernel
theorem dX0_perform_133 : decode cX0_perform 133 = .ok (.iload_n 3, 1) := by decide +kernel
theorem dX0_perform_134 : decode cX0_perform 134 = .ok (.invokevirtual 104, 3) := by decide +kernel
theorem dX0_perform_137 : decode cX0_perform 137 = .ok (.ireturn, 1) := by decide +kernel
theorem dX0_perform_138 : decode cX0_perform 138 = .ok (.aload_n 0, 1) := by decide +kernel
theorem dX0_perform_139 : decode cX0_perform 139 = .ok (.getfield 9, 3) := by decide +kernel
theorem dX0_perform_142 : decode cX0_perform 142 = .ok (.iload_n 2, 1) := by decide +kernel
theorem dX0_perform_143 : decode cX0_perform 143 = .ok (.invokevirtual 108, 3) := by decide +kernel
theorem dX0_perform_146 : decode cX0_perform 146 = .ok (.ireturn, 1) := by decide +kernel
theorem dX0_perform_147 : decode cX0_perform 147 = .ok (.aload_n 0, 1) := by decide +kernel
theorem dX0_perform_148 : decode cX0_perform 148 = .ok (.getfield 9, 3) := by decide +kernel
theorem dX0_perform_151 : decode cX0_perform 151 = .ok (.iload_n 2, 1) := by decide +kernel
theorem dX0_perform_152 : decode cX0_perform 152 = .ok (.iload_n 3, 1) := by decide +kernel
theorem dX0_perform_153 : decode cX0_perform 153 = .ok (.invokevirtual 112, 3) := by decide +kernel
theorem dX0_perform_156 : decode cX0_perform 156 = .ok (.ireturn, 1) := by decide +kernel
theorem dX0_perform_157 : decode cX0_perform 157 = .ok (.aload_n 0, 1) := by decide +kernel
theorem dX0_perform_158 : decode cX0_perform 158 = .ok (.getfield 9, 3) := by decide +kernel
theorem dX0_perform_161 : decode cX0_perform 161 = .ok (.invokevirtual 115, 3) := by decide +kernel
theorem dX0_perform_164 : decode cX0_perform 164 = .ok (.ireturn, 1) := by decide +kernel
theorem dX0_perform_165 : decode cX0_perform 165 = .ok (.aload_n 0, 1) := by decide +kernel
theorem dX0_perform_166 : decode cX0_perform 166 = .ok (.getfield 9, 3) := by decide +kernel
theorem dX0_perform_169 : decode cX0_perform 169 = .ok (.invokevirtual 118, 3) := by decide +kernel
theorem dX0_perform_172 : decode cX0_perform 172 = .ok (.ireturn, 1) := by decide +kernel
theorem dX0_perform_173 : decode cX0_perform 173 = .ok (.aload_n 0, 1) := by decide +kernel
theorem dX0_perform_174 : decode cX0_perform 174 = .ok (.getfield 9, 3) := by decide +kernel
theorem dX0_perform_177 : decode cX0_perform 177 = .ok (.iload_n 3, 1) := by decide +kernel
theorem dX0_perform_178 : decode cX0_perform 178 = .ok (.iconst 0, 1) := by decide +kernel
theorem dX0_perform_179 : decode cX0_perform 179 = .ok (.invokevirtual 121, 3) := by decide +kernel
theorem dX0_perform_182 : decode cX0_perform 182 = .ok (.ireturn, 1) := by decide +kernel
theorem dX0_perform_183 : decode cX0_perform 183 = .ok (.aload_n 0, 1) := by decide +kernel
theorem dX0_perform_184 : decode cX0_perform 184 = .ok (.getfield 9, 3) := by decide +kernel
theorem dX0_perform_187 : decode cX0_perform 187 = .ok (.iload_n 3, 1) := by decide +kernel
theorem dX0_perform_188 : decode cX0_perform 188 = .ok (.iconst 1, 1) := by decide +kernel
theorem dX0_perform_189 : decode cX0_perform 189 = .ok (.invokevirtual 121, 3) := by decide +kernel
theorem dX0_perform_192 : decode cX0_perform 192 = .ok (.ireturn, 1) := by decide +kernel
theorem dX0_perform_193 : decode cX0_perform 193 = .ok (.aload_n 0, 1) := by decide +kernel
theorem dX0_perform_194 : decode cX0_perform 194 = .ok (.getfield 9, 3) := by decide +kernel
theorem dX0_perform_197 : decode cX0_perform 197 = .ok (.iload_n 2, 1) := by decide +kernel
theorem dX0_perform_198 : decode cX0_perform 198 = .ok (.iload_n 3, 1) := by decide +kernel
theorem dX0_perform_199 : decode cX0_perform 199 = .ok (.iload 4, 2) := by decide +kernel
theorem dX0_perform_201 : decode cX0_perform 201 = .ok (.invokevirtual 125, 3) := by decide +kernel
theorem dX0_perform_204 : decode cX0_perform 204 = .ok (.ireturn, 1) := by decide +kernel
theorem dX0_perform_205 : decode cX0_perform 205 = .ok (.aload_n 0, 1) := by decide +kernel
theorem dX0_perform_206 : decode cX0_perform 206 = .ok (.getfield 9, 3) := by decide +kernel
theorem dX0_perform_209 : decode cX0_perform 209 = .ok (.iload 4, 2) := by decide +kernel
theorem dX0_perform_211 : decode cX0_perform 211 = .ok (.invokevirtual 128, 3) := by decide +kernel
theorem dX0_perform_214 : decode cX0_perform 214 = .ok (.ireturn, 1) := by decide +kernel
theorem dX1_init_0 : decode cX1_init 0 = .ok (.aload_n 0, 1) := by decide +kernel
theorem dX1_init_1 : decode cX1_init 1 = .ok (.invokespecial 3, 3) := by decide +kernel
theorem dX1_init_4 : decode cX1_init 4 = .ok (.aload_n 0, 1) := by decide +kernel
theorem dX1_init_5 : decode cX1_init 5 = .ok (.iconst 1, 1) := by decide +kernel
theorem dX1_init_6 : decode cX1_init 6 = .ok (.putfield 9, 3) := by decide +kernel
theorem dX1_init_9 : decode cX1_init 9 = .ok (.aload_n 0, 1) := by decide +kernel
theorem dX1_init_10 : decode cX1_init 10 = .ok (.bipush 8, 2) := by decide +kernel
theorem dX1_init_12 : decode cX1_init 12 = .ok (.newarray .int, 2) := by decide +kernel
theorem dX1_init_14 : decode cX1_init 14 = .ok (.putfield 15, 3) := by decide +kernel
theorem dX1_init_17 : decode cX1_init 17 = .ok (.aload_n 0, 1) := by decide +kernel
theorem dX1_init_18 : decode cX1_init 18 = .ok (.bipush 8, 2) := by decide +kernel
theorem dX1_init_20 : decode cX1_init 20 = .ok (.newarray .int, 2) := by decide +kernel
theorem dX1_init_22 : decode cX1_init 22 = .ok (.putfield 19, 3) := by decide +kernel
theorem dX1_init_25 : decode cX1_init 25 = .ok (.aload_n 0, 1) := by decide +kernel
theorem dX1_init_26 : decode cX1_init 26 = .ok (.bipush 8, 2) := by decide +kernel
theorem dX1_init_28 : decode cX1_init 28 = .ok (.newarray .int, 2) := by decide +kernel
theorem dX1_init_30 : decode cX1_init 30 = .ok (.putfield 22, 3) := by decide +kernel
theorem dX1_init_33 : decode cX1_init 33 = .ok (.aload_n 0, 1) := by decide +kernel
theorem dX1_init_34 : decode cX1_init 34 = .ok (.bipush 48, 2) := by decide +kernel
theorem dX1_init_36 : decode cX1_init 36 = .ok (.newarray .int, 2) := by decide +kernel
theorem dX1_init_38 : decode cX1_init 38 = .ok (.putfield 25, 3) := by decide +kernel
theorem dX1_init_41 : decode cX1_init 41 = .ok (.aload_n 0, 1) := by decide +kernel
theorem dX1_init_42 : decode cX1_init 42 = .ok (.bipush 48, 2) := by decide +kernel
theorem dX1_init_44 : decode cX1_init 44 = .ok (.newarray .int, 2) := by decide +kernel
theorem dX1_init_46 : decode cX1_init 46 = .ok (.putfield 28, 3) := by decide +kernel
theorem dX1_init_49 : decode cX1_init 49 = .ok (.aload_n 0, 1) := by decide +kernel
theorem dX1_init_50 : decode cX1_init 50 = .ok (.bipush 6, 2) := by decide +kernel
theorem dX1_init_52 : decode cX1_init 52 = .ok (.newarray .int, 2) := by decide +kernel
theorem dX1_init_54 : decode cX1_init 54 = .ok (.putfield 31, 3) := by decide +kernel
theorem dX1_init_57 : decode cX1_init 57 = .ok (.aload_n 0, 1) := by decide +kernel
theorem dX1_init_58 : decode cX1_init 58 = .ok (.bipush 6, 2) := by decide +kernel
theorem dX1_init_60 : decode cX1_init 60 = .ok (.newarray .int, 2) := by decide +kernel
theorem dX1_init_62 : decode cX1_init 62 = .ok (.putfield 34, 3) := by decide +kernel
theorem dX1_init_65 : decode cX1_init 65 = .ok (.aload_n 0, 1) := by decide +kernel
theorem dX1_init_66 : decode cX1_init 66 = .ok (.bipush 6, 2) := by decide +kernel
theorem dX1_init_68 : decode cX1_init 68 = .ok (.newarray .boolean, 2) := by decide +kernel
theorem dX1_init_70 : decode cX1_init 70 = .ok (.putfield 37, 3) := by decide +kernel
theorem dX1_init_73 : decode cX1_init 73 = .ok (.iconst 0, 1) := by decide +kernel
theorem dX1_init_74 : decode cX1_init 74 = .ok (.istore_n 1, 1) := by decide +kernel
theorem dX1_init_75 : decode cX1_init 75 = .ok (.iload_n 1, 1) := by decide +kernel
theorem dX1_init_76 : decode cX1_init 76 = .ok (.bipush 6, 2) := by decide +kernel
theorem dX1_init_78 : decode cX1_init 78 = .ok (.if_icmp .ge 24, 3) := by decide +kernel
theorem dX1_init_81 : decode cX1_init 81 = .ok (.aload_n 0, 1) := by decide +kernel
theorem dX1_init_82 : decode cX1_init 82 = .ok (.getfield 31, 3) := by decide +kernel
theorem dX1_init_85 : decode cX1_init 85 = .ok (.iload_n 1, 1) := by decide +kernel
theorem dX1_init_86 : decode cX1_init 86 = .ok (.bipush 20, 2) := by decide +kernel
theorem dX1_init_88 : decode cX1_init 88 = .ok (.iastore, 1) := by decide +kernel
theorem dX1_init_89 : decode cX1_init 89 = .ok (.aload_n 0, 1) := by decide +kernel
theorem dX1_init_90 : decode cX1_init 90 = .ok (.getfield 37, 3) := by decide +kernel
theorem dX1_init_93 : decode cX1_init 93 = .ok (.iload_n 1, 1) := by decide +kernel
theorem dX1_init_94 : decode cX1_init 94 = .ok (.iconst 1, 1) := by decide +kernel
theorem dX1_init_95 : decode cX1_init 95 = .ok (.bastore, 1) := by decide +kernel
theorem dX1_init_96 : decode cX1_init 96 = .ok (.iinc 1 1, 3) := by decide +kernel
theorem dX1_init_99 : decode cX1_init 99 = .ok (.goto (-24), 3) := by decide +kernel
theorem dX1_init_102 : decode cX1_init 102 = .ok (.return_, 1) := by decide +kernel
theorem dX1_copyFrom_0 : decode cX1_copyFrom 0 = .ok (.aload_n 0, 1) := by decide +kernel
theorem dX1_copyFrom_1 : decode cX1_copyFrom 1 = .ok (.aload_n 1, 1) := by decide +kernel
theorem dX1_copyFrom_2 : decode cX1_copyFrom 2 = .ok (.getfield 41, 3) := by decide +kernel
theorem dX1_copyFrom_5 : decode cX1_copyFrom 5 = .ok (.putfield 41, 3) := by decide +kernel
theorem dX1_copyFrom_8 : decode cX1_copyFrom 8 = .ok (.aload_n 0, 1) := by decide +kernel
theorem dX1_copyFrom_9 : decode cX1_copyFrom 9 = .ok (.aload_n 1, 1) := by decide +kernel
theorem dX1_copyFrom_10 : decode cX1_copyFrom 10 = .ok (.getfield 45, 3) := by decide +kernel
theorem dX1_copyFrom_13 : decode cX1_copyFrom 13 = .ok (.putfield 45, 3) := by decide +kernel
theorem dX1_copyFrom_16 : decode cX1_copyFrom 16 = .ok (.aload_n 0, 1) := by decide +kernel
theorem dX1_copyFrom_17 : decode cX1_copyFrom 17 = .ok (.aload_n 1, 1) := by decide +kernel
theorem dX1_copyFrom_18 : decode cX1_copyFrom 18 = .ok (.getfield 48, 3) := by decide +kernel
theorem dX1_copyFrom_21 : decode cX1_copyFrom 21 = .ok (.putfield 48, 3) := by decide +kernel
theorem dX1_copyFrom_24 : decode cX1_copyFrom 24 = .ok (.aload_n 0, 1) := by decide +kernel
theorem dX1_copyFrom_25 : decode cX1_copyFrom 25 = .ok (.aload_n 1, 1) := by decide +kernel
theorem dX1_copyFrom_26 : decode cX1_copyFrom 26 = .ok (.getfield 51, 3) := by decide +kernel
theorem dX1_copyFrom_29 : decode cX1_copyFrom 29 = .ok (.putfield 51, 3) := by decide +kernel
theorem dX1_copyFrom_32 : decode cX1_copyFrom 32 = .ok (.aload_n 0, 1) := by decide +kernel
theorem dX1_copyFrom_33 : decode cX1_copyFrom 33 = .ok (.aload_n 1, 1) := by decide +kernel
theorem dX1_copyFrom_34 : decode cX1_copyFrom 34 = .ok (.getfield 54, 3) := by decide +kernel
theorem dX1_copyFrom_37 : decode cX1_copyFrom 37 = .ok (.putfield 54, 3) := by decide +kernel
theorem dX1_copyFrom_40 : decode cX1_copyFrom 40 = .ok (.aload_n 0, 1) := by decide +kernel
theorem dX1_copyFrom_41 : decode cX1_copyFrom 41 = .ok (.aload_n 1, 1) := by decide +kernel
theorem dX1_copyFrom_42 : decode cX1_copyFrom 42 = .ok (.getfield 9, 3) := by decide +kernel
theorem dX1_copyFrom_45 : decode cX1_copyFrom 45 = .ok (.putfield 9, 3) := by decide +kernel
theorem dX1_copyFrom_48 : decode cX1_copyFrom 48 = .ok (.aload_n 1, 1) := by decide +kernel
theorem dX1_copyFrom_49 : decode cX1_copyFrom 49 = .ok (.getfield 15, 3) := by decide +kernel
theorem dX1_copyFrom_52 : decode cX1_copyFrom 52 = .ok (.iconst 0, 1) := by decide +kernel
theorem dX1_copyFrom_53 : decode cX1_copyFrom 53 = .ok (.aload_n 0, 1) := by decide +kernel
theorem dX1_copyFrom_54 : decode cX1_copyFrom 54 = .ok (.getfield 15, 3) := by decide +kernel
theorem dX1_copyFrom_57 : decode cX1_copyFrom 57 = .ok (.iconst 0, 1) := by decide +kernel
theorem dX1_copyFrom_58 : decode cX1_copyFrom 58 = .ok (.bipush 8, 2) := by decide +kernel
theorem dX1_copyFrom_60 : decode cX1_copyFrom 60 = .ok (.invokestatic 57, 3) := by decide +kernel
theorem dX1_copyFrom_63 : decode cX1_copyFrom 63 = .ok (.aload_n 1, 1) := by decide +kernel
theorem dX1_copyFrom_64 : decode cX1_copyFrom 64 = .ok (.getfield 19, 3) := by decide +kernel
theorem dX1_copyFrom_67 : decode cX1_copyFrom 67 = .ok (.iconst 0, 1) := by decide +kernel
theorem dX1_copyFrom_68 : decode cX1_copyFrom 68 = .ok (.aload_n 0, 1) := by decide +kernel
theorem dX1_copyFrom_69 : decode cX1_copyFrom 69 = .ok (.getfield 19, 3) := by decide +kernel
theorem dX1_copyFrom_72 : decode cX1_copyFrom 72 = .ok (.iconst 0, 1) := by decide +kernel
theorem dX1_copyFrom_73 : decode cX1_copyFrom 73 = .ok (.bipush 8, 2) := by decide +kernel
theorem dX1_copyFrom_75 : decode cX1_copyFrom 75 = .ok (.invokestatic 57, 3) := by decide +kernel
theorem dX1_copyFrom_78 : decode cX1_copyFrom 78 = .ok (.aload_n 1, 1) := by decide +kernel
theorem dX1_copyFrom_79 : decode cX1_copyFrom 79 = .ok (.getfield 22, 3) := by decide +kernel
theorem dX1_copyFrom_82 : decode cX1_copyFrom 82 = .ok (.iconst 0, 1) := by decide +kernel
theorem dX1_copyFrom_83 : decode cX1_copyFrom 83 = .ok (.aload_n 0, 1) := by decide +kernel
theorem dX1_copyFrom_84 : decode cX1_copyFrom 84 = .ok (.getfield 22, 3) := by decide +kernel
theorem dX1_copyFrom_87 : decode cX1_copyFrom 87 = .ok (.iconst 0, 1) := by decide +kernel
theorem dX1_copyFrom_88 : decode cX1_copyFrom 88 = .ok (.bipush 8, 2) := by decide +kernel
theorem dX1_copyFrom_90 : decode cX1_copyFrom 90 = .ok (.invokestatic 57, 3) := by decide +kernel
theorem dX1_copyFrom_93 : decode cX1_copyFrom 93 = .ok (.aload_n 1, 1) := by decide +kernel
theorem dX1_copyFrom_94 : decode cX1_copyFrom 94 = .ok (.getfield 25, 3) := by decide +kernel
theorem dX1_copyFrom_97 : decode cX1_copyFrom 97 = .ok (.iconst 0, 1) := by decide +kernel
theorem dX1_copyFrom_98 : decode cX1_copyFrom 98 = .ok (.aload_n 0, 1) := by decide +kernel
theorem dX1_copyFrom_99 : decode cX1_copyFrom 99 = .ok (.getfield 25, 3) := by decide +kernel
theorem dX1_copyFrom_102 : decode cX1_copyFrom 102 = .ok (.iconst 0, 1) := by decide +kernel
theorem dX1_copyFrom_103 : decode cX1_copyFrom 103 = .ok (.bipush 48, 2) := by decide +kernel
theorem dX1_copyFrom_105 : decode cX1_copyFrom 105 = .ok (.invokestatic 57, 3) := by decide +kernel
theorem dX1_copyFrom_108 : decode cX1_copyFrom 108 = .ok (.aload_n 1, 1) := by decide +kernel
theorem dX1_copyFrom_109 : decode cX1_copyFrom 109 = .ok (.getfield 28, 3) := by decide +kernel
theorem dX1_copyFrom_112 : decode cX1_copyFrom 112 = .ok (.iconst 0, 1) := by decide +kernel
theorem dX1_copyFrom_113 : decode cX1_copyFrom 113 = .ok (.aload_n 0, 1) := by decide +kernel
theorem dX1_copyFrom_114 : decode cX1_copyFrom 114 = .ok (.getfield 28, 3) := by decide +kernel
theorem dX1_copyFrom_117 : decode cX1_copyFrom 117 = .ok (.iconst 0, 1) := by decide +kernel
theorem dX1_copyFrom_118 : decode cX1_copyFrom 118 = .ok (.bipush 48, 2) := by decide +kernel
theorem dX1_copyFrom_120 : decode cX1_copyFrom 120 = .ok (.invokestatic 57, 3) := by decide +kernel
theorem dX1_copyFrom_123 : decode cX1_copyFrom 123 = .ok (.aload_n 1, 1) := by decide +kernel
theorem dX1_copyFrom_124 : decode cX1_copyFrom 124 = .ok (.getfield 31, 3) := by decide +kernel
theorem dX1_copyFrom_127 : decode cX1_copyFrom 127 = .ok (.iconst 0, 1) := by decide +kernel
theorem dX1_copyFrom_128 : decode cX1_copyFrom 128 = .ok (.aload_n 0, 1) := by decide +kernel
theorem dX1_copyFrom_129 : decode cX1_copyFrom 129 = .ok (.getfield 31, 3) := by decide +kernel
theorem dX1_copyFrom_132 : decode cX1_copyFrom 132 = .ok (.iconst 0, 1) := by decide +kernel
theorem dX1_copyFrom_133 : decode cX1_copyFrom 133 = .ok (.bipush 6, 2) := by decide +kernel
theorem dX1_copyFrom_135 : decode cX1_copyFrom 135 = .ok (.invokestatic 57, 3) := by decide +kernel
theorem dX1_copyFrom_138 : decode cX1_copyFrom 138 = .ok (.aload_n 1, 1) := by decide +kernel
theorem dX1_copyFrom_139 : decode cX1_copyFrom 139 = .ok (.getfield 34, 3) := by decide +kernel
theorem dX1_copyFrom_142 : decode cX1_copyFrom 142 = .ok (.iconst 0, 1) := by decide +kernel
theorem dX1_copyFrom_143 : decode cX1_copyFrom 143 = .ok (.aload_n 0, 1) := by decide +kernel
theorem dX1_copyFrom_144 : decode cX1_copyFrom 144 = .ok (.getfield 34, 3) := by decide +kernel
theorem dX1_copyFrom_147 : decode cX1_copyFrom 147 = .ok (.iconst 0, 1) := by decide +kernel
theorem dX1_copyFrom_148 : decode cX1_copyFrom 148 = .ok (.bipush 6, 2) := by decide +kernel
theorem dX1_copyFrom_150 : decode cX1_copyFrom 150 = .ok (.invokestatic 57, 3) := by decide +kernel
theorem dX1_copyFrom_153 : decode cX1_copyFrom 153 = .ok (.iconst 0, 1) := by decide +kernel
theorem dX1_copyFrom_154 : decode cX1_copyFrom 154 = .ok (.istore_n 2, 1) := by decide +kernel
theorem dX1_copyFrom_155 : decode cX1_copyFrom 155 = .ok (.iload_n 2, 1) := by decide +kernel
theorem dX1_copyFrom_156 : decode cX1_copyFrom 156 = .ok (.bipush 6, 2) := by decide +kernel
theorem dX1_copyFrom_158 : decode cX1_copyFrom 158 = .ok (.if_icmp .ge 21, 3) := by decide +kernel
theorem dX1_copyFrom_161 : decode cX1_copyFrom 161 = .ok (.aload_n 0, 1) := by decide +kernel
theorem dX1_copyFrom_162 : decode cX1_copyFrom 162 = .ok (.getfield 37, 3) := by decide +kernel
theorem dX1_copyFrom_165 : decode cX1_copyFrom 165 = .ok (.iload_n 2, 1) := by decide +kernel
theorem dX1_copyFrom_166 : decode cX1_copyFrom 166 = .ok (.aload_n 1, 1) := by decide +kernel
theorem dX1_copyFrom_167 : decode cX1_copyFrom 167 = .ok (.getfield 37, 3) := by decide +kernel
theorem dX1_copyFrom_170 : decode cX1_copyFrom 170 = .ok (.iload_n 2, 1) := by decide +kernel
theorem dX1_copyFrom_171 : decode cX1_copyFrom 171 = .ok (.baload, 1) := by decide +kernel
theorem dX1_copyFrom_172 : decode cX1_copyFrom 172 = .ok (.bastore, 1) := by decide +kernel
theorem dX1_copyFrom_173 : decode cX1_copyFrom 173 = .ok (.iinc 2 1, 3) := by decide +kernel
theorem dX1_copyFrom_176 : decode cX1_copyFrom 176 = .ok (.goto (-21), 3) := by decide +kernel
theorem dX1_copyFrom_179 : decode cX1_copyFrom 179 = .ok (.return_, 1) := by decide +kernel
theorem dX1_hasMatter_0 : decode cX1_hasMatter 0 = .ok (.iload_n 1, 1) := by decide +kernel
theorem dX1_hasMatter_1 : decode cX1_hasMatter 1 = .ok (.ifCond .lt 15, 3) := by decide +kernel
theorem dX1_hasMatter_4 : decode cX1_hasMatter 4 = .ok (.iload_n 1, 1) := by decide +kernel
theorem dX1_hasMatter_5 : decode cX1_hasMatter 5 = .ok (.aload_n 0, 1) := by decide +kernel
theorem dX1_hasMatter_6 : decode cX1_hasMatter 6 = .ok (.getfield 41, 3) := by decide +kernel
theorem dX1_hasMatter_9 : decode cX1_hasMatter 9 = .ok (.if_icmp .ge 7, 3) := by decide +kernel
theorem dX1_hasMatter_12 : decode cX1_hasMatter 12 = .ok (.iconst 1, 1) := by decide +kernel
theorem dX1_hasMatter_13 : decode cX1_hasMatter 13 = .ok (.goto 4, 3) := by decide +kernel
theorem dX1_hasMatter_16 : decode cX1_hasMatter 16 = .ok (.iconst 0, 1) := by decide +kernel
theorem dX1_hasMatter_17 : decode cX1_hasMatter 17 = .ok (.ireturn, 1) := by decide +kernel
theorem dX1_hasGuild_0 : decode cX1_hasGuild 0 = .ok (.iload_n 1, 1) := by decide +kernel
theorem dX1_hasGuild_1 : decode cX1_hasGuild 1 = .ok (.ifCond .lt 13, 3) := by decide +kernel
theorem dX1_hasGuild_4 : decode cX1_hasGuild 4 = .ok (.iload_n 1, 1) := by decide +kernel
theorem dX1_hasGuild_5 : decode cX1_hasGuild 5 = .ok (.bipush 6, 2) := by decide +kernel
theorem dX1_hasGuild_7 : decode cX1_hasGuild 7 = .ok (.if_icmp .ge 7, 3) := by decide +kernel
theorem dX1_hasGuild_10 : decode cX1_hasGuild 10 = .ok (.iconst 1, 1) := by decide +kernel
theorem dX1_hasGuild_11 : decode cX1_hasGuild 11 = .ok (.goto 4, 3) := by decide +kernel
theorem dX1_hasGuild_14 : decode cX1_hasGuild 14 = .ok (.iconst 0, 1) := by decide +kernel
theorem dX1_hasGuild_15 : decode cX1_hasGuild 15 = .ok (.ireturn, 1) := by decide +kernel
theorem dX1_isGuildOf_0 : decode cX1_isGuildOf 0 = .ok (.aload_n 0, 1) := by decide +kernel
theorem dX1_isGuildOf_1 : decode cX1_isGuildOf 1 = .ok (.getfield 25, 3) := by decide +kernel
theorem dX1_isGuildOf_4 : decode cX1_isGuildOf 4 = .ok (.iload_n 1, 1) := by decide +kernel
theorem dX1_isGuildOf_5 : decode cX1_isGuildOf 5 = .ok (.bipush 6, 2) := by decide +kernel
theorem dX1_isGuildOf_7 : decode cX1_isGuildOf 7 = .ok (.imul, 1) := by decide +kernel
theorem dX1_isGuildOf_8 : decode cX1_isGuildOf 8 = .ok (.iload_n 2, 1) := by decide +kernel
theorem dX1_isGuildOf_9 : decode cX1_isGuildOf 9 = .ok (.iadd, 1) := by decide +kernel
theorem dX1_isGuildOf_10 : decode cX1_isGuildOf 10 = .ok (.iaload, 1) := by decide +kernel
theorem dX1_isGuildOf_11 : decode cX1_isGuildOf 11 = .ok (.ifCond .eq 7, 3) := by decide +kernel
theorem dX1_isGuildOf_14 : decode cX1_isGuildOf 14 = .ok (.iconst 1, 1) := by decide +kernel
theorem dX1_isGuildOf_15 : decode cX1_isGuildOf 15 = .ok (.goto 4, 3) := by decide +kernel
theorem dX1_isGuildOf_18 : decode cX1_isGuildOf 18 = .ok (.iconst 0, 1) := by decide +kernel
theorem dX1_isGuildOf_19 : decode cX1_isGuildOf 19 = .ok (.ireturn, 1) := by decide +kernel
theorem dX1_amountOf_0 : decode cX1_amountOf 0 = .ok (.aload_n 0, 1) := by decide +kernel
theorem dX1_amountOf_1 : decode cX1_amountOf 1 = .ok (.getfield 25, 3) := by decide +kernel
theorem dX1_amountOf_4 : decode cX1_amountOf 4 = .ok (.iload_n 1, 1) := by decide +kernel
theorem dX1_amountOf_5 : decode cX1_amountOf 5 = .ok (.bipush 6, 2) := by decide +kernel
theorem dX1_amountOf_7 : decode cX1_amountOf 7 = .ok (.imul, 1) := by decide +kernel
theorem dX1_amountOf_8 : decode cX1_amountOf 8 = .ok (.iload_n 2, 1) := by decide +kernel
theorem dX1_amountOf_9 : decode cX1_amountOf 9 = .ok (.iadd, 1) := by decide +kernel
theorem dX1_amountOf_10 : decode cX1_amountOf 10 = .ok (.iaload, 1) := by decide +kernel
theorem dX1_amountOf_11 : decode cX1_amountOf 11 = .ok (.ireturn, 1) := by decide +kernel
theorem dX1_answerOf_0 : decode cX1_answerOf 0 = .ok (.aload_n 0, 1) := by decide +kernel
theorem dX1_answerOf_1 : decode cX1_answerOf 1 = .ok (.getfield 28, 3) := by decide +kernel
theorem dX1_answerOf_4 : decode cX1_answerOf 4 = .ok (.iload_n 1, 1) := by decide +kernel
theorem dX1_answerOf_5 : decode cX1_answerOf 5 = .ok (.bipush 6, 2) := by decide +kernel
theorem dX1_answerOf_7 : decode cX1_answerOf 7 = .ok (.imul, 1) := by decide +kernel
theorem dX1_answerOf_8 : decode cX1_answerOf 8 = .ok (.iload_n 2, 1) := by decide +kernel
theorem dX1_answerOf_9 : decode cX1_answerOf 9 = .ok (.iadd, 1) := by decide +kernel
theorem dX1_answerOf_10 : decode cX1_answerOf 10 = .ok (.iaload, 1) := by decide +kernel
theorem dX1_answerOf_11 : decode cX1_answerOf 11 = .ok (.ireturn, 1) := by decide +kernel
theorem dX1_giveAnswer_0 : decode cX1_giveAnswer 0 = .ok (.aload_n 0, 1) := by decide +kernel
theorem dX1_giveAnswer_1 : decode cX1_giveAnswer 1 = .ok (.getfield 28, 3) := by decide +kernel
theorem dX1_giveAnswer_4 : decode cX1_giveAnswer 4 = .ok (.iload_n 1, 1) := by decide +kernel
theorem dX1_giveAnswer_5 : decode cX1_giveAnswer 5 = .ok (.bipush 6, 2) := by decide +kernel
theorem dX1_giveAnswer_7 : decode cX1_giveAnswer 7 = .ok (.imul, 1) := by decide +kernel
theorem dX1_giveAnswer_8 : decode cX1_giveAnswer 8 = .ok (.iload_n 2, 1) := by decide +kernel
theorem dX1_giveAnswer_9 : decode cX1_giveAnswer 9 = .ok (.iadd, 1) := by decide +kernel
theorem dX1_giveAnswer_10 : decode cX1_giveAnswer 10 = .ok (.iload_n 3, 1) := by decide +kernel
theorem dX1_giveAnswer_11 : decode cX1_giveAnswer 11 = .ok (.iastore, 1) := by decide +kernel
theorem dX1_giveAnswer_12 : decode cX1_giveAnswer 12 = .ok (.return_, 1) := by decide +kernel
theorem dX1_makeMatter_0 : decode cX1_makeMatter 0 = .ok (.aload_n 0, 1) := by decide +kernel
theorem dX1_makeMatter_1 : decode cX1_makeMatter 1 = .ok (.getfield 41, 3) := by decide +kernel
theorem dX1_makeMatter_4 : decode cX1_makeMatter 4 = .ok (.istore_n 1, 1) := by decide +kernel
theorem dX1_makeMatter_5 : decode cX1_makeMatter 5 = .ok (.aload_n 0, 1) := by decide +kernel
theorem dX1_makeMatter_6 : decode cX1_makeMatter 6 = .ok (.getfield 19, 3) := by decide +kernel
theorem dX1_makeMatter_9 : decode cX1_makeMatter 9 = .ok (.iload_n 1, 1) := by decide +kernel
theorem dX1_makeMatter_10 : decode cX1_makeMatter 10 = .ok (.aload_n 0, 1) := by decide +kernel
theorem dX1_makeMatter_11 : decode cX1_makeMatter 11 = .ok (.getfield 48, 3) := by decide +kernel
theorem dX1_makeMatter_14 : decode cX1_makeMatter 14 = .ok (.iastore, 1) := by decide +kernel
theorem dX1_makeMatter_15 : decode cX1_makeMatter 15 = .ok (.aload_n 0, 1) := by decide +kernel
theorem dX1_makeMatter_16 : decode cX1_makeMatter 16 = .ok (.dup, 1) := by decide +kernel
theorem dX1_makeMatter_17 : decode cX1_makeMatter 17 = .ok (.getfield 41, 3) := by decide +kernel
theorem dX1_makeMatter_20 : decode cX1_makeMatter 20 = .ok (.iconst 1, 1) := by decide +kernel
theorem dX1_makeMatter_21 : decode cX1_makeMatter 21 = .ok (.iadd, 1) := by decide +kernel
theorem dX1_makeMatter_22 : decode cX1_makeMatter 22 = .ok (.putfield 41, 3) := by decide +kernel
theorem dX1_makeMatter_25 : decode cX1_makeMatter 25 = .ok (.iload_n 1, 1) := by decide +kernel
theorem dX1_makeMatter_26 : decode cX1_makeMatter 26 = .ok (.ireturn, 1) := by decide +kernel
theorem dX1_setAmount_0 : decode cX1_setAmount 0 = .ok (.aload_n 0, 1) := by decide +kernel
theorem dX1_setAmount_1 : decode cX1_setAmount 1 = .ok (.getfield 25, 3) := by decide +kernel
theorem dX1_setAmount_4 : decode cX1_setAmount 4 = .ok (.iload_n 1, 1) := by decide +kernel
theorem dX1_setAmount_5 : decode cX1_setAmount 5 = .ok (.bipush 6, 2) := by decide +kernel
theorem dX1_setAmount_7 : decode cX1_setAmount 7 = .ok (.imul, 1) := by decide +kernel
theorem dX1_setAmount_8 : decode cX1_setAmount 8 = .ok (.iload_n 2, 1) := by decide +kernel
theorem dX1_setAmount_9 : decode cX1_setAmount 9 = .ok (.iadd, 1) := by decide +kernel
theorem dX1_setAmount_10 : decode cX1_setAmount 10 = .ok (.iload_n 3, 1) := by decide +kernel
theorem dX1_setAmount_11 : decode cX1_setAmount 11 = .ok (.iastore, 1) := by decide +kernel
theorem dX1_setAmount_12 : decode cX1_setAmount 12 = .ok (.aload_n 0, 1) := by decide +kernel
theorem dX1_setAmount_13 : decode cX1_setAmount 13 = .ok (.iload_n 1, 1) := by decide +kernel
theorem dX1_setAmount_14 : decode cX1_setAmount 14 = .ok (.invokevirtual 63, 3) := by decide +kernel
theorem dX1_setAmount_17 : decode cX1_setAmount 17 = .ok (.ireturn, 1) := by decide +kernel
theorem dX1_askGuild_0 : decode cX1_askGuild 0 = .ok (.aload_n 0, 1) := by decide +kernel
theorem dX1_askGuild_1 : decode cX1_askGuild 1 = .ok (.iload_n 1, 1) := by decide +kernel
theorem dX1_askGuild_2 : decode cX1_askGuild 2 = .ok (.iload_n 2, 1) := by decide +kernel
theorem dX1_askGuild_3 : decode cX1_askGuild 3 = .ok (.aload_n 0, 1) := by decide +kernel
theorem dX1_askGuild_4 : decode cX1_askGuild 4 = .ok (.iload_n 1, 1) := by decide +kernel
theorem dX1_askGuild_5 : decode cX1_askGuild 5 = .ok (.iload_n 2, 1) := by decide +kernel
theorem dX1_askGuild_6 : decode cX1_askGuild 6 = .ok (.invokevirtual 67, 3) := by decide +kernel
theorem dX1_askGuild_9 : decode cX1_askGuild 9 = .ok (.ifCond .eq 7, 3) := by decide +kernel
theorem dX1_askGuild_12 : decode cX1_askGuild 12 = .ok (.iconst 1, 1) := by decide +kernel
theorem dX1_askGuild_13 : decode cX1_askGuild 13 = .ok (.goto 4, 3) := by decide +kernel
theorem dX1_askGuild_16 : decode cX1_askGuild 16 = .ok (.iconst 2, 1) := by decide +kernel
theorem dX1_askGuild_17 : decode cX1_askGuild 17 = .ok (.invokevirtual 71, 3) := by decide +kernel
theorem dX1_askGuild_20 : decode cX1_askGuild 20 = .ok (.aload_n 0, 1) := by decide +kernel
theorem dX1_askGuild_21 : decode cX1_askGuild 21 = .ok (.iload_n 1, 1) := by decide +kernel
theorem dX1_askGuild_22 : decode cX1_askGuild 22 = .ok (.iload_n 2, 1) := by decide +kernel
theorem dX1_askGuild_23 : decode cX1_askGuild 23 = .ok (.invokevirtual 75, 3) := by decide +kernel
theorem dX1_askGuild_26 : decode cX1_askGuild 26 = .ok (.ireturn, 1) := by decide +kernel
theorem dX1_wouldBeReady_0 : decode cX1_wouldBeReady 0 = .ok (.aload_n 0, 1) := by decide +kernel
theorem dX1_wouldBeReady_1 : decode cX1_wouldBeReady 1 = .ok (.iload_n 2, 1) := by decide +kernel
theorem dX1_wouldBeReady_2 : decode cX1_wouldBeReady 2 = .ok (.invokevirtual 79, 3) := by decide +kernel
theorem dX1_wouldBeReady_5 : decode cX1_wouldBeReady 5 = .ok (.iconst (-1), 1) := by decide +kernel
theorem dX1_wouldBeReady_6 : decode cX1_wouldBeReady 6 = .ok (.if_icmp .ne 23, 3) := by decide +kernel
theorem dX1_wouldBeReady_9 : decode cX1_wouldBeReady 9 = .ok (.aload_n 0, 1) := by decide +kernel
theorem dX1_wouldBeReady_10 : decode cX1_wouldBeReady 10 = .ok (.getfield 31, 3) := by decide +kernel
theorem dX1_wouldBeReady_13 : decode cX1_wouldBeReady 13 = .ok (.iload_n 2, 1) := by decide +kernel
theorem dX1_wouldBeReady_14 : decode cX1_wouldBeReady 14 = .ok (.iaload, 1) := by decide +kernel
theorem dX1_wouldBeReady_15 : decode cX1_wouldBeReady 15 = .ok (.aload_n 0, 1) := by decide +kernel
theorem dX1_wouldBeReady_16 : decode cX1_wouldBeReady 16 = .ok (.iload_n 1, 1) := by decide +kernel
theorem dX1_wouldBeReady_17 : decode cX1_wouldBeReady 17 = .ok (.iload_n 2, 1) := by decide +kernel
theorem dX1_wouldBeReady_18 : decode cX1_wouldBeReady 18 = .ok (.invokevirtual 82, 3) := by decide +kernel
theorem dX1_wouldBeReady_21 : decode cX1_wouldBeReady 21 = .ok (.iadd, 1) := by decide +kernel
theorem dX1_wouldBeReady_22 : decode cX1_wouldBeReady 22 = .ok (.ifCond .lt 7, 3) := by decide +kernel
theorem dX1_wouldBeReady_25 : decode cX1_wouldBeReady 25 = .ok (.iconst 1, 1) := by decide +kernel
theorem dX1_wouldBeReady_26 : decode cX1_wouldBeReady 26 = .ok (.goto 4, 3) := by decide +kernel
theorem dX1_wouldBeReady_29 : decode cX1_wouldBeReady 29 = .ok (.iconst 0, 1) := by decide +kernel
theorem dX1_wouldBeReady_30 : decode cX1_wouldBeReady 30 = .ok (.ireturn, 1) := by decide +kernel
theorem dX1_wouldAllBeReady_0 : decode cX1_wouldAllBeReady 0 = .ok (.iconst 0, 1) := by decide +kernel
theorem dX1_wouldAllBeReady_1 : decode cX1_wouldAllBeReady 1 = .ok (.istore_n 2, 1) := by decide +kernel
theorem dX1_wouldAllBeReady_2 : decode cX1_wouldAllBeReady 2 = .ok (.iload_n 2, 1) := by decide +kernel
theorem dX1_wouldAllBeReady_3 : decode cX1_wouldAllBeReady 3 = .ok (.bipush 6, 2) := by decide +kernel
theorem dX1_wouldAllBeReady_5 : decode cX1_wouldAllBeReady 5 = .ok (.if_icmp .ge 29, 3) := by decide +kernel
theorem dX1_wouldAllBeReady_8 : decode cX1_wouldAllBeReady 8 = .ok (.aload_n 0, 1) := by decide +kernel
theorem dX1_wouldAllBeReady_9 : decode cX1_wouldAllBeReady 9 = .ok (.iload_n 1, 1) := by decide +kernel
theorem dX1_wouldAllBeReady_10 : decode cX1_wouldAllBeReady 10 = .ok (.iload_n 2, 1) := by decide +kernel
theorem dX1_wouldAllBeReady_11 : decode cX1_wouldAllBeReady 11 = .ok (.invokevirtual 85, 3) := by decide +kernel
theorem dX1_wouldAllBeReady_14 : decode cX1_wouldAllBeReady 14 = .ok (.ifCond .eq 14, 3) := by decide +kernel
theorem dX1_wouldAllBeReady_17 : decode cX1_wouldAllBeReady 17 = .ok (.aload_n 0, 1) := by decide +kernel
theorem dX1_wouldAllBeReady_18 : decode cX1_wouldAllBeReady 18 = .ok (.iload_n 1, 1) := by decide +kernel
theorem dX1_wouldAllBeReady_19 : decode cX1_wouldAllBeReady 19 = .ok (.iload_n 2, 1) := by decide +kernel
theorem dX1_wouldAllBeReady_20 : decode cX1_wouldAllBeReady 20 = .ok (.invokevirtual 88, 3) := by decide +kernel
theorem dX1_wouldAllBeReady_23 : decode cX1_wouldAllBeReady 23 = .ok (.ifCond .ne 5, 3) := by decide +kernel
theorem dX1_wouldAllBeReady_26 : decode cX1_wouldAllBeReady 26 = .ok (.iconst 0, 1) := by decide +kernel
theorem dX1_wouldAllBeReady_27 : decode cX1_wouldAllBeReady 27 = .ok (.ireturn, 1) := by decide +kernel
theorem dX1_wouldAllBeReady_28 : decode cX1_wouldAllBeReady 28 = .ok (.iinc 2 1, 3) := by decide +kernel
theorem dX1_wouldAllBeReady_31 : decode cX1_wouldAllBeReady 31 = .ok (.goto (-29), 3) := by decide +kernel
theorem dX1_wouldAllBeReady_34 : decode cX1_wouldAllBeReady 34 = .ok (.iconst 1, 1) := by decide +kernel
theorem dX1_wouldAllBeReady_35 : decode cX1_wouldAllBeReady 35 = .ok (.ireturn, 1) := by decide +kernel
theorem dX1_isOrWouldBeReady_0 : decode cX1_isOrWouldBeReady 0 = .ok (.aload_n 0, 1) := by decide +kernel
theorem dX1_isOrWouldBeReady_1 : decode cX1_isOrWouldBeReady 1 = .ok (.iload_n 1, 1) := by decide +kernel
theorem dX1_isOrWouldBeReady_2 : decode cX1_isOrWouldBeReady 2 = .ok (.iload_n 2, 1) := by decide +kernel
theorem dX1_isOrWouldBeReady_3 : decode cX1_isOrWouldBeReady 3 = .ok (.invokevirtual 75, 3) := by decide +kernel
theorem dX1_isOrWouldBeReady_6 : decode cX1_isOrWouldBeReady 6 = .ok (.istore_n 3, 1) := by decide +kernel
theorem dX1_isOrWouldBeReady_7 : decode cX1_isOrWouldBeReady 7 = .ok (.iload_n 3, 1) := by decide +kernel
theorem dX1_isOrWouldBeReady_8 : decode cX1_isOrWouldBeReady 8 = .ok (.iconst 1, 1) := by decide +kernel
theorem dX1_isOrWouldBeReady_9 : decode cX1_isOrWouldBeReady 9 = .ok (.if_icmp .eq 16, 3) := by decide +kernel
theorem dX1_isOrWouldBeReady_12 : decode cX1_isOrWouldBeReady 12 = .ok (.iload_n 3, 1) := by decide +kernel
theorem dX1_isOrWouldBeReady_13 : decode cX1_isOrWouldBeReady 13 = .ok (.ifCond .ne 16, 3) := by decide +kernel
theorem dX1_isOrWouldBeReady_16 : decode cX1_isOrWouldBeReady 16 = .ok (.aload_n 0, 1) := by decide +kernel
theorem dX1_isOrWouldBeReady_17 : decode cX1_isOrWouldBeReady 17 = .ok (.iload_n 1, 1) := by decide +kernel
theorem dX1_isOrWouldBeReady_18 : decode cX1_isOrWouldBeReady 18 = .ok (.iload_n 2, 1) := by decide +kernel
theorem dX1_isOrWouldBeReady_19 : decode cX1_isOrWouldBeReady 19 = .ok (.invokevirtual 67, 3) := by decide +kernel
theorem dX1_isOrWouldBeReady_22 : decode cX1_isOrWouldBeReady 22 = .ok (.ifCond .eq 7, 3) := by decide +kernel
theorem dX1_isOrWouldBeReady_25 : decode cX1_isOrWouldBeReady 25 = .ok (.iconst 1, 1) := by decide +kernel
theorem dX1_isOrWouldBeReady_26 : decode cX1_isOrWouldBeReady 26 = .ok (.goto 4, 3) := by decide +kernel
theorem dX1_isOrWouldBeReady_29 : decode cX1_isOrWouldBeReady 29 = .ok (.iconst 0, 1) := by decide +kernel
theorem dX1_isOrWouldBeReady_30 : decode cX1_isOrWouldBeReady 30 = .ok (.ireturn, 1) := by decide +kernel
theorem dX1_decideMatter_0 : decode cX1_decideMatter 0 = .ok (.aload_n 0, 1) := by decide +kernel
theorem dX1_decideMatter_1 : decode cX1_decideMatter 1 = .ok (.iload_n 1, 1) := by decide +kernel
theorem dX1_decideMatter_2 : decode cX1_decideMatter 2 = .ok (.aload_n 0, 1) := by decide +kernel
theorem dX1_decideMatter_3 : decode cX1_decideMatter 3 = .ok (.iload_n 1, 1) := by decide +kernel
theorem dX1_decideMatter_4 : decode cX1_decideMatter 4 = .ok (.invokevirtual 91, 3) := by decide +kernel
theorem dX1_decideMatter_7 : decode cX1_decideMatter 7 = .ok (.ifCond .eq 7, 3) := by decide +kernel
theorem dX1_decideMatter_10 : decode cX1_decideMatter 10 = .ok (.iconst 2, 1) := by decide +kernel
theorem dX1_decideMatter_11 : decode cX1_decideMatter 11 = .ok (.goto 4, 3) := by decide +kernel
theorem dX1_decideMatter_14 : decode cX1_decideMatter 14 = .ok (.iconst 1, 1) := by decide +kernel
theorem dX1_decideMatter_15 : decode cX1_decideMatter 15 = .ok (.invokevirtual 95, 3) := by decide +kernel
theorem dX1_decideMatter_18 : decode cX1_decideMatter 18 = .ok (.aload_n 0, 1) := by decide +kernel
theorem dX1_decideMatter_19 : decode cX1_decideMatter 19 = .ok (.getfield 15, 3) := by decide +kernel
theorem dX1_decideMatter_22 : decode cX1_decideMatter 22 = .ok (.iload_n 1, 1) := by decide +kernel
theorem dX1_decideMatter_23 : decode cX1_decideMatter 23 = .ok (.iaload, 1) := by decide +kernel
theorem dX1_decideMatter_24 : decode cX1_decideMatter 24 = .ok (.ireturn, 1) := by decide +kernel
theorem dX1_enterInBook_0 : decode cX1_enterInBook 0 = .ok (.aload_n 0, 1) := by decide +kernel
theorem dX1_enterInBook_1 : decode cX1_enterInBook 1 = .ok (.getfield 15, 3) := by decide +kernel
theorem dX1_enterInBook_4 : decode cX1_enterInBook 4 = .ok (.iload_n 1, 1) := by decide +kernel
theorem dX1_enterInBook_5 : decode cX1_enterInBook 5 = .ok (.iload_n 2, 1) := by decide +kernel
theorem dX1_enterInBook_6 : decode cX1_enterInBook 6 = .ok (.iastore, 1) := by decide +kernel
theorem dX1_enterInBook_7 : decode cX1_enterInBook 7 = .ok (.aload_n 0, 1) := by decide +kernel
theorem dX1_enterInBook_8 : decode cX1_enterInBook 8 = .ok (.getfield 45, 3) := by decide +kernel
theorem dX1_enterInBook_11 : decode cX1_enterInBook 11 = .ok (.bipush 8, 2) := by decide +kernel
theorem dX1_enterInBook_13 : decode cX1_enterInBook 13 = .ok (.if_icmp .ge 23, 3) := by decide +kernel
theorem dX1_enterInBook_16 : decode cX1_enterInBook 16 = .ok (.aload_n 0, 1) := by decide +kernel
theorem dX1_enterInBook_17 : decode cX1_enterInBook 17 = .ok (.getfield 22, 3) := by decide +kernel
theorem dX1_enterInBook_20 : decode cX1_enterInBook 20 = .ok (.aload_n 0, 1) := by decide +kernel
theorem dX1_enterInBook_21 : decode cX1_enterInBook 21 = .ok (.getfield 45, 3) := by decide +kernel
theorem dX1_enterInBook_24 : decode cX1_enterInBook 24 = .ok (.iload_n 1, 1) := by decide +kernel
theorem dX1_enterInBook_25 : decode cX1_enterInBook 25 = .ok (.iastore, 1) := by decide +kernel
theorem dX1_enterInBook_26 : decode cX1_enterInBook 26 = .ok (.aload_n 0, 1) := by decide +kernel
theorem dX1_enterInBook_27 : decode cX1_enterInBook 27 = .ok (.dup, 1) := by decide +kernel
theorem dX1_enterInBook_28 : decode cX1_enterInBook 28 = .ok (.getfield 45, 3) := by decide +kernel
theorem dX1_enterInBook_31 : decode cX1_enterInBook 31 = .ok (.iconst 1, 1) := by decide +kernel
theorem dX1_enterInBook_32 : decode cX1_enterInBook 32 = .ok (.iadd, 1) := by decide +kernel
theorem dX1_enterInBook_33 : decode cX1_enterInBook 33 = .ok (.putfield 45, 3) := by decide +kernel
theorem dX1_enterInBook_36 : decode cX1_enterInBook 36 = .ok (.return_, 1) := by decide +kernel
theorem dX1_isOpposed_0 : decode cX1_isOpposed 0 = .ok (.aload_n 0, 1) := by decide +kernel
theorem dX1_isOpposed_1 : decode cX1_isOpposed 1 = .ok (.iload_n 1, 1) := by decide +kernel
theorem dX1_isOpposed_2 : decode cX1_isOpposed 2 = .ok (.iconst 2, 1) := by decide +kernel
theorem dX1_isOpposed_3 : decode cX1_isOpposed 3 = .ok (.invokevirtual 99, 3) := by decide +kernel
theorem dX1_isOpposed_6 : decode cX1_isOpposed 6 = .ok (.aload_n 0, 1) := by decide +kernel
theorem dX1_isOpposed_7 : decode cX1_isOpposed 7 = .ok (.iload_n 1, 1) := by decide +kernel
theorem dX1_isOpposed_8 : decode cX1_isOpposed 8 = .ok (.iconst 4, 1) := by decide +kernel
theorem dX1_isOpposed_9 : decode cX1_isOpposed 9 = .ok (.invokevirtual 99, 3) := by decide +kernel
theorem dX1_isOpposed_12 : decode cX1_isOpposed 12 = .ok (.iadd, 1) := by decide +kernel
theorem dX1_isOpposed_13 : decode cX1_isOpposed 13 = .ok (.ifCond .le 7, 3) := by decide +kernel
theorem dX1_isOpposed_16 : decode cX1_isOpposed 16 = .ok (.iconst 1, 1) := by decide +kernel
theorem dX1_isOpposed_17 : decode cX1_isOpposed 17 = .ok (.goto 4, 3) := by decide +kernel
theorem dX1_isOpposed_20 : decode cX1_isOpposed 20 = .ok (.iconst 0, 1) := by decide +kernel
theorem dX1_isOpposed_21 : decode cX1_isOpposed 21 = .ok (.ireturn, 1) := by decide +kernel
theorem dX1_firstNotAsked_0 : decode cX1_firstNotAsked 0 = .ok (.iconst 0, 1) := by decide +kernel
theorem dX1_firstNotAsked_1 : decode cX1_firstNotAsked 1 = .ok (.istore_n 2, 1) := by decide +kernel
theorem dX1_firstNotAsked_2 : decode cX1_firstNotAsked 2 = .ok (.iload_n 2, 1) := by decide +kernel
theorem dX1_firstNotAsked_3 : decode cX1_firstNotAsked 3 = .ok (.bipush 6, 2) := by decide +kernel
theorem dX1_firstNotAsked_5 : decode cX1_firstNotAsked 5 = .ok (.if_icmp .ge 27, 3) := by decide +kernel
theorem dX1_firstNotAsked_8 : decode cX1_firstNotAsked 8 = .ok (.aload_n 0, 1) := by decide +kernel
theorem dX1_firstNotAsked_9 : decode cX1_firstNotAsked 9 = .ok (.iload_n 1, 1) := by decide +kernel
theorem dX1_firstNotAsked_10 : decode cX1_firstNotAsked 10 = .ok (.iload_n 2, 1) := by decide +kernel
theorem dX1_firstNotAsked_11 : decode cX1_firstNotAsked 11 = .ok (.invokevirtual 85, 3) := by decide +kernel
theorem dX1_firstNotAsked_14 : decode cX1_firstNotAsked 14 = .ok (.ifCond .eq 12, 3) := by decide +kernel
theorem dX1_firstNotAsked_17 : decode cX1_firstNotAsked 17 = .ok (.aload_n 0, 1) := by decide +kernel
theorem dX1_firstNotAsked_18 : decode cX1_firstNotAsked 18 = .ok (.iload_n 1, 1) := by decide +kernel
theorem dX1_firstNotAsked_19 : decode cX1_firstNotAsked 19 = .ok (.iload_n 2, 1) := by decide +kernel
theorem dX1_firstNotAsked_20 : decode cX1_firstNotAsked 20 = .ok (.invokevirtual 75, 3) := by decide +kernel
theorem dX1_firstNotAsked_23 : decode cX1_firstNotAsked 23 = .ok (.ifCond .eq 9, 3) := by decide +kernel
theorem dX1_firstNotAsked_26 : decode cX1_firstNotAsked 26 = .ok (.iinc 2 1, 3) := by decide +kernel
theorem dX1_firstNotAsked_29 : decode cX1_firstNotAsked 29 = .ok (.goto (-27), 3) := by decide +kernel
theorem dX1_firstNotAsked_32 : decode cX1_firstNotAsked 32 = .ok (.iload_n 2, 1) := by decide +kernel
theorem dX1_firstNotAsked_33 : decode cX1_firstNotAsked 33 = .ok (.ireturn, 1) := by decide +kernel
theorem dX1_tellGuild_0 : decode cX1_tellGuild 0 = .ok (.aload_n 0, 1) := by decide +kernel
theorem dX1_tellGuild_1 : decode cX1_tellGuild 1 = .ok (.getfield 15, 3) := by decide +kernel
theorem dX1_tellGuild_4 : decode cX1_tellGuild 4 = .ok (.iload_n 1, 1) := by decide +kernel
theorem dX1_tellGuild_5 : decode cX1_tellGuild 5 = .ok (.iaload, 1) := by decide +kernel
theorem dX1_tellGuild_6 : decode cX1_tellGuild 6 = .ok (.iconst 1, 1) := by decide +kernel
theorem dX1_tellGuild_7 : decode cX1_tellGuild 7 = .ok (.if_icmp .ne 12, 3) := by decide +kernel
theorem dX1_tellGuild_10 : decode cX1_tellGuild 10 = .ok (.aload_n 0, 1) := by decide +kernel
theorem dX1_tellGuild_11 : decode cX1_tellGuild 11 = .ok (.iload_n 1, 1) := by decide +kernel
theorem dX1_tellGuild_12 : decode cX1_tellGuild 12 = .ok (.iload_n 2, 1) := by decide +kernel
theorem dX1_tellGuild_13 : decode cX1_tellGuild 13 = .ok (.invokevirtual 102, 3) := by decide +kernel
theorem dX1_tellGuild_16 : decode cX1_tellGuild 16 = .ok (.goto 10, 3) := by decide +kernel
theorem dX1_tellGuild_19 : decode cX1_tellGuild 19 = .ok (.aload_n 0, 1) := by decide +kernel
theorem dX1_tellGuild_20 : decode cX1_tellGuild 20 = .ok (.iload_n 1, 1) := by decide +kernel
theorem dX1_tellGuild_21 : decode cX1_tellGuild 21 = .ok (.iload_n 2, 1) := by decide +kernel
theorem dX1_tellGuild_22 : decode cX1_tellGuild 22 = .ok (.iconst 4, 1) := by decide +kernel
theorem dX1_tellGuild_23 : decode cX1_tellGuild 23 = .ok (.invokevirtual 71, 3) := by decide +kernel
theorem dX1_tellGuild_26 : decode cX1_tellGuild 26 = .ok (.aload_n 0, 1) := by decide +kernel
theorem dX1_tellGuild_27 : decode cX1_tellGuild 27 = .ok (.getfield 31, 3) := by decide +kernel
theorem dX1_tellGuild_30 : decode cX1_tellGuild 30 = .ok (.iload_n 2, 1) := by decide +kernel
theorem dX1_tellGuild_31 : decode cX1_tellGuild 31 = .ok (.iaload, 1) := by decide +kernel
theorem dX1_tellGuild_32 : decode cX1_tellGuild 32 = .ok (.ireturn, 1) := by decide +kernel
theorem dX1_sealFor_0 : decode cX1_sealFor 0 = .ok (.aload_n 0, 1) := by decide +kernel
theorem dX1_sealFor_1 : decode cX1_sealFor 1 = .ok (.iload_n 1, 1) := by decide +kernel
theorem dX1_sealFor_2 : decode cX1_sealFor 2 = .ok (.iload_n 2, 1) := by decide +kernel
theorem dX1_sealFor_3 : decode cX1_sealFor 3 = .ok (.iconst 3, 1) := by decide +kernel
theorem dX1_sealFor_4 : decode cX1_sealFor 4 = .ok (.invokevirtual 71, 3) := by decide +kernel
theorem dX1_sealFor_7 : decode cX1_sealFor 7 = .ok (.aload_n 0, 1) := by decide +kernel
theorem dX1_sealFor_8 : decode cX1_sealFor 8 = .ok (.getfield 31, 3) := by decide +kernel
theorem dX1_sealFor_11 : decode cX1_sealFor 11 = .ok (.iload_n 2, 1) := by decide +kernel
theorem dX1_sealFor_12 : decode cX1_sealFor 12 = .ok (.dup2, 1) := by decide +kernel
theorem dX1_sealFor_13 : decode cX1_sealFor 13 = .ok (.iaload, 1) := by decide +kernel
theorem dX1_sealFor_14 : decode cX1_sealFor 14 = .ok (.aload_n 0, 1) := by decide +kernel
theorem dX1_sealFor_15 : decode cX1_sealFor 15 = .ok (.iload_n 1, 1) := by decide +kernel
theorem dX1_sealFor_16 : decode cX1_sealFor 16 = .ok (.iload_n 2, 1) := by decide +kernel
theorem dX1_sealFor_17 : decode cX1_sealFor 17 = .ok (.invokevirtual 82, 3) := by decide +kernel
theorem dX1_sealFor_20 : decode cX1_sealFor 20 = .ok (.iadd, 1) := by decide +kernel
theorem dX1_sealFor_21 : decode cX1_sealFor 21 = .ok (.iastore, 1) := by decide +kernel
theorem dX1_sealFor_22 : decode cX1_sealFor 22 = .ok (.return_, 1) := by decide +kernel
theorem dX1_letHeraldFaint_0 : decode cX1_letHeraldFaint 0 = .ok (.aload_n 0, 1) := by decide +kernel
theorem dX1_letHeraldFaint_1 : decode cX1_letHeraldFaint 1 = .ok (.iconst 0, 1) := by decide +kernel
theorem dX1_letHeraldFaint_2 : decode cX1_letHeraldFaint 2 = .ok (.putfield 9, 3) := by decide +kernel
theorem dX1_letHeraldFaint_5 : decode cX1_letHeraldFaint 5 = .ok (.aload_n 0, 1) := by decide +kernel
theorem dX1_letHeraldFaint_6 : decode cX1_letHeraldFaint 6 = .ok (.dup, 1) := by decide +kernel
theorem dX1_letHeraldFaint_7 : decode cX1_letHeraldFaint 7 = .ok (.getfield 54, 3) := by decide +kernel
theorem dX1_letHeraldFaint_10 : decode cX1_letHeraldFaint 10 = .ok (.iconst 1, 1) := by decide +kernel
theorem dX1_letHeraldFaint_11 : decode cX1_letHeraldFaint 11 = .ok (.iadd, 1) := by decide +kernel
theorem dX1_letHeraldFaint_12 : decode cX1_letHeraldFaint 12 = .ok (.putfield 54, 3) := by decide +kernel
theorem dX1_letHeraldFaint_15 : decode cX1_letHeraldFaint 15 = .ok (.aload_n 0, 1) := by decide +kernel
theorem dX1_letHeraldFaint_16 : decode cX1_letHeraldFaint 16 = .ok (.iconst 0, 1) := by decide +kernel
theorem dX1_letHeraldFaint_17 : decode cX1_letHeraldFaint 17 = .ok (.invokevirtual 105, 3) := by decide +kernel
theorem dX1_letHeraldFaint_20 : decode cX1_letHeraldFaint 20 = .ok (.ireturn, 1) := by decide +kernel
theorem dX1_letHeraldWake_0 : decode cX1_letHeraldWake 0 = .ok (.aload_n 0, 1) := by decide +kernel
theorem dX1_letHeraldWake_1 : decode cX1_letHeraldWake 1 = .ok (.iconst 1, 1) := by decide +kernel
theorem dX1_letHeraldWake_2 : decode cX1_letHeraldWake 2 = .ok (.putfield 9, 3) := by decide +kernel
theorem dX1_letHeraldWake_5 : decode cX1_letHeraldWake 5 = .ok (.aload_n 0, 1) := by decide +kernel
theorem dX1_letHeraldWake_6 : decode cX1_letHeraldWake 6 = .ok (.getfield 45, 3) := by decide +kernel
theorem dX1_letHeraldWake_9 : decode cX1_letHeraldWake 9 = .ok (.istore_n 1, 1) := by decide +kernel
theorem dX1_letHeraldWake_10 : decode cX1_letHeraldWake 10 = .ok (.iconst 0, 1) := by decide +kernel
theorem dX1_letHeraldWake_11 : decode cX1_letHeraldWake 11 = .ok (.istore_n 2, 1) := by decide +kernel
theorem dX1_letHeraldWake_12 : decode cX1_letHeraldWake 12 = .ok (.iload_n 2, 1) := by decide +kernel
theorem dX1_letHeraldWake_13 : decode cX1_letHeraldWake 13 = .ok (.aload_n 0, 1) := by decide +kernel
theorem dX1_letHeraldWake_14 : decode cX1_letHeraldWake 14 = .ok (.getfield 41, 3) := by decide +kernel
theorem dX1_letHeraldWake_17 : decode cX1_letHeraldWake 17 = .ok (.if_icmp .ge 32, 3) := by decide +kernel
theorem dX1_letHeraldWake_20 : decode cX1_letHeraldWake 20 = .ok (.aload_n 0, 1) := by decide +kernel
theorem dX1_letHeraldWake_21 : decode cX1_letHeraldWake 21 = .ok (.getfield 15, 3) := by decide +kernel
theorem dX1_letHeraldWake_24 : decode cX1_letHeraldWake 24 = .ok (.iload_n 2, 1) := by decide +kernel
theorem dX1_letHeraldWake_25 : decode cX1_letHeraldWake 25 = .ok (.iaload, 1) := by decide +kernel
theorem dX1_letHeraldWake_26 : decode cX1_letHeraldWake 26 = .ok (.ifCond .ne 17, 3) := by decide +kernel
theorem dX1_letHeraldWake_29 : decode cX1_letHeraldWake 29 = .ok (.aload_n 0, 1) := by decide +kernel
theorem dX1_letHeraldWake_30 : decode cX1_letHeraldWake 30 = .ok (.iload_n 2, 1) := by decide +kernel
theorem dX1_letHeraldWake_31 : decode cX1_letHeraldWake 31 = .ok (.invokevirtual 108, 3) := by decide +kernel
theorem dX1_letHeraldWake_34 : decode cX1_letHeraldWake 34 = .ok (.ifCond .le 9, 3) := by decide +kernel
theorem dX1_letHeraldWake_37 : decode cX1_letHeraldWake 37 = .ok (.aload_n 0, 1) := by decide +kernel
theorem dX1_letHeraldWake_38 : decode cX1_letHeraldWake 38 = .ok (.iload_n 2, 1) := by decide +kernel
theorem dX1_letHeraldWake_39 : decode cX1_letHeraldWake 39 = .ok (.iconst 2, 1) := by decide +kernel
theorem dX1_letHeraldWake_40 : decode cX1_letHeraldWake 40 = .ok (.invokevirtual 95, 3) := by decide +kernel
theorem dX1_letHeraldWake_43 : decode cX1_letHeraldWake 43 = .ok (.iinc 2 1, 3) := by decide +kernel
theorem dX1_letHeraldWake_46 : decode cX1_letHeraldWake 46 = .ok (.goto (-34), 3) := by decide +kernel
theorem dX1_letHeraldWake_49 : decode cX1_letHeraldWake 49 = .ok (.aload_n 0, 1) := by decide +kernel
theorem dX1_letHeraldWake_50 : decode cX1_letHeraldWake 50 = .ok (.getfield 45, 3) := by decide +kernel
theorem dX1_letHeraldWake_53 : decode cX1_letHeraldWake 53 = .ok (.iload_n 1, 1) := by decide +kernel
theorem dX1_letHeraldWake_54 : decode cX1_letHeraldWake 54 = .ok (.isub, 1) := by decide +kernel
theorem dX1_letHeraldWake_55 : decode cX1_letHeraldWake 55 = .ok (.ireturn, 1) := by decide +kernel
theorem dX1_makeAwake_0 : decode cX1_makeAwake 0 = .ok (.aload_n 0, 1) := by decide +kernel
theorem dX1_makeAwake_1 : decode cX1_makeAwake 1 = .ok (.getfield 37, 3) := by decide +kernel
theorem dX1_makeAwake_4 : decode cX1_makeAwake 4 = .ok (.iload_n 1, 1) := by decide +kernel
theorem dX1_makeAwake_5 : decode cX1_makeAwake 5 = .ok (.iload_n 2, 1) := by decide +kernel
theorem dX1_makeAwake_6 : decode cX1_makeAwake 6 = .ok (.bastore, 1) := by decide +kernel
theorem dX1_makeAwake_7 : decode cX1_makeAwake 7 = .ok (.aload_n 0, 1) := by decide +kernel
theorem dX1_makeAwake_8 : decode cX1_makeAwake 8 = .ok (.invokevirtual 111, 3) := by decide +kernel
theorem dX1_makeAwake_11 : decode cX1_makeAwake 11 = .ok (.ireturn, 1) := by decide +kernel
theorem dX1_inquireOf_0 : decode cX1_inquireOf 0 = .ok (.aload_n 0, 1) := by decide +kernel
theorem dX1_inquireOf_1 : decode cX1_inquireOf 1 = .ok (.dup, 1) := by decide +kernel
theorem dX1_inquireOf_2 : decode cX1_inquireOf 2 = .ok (.getfield 51, 3) := by decide +kernel
theorem dX1_inquireOf_5 : decode cX1_inquireOf 5 = .ok (.iconst 1, 1) := by decide +kernel
theorem dX1_inquireOf_6 : decode cX1_inquireOf 6 = .ok (.iadd, 1) := by decide +kernel
theorem dX1_inquireOf_7 : decode cX1_inquireOf 7 = .ok (.putfield 51, 3) := by decide +kernel
theorem dX1_inquireOf_10 : decode cX1_inquireOf 10 = .ok (.aload_n 0, 1) := by decide +kernel
theorem dX1_inquireOf_11 : decode cX1_inquireOf 11 = .ok (.iload_n 1, 1) := by decide +kernel
theorem dX1_inquireOf_12 : decode cX1_inquireOf 12 = .ok (.iload_n 3, 1) := by decide +kernel
theorem dX1_inquireOf_13 : decode cX1_inquireOf 13 = .ok (.invokevirtual 75, 3) := by decide +kernel
theorem dX1_inquireOf_16 : decode cX1_inquireOf 16 = .ok (.istore 4, 2) := by decide +kernel
theorem dX1_inquireOf_18 : decode cX1_inquireOf 18 = .ok (.iload 4, 2) := by decide +kernel
theorem dX1_inquireOf_20 : decode cX1_inquireOf 20 = .ok (.iconst 3, 1) := by decide +kernel
theorem dX1_inquireOf_21 : decode cX1_inquireOf 21 = .ok (.if_icmp .ne 12, 3) := by decide +kernel
theorem dX1_inquireOf_24 : decode cX1_inquireOf 24 = .ok (.aload_n 0, 1) := by decide +kernel
theorem dX1_inquireOf_25 : decode cX1_inquireOf 25 = .ok (.iload_n 1, 1) := by decide +kernel
theorem dX1_inquireOf_26 : decode cX1_inquireOf 26 = .ok (.iload_n 2, 1) := by decide +kernel
theorem dX1_inquireOf_27 : decode cX1_inquireOf 27 = .ok (.invokevirtual 102, 3) := by decide +kernel
theorem dX1_inquireOf_30 : decode cX1_inquireOf 30 = .ok (.goto 10, 3) := by decide +kernel
theorem dX1_inquireOf_33 : decode cX1_inquireOf 33 = .ok (.aload_n 0, 1) := by decide +kernel
theorem dX1_inquireOf_34 : decode cX1_inquireOf 34 = .ok (.iload_n 1, 1) := by decide +kernel
theorem dX1_inquireOf_35 : decode cX1_inquireOf 35 = .ok (.iload_n 2, 1) := by decide +kernel
theorem dX1_inquireOf_36 : decode cX1_inquireOf 36 = .ok (.iconst 4, 1) := by decide +kernel
theorem dX1_inquireOf_37 : decode cX1_inquireOf 37 = .ok (.invokevirtual 71, 3) := by decide +kernel
theorem dX1_inquireOf_40 : decode cX1_inquireOf 40 = .ok (.iload 4, 2) := by decide +kernel
theorem dX1_inquireOf_42 : decode cX1_inquireOf 42 = .ok (.ifCond .ne 10, 3) := by decide +kernel
theorem dX1_inquireOf_45 : decode cX1_inquireOf 45 = .ok (.aload_n 0, 1) := by decide +kernel
theorem dX1_inquireOf_46 : decode cX1_inquireOf 46 = .ok (.iload_n 1, 1) := by decide +kernel
theorem dX1_inquireOf_47 : decode cX1_inquireOf 47 = .ok (.iload_n 3, 1) := by decide +kernel
theorem dX1_inquireOf_48 : decode cX1_inquireOf 48 = .ok (.iconst 2, 1) := by decide +kernel
theorem dX1_inquireOf_49 : decode cX1_inquireOf 49 = .ok (.invokevirtual 71, 3) := by decide +kernel
theorem dX1_inquireOf_52 : decode cX1_inquireOf 52 = .ok (.aload_n 0, 1) := by decide +kernel
theorem dX1_inquireOf_53 : decode cX1_inquireOf 53 = .ok (.iload_n 1, 1) := by decide +kernel
theorem dX1_inquireOf_54 : decode cX1_inquireOf 54 = .ok (.iload_n 2, 1) := by decide +kernel
theorem dX1_inquireOf_55 : decode cX1_inquireOf 55 = .ok (.invokevirtual 75, 3) := by decide +kernel
theorem dX1_inquireOf_58 : decode cX1_inquireOf 58 = .ok (.ireturn, 1) := by decide +kernel
theorem dX1_letHoursPass_0 : decode cX1_letHoursPass 0 = .ok (.aload_n 0, 1) := by decide +kernel
theorem dX1_letHoursPass_1 : decode cX1_letHoursPass 1 = .ok (.dup, 1) := by decide +kernel
theorem dX1_letHoursPass_2 : decode cX1_letHoursPass 2 = .ok (.getfield 48, 3) := by decide +kernel
theorem dX1_letHoursPass_5 : decode cX1_letHoursPass 5 = .ok (.iload_n 1, 1) := by decide +kernel
theorem dX1_letHoursPass_6 : decode cX1_letHoursPass 6 = .ok (.iadd, 1) := by decide +kernel
theorem dX1_letHoursPass_7 : decode cX1_letHoursPass 7 = .ok (.putfield 48, 3) := by decide +kernel
theorem dX1_letHoursPass_10 : decode cX1_letHoursPass 10 = .ok (.iconst 0, 1) := by decide +kernel
theorem dX1_letHoursPass_11 : decode cX1_letHoursPass 11 = .ok (.istore_n 2, 1) := by decide +kernel
theorem dX1_letHoursPass_12 : decode cX1_letHoursPass 12 = .ok (.iconst 0, 1) := by decide +kernel
theorem dX1_letHoursPass_13 : decode cX1_letHoursPass 13 = .ok (.istore_n 3, 1) := by decide +kernel
theorem dX1_letHoursPass_14 : decode cX1_letHoursPass 14 = .ok (.iload_n 3, 1) := by decide +kernel
theorem dX1_letHoursPass_15 : decode cX1_letHoursPass 15 = .ok (.bipush 6, 2) := by decide +kernel
theorem dX1_letHoursPass_17 : decode cX1_letHoursPass 17 = .ok (.if_icmp .ge 32, 3) := by decide +kernel
theorem dX1_letHoursPass_20 : decode cX1_letHoursPass 20 = .ok (.aload_n 0, 1) := by decide +kernel
theorem dX1_letHoursPass_21 : decode cX1_letHoursPass 21 = .ok (.iload_n 3, 1) := by decide +kernel
theorem dX1_letHoursPass_22 : decode cX1_letHoursPass 22 = .ok (.invokevirtual 79, 3) := by decide +kernel
theorem dX1_letHoursPass_25 : decode cX1_letHoursPass 25 = .ok (.iconst (-1), 1) := by decide +kernel
theorem dX1_letHoursPass_26 : decode cX1_letHoursPass 26 = .ok (.if_icmp .eq 17, 3) := by decide +kernel
theorem dX1_letHoursPass_29 : decode cX1_letHoursPass 29 = .ok (.aload_n 0, 1) := by decide +kernel
theorem dX1_letHoursPass_30 : decode cX1_letHoursPass 30 = .ok (.getfield 34, 3) := by decide +kernel
theorem dX1_letHoursPass_33 : decode cX1_letHoursPass 33 = .ok (.iload_n 3, 1) := by decide +kernel
theorem dX1_letHoursPass_34 : decode cX1_letHoursPass 34 = .ok (.dup2, 1) := by decide +kernel
theorem dX1_letHoursPass_35 : decode cX1_letHoursPass 35 = .ok (.iaload, 1) := by decide +kernel
theorem dX1_letHoursPass_36 : decode cX1_letHoursPass 36 = .ok (.iload_n 1, 1) := by decide +kernel
theorem dX1_letHoursPass_37 : decode cX1_letHoursPass 37 = .ok (.iadd, 1) := by decide +kernel
theorem dX1_letHoursPass_38 : decode cX1_letHoursPass 38 = .ok (.iastore, 1) := by decide +kernel
theorem dX1_letHoursPass_39 : decode cX1_letHoursPass 39 = .ok (.iload_n 2, 1) := by decide +kernel
theorem dX1_letHoursPass_40 : decode cX1_letHoursPass 40 = .ok (.iload_n 1, 1) := by decide +kernel
theorem dX1_letHoursPass_41 : decode cX1_letHoursPass 41 = .ok (.iadd, 1) := by decide +kernel
theorem dX1_letHoursPass_42 : decode cX1_letHoursPass 42 = .ok (.istore_n 2, 1) := by decide +kernel
theorem dX1_letHoursPass_43 : decode cX1_letHoursPass 43 = .ok (.iinc 3 1, 3) := by decide +kernel
theorem dX1_letHoursPass_46 : decode cX1_letHoursPass 46 = .ok (.goto (-32), 3) := by decide +kernel
theorem dX1_letHoursPass_49 : decode cX1_letHoursPass 49 = .ok (.iload_n 2, 1) := by decide +kernel
theorem dX1_letHoursPass_50 : decode cX1_letHoursPass 50 = .ok (.ireturn, 1) := by decide +kernel
theorem dX1_doubtOf_0 : decode cX1_doubtOf 0 = .ok (.iconst 0, 1) := by decide +kernel
theorem dX1_doubtOf_1 : decode cX1_doubtOf 1 = .ok (.istore_n 2, 1) := by decide +kernel
theorem dX1_doubtOf_2 : decode cX1_doubtOf 2 = .ok (.iload_n 2, 1) := by decide +kernel
theorem dX1_doubtOf_3 : decode cX1_doubtOf 3 = .ok (.aload_n 0, 1) := by decide +kernel
theorem dX1_doubtOf_4 : decode cX1_doubtOf 4 = .ok (.getfield 41, 3) := by decide +kernel
theorem dX1_doubtOf_7 : decode cX1_doubtOf 7 = .ok (.if_icmp .ge 21, 3) := by decide +kernel
theorem dX1_doubtOf_10 : decode cX1_doubtOf 10 = .ok (.aload_n 0, 1) := by decide +kernel
theorem dX1_doubtOf_11 : decode cX1_doubtOf 11 = .ok (.iload_n 2, 1) := by decide +kernel
theorem dX1_doubtOf_12 : decode cX1_doubtOf 12 = .ok (.iload_n 1, 1) := by decide +kernel
theorem dX1_doubtOf_13 : decode cX1_doubtOf 13 = .ok (.invokevirtual 75, 3) := by decide +kernel
theorem dX1_doubtOf_16 : decode cX1_doubtOf 16 = .ok (.iconst 1, 1) := by decide +kernel
theorem dX1_doubtOf_17 : decode cX1_doubtOf 17 = .ok (.if_icmp .ne 5, 3) := by decide +kernel
theorem dX1_doubtOf_20 : decode cX1_doubtOf 20 = .ok (.iload_n 2, 1) := by decide +kernel
theorem dX1_doubtOf_21 : decode cX1_doubtOf 21 = .ok (.ireturn, 1) := by decide +kernel
theorem dX1_doubtOf_22 : decode cX1_doubtOf 22 = .ok (.iinc 2 1, 3) := by decide +kernel
theorem dX1_doubtOf_25 : decode cX1_doubtOf 25 = .ok (.goto (-23), 3) := by decide +kernel
theorem dX1_doubtOf_28 : decode cX1_doubtOf 28 = .ok (.iconst (-1), 1) := by decide +kernel
theorem dX1_doubtOf_29 : decode cX1_doubtOf 29 = .ok (.ireturn, 1) := by decide +kernel
theorem dX1_canLearnByGuilds_0 : decode cX1_canLearnByGuilds 0 = .ok (.aload_n 0, 1) := by decide +kernel
theorem dX1_canLearnByGuilds_1 : decode cX1_canLearnByGuilds 1 = .ok (.iload_n 1, 1) := by decide +kernel
theorem dX1_canLearnByGuilds_2 : decode cX1_canLearnByGuilds 2 = .ok (.invokevirtual 79, 3) := by decide +kernel
theorem dX1_canLearnByGuilds_5 : decode cX1_canLearnByGuilds 5 = .ok (.istore_n 2, 1) := by decide +kernel
theorem dX1_canLearnByGuilds_6 : decode cX1_canLearnByGuilds 6 = .ok (.iload_n 2, 1) := by decide +kernel
theorem dX1_canLearnByGuilds_7 : decode cX1_canLearnByGuilds 7 = .ok (.iconst (-1), 1) := by decide +kernel
theorem dX1_canLearnByGuilds_8 : decode cX1_canLearnByGuilds 8 = .ok (.if_icmp .eq 12, 3) := by decide +kernel
theorem dX1_canLearnByGuilds_11 : decode cX1_canLearnByGuilds 11 = .ok (.aload_n 0, 1) := by decide +kernel
theorem dX1_canLearnByGuilds_12 : decode cX1_canLearnByGuilds 12 = .ok (.getfield 37, 3) := by decide +kernel
theorem dX1_canLearnByGuilds_15 : decode cX1_canLearnByGuilds 15 = .ok (.iload_n 1, 1) := by decide +kernel
theorem dX1_canLearnByGuilds_16 : decode cX1_canLearnByGuilds 16 = .ok (.baload, 1) := by decide +kernel
theorem dX1_canLearnByGuilds_17 : decode cX1_canLearnByGuilds 17 = .ok (.ifCond .ne 5, 3) := by decide +kernel
theorem dX1_canLearnByGuilds_20 : decode cX1_canLearnByGuilds 20 = .ok (.iconst 0, 1) := by decide +kernel
theorem dX1_canLearnByGuilds_21 : decode cX1_canLearnByGuilds 21 = .ok (.ireturn, 1) := by decide +kernel
theorem dX1_canLearnByGuilds_22 : decode cX1_canLearnByGuilds 22 = .ok (.iconst 0, 1) := by decide +kernel
theorem dX1_canLearnByGuilds_23 : decode cX1_canLearnByGuilds 23 = .ok (.istore_n 3, 1) := by decide +kernel
theorem dX1_canLearnByGuilds_24 : decode cX1_canLearnByGuilds 24 = .ok (.iload_n 3, 1) := by decide +kernel
theorem dX1_canLearnByGuilds_25 : decode cX1_canLearnByGuilds 25 = .ok (.bipush 6, 2) := by decide +kernel
theorem dX1_canLearnByGuilds_27 : decode cX1_canLearnByGuilds 27 = .ok (.if_icmp .ge 44, 3) := by decide +kernel
theorem dX1_canLearnByGuilds_30 : decode cX1_canLearnByGuilds 30 = .ok (.iload_n 3, 1) := by decide +kernel
theorem dX1_canLearnByGuilds_31 : decode cX1_canLearnByGuilds 31 = .ok (.iload_n 1, 1) := by decide +kernel
theorem dX1_canLearnByGuilds_32 : decode cX1_canLearnByGuilds 32 = .ok (.if_icmp .eq 33, 3) := by decide +kernel
theorem dX1_canLearnByGuilds_35 : decode cX1_canLearnByGuilds 35 = .ok (.aload_n 0, 1) := by decide +kernel
theorem dX1_canLearnByGuilds_36 : decode cX1_canLearnByGuilds 36 = .ok (.iload_n 2, 1) := by decide +kernel
theorem dX1_canLearnByGuilds_37 : decode cX1_canLearnByGuilds 37 = .ok (.iload_n 3, 1) := by decide +kernel
theorem dX1_canLearnByGuilds_38 : decode cX1_canLearnByGuilds 38 = .ok (.invokevirtual 85, 3) := by decide +kernel
theorem dX1_canLearnByGuilds_41 : decode cX1_canLearnByGuilds 41 = .ok (.ifCond .eq 24, 3) := by decide +kernel
theorem dX1_canLearnByGuilds_44 : decode cX1_canLearnByGuilds 44 = .ok (.aload_n 0, 1) := by decide +kernel
theorem dX1_canLearnByGuilds_45 : decode cX1_canLearnByGuilds 45 = .ok (.getfield 37, 3) := by decide +kernel
theorem dX1_canLearnByGuilds_48 : decode cX1_canLearnByGuilds 48 = .ok (.iload_n 3, 1) := by decide +kernel
theorem dX1_canLearnByGuilds_49 : decode cX1_canLearnByGuilds 49 = .ok (.baload, 1) := by decide +kernel
theorem dX1_canLearnByGuilds_50 : decode cX1_canLearnByGuilds 50 = .ok (.ifCond .eq 15, 3) := by decide +kernel
theorem dX1_canLearnByGuilds_53 : decode cX1_canLearnByGuilds 53 = .ok (.aload_n 0, 1) := by decide +kernel
theorem dX1_canLearnByGuilds_54 : decode cX1_canLearnByGuilds 54 = .ok (.iload_n 2, 1) := by decide +kernel
theorem dX1_canLearnByGuilds_55 : decode cX1_canLearnByGuilds 55 = .ok (.iload_n 3, 1) := by decide +kernel
theorem dX1_canLearnByGuilds_56 : decode cX1_canLearnByGuilds 56 = .ok (.invokevirtual 75, 3) := by decide +kernel
theorem dX1_canLearnByGuilds_59 : decode cX1_canLearnByGuilds 59 = .ok (.iconst 1, 1) := by decide +kernel
theorem dX1_canLearnByGuilds_60 : decode cX1_canLearnByGuilds 60 = .ok (.if_icmp .eq 5, 3) := by decide +kernel
theorem dX1_canLearnByGuilds_63 : decode cX1_canLearnByGuilds 63 = .ok (.iconst 1, 1) := by decide +kernel
theorem dX1_canLearnByGuilds_64 : decode cX1_canLearnByGuilds 64 = .ok (.ireturn, 1) := by decide +kernel
theorem dX1_canLearnByGuilds_65 : decode cX1_canLearnByGuilds 65 = .ok (.iinc 3 1, 3) := by decide +kernel
theorem dX1_canLearnByGuilds_68 : decode cX1_canLearnByGuilds 68 = .ok (.goto (-44), 3) := by decide +kernel
theorem dX1_canLearnByGuilds_71 : decode cX1_canLearnByGuilds 71 = .ok (.iconst 0, 1) := by decide +kernel
theorem dX1_canLearnByGuilds_72 : decode cX1_canLearnByGuilds 72 = .ok (.ireturn, 1) := by decide +kernel
theorem dX1_canLearnBySets_0 : decode cX1_canLearnBySets 0 = .ok (.aload_n 0, 1) := by decide +kernel
theorem dX1_canLearnBySets_1 : decode cX1_canLearnBySets 1 = .ok (.invokevirtual 115, 3) := by decide +kernel
theorem dX1_canLearnBySets_4 : decode cX1_canLearnBySets 4 = .ok (.istore_n 2, 1) := by decide +kernel
theorem dX1_canLearnBySets_5 : decode cX1_canLearnBySets 5 = .ok (.iconst 0, 1) := by decide +kernel
theorem dX1_canLearnBySets_6 : decode cX1_canLearnBySets 6 = .ok (.istore_n 3, 1) := by decide +kernel
theorem dX1_canLearnBySets_7 : decode cX1_canLearnBySets 7 = .ok (.iload_n 3, 1) := by decide +kernel
theorem dX1_canLearnBySets_8 : decode cX1_canLearnBySets 8 = .ok (.aload_n 0, 1) := by decide +kernel
theorem dX1_canLearnBySets_9 : decode cX1_canLearnBySets 9 = .ok (.getfield 41, 3) := by decide +kernel
theorem dX1_canLearnBySets_12 : decode cX1_canLearnBySets 12 = .ok (.if_icmp .ge 48, 3) := by decide +kernel
theorem dX1_canLearnBySets_15 : decode cX1_canLearnBySets 15 = .ok (.aload_n 0, 1) := by decide +kernel
theorem dX1_canLearnBySets_16 : decode cX1_canLearnBySets 16 = .ok (.iload_n 3, 1) := by decide +kernel
theorem dX1_canLearnBySets_17 : decode cX1_canLearnBySets 17 = .ok (.invokevirtual 118, 3) := by decide +kernel
theorem dX1_canLearnBySets_20 : decode cX1_canLearnBySets 20 = .ok (.istore 4, 2) := by decide +kernel
theorem dX1_canLearnBySets_22 : decode cX1_canLearnBySets 22 = .ok (.aload_n 0, 1) := by decide +kernel
theorem dX1_canLearnBySets_23 : decode cX1_canLearnBySets 23 = .ok (.iload_n 3, 1) := by decide +kernel
theorem dX1_canLearnBySets_24 : decode cX1_canLearnBySets 24 = .ok (.invokevirtual 121, 3) := by decide +kernel
theorem dX1_canLearnBySets_27 : decode cX1_canLearnBySets 27 = .ok (.iload 4, 2) := by decide +kernel
theorem dX1_canLearnBySets_29 : decode cX1_canLearnBySets 29 = .ok (.iconst (-1), 1) := by decide +kernel
theorem dX1_canLearnBySets_30 : decode cX1_canLearnBySets 30 = .ok (.ixor, 1) := by decide +kernel
theorem dX1_canLearnBySets_31 : decode cX1_canLearnBySets 31 = .ok (.iand, 1) := by decide +kernel
theorem dX1_canLearnBySets_32 : decode cX1_canLearnBySets 32 = .ok (.iload_n 2, 1) := by decide +kernel
theorem dX1_canLearnBySets_33 : decode cX1_canLearnBySets 33 = .ok (.iand, 1) := by decide +kernel
theorem dX1_canLearnBySets_34 : decode cX1_canLearnBySets 34 = .ok (.istore 5, 2) := by decide +kernel
theorem dX1_canLearnBySets_36 : decode cX1_canLearnBySets 36 = .ok (.iload 4, 2) := by decide +kernel
theorem dX1_canLearnBySets_38 : decode cX1_canLearnBySets 38 = .ok (.iload_n 2, 1) := by decide +kernel
theorem dX1_canLearnBySets_39 : decode cX1_canLearnBySets 39 = .ok (.iand, 1) := by decide +kernel
theorem dX1_canLearnBySets_40 : decode cX1_canLearnBySets 40 = .ok (.iconst 1, 1) := by decide +kernel
theorem dX1_canLearnBySets_41 : decode cX1_canLearnBySets 41 = .ok (.iload_n 1, 1) := by decide +kernel
theorem dX1_canLearnBySets_42 : decode cX1_canLearnBySets 42 = .ok (.ishl, 1) := by decide +kernel
theorem dX1_canLearnBySets_43 : decode cX1_canLearnBySets 43 = .ok (.iand, 1) := by decide +kernel
theorem dX1_canLearnBySets_44 : decode cX1_canLearnBySets 44 = .ok (.ifCond .eq 10, 3) := by decide +kernel
theorem dX1_canLearnBySets_47 : decode cX1_canLearnBySets 47 = .ok (.iload 5, 2) := by decide +kernel
theorem dX1_canLearnBySets_49 : decode cX1_canLearnBySets 49 = .ok (.ifCond .eq 5, 3) := by decide +kernel
theorem dX1_canLearnBySets_52 : decode cX1_canLearnBySets 52 = .ok (.iconst 1, 1) := by decide +kernel
theorem dX1_canLearnBySets_53 : decode cX1_canLearnBySets 53 = .ok (.ireturn, 1) := by decide +kernel
theorem dX1_canLearnBySets_54 : decode cX1_canLearnBySets 54 = .ok (.iinc 3 1, 3) := by decide +kernel
theorem dX1_canLearnBySets_57 : decode cX1_canLearnBySets 57 = .ok (.goto (-50), 3) := by decide +kernel
theorem dX1_canLearnBySets_60 : decode cX1_canLearnBySets 60 = .ok (.iconst 0, 1) := by decide +kernel
theorem dX1_canLearnBySets_61 : decode cX1_canLearnBySets 61 = .ok (.ireturn, 1) := by decide +kernel
theorem dX1_setOfAwake_0 : decode cX1_setOfAwake 0 = .ok (.iconst 0, 1) := by decide +kernel
theorem dX1_setOfAwake_1 : decode cX1_setOfAwake 1 = .ok (.istore_n 1, 1) := by decide +kernel
theorem dX1_setOfAwake_2 : decode cX1_setOfAwake 2 = .ok (.iconst 0, 1) := by decide +kernel
theorem dX1_setOfAwake_3 : decode cX1_setOfAwake 3 = .ok (.istore_n 2, 1) := by decide +kernel
theorem dX1_setOfAwake_4 : decode cX1_setOfAwake 4 = .ok (.iload_n 2, 1) := by decide +kernel
theorem dX1_setOfAwake_5 : decode cX1_setOfAwake 5 = .ok (.bipush 6, 2) := by decide +kernel
theorem dX1_setOfAwake_7 : decode cX1_setOfAwake 7 = .ok (.if_icmp .ge 28, 3) := by decide +kernel
theorem dX1_setOfAwake_10 : decode cX1_setOfAwake 10 = .ok (.iload_n 1, 1) := by decide +kernel
theorem dX1_setOfAwake_11 : decode cX1_setOfAwake 11 = .ok (.aload_n 0, 1) := by decide +kernel
theorem dX1_setOfAwake_12 : decode cX1_setOfAwake 12 = .ok (.getfield 37, 3) := by decide +kernel
theorem dX1_setOfAwake_15 : decode cX1_setOfAwake 15 = .ok (.iload_n 2, 1) := by decide +kernel
theorem dX1_setOfAwake_16 : decode cX1_setOfAwake 16 = .ok (.baload, 1) := by decide +kernel
theorem dX1_setOfAwake_17 : decode cX1_setOfAwake 17 = .ok (.ifCond .eq 9, 3) := by decide +kernel
theorem dX1_setOfAwake_20 : decode cX1_setOfAwake 20 = .ok (.iconst 1, 1) := by decide +kernel
theorem dX1_setOfAwake_21 : decode cX1_setOfAwake 21 = .ok (.iload_n 2, 1) := by decide +kernel
theorem dX1_setOfAwake_22 : decode cX1_setOfAwake 22 = .ok (.ishl, 1) := by decide +kernel
theorem dX1_setOfAwake_23 : decode cX1_setOfAwake 23 = .ok (.goto 4, 3) := by decide +kernel
theorem dX1_setOfAwake_26 : decode cX1_setOfAwake 26 = .ok (.iconst 0, 1) := by decide +kernel
theorem dX1_setOfAwake_27 : decode cX1_setOfAwake 27 = .ok (.ior, 1) := by decide +kernel
theorem dX1_setOfAwake_28 : decode cX1_setOfAwake 28 = .ok (.istore_n 1, 1) := by decide +kernel
theorem dX1_setOfAwake_29 : decode cX1_setOfAwake 29 = .ok (.iinc 2 1, 3) := by decide +kernel
theorem dX1_setOfAwake_32 : decode cX1_setOfAwake 32 = .ok (.goto (-28), 3) := by decide +kernel
theorem dX1_setOfAwake_35 : decode cX1_setOfAwake 35 = .ok (.iload_n 1, 1) := by decide +kernel
theorem dX1_setOfAwake_36 : decode cX1_setOfAwake 36 = .ok (.ireturn, 1) := by decide +kernel
theorem dX1_setOfDoubters_0 : decode cX1_setOfDoubters 0 = .ok (.iconst 0, 1) := by decide +kernel
theorem dX1_setOfDoubters_1 : decode cX1_setOfDoubters 1 = .ok (.istore_n 2, 1) := by decide +kernel
theorem dX1_setOfDoubters_2 : decode cX1_setOfDoubters 2 = .ok (.iconst 0, 1) := by decide +kernel
theorem dX1_setOfDoubters_3 : decode cX1_setOfDoubters 3 = .ok (.istore_n 3, 1) := by decide +kernel
theorem dX1_setOfDoubters_4 : decode cX1_setOfDoubters 4 = .ok (.iload_n 3, 1) := by decide +kernel
theorem dX1_setOfDoubters_5 : decode cX1_setOfDoubters 5 = .ok (.bipush 6, 2) := by decide +kernel
theorem dX1_setOfDoubters_7 : decode cX1_setOfDoubters 7 = .ok (.if_icmp .ge 29, 3) := by decide +kernel
theorem dX1_setOfDoubters_10 : decode cX1_setOfDoubters 10 = .ok (.iload_n 2, 1) := by decide +kernel
theorem dX1_setOfDoubters_11 : decode cX1_setOfDoubters 11 = .ok (.aload_n 0, 1) := by decide +kernel
theorem dX1_setOfDoubters_12 : decode cX1_setOfDoubters 12 = .ok (.iload_n 1, 1) := by decide +kernel
theorem dX1_setOfDoubters_13 : decode cX1_setOfDoubters 13 = .ok (.iload_n 3, 1) := by decide +kernel
theorem dX1_setOfDoubters_14 : decode cX1_setOfDoubters 14 = .ok (.invokevirtual 75, 3) := by decide +kernel
theorem dX1_setOfDoubters_17 : decode cX1_setOfDoubters 17 = .ok (.iconst 1, 1) := by decide +kernel
theorem dX1_setOfDoubters_18 : decode cX1_setOfDoubters 18 = .ok (.if_icmp .ne 9, 3) := by decide +kernel
theorem dX1_setOfDoubters_21 : decode cX1_setOfDoubters 21 = .ok (.iconst 1, 1) := by decide +kernel
theorem dX1_setOfDoubters_22 : decode cX1_setOfDoubters 22 = .ok (.iload_n 3, 1) := by decide +kernel
theorem dX1_setOfDoubters_23 : decode cX1_setOfDoubters 23 = .ok (.ishl, 1) := by decide +kernel
theorem dX1_setOfDoubters_24 : decode cX1_setOfDoubters 24 = .ok (.goto 4, 3) := by decide +kernel
theorem dX1_setOfDoubters_27 : decode cX1_setOfDoubters 27 = .ok (.iconst 0, 1) := by decide +kernel
theorem dX1_setOfDoubters_28 : decode cX1_setOfDoubters 28 = .ok (.ior, 1) := by decide +kernel
theorem dX1_setOfDoubters_29 : decode cX1_setOfDoubters 29 = .ok (.istore_n 2, 1) := by decide +kernel
theorem dX1_setOfDoubters_30 : decode cX1_setOfDoubters 30 = .ok (.iinc 3 1, 3) := by decide +kernel
theorem dX1_setOfDoubters_33 : decode cX1_setOfDoubters 33 = .ok (.goto (-29), 3) := by decide +kernel
theorem dX1_setOfDoubters_36 : decode cX1_setOfDoubters 36 = .ok (.iload_n 2, 1) := by decide +kernel
theorem dX1_setOfDoubters_37 : decode cX1_setOfDoubters 37 = .ok (.ireturn, 1) := by decide +kernel
theorem dX1_setOfGuilds_0 : decode cX1_setOfGuilds 0 = .ok (.iconst 0, 1) := by decide +kernel
theorem dX1_setOfGuilds_1 : decode cX1_setOfGuilds 1 = .ok (.istore_n 2, 1) := by decide +kernel
theorem dX1_setOfGuilds_2 : decode cX1_setOfGuilds 2 = .ok (.iconst 0, 1) := by decide +kernel
theorem dX1_setOfGuilds_3 : decode cX1_setOfGuilds 3 = .ok (.istore_n 3, 1) := by decide +kernel
theorem dX1_setOfGuilds_4 : decode cX1_setOfGuilds 4 = .ok (.iload_n 3, 1) := by decide +kernel
theorem dX1_setOfGuilds_5 : decode cX1_setOfGuilds 5 = .ok (.bipush 6, 2) := by decide +kernel
theorem dX1_setOfGuilds_7 : decode cX1_setOfGuilds 7 = .ok (.if_icmp .ge 28, 3) := by decide +kernel
theorem dX1_setOfGuilds_10 : decode cX1_setOfGuilds 10 = .ok (.iload_n 2, 1) := by decide +kernel
theorem dX1_setOfGuilds_11 : decode cX1_setOfGuilds 11 = .ok (.aload_n 0, 1) := by decide +kernel
theorem dX1_setOfGuilds_12 : decode cX1_setOfGuilds 12 = .ok (.iload_n 1, 1) := by decide +kernel
theorem dX1_setOfGuilds_13 : decode cX1_setOfGuilds 13 = .ok (.iload_n 3, 1) := by decide +kernel
theorem dX1_setOfGuilds_14 : decode cX1_setOfGuilds 14 = .ok (.invokevirtual 85, 3) := by decide +kernel
theorem dX1_setOfGuilds_17 : decode cX1_setOfGuilds 17 = .ok (.ifCond .eq 9, 3) := by decide +kernel
theorem dX1_setOfGuilds_20 : decode cX1_setOfGuilds 20 = .ok (.iconst 1, 1) := by decide +kernel
theorem dX1_setOfGuilds_21 : decode cX1_setOfGuilds 21 = .ok (.iload_n 3, 1) := by decide +kernel
theorem dX1_setOfGuilds_22 : decode cX1_setOfGuilds 22 = .ok (.ishl, 1) := by decide +kernel
theorem dX1_setOfGuilds_23 : decode cX1_setOfGuilds 23 = .ok (.goto 4, 3) := by decide +kernel
theorem dX1_setOfGuilds_26 : decode cX1_setOfGuilds 26 = .ok (.iconst 0, 1) := by decide +kernel
theorem dX1_setOfGuilds_27 : decode cX1_setOfGuilds 27 = .ok (.ior, 1) := by decide +kernel
theorem dX1_setOfGuilds_28 : decode cX1_setOfGuilds 28 = .ok (.istore_n 2, 1) := by decide +kernel
theorem dX1_setOfGuilds_29 : decode cX1_setOfGuilds 29 = .ok (.iinc 3 1, 3) := by decide +kernel
theorem dX1_setOfGuilds_32 : decode cX1_setOfGuilds 32 = .ok (.goto (-28), 3) := by decide +kernel
theorem dX1_setOfGuilds_35 : decode cX1_setOfGuilds 35 = .ok (.iload_n 2, 1) := by decide +kernel
theorem dX1_setOfGuilds_36 : decode cX1_setOfGuilds 36 = .ok (.ireturn, 1) := by decide +kernel
theorem dX1_guildAtRank_0 : decode cX1_guildAtRank 0 = .ok (.iconst 0, 1) := by decide +kernel
theorem dX1_guildAtRank_1 : decode cX1_guildAtRank 1 = .ok (.istore_n 2, 1) := by decide +kernel
theorem dX1_guildAtRank_2 : decode cX1_guildAtRank 2 = .ok (.iload_n 2, 1) := by decide +kernel
theorem dX1_guildAtRank_3 : decode cX1_guildAtRank 3 = .ok (.iconst 5, 1) := by decide +kernel
theorem dX1_guildAtRank_4 : decode cX1_guildAtRank 4 = .ok (.if_icmp .ge 18, 3) := by decide +kernel
theorem dX1_guildAtRank_7 : decode cX1_guildAtRank 7 = .ok (.aload_n 0, 1) := by decide +kernel
theorem dX1_guildAtRank_8 : decode cX1_guildAtRank 8 = .ok (.iload_n 2, 1) := by decide +kernel
theorem dX1_guildAtRank_9 : decode cX1_guildAtRank 9 = .ok (.invokevirtual 124, 3) := by decide +kernel
theorem dX1_guildAtRank_12 : decode cX1_guildAtRank 12 = .ok (.iload_n 1, 1) := by decide +kernel
theorem dX1_guildAtRank_13 : decode cX1_guildAtRank 13 = .ok (.if_icmp .eq 9, 3) := by decide +kernel
theorem dX1_guildAtRank_16 : decode cX1_guildAtRank 16 = .ok (.iinc 2 1, 3) := by decide +kernel
theorem dX1_guildAtRank_19 : decode cX1_guildAtRank 19 = .ok (.goto (-17), 3) := by decide +kernel
theorem dX1_guildAtRank_22 : decode cX1_guildAtRank 22 = .ok (.iload_n 2, 1) := by decide +kernel
theorem dX1_guildAtRank_23 : decode cX1_guildAtRank 23 = .ok (.ireturn, 1) := by decide +kernel
theorem dX1_countAhead_0 : decode cX1_countAhead 0 = .ok (.iconst 0, 1) := by decide +kernel
theorem dX1_countAhead_1 : decode cX1_countAhead 1 = .ok (.istore_n 2, 1) := by decide +kernel
theorem dX1_countAhead_2 : decode cX1_countAhead 2 = .ok (.iconst 0, 1) := by decide +kernel
theorem dX1_countAhead_3 : decode cX1_countAhead 3 = .ok (.istore_n 3, 1) := by decide +kernel
theorem dX1_countAhead_4 : decode cX1_countAhead 4 = .ok (.iload_n 3, 1) := by decide +kernel
theorem dX1_countAhead_5 : decode cX1_countAhead 5 = .ok (.bipush 6, 2) := by decide +kernel
theorem dX1_countAhead_7 : decode cX1_countAhead 7 = .ok (.if_icmp .ge 47, 3) := by decide +kernel
theorem dX1_countAhead_10 : decode cX1_countAhead 10 = .ok (.aload_n 0, 1) := by decide +kernel
theorem dX1_countAhead_11 : decode cX1_countAhead 11 = .ok (.getfield 34, 3) := by decide +kernel
theorem dX1_countAhead_14 : decode cX1_countAhead 14 = .ok (.iload_n 3, 1) := by decide +kernel
theorem dX1_countAhead_15 : decode cX1_countAhead 15 = .ok (.iaload, 1) := by decide +kernel
theorem dX1_countAhead_16 : decode cX1_countAhead 16 = .ok (.aload_n 0, 1) := by decide +kernel
theorem dX1_countAhead_17 : decode cX1_countAhead 17 = .ok (.getfield 34, 3) := by decide +kernel
theorem dX1_countAhead_20 : decode cX1_countAhead 20 = .ok (.iload_n 1, 1) := by decide +kernel
theorem dX1_countAhead_21 : decode cX1_countAhead 21 = .ok (.iaload, 1) := by decide +kernel
theorem dX1_countAhead_22 : decode cX1_countAhead 22 = .ok (.if_icmp .gt 23, 3) := by decide +kernel
theorem dX1_countAhead_25 : decode cX1_countAhead 25 = .ok (.aload_n 0, 1) := by decide +kernel
theorem dX1_countAhead_26 : decode cX1_countAhead 26 = .ok (.getfield 34, 3) := by decide +kernel
theorem dX1_countAhead_29 : decode cX1_countAhead 29 = .ok (.iload_n 3, 1) := by decide +kernel
theorem dX1_countAhead_30 : decode cX1_countAhead 30 = .ok (.iaload, 1) := by decide +kernel
theorem dX1_countAhead_31 : decode cX1_countAhead 31 = .ok (.aload_n 0, 1) := by decide +kernel
theorem dX1_countAhead_32 : decode cX1_countAhead 32 = .ok (.getfield 34, 3) := by decide +kernel
theorem dX1_countAhead_35 : decode cX1_countAhead 35 = .ok (.iload_n 1, 1) := by decide +kernel
theorem dX1_countAhead_36 : decode cX1_countAhead 36 = .ok (.iaload, 1) := by decide +kernel
theorem dX1_countAhead_37 : decode cX1_countAhead 37 = .ok (.if_icmp .ne 11, 3) := by decide +kernel
theorem dX1_countAhead_40 : decode cX1_countAhead 40 = .ok (.iload_n 3, 1) := by decide +kernel
theorem dX1_countAhead_41 : decode cX1_countAhead 41 = .ok (.iload_n 1, 1) := by decide +kernel
theorem dX1_countAhead_42 : decode cX1_countAhead 42 = .ok (.if_icmp .ge 6, 3) := by decide +kernel
theorem dX1_countAhead_45 : decode cX1_countAhead 45 = .ok (.iinc 2 1, 3) := by decide +kernel
theorem dX1_countAhead_48 : decode cX1_countAhead 48 = .ok (.iinc 3 1, 3) := by decide +kernel
theorem dX1_countAhead_51 : decode cX1_countAhead 51 = .ok (.goto (-47), 3) := by decide +kernel
theorem dX1_countAhead_54 : decode cX1_countAhead 54 = .ok (.iload_n 2, 1) := by decide +kernel
theorem dX1_countAhead_55 : decode cX1_countAhead 55 = .ok (.ireturn, 1) := by decide +kernel
theorem dX1_coinsByGuilds_0 : decode cX1_coinsByGuilds 0 = .ok (.iconst 0, 1) := by decide +kernel
theorem dX1_coinsByGuilds_1 : decode cX1_coinsByGuilds 1 = .ok (.istore_n 1, 1) := by decide +kernel
theorem dX1_coinsByGuilds_2 : decode cX1_coinsByGuilds 2 = .ok (.iconst 0, 1) := by decide +kernel
theorem dX1_coinsByGuilds_3 : decode cX1_coinsByGuilds 3 = .ok (.istore_n 2, 1) := by decide +kernel
theorem dX1_coinsByGuilds_4 : decode cX1_coinsByGuilds 4 = .ok (.iload_n 2, 1) := by decide +kernel
theorem dX1_coinsByGuilds_5 : decode cX1_coinsByGuilds 5 = .ok (.bipush 6, 2) := by decide +kernel
theorem dX1_coinsByGuilds_7 : decode cX1_coinsByGuilds 7 = .ok (.if_icmp .ge 18, 3) := by decide +kernel
theorem dX1_coinsByGuilds_10 : decode cX1_coinsByGuilds 10 = .ok (.iload_n 1, 1) := by decide +kernel
theorem dX1_coinsByGuilds_11 : decode cX1_coinsByGuilds 11 = .ok (.aload_n 0, 1) := by decide +kernel
theorem dX1_coinsByGuilds_12 : decode cX1_coinsByGuilds 12 = .ok (.getfield 31, 3) := by decide +kernel
theorem dX1_coinsByGuilds_15 : decode cX1_coinsByGuilds 15 = .ok (.iload_n 2, 1) := by decide +kernel
theorem dX1_coinsByGuilds_16 : decode cX1_coinsByGuilds 16 = .ok (.iaload, 1) := by decide +kernel
theorem dX1_coinsByGuilds_17 : decode cX1_coinsByGuilds 17 = .ok (.iadd, 1) := by decide +kernel
theorem dX1_coinsByGuilds_18 : decode cX1_coinsByGuilds 18 = .ok (.istore_n 1, 1) := by decide +kernel
theorem dX1_coinsByGuilds_19 : decode cX1_coinsByGuilds 19 = .ok (.iinc 2 1, 3) := by decide +kernel
theorem dX1_coinsByGuilds_22 : decode cX1_coinsByGuilds 22 = .ok (.goto (-18), 3) := by decide +kernel
theorem dX1_coinsByGuilds_25 : decode cX1_coinsByGuilds 25 = .ok (.iload_n 1, 1) := by decide +kernel
theorem dX1_coinsByGuilds_26 : decode cX1_coinsByGuilds 26 = .ok (.ireturn, 1) := by decide +kernel
theorem dX1_coinsBySeals_0 : decode cX1_coinsBySeals 0 = .ok (.bipush 120, 2) := by decide +kernel
theorem dX1_coinsBySeals_2 : decode cX1_coinsBySeals 2 = .ok (.istore_n 1, 1) := by decide +kernel
theorem dX1_coinsBySeals_3 : decode cX1_coinsBySeals 3 = .ok (.iconst 0, 1) := by decide +kernel
theorem dX1_coinsBySeals_4 : decode cX1_coinsBySeals 4 = .ok (.istore_n 2, 1) := by decide +kernel
theorem dX1_coinsBySeals_5 : decode cX1_coinsBySeals 5 = .ok (.iload_n 2, 1) := by decide +kernel
theorem dX1_coinsBySeals_6 : decode cX1_coinsBySeals 6 = .ok (.aload_n 0, 1) := by decide +kernel
theorem dX1_coinsBySeals_7 : decode cX1_coinsBySeals 7 = .ok (.getfield 41, 3) := by decide +kernel
theorem dX1_coinsBySeals_10 : decode cX1_coinsBySeals 10 = .ok (.if_icmp .ge 46, 3) := by decide +kernel
theorem dX1_coinsBySeals_13 : decode cX1_coinsBySeals 13 = .ok (.iconst 0, 1) := by decide +kernel
theorem dX1_coinsBySeals_14 : decode cX1_coinsBySeals 14 = .ok (.istore_n 3, 1) := by decide +kernel
theorem dX1_coinsBySeals_15 : decode cX1_coinsBySeals 15 = .ok (.iload_n 3, 1) := by decide +kernel
theorem dX1_coinsBySeals_16 : decode cX1_coinsBySeals 16 = .ok (.bipush 6, 2) := by decide +kernel
theorem dX1_coinsBySeals_18 : decode cX1_coinsBySeals 18 = .ok (.if_icmp .ge 32, 3) := by decide +kernel
theorem dX1_coinsBySeals_21 : decode cX1_coinsBySeals 21 = .ok (.iload_n 1, 1) := by decide +kernel
theorem dX1_coinsBySeals_22 : decode cX1_coinsBySeals 22 = .ok (.aload_n 0, 1) := by decide +kernel
theorem dX1_coinsBySeals_23 : decode cX1_coinsBySeals 23 = .ok (.iload_n 2, 1) := by decide +kernel
theorem dX1_coinsBySeals_24 : decode cX1_coinsBySeals 24 = .ok (.iload_n 3, 1) := by decide +kernel
theorem dX1_coinsBySeals_25 : decode cX1_coinsBySeals 25 = .ok (.invokevirtual 75, 3) := by decide +kernel
theorem dX1_coinsBySeals_28 : decode cX1_coinsBySeals 28 = .ok (.iconst 3, 1) := by decide +kernel
theorem dX1_coinsBySeals_29 : decode cX1_coinsBySeals 29 = .ok (.if_icmp .ne 12, 3) := by decide +kernel
theorem dX1_coinsBySeals_32 : decode cX1_coinsBySeals 32 = .ok (.aload_n 0, 1) := by decide +kernel
theorem dX1_coinsBySeals_33 : decode cX1_coinsBySeals 33 = .ok (.iload_n 2, 1) := by decide +kernel
theorem dX1_coinsBySeals_34 : decode cX1_coinsBySeals 34 = .ok (.iload_n 3, 1) := by decide +kernel
theorem dX1_coinsBySeals_35 : decode cX1_coinsBySeals 35 = .ok (.invokevirtual 82, 3) := by decide +kernel
theorem dX1_coinsBySeals_38 : decode cX1_coinsBySeals 38 = .ok (.goto 4, 3) := by decide +kernel
theorem dX1_coinsBySeals_41 : decode cX1_coinsBySeals 41 = .ok (.iconst 0, 1) := by decide +kernel
theorem dX1_coinsBySeals_42 : decode cX1_coinsBySeals 42 = .ok (.iadd, 1) := by decide +kernel
theorem dX1_coinsBySeals_43 : decode cX1_coinsBySeals 43 = .ok (.istore_n 1, 1) := by decide +kernel
theorem dX1_coinsBySeals_44 : decode cX1_coinsBySeals 44 = .ok (.iinc 3 1, 3) := by decide +kernel
theorem dX1_coinsBySeals_47 : decode cX1_coinsBySeals 47 = .ok (.goto (-32), 3) := by decide +kernel
theorem dX1_coinsBySeals_50 : decode cX1_coinsBySeals 50 = .ok (.iinc 2 1, 3) := by decide +kernel
theorem dX1_coinsBySeals_53 : decode cX1_coinsBySeals 53 = .ok (.goto (-48), 3) := by decide +kernel
theorem dX1_coinsBySeals_56 : decode cX1_coinsBySeals 56 = .ok (.iload_n 1, 1) := by decide +kernel
theorem dX1_coinsBySeals_57 : decode cX1_coinsBySeals 57 = .ok (.ireturn, 1) := by decide +kernel
theorem dX1_numberOfMatter_0 : decode cX1_numberOfMatter 0 = .ok (.iload_n 2, 1) := by decide +kernel
theorem dX1_numberOfMatter_1 : decode cX1_numberOfMatter 1 = .ok (.tableswitch 88 0 6 #[43, 50, 56, 62, 69, 76, 82], 43) := by decide +kernel
theorem dX1_numberOfMatter_44 : decode cX1_numberOfMatter 44 = .ok (.aload_n 0, 1) := by decide +kernel
theorem dX1_numberOfMatter_45 : decode cX1_numberOfMatter 45 = .ok (.getfield 15, 3) := by decide +kernel
theorem dX1_numberOfMatter_48 : decode cX1_numberOfMatter 48 = .ok (.iload_n 1, 1) := by decide +kernel
theorem dX1_numberOfMatter_49 : decode cX1_numberOfMatter 49 = .ok (.iaload, 1) := by decide +kernel
theorem dX1_numberOfMatter_50 : decode cX1_numberOfMatter 50 = .ok (.ireturn, 1) := by decide +kernel
theorem dX1_numberOfMatter_51 : decode cX1_numberOfMatter 51 = .ok (.aload_n 0, 1) := by decide +kernel
theorem dX1_numberOfMatter_52 : decode cX1_numberOfMatter 52 = .ok (.iload_n 1, 1) := by decide +kernel
theorem dX1_numberOfMatter_53 : decode cX1_numberOfMatter 53 = .ok (.invokevirtual 63, 3) := by decide +kernel
theorem dX1_numberOfMatter_56 : decode cX1_numberOfMatter 56 = .ok (.ireturn, 1) := by decide +kernel
theorem dX1_numberOfMatter_57 : decode cX1_numberOfMatter 57 = .ok (.aload_n 0, 1) := by decide +kernel
theorem dX1_numberOfMatter_58 : decode cX1_numberOfMatter 58 = .ok (.iload_n 1, 1) := by decide +kernel
theorem dX1_numberOfMatter_59 : decode cX1_numberOfMatter 59 = .ok (.invokevirtual 108, 3) := by decide +kernel
theorem dX1_numberOfMatter_62 : decode cX1_numberOfMatter 62 = .ok (.ireturn, 1) := by decide +kernel
theorem dX1_numberOfMatter_63 : decode cX1_numberOfMatter 63 = .ok (.aload_n 0, 1) := by decide +kernel
theorem dX1_numberOfMatter_64 : decode cX1_numberOfMatter 64 = .ok (.iload_n 1, 1) := by decide +kernel
theorem dX1_numberOfMatter_65 : decode cX1_numberOfMatter 65 = .ok (.iconst 1, 1) := by decide +kernel
theorem dX1_numberOfMatter_66 : decode cX1_numberOfMatter 66 = .ok (.invokevirtual 99, 3) := by decide +kernel
theorem dX1_numberOfMatter_69 : decode cX1_numberOfMatter 69 = .ok (.ireturn, 1) := by decide +kernel
theorem dX1_numberOfMatter_70 : decode cX1_numberOfMatter 70 = .ok (.aload_n 0, 1) := by decide +kernel
theorem dX1_numberOfMatter_71 : decode cX1_numberOfMatter 71 = .ok (.iload_n 1, 1) := by decide +kernel
theorem dX1_numberOfMatter_72 : decode cX1_numberOfMatter 72 = .ok (.iconst 2, 1) := by decide +kernel
theorem dX1_numberOfMatter_73 : decode cX1_numberOfMatter 73 = .ok (.invokevirtual 99, 3) := by decide +kernel
theorem dX1_numberOfMatter_76 : decode cX1_numberOfMatter 76 = .ok (.ireturn, 1) := by decide +kernel
theorem dX1_numberOfMatter_77 : decode cX1_numberOfMatter 77 = .ok (.aload_n 0, 1) := by decide +kernel
theorem dX1_numberOfMatter_78 : decode cX1_numberOfMatter 78 = .ok (.iload_n 1, 1) := by decide +kernel
theorem dX1_numberOfMatter_79 : decode cX1_numberOfMatter 79 = .ok (.invokevirtual 127, 3) := by decide +kernel
theorem dX1_numberOfMatter_82 : decode cX1_numberOfMatter 82 = .ok (.ireturn, 1) := by decide +kernel
theorem dX1_numberOfMatter_83 : decode cX1_numberOfMatter 83 = .ok (.aload_n 0, 1) := by decide +kernel
theorem dX1_numberOfMatter_84 : decode cX1_numberOfMatter 84 = .ok (.iload_n 1, 1) := by decide +kernel
theorem dX1_numberOfMatter_85 : decode cX1_numberOfMatter 85 = .ok (.invokevirtual 130, 3) := by decide +kernel
theorem dX1_numberOfMatter_88 : decode cX1_numberOfMatter 88 = .ok (.ireturn, 1) := by decide +kernel
theorem dX1_numberOfMatter_89 : decode cX1_numberOfMatter 89 = .ok (.aload_n 0, 1) := by decide +kernel
theorem dX1_numberOfMatter_90 : decode cX1_numberOfMatter 90 = .ok (.getfield 19, 3) := by decide +kernel
theorem dX1_numberOfMatter_93 : decode cX1_numberOfMatter 93 = .ok (.iload_n 1, 1) := by decide +kernel
theorem dX1_numberOfMatter_94 : decode cX1_numberOfMatter 94 = .ok (.iaload, 1) := by decide +kernel
theorem dX1_numberOfMatter_95 : decode cX1_numberOfMatter 95 = .ok (.ireturn, 1) := by decide +kernel
theorem dX1_numberOfGuild_0 : decode cX1_numberOfGuild 0 = .ok (.iload_n 2, 1) := by decide +kernel
theorem dX1_numberOfGuild_1 : decode cX1_numberOfGuild 1 = .ok (.tableswitch 77 0 4 #[35, 42, 57, 63, 70], 35) := by decide +kernel
theorem dX1_numberOfGuild_36 : decode cX1_numberOfGuild 36 = .ok (.aload_n 0, 1) := by decide +kernel
theorem dX1_numberOfGuild_37 : decode cX1_numberOfGuild 37 = .ok (.getfield 31, 3) := by decide +kernel
theorem dX1_numberOfGuild_40 : decode cX1_numberOfGuild 40 = .ok (.iload_n 1, 1) := by decide +kernel
theorem dX1_numberOfGuild_41 : decode cX1_numberOfGuild 41 = .ok (.iaload, 1) := by decide +kernel
theorem dX1_numberOfGuild_42 : decode cX1_numberOfGuild 42 = .ok (.ireturn, 1) := by decide +kernel
theorem dX1_numberOfGuild_43 : decode cX1_numberOfGuild 43 = .ok (.aload_n 0, 1) := by decide +kernel
theorem dX1_numberOfGuild_44 : decode cX1_numberOfGuild 44 = .ok (.getfield 37, 3) := by decide +kernel
theorem dX1_numberOfGuild_47 : decode cX1_numberOfGuild 47 = .ok (.iload_n 1, 1) := by decide +kernel
theorem dX1_numberOfGuild_48 : decode cX1_numberOfGuild 48 = .ok (.baload, 1) := by decide +kernel
theorem dX1_numberOfGuild_49 : decode cX1_numberOfGuild 49 = .ok (.ifCond .eq 7, 3) := by decide +kernel
theorem dX1_numberOfGuild_52 : decode cX1_numberOfGuild 52 = .ok (.iconst 1, 1) := by decide +kernel
theorem dX1_numberOfGuild_53 : decode cX1_numberOfGuild 53 = .ok (.goto 4, 3) := by decide +kernel
theorem dX1_numberOfGuild_56 : decode cX1_numberOfGuild 56 = .ok (.iconst 0, 1) := by decide +kernel
theorem dX1_numberOfGuild_57 : decode cX1_numberOfGuild 57 = .ok (.ireturn, 1) := by decide +kernel
theorem dX1_numberOfGuild_58 : decode cX1_numberOfGuild 58 = .ok (.aload_n 0, 1) := by decide +kernel
theorem dX1_numberOfGuild_59 : decode cX1_numberOfGuild 59 = .ok (.iload_n 1, 1) := by decide +kernel
theorem dX1_numberOfGuild_60 : decode cX1_numberOfGuild 60 = .ok (.invokevirtual 79, 3) := by decide +kernel
theorem dX1_numberOfGuild_63 : decode cX1_numberOfGuild 63 = .ok (.ireturn, 1) := by decide +kernel
theorem dX1_numberOfGuild_64 : decode cX1_numberOfGuild 64 = .ok (.aload_n 0, 1) := by decide +kernel
theorem dX1_numberOfGuild_65 : decode cX1_numberOfGuild 65 = .ok (.getfield 34, 3) := by decide +kernel
theorem dX1_numberOfGuild_68 : decode cX1_numberOfGuild 68 = .ok (.iload_n 1, 1) := by decide +kernel
theorem dX1_numberOfGuild_69 : decode cX1_numberOfGuild 69 = .ok (.iaload, 1) := by decide +kernel
theorem dX1_numberOfGuild_70 : decode cX1_numberOfGuild 70 = .ok (.ireturn, 1) := by decide +kernel
theorem dX1_numberOfGuild_71 : decode cX1_numberOfGuild 71 = .ok (.aload_n 0, 1) := by decide +kernel
theorem dX1_numberOfGuild_72 : decode cX1_numberOfGuild 72 = .ok (.iload_n 1, 1) := by decide +kernel
theorem dX1_numberOfGuild_73 : decode cX1_numberOfGuild 73 = .ok (.iconst 3, 1) := by decide +kernel
theorem dX1_numberOfGuild_74 : decode cX1_numberOfGuild 74 = .ok (.invokevirtual 133, 3) := by decide +kernel
theorem dX1_numberOfGuild_77 : decode cX1_numberOfGuild 77 = .ok (.ireturn, 1) := by decide +kernel
theorem dX1_numberOfGuild_78 : decode cX1_numberOfGuild 78 = .ok (.aload_n 0, 1) := by decide +kernel
theorem dX1_numberOfGuild_79 : decode cX1_numberOfGuild 79 = .ok (.iload_n 1, 1) := by decide +kernel
theorem dX1_numberOfGuild_80 : decode cX1_numberOfGuild 80 = .ok (.iconst 4, 1) := by decide +kernel
theorem dX1_numberOfGuild_81 : decode cX1_numberOfGuild 81 = .ok (.invokevirtual 133, 3) := by decide +kernel
theorem dX1_numberOfGuild_84 : decode cX1_numberOfGuild 84 = .ok (.ireturn, 1) := by decide +kernel
theorem dX1_numberOfAll_0 : decode cX1_numberOfAll 0 = .ok (.iload_n 1, 1) := by decide +kernel
theorem dX1_numberOfAll_1 : decode cX1_numberOfAll 1 = .ok (.tableswitch 108 0 9 #[55, 60, 66, 72, 78, 83, 88, 93, 98, 103], 55) := by decide +kernel
theorem dX1_numberOfAll_56 : decode cX1_numberOfAll 56 = .ok (.aload_n 0, 1) := by decide +kernel
theorem dX1_numberOfAll_57 : decode cX1_numberOfAll 57 = .ok (.getfield 41, 3) := by decide +kernel
theorem dX1_numberOfAll_60 : decode cX1_numberOfAll 60 = .ok (.ireturn, 1) := by decide +kernel
theorem dX1_numberOfAll_61 : decode cX1_numberOfAll 61 = .ok (.aload_n 0, 1) := by decide +kernel
theorem dX1_numberOfAll_62 : decode cX1_numberOfAll 62 = .ok (.iconst 0, 1) := by decide +kernel
theorem dX1_numberOfAll_63 : decode cX1_numberOfAll 63 = .ok (.invokevirtual 105, 3) := by decide +kernel
theorem dX1_numberOfAll_66 : decode cX1_numberOfAll 66 = .ok (.ireturn, 1) := by decide +kernel
theorem dX1_numberOfAll_67 : decode cX1_numberOfAll 67 = .ok (.aload_n 0, 1) := by decide +kernel
theorem dX1_numberOfAll_68 : decode cX1_numberOfAll 68 = .ok (.iconst 1, 1) := by decide +kernel
theorem dX1_numberOfAll_69 : decode cX1_numberOfAll 69 = .ok (.invokevirtual 105, 3) := by decide +kernel
theorem dX1_numberOfAll_72 : decode cX1_numberOfAll 72 = .ok (.ireturn, 1) := by decide +kernel
theorem dX1_numberOfAll_73 : decode cX1_numberOfAll 73 = .ok (.aload_n 0, 1) := by decide +kernel
theorem dX1_numberOfAll_74 : decode cX1_numberOfAll 74 = .ok (.iconst 2, 1) := by decide +kernel
theorem dX1_numberOfAll_75 : decode cX1_numberOfAll 75 = .ok (.invokevirtual 105, 3) := by decide +kernel
theorem dX1_numberOfAll_78 : decode cX1_numberOfAll 78 = .ok (.ireturn, 1) := by decide +kernel
theorem dX1_numberOfAll_79 : decode cX1_numberOfAll 79 = .ok (.aload_n 0, 1) := by decide +kernel
theorem dX1_numberOfAll_80 : decode cX1_numberOfAll 80 = .ok (.invokevirtual 111, 3) := by decide +kernel
theorem dX1_numberOfAll_83 : decode cX1_numberOfAll 83 = .ok (.ireturn, 1) := by decide +kernel
theorem dX1_numberOfAll_84 : decode cX1_numberOfAll 84 = .ok (.aload_n 0, 1) := by decide +kernel
theorem dX1_numberOfAll_85 : decode cX1_numberOfAll 85 = .ok (.invokevirtual 136, 3) := by decide +kernel
theorem dX1_numberOfAll_88 : decode cX1_numberOfAll 88 = .ok (.ireturn, 1) := by decide +kernel
theorem dX1_numberOfAll_89 : decode cX1_numberOfAll 89 = .ok (.aload_n 0, 1) := by decide +kernel
theorem dX1_numberOfAll_90 : decode cX1_numberOfAll 90 = .ok (.getfield 48, 3) := by decide +kernel
theorem dX1_numberOfAll_93 : decode cX1_numberOfAll 93 = .ok (.ireturn, 1) := by decide +kernel
theorem dX1_numberOfAll_94 : decode cX1_numberOfAll 94 = .ok (.aload_n 0, 1) := by decide +kernel
theorem dX1_numberOfAll_95 : decode cX1_numberOfAll 95 = .ok (.invokevirtual 139, 3) := by decide +kernel
theorem dX1_numberOfAll_98 : decode cX1_numberOfAll 98 = .ok (.ireturn, 1) := by decide +kernel
theorem dX1_numberOfAll_99 : decode cX1_numberOfAll 99 = .ok (.aload_n 0, 1) := by decide +kernel
theorem dX1_numberOfAll_100 : decode cX1_numberOfAll 100 = .ok (.getfield 51, 3) := by decide +kernel
theorem dX1_numberOfAll_103 : decode cX1_numberOfAll 103 = .ok (.ireturn, 1) := by decide +kernel
theorem dX1_numberOfAll_104 : decode cX1_numberOfAll 104 = .ok (.aload_n 0, 1) := by decide +kernel
theorem dX1_numberOfAll_105 : decode cX1_numberOfAll 105 = .ok (.getfield 54, 3) := by decide +kernel
theorem dX1_numberOfAll_108 : decode cX1_numberOfAll 108 = .ok (.ireturn, 1) := by decide +kernel
theorem dX1_numberOfAll_109 : decode cX1_numberOfAll 109 = .ok (.aload_n 0, 1) := by decide +kernel
theorem dX1_numberOfAll_110 : decode cX1_numberOfAll 110 = .ok (.invokevirtual 142, 3) := by decide +kernel
theorem dX1_numberOfAll_113 : decode cX1_numberOfAll 113 = .ok (.ireturn, 1) := by decide +kernel
theorem dX1_countMatters_0 : decode cX1_countMatters 0 = .ok (.iconst 0, 1) := by decide +kernel
theorem dX1_countMatters_1 : decode cX1_countMatters 1 = .ok (.istore_n 2, 1) := by decide +kernel
theorem dX1_countMatters_2 : decode cX1_countMatters 2 = .ok (.iconst 0, 1) := by decide +kernel
theorem dX1_countMatters_3 : decode cX1_countMatters 3 = .ok (.istore_n 3, 1) := by decide +kernel
theorem dX1_countMatters_4 : decode cX1_countMatters 4 = .ok (.iload_n 3, 1) := by decide +kernel
theorem dX1_countMatters_5 : decode cX1_countMatters 5 = .ok (.aload_n 0, 1) := by decide +kernel
theorem dX1_countMatters_6 : decode cX1_countMatters 6 = .ok (.getfield 41, 3) := by decide +kernel
theorem dX1_countMatters_9 : decode cX1_countMatters 9 = .ok (.if_icmp .ge 27, 3) := by decide +kernel
theorem dX1_countMatters_12 : decode cX1_countMatters 12 = .ok (.iload_n 2, 1) := by decide +kernel
theorem dX1_countMatters_13 : decode cX1_countMatters 13 = .ok (.aload_n 0, 1) := by decide +kernel
theorem dX1_countMatters_14 : decode cX1_countMatters 14 = .ok (.getfield 15, 3) := by decide +kernel
theorem dX1_countMatters_17 : decode cX1_countMatters 17 = .ok (.iload_n 3, 1) := by decide +kernel
theorem dX1_countMatters_18 : decode cX1_countMatters 18 = .ok (.iaload, 1) := by decide +kernel
theorem dX1_countMatters_19 : decode cX1_countMatters 19 = .ok (.iload_n 1, 1) := by decide +kernel
theorem dX1_countMatters_20 : decode cX1_countMatters 20 = .ok (.if_icmp .ne 7, 3) := by decide +kernel
theorem dX1_countMatters_23 : decode cX1_countMatters 23 = .ok (.iconst 1, 1) := by decide +kernel
theorem dX1_countMatters_24 : decode cX1_countMatters 24 = .ok (.goto 4, 3) := by decide +kernel
theorem dX1_countMatters_27 : decode cX1_countMatters 27 = .ok (.iconst 0, 1) := by decide +kernel
theorem dX1_countMatters_28 : decode cX1_countMatters 28 = .ok (.iadd, 1) := by decide +kernel
theorem dX1_countMatters_29 : decode cX1_countMatters 29 = .ok (.istore_n 2, 1) := by decide +kernel
theorem dX1_countMatters_30 : decode cX1_countMatters 30 = .ok (.iinc 3 1, 3) := by decide +kernel
theorem dX1_countMatters_33 : decode cX1_countMatters 33 = .ok (.goto (-29), 3) := by decide +kernel
theorem dX1_countMatters_36 : decode cX1_countMatters 36 = .ok (.iload_n 2, 1) := by decide +kernel
theorem dX1_countMatters_37 : decode cX1_countMatters 37 = .ok (.ireturn, 1) := by decide +kernel
theorem dX1_countMattersOf_0 : decode cX1_countMattersOf 0 = .ok (.iconst 0, 1) := by decide +kernel
theorem dX1_countMattersOf_1 : decode cX1_countMattersOf 1 = .ok (.istore_n 3, 1) := by decide +kernel
theorem dX1_countMattersOf_2 : decode cX1_countMattersOf 2 = .ok (.iconst 0, 1) := by decide +kernel
theorem dX1_countMattersOf_3 : decode cX1_countMattersOf 3 = .ok (.istore 4, 2) := by decide +kernel
theorem dX1_countMattersOf_5 : decode cX1_countMattersOf 5 = .ok (.iload 4, 2) := by decide +kernel
theorem dX1_countMattersOf_7 : decode cX1_countMattersOf 7 = .ok (.aload_n 0, 1) := by decide +kernel
theorem dX1_countMattersOf_8 : decode cX1_countMattersOf 8 = .ok (.getfield 41, 3) := by decide +kernel
theorem dX1_countMattersOf_11 : decode cX1_countMattersOf 11 = .ok (.if_icmp .ge 28, 3) := by decide +kernel
theorem dX1_countMattersOf_14 : decode cX1_countMattersOf 14 = .ok (.iload_n 3, 1) := by decide +kernel
theorem dX1_countMattersOf_15 : decode cX1_countMattersOf 15 = .ok (.aload_n 0, 1) := by decide +kernel
theorem dX1_countMattersOf_16 : decode cX1_countMattersOf 16 = .ok (.iload 4, 2) := by decide +kernel
theorem dX1_countMattersOf_18 : decode cX1_countMattersOf 18 = .ok (.iload_n 1, 1) := by decide +kernel
theorem dX1_countMattersOf_19 : decode cX1_countMattersOf 19 = .ok (.invokevirtual 75, 3) := by decide +kernel
theorem dX1_countMattersOf_22 : decode cX1_countMattersOf 22 = .ok (.iload_n 2, 1) := by decide +kernel
theorem dX1_countMattersOf_23 : decode cX1_countMattersOf 23 = .ok (.if_icmp .ne 7, 3) := by decide +kernel
theorem dX1_countMattersOf_26 : decode cX1_countMattersOf 26 = .ok (.iconst 1, 1) := by decide +kernel
theorem dX1_countMattersOf_27 : decode cX1_countMattersOf 27 = .ok (.goto 4, 3) := by decide +kernel
theorem dX1_countMattersOf_30 : decode cX1_countMattersOf 30 = .ok (.iconst 0, 1) := by decide +kernel
theorem dX1_countMattersOf_31 : decode cX1_countMattersOf 31 = .ok (.iadd, 1) := by decide +kernel
theorem dX1_countMattersOf_32 : decode cX1_countMattersOf 32 = .ok (.istore_n 3, 1) := by decide +kernel
theorem dX1_countMattersOf_33 : decode cX1_countMattersOf 33 = .ok (.iinc 4 1, 3) := by decide +kernel
theorem dX1_countMattersOf_36 : decode cX1_countMattersOf 36 = .ok (.goto (-31), 3) := by decide +kernel
theorem dX1_countMattersOf_39 : decode cX1_countMattersOf 39 = .ok (.iload_n 3, 1) := by decide +kernel
theorem dX1_countMattersOf_40 : decode cX1_countMattersOf 40 = .ok (.ireturn, 1) := by decide +kernel
theorem dX1_countHeardByAll_0 : decode cX1_countHeardByAll 0 = .ok (.iconst 0, 1) := by decide +kernel
theorem dX1_countHeardByAll_1 : decode cX1_countHeardByAll 1 = .ok (.istore_n 1, 1) := by decide +kernel
theorem dX1_countHeardByAll_2 : decode cX1_countHeardByAll 2 = .ok (.iconst 0, 1) := by decide +kernel
theorem dX1_countHeardByAll_3 : decode cX1_countHeardByAll 3 = .ok (.istore_n 2, 1) := by decide +kernel
theorem dX1_countHeardByAll_4 : decode cX1_countHeardByAll 4 = .ok (.iload_n 2, 1) := by decide +kernel
theorem dX1_countHeardByAll_5 : decode cX1_countHeardByAll 5 = .ok (.aload_n 0, 1) := by decide +kernel
theorem dX1_countHeardByAll_6 : decode cX1_countHeardByAll 6 = .ok (.getfield 41, 3) := by decide +kernel
theorem dX1_countHeardByAll_9 : decode cX1_countHeardByAll 9 = .ok (.if_icmp .ge 36, 3) := by decide +kernel
theorem dX1_countHeardByAll_12 : decode cX1_countHeardByAll 12 = .ok (.aload_n 0, 1) := by decide +kernel
theorem dX1_countHeardByAll_13 : decode cX1_countHeardByAll 13 = .ok (.iload_n 2, 1) := by decide +kernel
theorem dX1_countHeardByAll_14 : decode cX1_countHeardByAll 14 = .ok (.invokevirtual 63, 3) := by decide +kernel
theorem dX1_countHeardByAll_17 : decode cX1_countHeardByAll 17 = .ok (.istore_n 3, 1) := by decide +kernel
theorem dX1_countHeardByAll_18 : decode cX1_countHeardByAll 18 = .ok (.iload_n 1, 1) := by decide +kernel
theorem dX1_countHeardByAll_19 : decode cX1_countHeardByAll 19 = .ok (.iload_n 3, 1) := by decide +kernel
theorem dX1_countHeardByAll_20 : decode cX1_countHeardByAll 20 = .ok (.ifCond .le 16, 3) := by decide +kernel
theorem dX1_countHeardByAll_23 : decode cX1_countHeardByAll 23 = .ok (.aload_n 0, 1) := by decide +kernel
theorem dX1_countHeardByAll_24 : decode cX1_countHeardByAll 24 = .ok (.iload_n 2, 1) := by decide +kernel
theorem dX1_countHeardByAll_25 : decode cX1_countHeardByAll 25 = .ok (.invokevirtual 127, 3) := by decide +kernel
theorem dX1_countHeardByAll_28 : decode cX1_countHeardByAll 28 = .ok (.iload_n 3, 1) := by decide +kernel
theorem dX1_countHeardByAll_29 : decode cX1_countHeardByAll 29 = .ok (.if_icmp .ne 7, 3) := by decide +kernel
theorem dX1_countHeardByAll_32 : decode cX1_countHeardByAll 32 = .ok (.iconst 1, 1) := by decide +kernel
theorem dX1_countHeardByAll_33 : decode cX1_countHeardByAll 33 = .ok (.goto 4, 3) := by decide +kernel
theorem dX1_countHeardByAll_36 : decode cX1_countHeardByAll 36 = .ok (.iconst 0, 1) := by decide +kernel
theorem dX1_countHeardByAll_37 : decode cX1_countHeardByAll 37 = .ok (.iadd, 1) := by decide +kernel
theorem dX1_countHeardByAll_38 : decode cX1_countHeardByAll 38 = .ok (.istore_n 1, 1) := by decide +kernel
theorem dX1_countHeardByAll_39 : decode cX1_countHeardByAll 39 = .ok (.iinc 2 1, 3) := by decide +kernel
theorem dX1_countHeardByAll_42 : decode cX1_countHeardByAll 42 = .ok (.goto (-38), 3) := by decide +kernel
theorem dX1_countHeardByAll_45 : decode cX1_countHeardByAll 45 = .ok (.iload_n 1, 1) := by decide +kernel
theorem dX1_countHeardByAll_46 : decode cX1_countHeardByAll 46 = .ok (.ireturn, 1) := by decide +kernel
theorem dX1_countGuilds_0 : decode cX1_countGuilds 0 = .ok (.iconst 0, 1) := by decide +kernel
theorem dX1_countGuilds_1 : decode cX1_countGuilds 1 = .ok (.istore_n 2, 1) := by decide +kernel
theorem dX1_countGuilds_2 : decode cX1_countGuilds 2 = .ok (.iconst 0, 1) := by decide +kernel
theorem dX1_countGuilds_3 : decode cX1_countGuilds 3 = .ok (.istore_n 3, 1) := by decide +kernel
theorem dX1_countGuilds_4 : decode cX1_countGuilds 4 = .ok (.iload_n 3, 1) := by decide +kernel
theorem dX1_countGuilds_5 : decode cX1_countGuilds 5 = .ok (.bipush 6, 2) := by decide +kernel
theorem dX1_countGuilds_7 : decode cX1_countGuilds 7 = .ok (.if_icmp .ge 26, 3) := by decide +kernel
theorem dX1_countGuilds_10 : decode cX1_countGuilds 10 = .ok (.iload_n 2, 1) := by decide +kernel
theorem dX1_countGuilds_11 : decode cX1_countGuilds 11 = .ok (.aload_n 0, 1) := by decide +kernel
theorem dX1_countGuilds_12 : decode cX1_countGuilds 12 = .ok (.iload_n 1, 1) := by decide +kernel
theorem dX1_countGuilds_13 : decode cX1_countGuilds 13 = .ok (.iload_n 3, 1) := by decide +kernel
theorem dX1_countGuilds_14 : decode cX1_countGuilds 14 = .ok (.invokevirtual 85, 3) := by decide +kernel
theorem dX1_countGuilds_17 : decode cX1_countGuilds 17 = .ok (.ifCond .eq 7, 3) := by decide +kernel
theorem dX1_countGuilds_20 : decode cX1_countGuilds 20 = .ok (.iconst 1, 1) := by decide +kernel
theorem dX1_countGuilds_21 : decode cX1_countGuilds 21 = .ok (.goto 4, 3) := by decide +kernel
theorem dX1_countGuilds_24 : decode cX1_countGuilds 24 = .ok (.iconst 0, 1) := by decide +kernel
theorem dX1_countGuilds_25 : decode cX1_countGuilds 25 = .ok (.iadd, 1) := by decide +kernel
theorem dX1_countGuilds_26 : decode cX1_countGuilds 26 = .ok (.istore_n 2, 1) := by decide +kernel
theorem dX1_countGuilds_27 : decode cX1_countGuilds 27 = .ok (.iinc 3 1, 3) := by decide +kernel
theorem dX1_countGuilds_30 : decode cX1_countGuilds 30 = .ok (.goto (-26), 3) := by decide +kernel
theorem dX1_countGuilds_33 : decode cX1_countGuilds 33 = .ok (.iload_n 2, 1) := by decide +kernel
theorem dX1_countGuilds_34 : decode cX1_countGuilds 34 = .ok (.ireturn, 1) := by decide +kernel
theorem dX1_countAnswers_0 : decode cX1_countAnswers 0 = .ok (.iconst 0, 1) := by decide +kernel
theorem dX1_countAnswers_1 : decode cX1_countAnswers 1 = .ok (.istore_n 3, 1) := by decide +kernel
theorem dX1_countAnswers_2 : decode cX1_countAnswers 2 = .ok (.iload_n 1, 1) := by decide +kernel
theorem dX1_countAnswers_3 : decode cX1_countAnswers 3 = .ok (.bipush 6, 2) := by decide +kernel
theorem dX1_countAnswers_5 : decode cX1_countAnswers 5 = .ok (.imul, 1) := by decide +kernel
theorem dX1_countAnswers_6 : decode cX1_countAnswers 6 = .ok (.istore 4, 2) := by decide +kernel
theorem dX1_countAnswers_8 : decode cX1_countAnswers 8 = .ok (.iload 4, 2) := by decide +kernel
theorem dX1_countAnswers_10 : decode cX1_countAnswers 10 = .ok (.istore 5, 2) := by decide +kernel
theorem dX1_countAnswers_12 : decode cX1_countAnswers 12 = .ok (.iload 5, 2) := by decide +kernel
theorem dX1_countAnswers_14 : decode cX1_countAnswers 14 = .ok (.iload 4, 2) := by decide +kernel
theorem dX1_countAnswers_16 : decode cX1_countAnswers 16 = .ok (.bipush 6, 2) := by decide +kernel
theorem dX1_countAnswers_18 : decode cX1_countAnswers 18 = .ok (.iadd, 1) := by decide +kernel
theorem dX1_countAnswers_19 : decode cX1_countAnswers 19 = .ok (.if_icmp .ge 38, 3) := by decide +kernel
theorem dX1_countAnswers_22 : decode cX1_countAnswers 22 = .ok (.iload_n 3, 1) := by decide +kernel
theorem dX1_countAnswers_23 : decode cX1_countAnswers 23 = .ok (.aload_n 0, 1) := by decide +kernel
theorem dX1_countAnswers_24 : decode cX1_countAnswers 24 = .ok (.getfield 25, 3) := by decide +kernel
theorem dX1_countAnswers_27 : decode cX1_countAnswers 27 = .ok (.iload 5, 2) := by decide +kernel
theorem dX1_countAnswers_29 : decode cX1_countAnswers 29 = .ok (.iaload, 1) := by decide +kernel
theorem dX1_countAnswers_30 : decode cX1_countAnswers 30 = .ok (.ifCond .eq 18, 3) := by decide +kernel
theorem dX1_countAnswers_33 : decode cX1_countAnswers 33 = .ok (.aload_n 0, 1) := by decide +kernel
theorem dX1_countAnswers_34 : decode cX1_countAnswers 34 = .ok (.getfield 28, 3) := by decide +kernel
theorem dX1_countAnswers_37 : decode cX1_countAnswers 37 = .ok (.iload 5, 2) := by decide +kernel
theorem dX1_countAnswers_39 : decode cX1_countAnswers 39 = .ok (.iaload, 1) := by decide +kernel
theorem dX1_countAnswers_40 : decode cX1_countAnswers 40 = .ok (.iload_n 2, 1) := by decide +kernel
theorem dX1_countAnswers_41 : decode cX1_countAnswers 41 = .ok (.if_icmp .ne 7, 3) := by decide +kernel
theorem dX1_countAnswers_44 : decode cX1_countAnswers 44 = .ok (.iconst 1, 1) := by decide +kernel
theorem dX1_countAnswers_45 : decode cX1_countAnswers 45 = .ok (.goto 4, 3) := by decide +kernel
theorem dX1_countAnswers_48 : decode cX1_countAnswers 48 = .ok (.iconst 0, 1) := by decide +kernel
theorem dX1_countAnswers_49 : decode cX1_countAnswers 49 = .ok (.iadd, 1) := by decide +kernel
theorem dX1_countAnswers_50 : decode cX1_countAnswers 50 = .ok (.istore_n 3, 1) := by decide +kernel
theorem dX1_countAnswers_51 : decode cX1_countAnswers 51 = .ok (.iinc 5 1, 3) := by decide +kernel
theorem dX1_countAnswers_54 : decode cX1_countAnswers 54 = .ok (.goto (-42), 3) := by decide +kernel
theorem dX1_countAnswers_57 : decode cX1_countAnswers 57 = .ok (.iload_n 3, 1) := by decide +kernel
theorem dX1_countAnswers_58 : decode cX1_countAnswers 58 = .ok (.ireturn, 1) := by decide +kernel
theorem dX1_countAnswered_0 : decode cX1_countAnswered 0 = .ok (.aload_n 0, 1) := by decide +kernel
theorem dX1_countAnswered_1 : decode cX1_countAnswered 1 = .ok (.iload_n 1, 1) := by decide +kernel
theorem dX1_countAnswered_2 : decode cX1_countAnswered 2 = .ok (.invokevirtual 63, 3) := by decide +kernel
theorem dX1_countAnswered_5 : decode cX1_countAnswered 5 = .ok (.aload_n 0, 1) := by decide +kernel
theorem dX1_countAnswered_6 : decode cX1_countAnswered 6 = .ok (.iload_n 1, 1) := by decide +kernel
theorem dX1_countAnswered_7 : decode cX1_countAnswered 7 = .ok (.iconst 0, 1) := by decide +kernel
theorem dX1_countAnswered_8 : decode cX1_countAnswered 8 = .ok (.invokevirtual 99, 3) := by decide +kernel
theorem dX1_countAnswered_11 : decode cX1_countAnswered 11 = .ok (.isub, 1) := by decide +kernel
theorem dX1_countAnswered_12 : decode cX1_countAnswered 12 = .ok (.ireturn, 1) := by decide +kernel
theorem dX1_countHeard_0 : decode cX1_countHeard 0 = .ok (.aload_n 0, 1) := by decide +kernel
theorem dX1_countHeard_1 : decode cX1_countHeard 1 = .ok (.iload_n 1, 1) := by decide +kernel
theorem dX1_countHeard_2 : decode cX1_countHeard 2 = .ok (.iconst 3, 1) := by decide +kernel
theorem dX1_countHeard_3 : decode cX1_countHeard 3 = .ok (.invokevirtual 99, 3) := by decide +kernel
theorem dX1_countHeard_6 : decode cX1_countHeard 6 = .ok (.aload_n 0, 1) := by decide +kernel
theorem dX1_countHeard_7 : decode cX1_countHeard 7 = .ok (.iload_n 1, 1) := by decide +kernel
theorem dX1_countHeard_8 : decode cX1_countHeard 8 = .ok (.iconst 4, 1) := by decide +kernel
theorem dX1_countHeard_9 : decode cX1_countHeard 9 = .ok (.invokevirtual 99, 3) := by decide +kernel
theorem dX1_countHeard_12 : decode cX1_countHeard 12 = .ok (.iadd, 1) := by decide +kernel
theorem dX1_countHeard_13 : decode cX1_countHeard 13 = .ok (.ireturn, 1) := by decide +kernel
theorem dX1_sumOfAmounts_0 : decode cX1_sumOfAmounts 0 = .ok (.iconst 0, 1) := by decide +kernel
theorem dX1_sumOfAmounts_1 : decode cX1_sumOfAmounts 1 = .ok (.istore_n 2, 1) := by decide +kernel
theorem dX1_sumOfAmounts_2 : decode cX1_sumOfAmounts 2 = .ok (.iconst 0, 1) := by decide +kernel
theorem dX1_sumOfAmounts_3 : decode cX1_sumOfAmounts 3 = .ok (.istore_n 3, 1) := by decide +kernel
theorem dX1_sumOfAmounts_4 : decode cX1_sumOfAmounts 4 = .ok (.iload_n 3, 1) := by decide +kernel
theorem dX1_sumOfAmounts_5 : decode cX1_sumOfAmounts 5 = .ok (.bipush 6, 2) := by decide +kernel
theorem dX1_sumOfAmounts_7 : decode cX1_sumOfAmounts 7 = .ok (.if_icmp .ge 18, 3) := by decide +kernel
theorem dX1_sumOfAmounts_10 : decode cX1_sumOfAmounts 10 = .ok (.iload_n 2, 1) := by decide +kernel
theorem dX1_sumOfAmounts_11 : decode cX1_sumOfAmounts 11 = .ok (.aload_n 0, 1) := by decide +kernel
theorem dX1_sumOfAmounts_12 : decode cX1_sumOfAmounts 12 = .ok (.iload_n 1, 1) := by decide +kernel
theorem dX1_sumOfAmounts_13 : decode cX1_sumOfAmounts 13 = .ok (.iload_n 3, 1) := by decide +kernel
theorem dX1_sumOfAmounts_14 : decode cX1_sumOfAmounts 14 = .ok (.invokevirtual 82, 3) := by decide +kernel
theorem dX1_sumOfAmounts_17 : decode cX1_sumOfAmounts 17 = .ok (.iadd, 1) := by decide +kernel
theorem dX1_sumOfAmounts_18 : decode cX1_sumOfAmounts 18 = .ok (.istore_n 2, 1) := by decide +kernel
theorem dX1_sumOfAmounts_19 : decode cX1_sumOfAmounts 19 = .ok (.iinc 3 1, 3) := by decide +kernel
theorem dX1_sumOfAmounts_22 : decode cX1_sumOfAmounts 22 = .ok (.goto (-18), 3) := by decide +kernel
theorem dX1_sumOfAmounts_25 : decode cX1_sumOfAmounts 25 = .ok (.iload_n 2, 1) := by decide +kernel
theorem dX1_sumOfAmounts_26 : decode cX1_sumOfAmounts 26 = .ok (.ireturn, 1) := by decide +kernel
theorem dX1_countAwake_0 : decode cX1_countAwake 0 = .ok (.iconst 0, 1) := by decide +kernel
theorem dX1_countAwake_1 : decode cX1_countAwake 1 = .ok (.istore_n 1, 1) := by decide +kernel
theorem dX1_countAwake_2 : decode cX1_countAwake 2 = .ok (.iconst 0, 1) := by decide +kernel
theorem dX1_countAwake_3 : decode cX1_countAwake 3 = .ok (.istore_n 2, 1) := by decide +kernel
theorem dX1_countAwake_4 : decode cX1_countAwake 4 = .ok (.iload_n 2, 1) := by decide +kernel
theorem dX1_countAwake_5 : decode cX1_countAwake 5 = .ok (.bipush 6, 2) := by decide +kernel
theorem dX1_countAwake_7 : decode cX1_countAwake 7 = .ok (.if_icmp .ge 26, 3) := by decide +kernel
theorem dX1_countAwake_10 : decode cX1_countAwake 10 = .ok (.iload_n 1, 1) := by decide +kernel
theorem dX1_countAwake_11 : decode cX1_countAwake 11 = .ok (.aload_n 0, 1) := by decide +kernel
theorem dX1_countAwake_12 : decode cX1_countAwake 12 = .ok (.getfield 37, 3) := by decide +kernel
theorem dX1_countAwake_15 : decode cX1_countAwake 15 = .ok (.iload_n 2, 1) := by decide +kernel
theorem dX1_countAwake_16 : decode cX1_countAwake 16 = .ok (.baload, 1) := by decide +kernel
theorem dX1_countAwake_17 : decode cX1_countAwake 17 = .ok (.ifCond .eq 7, 3) := by decide +kernel
theorem dX1_countAwake_20 : decode cX1_countAwake 20 = .ok (.iconst 1, 1) := by decide +kernel
theorem dX1_countAwake_21 : decode cX1_countAwake 21 = .ok (.goto 4, 3) := by decide +kernel
theorem dX1_countAwake_24 : decode cX1_countAwake 24 = .ok (.iconst 0, 1) := by decide +kernel
theorem dX1_countAwake_25 : decode cX1_countAwake 25 = .ok (.iadd, 1) := by decide +kernel
theorem dX1_countAwake_26 : decode cX1_countAwake 26 = .ok (.istore_n 1, 1) := by decide +kernel
theorem dX1_countAwake_27 : decode cX1_countAwake 27 = .ok (.iinc 2 1, 3) := by decide +kernel
theorem dX1_countAwake_30 : decode cX1_countAwake 30 = .ok (.goto (-26), 3) := by decide +kernel
theorem dX1_countAwake_33 : decode cX1_countAwake 33 = .ok (.iload_n 1, 1) := by decide +kernel
theorem dX1_countAwake_34 : decode cX1_countAwake 34 = .ok (.ireturn, 1) := by decide +kernel
theorem dX1_countInDoubt_0 : decode cX1_countInDoubt 0 = .ok (.iconst 0, 1) := by decide +kernel
theorem dX1_countInDoubt_1 : decode cX1_countInDoubt 1 = .ok (.istore_n 1, 1) := by decide +kernel
theorem dX1_countInDoubt_2 : decode cX1_countInDoubt 2 = .ok (.iconst 0, 1) := by decide +kernel
theorem dX1_countInDoubt_3 : decode cX1_countInDoubt 3 = .ok (.istore_n 2, 1) := by decide +kernel
theorem dX1_countInDoubt_4 : decode cX1_countInDoubt 4 = .ok (.iload_n 2, 1) := by decide +kernel
theorem dX1_countInDoubt_5 : decode cX1_countInDoubt 5 = .ok (.bipush 6, 2) := by decide +kernel
theorem dX1_countInDoubt_7 : decode cX1_countInDoubt 7 = .ok (.if_icmp .ge 26, 3) := by decide +kernel
theorem dX1_countInDoubt_10 : decode cX1_countInDoubt 10 = .ok (.iload_n 1, 1) := by decide +kernel
theorem dX1_countInDoubt_11 : decode cX1_countInDoubt 11 = .ok (.aload_n 0, 1) := by decide +kernel
theorem dX1_countInDoubt_12 : decode cX1_countInDoubt 12 = .ok (.iload_n 2, 1) := by decide +kernel
theorem dX1_countInDoubt_13 : decode cX1_countInDoubt 13 = .ok (.invokevirtual 79, 3) := by decide +kernel
theorem dX1_countInDoubt_16 : decode cX1_countInDoubt 16 = .ok (.iconst (-1), 1) := by decide +kernel
theorem dX1_countInDoubt_17 : decode cX1_countInDoubt 17 = .ok (.if_icmp .eq 7, 3) := by decide +kernel
theorem dX1_countInDoubt_20 : decode cX1_countInDoubt 20 = .ok (.iconst 1, 1) := by decide +kernel
theorem dX1_countInDoubt_21 : decode cX1_countInDoubt 21 = .ok (.goto 4, 3) := by decide +kernel
theorem dX1_countInDoubt_24 : decode cX1_countInDoubt 24 = .ok (.iconst 0, 1) := by decide +kernel
theorem dX1_countInDoubt_25 : decode cX1_countInDoubt 25 = .ok (.iadd, 1) := by decide +kernel
theorem dX1_countInDoubt_26 : decode cX1_countInDoubt 26 = .ok (.istore_n 1, 1) := by decide +kernel
theorem dX1_countInDoubt_27 : decode cX1_countInDoubt 27 = .ok (.iinc 2 1, 3) := by decide +kernel
theorem dX1_countInDoubt_30 : decode cX1_countInDoubt 30 = .ok (.goto (-26), 3) := by decide +kernel
theorem dX1_countInDoubt_33 : decode cX1_countInDoubt 33 = .ok (.iload_n 1, 1) := by decide +kernel
theorem dX1_countInDoubt_34 : decode cX1_countInDoubt 34 = .ok (.ireturn, 1) := by decide +kernel
theorem dX1_allDoubt_0 : decode cX1_allDoubt 0 = .ok (.iconst 0, 1) := by decide +kernel
theorem dX1_allDoubt_1 : decode cX1_allDoubt 1 = .ok (.istore_n 1, 1) := by decide +kernel
theorem dX1_allDoubt_2 : decode cX1_allDoubt 2 = .ok (.iconst 0, 1) := by decide +kernel
theorem dX1_allDoubt_3 : decode cX1_allDoubt 3 = .ok (.istore_n 2, 1) := by decide +kernel
theorem dX1_allDoubt_4 : decode cX1_allDoubt 4 = .ok (.iload_n 2, 1) := by decide +kernel
theorem dX1_allDoubt_5 : decode cX1_allDoubt 5 = .ok (.bipush 6, 2) := by decide +kernel
theorem dX1_allDoubt_7 : decode cX1_allDoubt 7 = .ok (.if_icmp .ge 18, 3) := by decide +kernel
theorem dX1_allDoubt_10 : decode cX1_allDoubt 10 = .ok (.iload_n 1, 1) := by decide +kernel
theorem dX1_allDoubt_11 : decode cX1_allDoubt 11 = .ok (.aload_n 0, 1) := by decide +kernel
theorem dX1_allDoubt_12 : decode cX1_allDoubt 12 = .ok (.getfield 34, 3) := by decide +kernel
theorem dX1_allDoubt_15 : decode cX1_allDoubt 15 = .ok (.iload_n 2, 1) := by decide +kernel
theorem dX1_allDoubt_16 : decode cX1_allDoubt 16 = .ok (.iaload, 1) := by decide +kernel
theorem dX1_allDoubt_17 : decode cX1_allDoubt 17 = .ok (.iadd, 1) := by decide +kernel
theorem dX1_allDoubt_18 : decode cX1_allDoubt 18 = .ok (.istore_n 1, 1) := by decide +kernel
theorem dX1_allDoubt_19 : decode cX1_allDoubt 19 = .ok (.iinc 2 1, 3) := by decide +kernel
theorem dX1_allDoubt_22 : decode cX1_allDoubt 22 = .ok (.goto (-18), 3) := by decide +kernel
theorem dX1_allDoubt_25 : decode cX1_allDoubt 25 = .ok (.iload_n 1, 1) := by decide +kernel
theorem dX1_allDoubt_26 : decode cX1_allDoubt 26 = .ok (.ireturn, 1) := by decide +kernel
theorem dX1_areSealsWhole_0 : decode cX1_areSealsWhole 0 = .ok (.iconst 0, 1) := by decide +kernel
theorem dX1_areSealsWhole_1 : decode cX1_areSealsWhole 1 = .ok (.istore_n 1, 1) := by decide +kernel
theorem dX1_areSealsWhole_2 : decode cX1_areSealsWhole 2 = .ok (.iload_n 1, 1) := by decide +kernel
theorem dX1_areSealsWhole_3 : decode cX1_areSealsWhole 3 = .ok (.aload_n 0, 1) := by decide +kernel
theorem dX1_areSealsWhole_4 : decode cX1_areSealsWhole 4 = .ok (.getfield 41, 3) := by decide +kernel
theorem dX1_areSealsWhole_7 : decode cX1_areSealsWhole 7 = .ok (.if_icmp .ge 29, 3) := by decide +kernel
theorem dX1_areSealsWhole_10 : decode cX1_areSealsWhole 10 = .ok (.aload_n 0, 1) := by decide +kernel
theorem dX1_areSealsWhole_11 : decode cX1_areSealsWhole 11 = .ok (.iload_n 1, 1) := by decide +kernel
theorem dX1_areSealsWhole_12 : decode cX1_areSealsWhole 12 = .ok (.iconst 3, 1) := by decide +kernel
theorem dX1_areSealsWhole_13 : decode cX1_areSealsWhole 13 = .ok (.invokevirtual 99, 3) := by decide +kernel
theorem dX1_areSealsWhole_16 : decode cX1_areSealsWhole 16 = .ok (.ifCond .le 14, 3) := by decide +kernel
theorem dX1_areSealsWhole_19 : decode cX1_areSealsWhole 19 = .ok (.aload_n 0, 1) := by decide +kernel
theorem dX1_areSealsWhole_20 : decode cX1_areSealsWhole 20 = .ok (.iload_n 1, 1) := by decide +kernel
theorem dX1_areSealsWhole_21 : decode cX1_areSealsWhole 21 = .ok (.iconst 4, 1) := by decide +kernel
theorem dX1_areSealsWhole_22 : decode cX1_areSealsWhole 22 = .ok (.invokevirtual 99, 3) := by decide +kernel
theorem dX1_areSealsWhole_25 : decode cX1_areSealsWhole 25 = .ok (.ifCond .le 5, 3) := by decide +kernel
theorem dX1_areSealsWhole_28 : decode cX1_areSealsWhole 28 = .ok (.iconst 0, 1) := by decide +kernel
theorem dX1_areSealsWhole_29 : decode cX1_areSealsWhole 29 = .ok (.ireturn, 1) := by decide +kernel
theorem dX1_areSealsWhole_30 : decode cX1_areSealsWhole 30 = .ok (.iinc 1 1, 3) := by decide +kernel
theorem dX1_areSealsWhole_33 : decode cX1_areSealsWhole 33 = .ok (.goto (-31), 3) := by decide +kernel
theorem dX1_areSealsWhole_36 : decode cX1_areSealsWhole 36 = .ok (.iconst 1, 1) := by decide +kernel
theorem dX1_areSealsWhole_37 : decode cX1_areSealsWhole 37 = .ok (.ireturn, 1) := by decide +kernel
theorem dX1_areWaysAlike_0 : decode cX1_areWaysAlike 0 = .ok (.iconst 0, 1) := by decide +kernel
theorem dX1_areWaysAlike_1 : decode cX1_areWaysAlike 1 = .ok (.istore_n 1, 1) := by decide +kernel
theorem dX1_areWaysAlike_2 : decode cX1_areWaysAlike 2 = .ok (.iload_n 1, 1) := by decide +kernel
theorem dX1_areWaysAlike_3 : decode cX1_areWaysAlike 3 = .ok (.bipush 6, 2) := by decide +kernel
theorem dX1_areWaysAlike_5 : decode cX1_areWaysAlike 5 = .ok (.if_icmp .ge 24, 3) := by decide +kernel
theorem dX1_areWaysAlike_8 : decode cX1_areWaysAlike 8 = .ok (.aload_n 0, 1) := by decide +kernel
theorem dX1_areWaysAlike_9 : decode cX1_areWaysAlike 9 = .ok (.iload_n 1, 1) := by decide +kernel
theorem dX1_areWaysAlike_10 : decode cX1_areWaysAlike 10 = .ok (.invokevirtual 145, 3) := by decide +kernel
theorem dX1_areWaysAlike_13 : decode cX1_areWaysAlike 13 = .ok (.aload_n 0, 1) := by decide +kernel
theorem dX1_areWaysAlike_14 : decode cX1_areWaysAlike 14 = .ok (.iload_n 1, 1) := by decide +kernel
theorem dX1_areWaysAlike_15 : decode cX1_areWaysAlike 15 = .ok (.invokevirtual 148, 3) := by decide +kernel
theorem dX1_areWaysAlike_18 : decode cX1_areWaysAlike 18 = .ok (.if_icmp .eq 5, 3) := by decide +kernel
theorem dX1_areWaysAlike_21 : decode cX1_areWaysAlike 21 = .ok (.iconst 0, 1) := by decide +kernel
theorem dX1_areWaysAlike_22 : decode cX1_areWaysAlike 22 = .ok (.ireturn, 1) := by decide +kernel
theorem dX1_areWaysAlike_23 : decode cX1_areWaysAlike 23 = .ok (.iinc 1 1, 3) := by decide +kernel
theorem dX1_areWaysAlike_26 : decode cX1_areWaysAlike 26 = .ok (.goto (-24), 3) := by decide +kernel
theorem dX1_areWaysAlike_29 : decode cX1_areWaysAlike 29 = .ok (.aload_n 0, 1) := by decide +kernel
theorem dX1_areWaysAlike_30 : decode cX1_areWaysAlike 30 = .ok (.invokevirtual 151, 3) := by decide +kernel
theorem dX1_areWaysAlike_33 : decode cX1_areWaysAlike 33 = .ok (.aload_n 0, 1) := by decide +kernel
theorem dX1_areWaysAlike_34 : decode cX1_areWaysAlike 34 = .ok (.invokevirtual 154, 3) := by decide +kernel
theorem dX1_areWaysAlike_37 : decode cX1_areWaysAlike 37 = .ok (.if_icmp .ne 7, 3) := by decide +kernel
theorem dX1_areWaysAlike_40 : decode cX1_areWaysAlike 40 = .ok (.iconst 1, 1) := by decide +kernel
theorem dX1_areWaysAlike_41 : decode cX1_areWaysAlike 41 = .ok (.goto 4, 3) := by decide +kernel
theorem dX1_areWaysAlike_44 : decode cX1_areWaysAlike 44 = .ok (.iconst 0, 1) := by decide +kernel
theorem dX1_areWaysAlike_45 : decode cX1_areWaysAlike 45 = .ok (.ireturn, 1) := by decide +kernel
theorem dX1_areDoubtsSingle_0 : decode cX1_areDoubtsSingle 0 = .ok (.iconst 0, 1) := by decide +kernel
theorem dX1_areDoubtsSingle_1 : decode cX1_areDoubtsSingle 1 = .ok (.istore_n 1, 1) := by decide +kernel
theorem dX1_areDoubtsSingle_2 : decode cX1_areDoubtsSingle 2 = .ok (.iload_n 1, 1) := by decide +kernel
theorem dX1_areDoubtsSingle_3 : decode cX1_areDoubtsSingle 3 = .ok (.bipush 6, 2) := by decide +kernel
theorem dX1_areDoubtsSingle_5 : decode cX1_areDoubtsSingle 5 = .ok (.if_icmp .ge 21, 3) := by decide +kernel
theorem dX1_areDoubtsSingle_8 : decode cX1_areDoubtsSingle 8 = .ok (.aload_n 0, 1) := by decide +kernel
theorem dX1_areDoubtsSingle_9 : decode cX1_areDoubtsSingle 9 = .ok (.iload_n 1, 1) := by decide +kernel
theorem dX1_areDoubtsSingle_10 : decode cX1_areDoubtsSingle 10 = .ok (.iconst 1, 1) := by decide +kernel
theorem dX1_areDoubtsSingle_11 : decode cX1_areDoubtsSingle 11 = .ok (.invokevirtual 133, 3) := by decide +kernel
theorem dX1_areDoubtsSingle_14 : decode cX1_areDoubtsSingle 14 = .ok (.iconst 1, 1) := by decide +kernel
theorem dX1_areDoubtsSingle_15 : decode cX1_areDoubtsSingle 15 = .ok (.if_icmp .le 5, 3) := by decide +kernel
theorem dX1_areDoubtsSingle_18 : decode cX1_areDoubtsSingle 18 = .ok (.iconst 0, 1) := by decide +kernel
theorem dX1_areDoubtsSingle_19 : decode cX1_areDoubtsSingle 19 = .ok (.ireturn, 1) := by decide +kernel
theorem dX1_areDoubtsSingle_20 : decode cX1_areDoubtsSingle 20 = .ok (.iinc 1 1, 3) := by decide +kernel
theorem dX1_areDoubtsSingle_23 : decode cX1_areDoubtsSingle 23 = .ok (.goto (-21), 3) := by decide +kernel
theorem dX1_areDoubtsSingle_26 : decode cX1_areDoubtsSingle 26 = .ok (.iconst 1, 1) := by decide +kernel
theorem dX1_areDoubtsSingle_27 : decode cX1_areDoubtsSingle 27 = .ok (.ireturn, 1) := by decide +kernel
theorem dX2_init_0 : decode cX2_init 0 = .ok (.aload_n 0, 1) := by decide +kernel
theorem dX2_init_1 : decode cX2_init 1 = .ok (.invokespecial 3, 3) := by decide +kernel
theorem dX2_init_4 : decode cX2_init 4 = .ok (.aload_n 0, 1) := by decide +kernel
theorem dX2_init_5 : decode cX2_init 5 = .ok (.bipush 8, 2) := by decide +kernel
theorem dX2_init_7 : decode cX2_init 7 = .ok (.anewarray 9, 3) := by decide +kernel
theorem dX2_init_10 : decode cX2_init 10 = .ok (.putfield 11, 3) := by decide +kernel
theorem dX2_init_13 : decode cX2_init 13 = .ok (.iconst 0, 1) := by decide +kernel
theorem dX2_init_14 : decode cX2_init 14 = .ok (.istore_n 1, 1) := by decide +kernel
theorem dX2_init_15 : decode cX2_init 15 = .ok (.iload_n 1, 1) := by decide +kernel
theorem dX2_init_16 : decode cX2_init 16 = .ok (.bipush 8, 2) := by decide +kernel
theorem dX2_init_18 : decode cX2_init 18 = .ok (.if_icmp .ge 22, 3) := by decide +kernel
theorem dX2_init_21 : decode cX2_init 21 = .ok (.aload_n 0, 1) := by decide +kernel
theorem dX2_init_22 : decode cX2_init 22 = .ok (.getfield 11, 3) := by decide +kernel
theorem dX2_init_25 : decode cX2_init 25 = .ok (.iload_n 1, 1) := by decide +kernel
theorem dX2_init_26 : decode cX2_init 26 = .ok (.new 9, 3) := by decide +kernel
theorem dX2_init_29 : decode cX2_init 29 = .ok (.dup, 1) := by decide +kernel
theorem dX2_init_30 : decode cX2_init 30 = .ok (.invokespecial 17, 3) := by decide +kernel
theorem dX2_init_33 : decode cX2_init 33 = .ok (.aastore, 1) := by decide +kernel
theorem dX2_init_34 : decode cX2_init 34 = .ok (.iinc 1 1, 3) := by decide +kernel
theorem dX2_init_37 : decode cX2_init 37 = .ok (.goto (-22), 3) := by decide +kernel
theorem dX2_init_40 : decode cX2_init 40 = .ok (.return_, 1) := by decide +kernel
theorem dX2_keep_0 : decode cX2_keep 0 = .ok (.aload_n 0, 1) := by decide +kernel
theorem dX2_keep_1 : decode cX2_keep 1 = .ok (.getfield 11, 3) := by decide +kernel
theorem dX2_keep_4 : decode cX2_keep 4 = .ok (.aload_n 0, 1) := by decide +kernel
theorem dX2_keep_5 : decode cX2_keep 5 = .ok (.getfield 18, 3) := by decide +kernel
theorem dX2_keep_8 : decode cX2_keep 8 = .ok (.aaload, 1) := by decide +kernel
theorem dX2_keep_9 : decode cX2_keep 9 = .ok (.aload_n 1, 1) := by decide +kernel
theorem dX2_keep_10 : decode cX2_keep 10 = .ok (.invokevirtual 22, 3) := by decide +kernel
theorem dX2_keep_13 : decode cX2_keep 13 = .ok (.aload_n 0, 1) := by decide +kernel
theorem dX2_keep_14 : decode cX2_keep 14 = .ok (.aload_n 0, 1) := by decide +kernel
theorem dX2_keep_15 : decode cX2_keep 15 = .ok (.getfield 18, 3) := by decide +kernel
theorem dX2_keep_18 : decode cX2_keep 18 = .ok (.iconst 1, 1) := by decide +kernel
theorem dX2_keep_19 : decode cX2_keep 19 = .ok (.iadd, 1) := by decide +kernel
theorem dX2_keep_20 : decode cX2_keep 20 = .ok (.bipush 8, 2) := by decide +kernel
theorem dX2_keep_22 : decode cX2_keep 22 = .ok (.irem, 1) := by decide +kernel
theorem dX2_keep_23 : decode cX2_keep 23 = .ok (.putfield 18, 3) := by decide +kernel
theorem dX2_keep_26 : decode cX2_keep 26 = .ok (.aload_n 0, 1) := by decide +kernel
theorem dX2_keep_27 : decode cX2_keep 27 = .ok (.aload_n 0, 1) := by decide +kernel
theorem dX2_keep_28 : decode cX2_keep 28 = .ok (.getfield 26, 3) := by decide +kernel
theorem dX2_keep_31 : decode cX2_keep 31 = .ok (.iconst 1, 1) := by decide +kernel
theorem dX2_keep_32 : decode cX2_keep 32 = .ok (.iadd, 1) := by decide +kernel
theorem dX2_keep_33 : decode cX2_keep 33 = .ok (.bipush 8, 2) := by decide +kernel
theorem dX2_keep_35 : decode cX2_keep 35 = .ok (.invokestatic 29, 3) := by decide +kernel
theorem dX2_keep_38 : decode cX2_keep 38 = .ok (.putfield 26, 3) := by decide +kernel
theorem dX2_keep_41 : decode cX2_keep 41 = .ok (.return_, 1) := by decide +kernel
theorem dX2_takeBack_0 : decode cX2_takeBack 0 = .ok (.aload_n 0, 1) := by decide +kernel
theorem dX2_takeBack_1 : decode cX2_takeBack 1 = .ok (.aload_n 0, 1) := by decide +kernel
theorem dX2_takeBack_2 : decode cX2_takeBack 2 = .ok (.getfield 18, 3) := by decide +kernel
theorem dX2_takeBack_5 : decode cX2_takeBack 5 = .ok (.bipush 8, 2) := by decide +kernel
theorem dX2_takeBack_7 : decode cX2_takeBack 7 = .ok (.iadd, 1) := by decide +kernel
theorem dX2_takeBack_8 : decode cX2_takeBack 8 = .ok (.iconst 1, 1) := by decide +kernel
theorem dX2_takeBack_9 : decode cX2_takeBack 9 = .ok (.isub, 1) := by decide +kernel
theorem dX2_takeBack_10 : decode cX2_takeBack 10 = .ok (.bipush 8, 2) := by decide +kernel
theorem dX2_takeBack_12 : decode cX2_takeBack 12 = .ok (.irem, 1) := by decide +kernel
theorem dX2_takeBack_13 : decode cX2_takeBack 13 = .ok (.putfield 18, 3) := by decide +kernel
theorem dX2_takeBack_16 : decode cX2_takeBack 16 = .ok (.aload_n 0, 1) := by decide +kernel
theorem dX2_takeBack_17 : decode cX2_takeBack 17 = .ok (.dup, 1) := by decide +kernel
theorem dX2_takeBack_18 : decode cX2_takeBack 18 = .ok (.getfield 26, 3) := by decide +kernel
theorem dX2_takeBack_21 : decode cX2_takeBack 21 = .ok (.iconst 1, 1) := by decide +kernel
theorem dX2_takeBack_22 : decode cX2_takeBack 22 = .ok (.isub, 1) := by decide +kernel
theorem dX2_takeBack_23 : decode cX2_takeBack 23 = .ok (.putfield 26, 3) := by decide +kernel
theorem dX2_takeBack_26 : decode cX2_takeBack 26 = .ok (.aload_n 1, 1) := by decide +kernel
theorem dX2_takeBack_27 : decode cX2_takeBack 27 = .ok (.aload_n 0, 1) := by decide +kernel
theorem dX2_takeBack_28 : decode cX2_takeBack 28 = .ok (.getfield 11, 3) := by decide +kernel
theorem dX2_takeBack_31 : decode cX2_takeBack 31 = .ok (.aload_n 0, 1) := by decide +kernel
theorem dX2_takeBack_32 : decode cX2_takeBack 32 = .ok (.getfield 18, 3) := by decide +kernel
theorem dX2_takeBack_35 : decode cX2_takeBack 35 = .ok (.aaload, 1) := by decide +kernel
theorem dX2_takeBack_36 : decode cX2_takeBack 36 = .ok (.invokevirtual 22, 3) := by decide +kernel
theorem dX2_takeBack_39 : decode cX2_takeBack 39 = .ok (.return_, 1) := by decide +kernel
theorem dX2_forget_0 : decode cX2_forget 0 = .ok (.aload_n 0, 1) := by decide +kernel
theorem dX2_forget_1 : decode cX2_forget 1 = .ok (.iconst 0, 1) := by decide +kernel
theorem dX2_forget_2 : decode cX2_forget 2 = .ok (.putfield 26, 3) := by decide +kernel
theorem dX2_forget_5 : decode cX2_forget 5 = .ok (.return_, 1) := by decide +kernel
theorem dX3_init_0 : decode cX3_init 0 = .ok (.aload_n 0, 1) := by decide +kernel
theorem dX3_init_1 : decode cX3_init 1 = .ok (.invokespecial 3, 3) := by decide +kernel
theorem dX3_init_4 : decode cX3_init 4 = .ok (.aload_n 0, 1) := by decide +kernel
theorem dX3_init_5 : decode cX3_init 5 = .ok (.bipush 39, 2) := by decide +kernel
theorem dX3_init_7 : decode cX3_init 7 = .ok (.newarray .char, 2) := by decide +kernel
theorem dX3_init_9 : decode cX3_init 9 = .ok (.putfield 9, 3) := by decide +kernel
theorem dX3_init_12 : decode cX3_init 12 = .ok (.return_, 1) := by decide +kernel
theorem dX3_write_0 : decode cX3_write 0 = .ok (.aload_n 0, 1) := by decide +kernel
theorem dX3_write_1 : decode cX3_write 1 = .ok (.iconst 0, 1) := by decide +kernel
theorem dX3_write_2 : decode cX3_write 2 = .ok (.putfield 15, 3) := by decide +kernel
theorem dX3_write_5 : decode cX3_write 5 = .ok (.aload_n 0, 1) := by decide +kernel
theorem dX3_write_6 : decode cX3_write 6 = .ok (.bipush 35, 2) := by decide +kernel
theorem dX3_write_8 : decode cX3_write 8 = .ok (.invokevirtual 19, 3) := by decide +kernel
theorem dX3_write_11 : decode cX3_write 11 = .ok (.aload_n 0, 1) := by decide +kernel
theorem dX3_write_12 : decode cX3_write 12 = .ok (.iload_n 2, 1) := by decide +kernel
theorem dX3_write_13 : decode cX3_write 13 = .ok (.invokevirtual 23, 3) := by decide +kernel
theorem dX3_write_16 : decode cX3_write 16 = .ok (.aload_n 0, 1) := by decide +kernel
theorem dX3_write_17 : decode cX3_write 17 = .ok (.aload_n 0, 1) := by decide +kernel
theorem dX3_write_18 : decode cX3_write 18 = .ok (.aload_n 1, 1) := by decide +kernel
theorem dX3_write_19 : decode cX3_write 19 = .ok (.getfield 27, 3) := by decide +kernel
theorem dX3_write_22 : decode cX3_write 22 = .ok (.iload_n 2, 1) := by decide +kernel
theorem dX3_write_23 : decode cX3_write 23 = .ok (.iaload, 1) := by decide +kernel
theorem dX3_write_24 : decode cX3_write 24 = .ok (.invokevirtual 33, 3) := by decide +kernel
theorem dX3_write_27 : decode cX3_write 27 = .ok (.invokevirtual 19, 3) := by decide +kernel
theorem dX3_write_30 : decode cX3_write 30 = .ok (.iconst 0, 1) := by decide +kernel
theorem dX3_write_31 : decode cX3_write 31 = .ok (.istore_n 3, 1) := by decide +kernel
theorem dX3_write_32 : decode cX3_write 32 = .ok (.iload_n 3, 1) := by decide +kernel
theorem dX3_write_33 : decode cX3_write 33 = .ok (.bipush 6, 2) := by decide +kernel
theorem dX3_write_35 : decode cX3_write 35 = .ok (.if_icmp .ge 25, 3) := by decide +kernel
theorem dX3_write_38 : decode cX3_write 38 = .ok (.aload_n 1, 1) := by decide +kernel
theorem dX3_write_39 : decode cX3_write 39 = .ok (.iload_n 2, 1) := by decide +kernel
theorem dX3_write_40 : decode cX3_write 40 = .ok (.iload_n 3, 1) := by decide +kernel
theorem dX3_write_41 : decode cX3_write 41 = .ok (.invokevirtual 37, 3) := by decide +kernel
theorem dX3_write_44 : decode cX3_write 44 = .ok (.ifCond .eq 10, 3) := by decide +kernel
theorem dX3_write_47 : decode cX3_write 47 = .ok (.aload_n 0, 1) := by decide +kernel
theorem dX3_write_48 : decode cX3_write 48 = .ok (.aload_n 1, 1) := by decide +kernel
theorem dX3_write_49 : decode cX3_write 49 = .ok (.iload_n 2, 1) := by decide +kernel
theorem dX3_write_50 : decode cX3_write 50 = .ok (.iload_n 3, 1) := by decide +kernel
theorem dX3_write_51 : decode cX3_write 51 = .ok (.invokevirtual 41, 3) := by decide +kernel
theorem dX3_write_54 : decode cX3_write 54 = .ok (.iinc 3 1, 3) := by decide +kernel
theorem dX3_write_57 : decode cX3_write 57 = .ok (.goto (-25), 3) := by decide +kernel
theorem dX3_write_60 : decode cX3_write 60 = .ok (.return_, 1) := by decide +kernel
theorem dX3_writeGuild_0 : decode cX3_writeGuild 0 = .ok (.aload_n 1, 1) := by decide +kernel
theorem dX3_writeGuild_1 : decode cX3_writeGuild 1 = .ok (.iload_n 2, 1) := by decide +kernel
theorem dX3_writeGuild_2 : decode cX3_writeGuild 2 = .ok (.iload_n 3, 1) := by decide +kernel
theorem dX3_writeGuild_3 : decode cX3_writeGuild 3 = .ok (.invokevirtual 45, 3) := by decide +kernel
theorem dX3_writeGuild_6 : decode cX3_writeGuild 6 = .ok (.istore 4, 2) := by decide +kernel
theorem dX3_writeGuild_8 : decode cX3_writeGuild 8 = .ok (.aload_n 0, 1) := by decide +kernel
theorem dX3_writeGuild_9 : decode cX3_writeGuild 9 = .ok (.bipush 32, 2) := by decide +kernel
theorem dX3_writeGuild_11 : decode cX3_writeGuild 11 = .ok (.invokevirtual 19, 3) := by decide +kernel
theorem dX3_writeGuild_14 : decode cX3_writeGuild 14 = .ok (.aload_n 0, 1) := by decide +kernel
theorem dX3_writeGuild_15 : decode cX3_writeGuild 15 = .ok (.iload_n 3, 1) := by decide +kernel
theorem dX3_writeGuild_16 : decode cX3_writeGuild 16 = .ok (.invokevirtual 23, 3) := by decide +kernel
theorem dX3_writeGuild_19 : decode cX3_writeGuild 19 = .ok (.aload_n 0, 1) := by decide +kernel
theorem dX3_writeGuild_20 : decode cX3_writeGuild 20 = .ok (.iload 4, 2) := by decide +kernel
theorem dX3_writeGuild_22 : decode cX3_writeGuild 22 = .ok (.ifCond .ge 8, 3) := by decide +kernel
theorem dX3_writeGuild_25 : decode cX3_writeGuild 25 = .ok (.bipush 45, 2) := by decide +kernel
theorem dX3_writeGuild_27 : decode cX3_writeGuild 27 = .ok (.goto 5, 3) := by decide +kernel
theorem dX3_writeGuild_30 : decode cX3_writeGuild 30 = .ok (.bipush 43, 2) := by decide +kernel
theorem dX3_writeGuild_32 : decode cX3_writeGuild 32 = .ok (.invokevirtual 19, 3) := by decide +kernel
theorem dX3_writeGuild_35 : decode cX3_writeGuild 35 = .ok (.aload_n 0, 1) := by decide +kernel
theorem dX3_writeGuild_36 : decode cX3_writeGuild 36 = .ok (.iload 4, 2) := by decide +kernel
theorem dX3_writeGuild_38 : decode cX3_writeGuild 38 = .ok (.invokestatic 49, 3) := by decide +kernel
theorem dX3_writeGuild_41 : decode cX3_writeGuild 41 = .ok (.invokevirtual 23, 3) := by decide +kernel
theorem dX3_writeGuild_44 : decode cX3_writeGuild 44 = .ok (.aload_n 0, 1) := by decide +kernel
theorem dX3_writeGuild_45 : decode cX3_writeGuild 45 = .ok (.aload_n 0, 1) := by decide +kernel
theorem dX3_writeGuild_46 : decode cX3_writeGuild 46 = .ok (.aload_n 1, 1) := by decide +kernel
theorem dX3_writeGuild_47 : decode cX3_writeGuild 47 = .ok (.iload_n 2, 1) := by decide +kernel
theorem dX3_writeGuild_48 : decode cX3_writeGuild 48 = .ok (.iload_n 3, 1) := by decide +kernel
theorem dX3_writeGuild_49 : decode cX3_writeGuild 49 = .ok (.invokevirtual 55, 3) := by decide +kernel
theorem dX3_writeGuild_52 : decode cX3_writeGuild 52 = .ok (.invokevirtual 58, 3) := by decide +kernel
theorem dX3_writeGuild_55 : decode cX3_writeGuild 55 = .ok (.invokevirtual 19, 3) := by decide +kernel
theorem dX3_writeGuild_58 : decode cX3_writeGuild 58 = .ok (.return_, 1) := by decide +kernel
theorem dX3_signOfMatter_0 : decode cX3_signOfMatter 0 = .ok (.iload_n 1, 1) := by decide +kernel
theorem dX3_signOfMatter_1 : decode cX3_signOfMatter 1 = .ok (.lookupswitch 33 #[(1, 27), (2, 30)], 27) := by decide +kernel
theorem dX3_signOfMatter_28 : decode cX3_signOfMatter 28 = .ok (.bipush 115, 2) := by decide +kernel
theorem dX3_signOfMatter_30 : decode cX3_signOfMatter 30 = .ok (.ireturn, 1) := by decide +kernel
theorem dX3_signOfMatter_31 : decode cX3_signOfMatter 31 = .ok (.bipush 98, 2) := by decide +kernel
theorem dX3_signOfMatter_33 : decode cX3_signOfMatter 33 = .ok (.ireturn, 1) := by decide +kernel
theorem dX3_signOfMatter_34 : decode cX3_signOfMatter 34 = .ok (.bipush 111, 2) := by decide +kernel
theorem dX3_signOfMatter_36 : decode cX3_signOfMatter 36 = .ok (.ireturn, 1) := by decide +kernel
theorem dX3_signOfAnswer_0 : decode cX3_signOfAnswer 0 = .ok (.iload_n 1, 1) := by decide +kernel
theorem dX3_signOfAnswer_1 : decode cX3_signOfAnswer 1 = .ok (.tableswitch 43 1 4 #[31, 34, 37, 40], 31) := by decide +kernel
theorem dX3_signOfAnswer_32 : decode cX3_signOfAnswer 32 = .ok (.bipush 114, 2) := by decide +kernel
theorem dX3_signOfAnswer_34 : decode cX3_signOfAnswer 34 = .ok (.ireturn, 1) := by decide +kernel
theorem dX3_signOfAnswer_35 : decode cX3_signOfAnswer 35 = .ok (.bipush 117, 2) := by decide +kernel
theorem dX3_signOfAnswer_37 : decode cX3_signOfAnswer 37 = .ok (.ireturn, 1) := by decide +kernel
theorem dX3_signOfAnswer_38 : decode cX3_signOfAnswer 38 = .ok (.bipush 115, 2) := by decide +kernel
theorem dX3_signOfAnswer_40 : decode cX3_signOfAnswer 40 = .ok (.ireturn, 1) := by decide +kernel
theorem dX3_signOfAnswer_41 : decode cX3_signOfAnswer 41 = .ok (.bipush 98, 2) := by decide +kernel
theorem dX3_signOfAnswer_43 : decode cX3_signOfAnswer 43 = .ok (.ireturn, 1) := by decide +kernel
theorem dX3_signOfAnswer_44 : decode cX3_signOfAnswer 44 = .ok (.bipush 110, 2) := by decide +kernel
theorem dX3_signOfAnswer_46 : decode cX3_signOfAnswer 46 = .ok (.ireturn, 1) := by decide +kernel
theorem dX3_putNumber_0 : decode cX3_putNumber 0 = .ok (.iload_n 1, 1) := by decide +kernel
theorem dX3_putNumber_1 : decode cX3_putNumber 1 = .ok (.bipush 10, 2) := by decide +kernel
theorem dX3_putNumber_3 : decode cX3_putNumber 3 = .ok (.if_icmp .lt 15, 3) := by decide +kernel
theorem dX3_putNumber_6 : decode cX3_putNumber 6 = .ok (.aload_n 0, 1) := by decide +kernel
theorem dX3_putNumber_7 : decode cX3_putNumber 7 = .ok (.bipush 48, 2) := by decide +kernel
theorem dX3_putNumber_9 : decode cX3_putNumber 9 = .ok (.iload_n 1, 1) := by decide +kernel
theorem dX3_putNumber_10 : decode cX3_putNumber 10 = .ok (.bipush 10, 2) := by decide +kernel
theorem dX3_putNumber_12 : decode cX3_putNumber 12 = .ok (.idiv, 1) := by decide +kernel
theorem dX3_putNumber_13 : decode cX3_putNumber 13 = .ok (.iadd, 1) := by decide +kernel
theorem dX3_putNumber_14 : decode cX3_putNumber 14 = .ok (.i2c, 1) := by decide +kernel
theorem dX3_putNumber_15 : decode cX3_putNumber 15 = .ok (.invokevirtual 19, 3) := by decide +kernel
theorem dX3_putNumber_18 : decode cX3_putNumber 18 = .ok (.aload_n 0, 1) := by decide +kernel
theorem dX3_putNumber_19 : decode cX3_putNumber 19 = .ok (.bipush 48, 2) := by decide +kernel
theorem dX3_putNumber_21 : decode cX3_putNumber 21 = .ok (.iload_n 1, 1) := by decide +kernel
theorem dX3_putNumber_22 : decode cX3_putNumber 22 = .ok (.bipush 10, 2) := by decide +kernel
theorem dX3_putNumber_24 : decode cX3_putNumber 24 = .ok (.irem, 1) := by decide +kernel
theorem dX3_putNumber_25 : decode cX3_putNumber 25 = .ok (.iadd, 1) := by decide +kernel
theorem dX3_putNumber_26 : decode cX3_putNumber 26 = .ok (.i2c, 1) := by decide +kernel
theorem dX3_putNumber_27 : decode cX3_putNumber 27 = .ok (.invokevirtual 19, 3) := by decide +kernel
theorem dX3_putNumber_30 : decode cX3_putNumber 30 = .ok (.return_, 1) := by decide +kernel
theorem dX3_put_0 : decode cX3_put 0 = .ok (.aload_n 0, 1) := by decide +kernel
theorem dX3_put_1 : decode cX3_put 1 = .ok (.getfield 15, 3) := by decide +kernel
theorem dX3_put_4 : decode cX3_put 4 = .ok (.bipush 39, 2) := by decide +kernel
theorem dX3_put_6 : decode cX3_put 6 = .ok (.if_icmp .ge 23, 3) := by decide +kernel
theorem dX3_put_9 : decode cX3_put 9 = .ok (.aload_n 0, 1) := by decide +kernel
theorem dX3_put_10 : decode cX3_put 10 = .ok (.getfield 9, 3) := by decide +kernel
theorem dX3_put_13 : decode cX3_put 13 = .ok (.aload_n 0, 1) := by decide +kernel
theorem dX3_put_14 : decode cX3_put 14 = .ok (.getfield 15, 3) := by decide +kernel
theorem dX3_put_17 : decode cX3_put 17 = .ok (.iload_n 1, 1) := by decide +kernel
theorem dX3_put_18 : decode cX3_put 18 = .ok (.castore, 1) := by decide +kernel
theorem dX3_put_19 : decode cX3_put 19 = .ok (.aload_n 0, 1) := by decide +kernel
theorem dX3_put_20 : decode cX3_put 20 = .ok (.dup, 1) := by decide +kernel
theorem dX3_put_21 : decode cX3_put 21 = .ok (.getfield 15, 3) := by decide +kernel
theorem dX3_put_24 : decode cX3_put 24 = .ok (.iconst 1, 1) := by decide +kernel
theorem dX3_put_25 : decode cX3_put 25 = .ok (.iadd, 1) := by decide +kernel
theorem dX3_put_26 : decode cX3_put 26 = .ok (.putfield 15, 3) := by decide +kernel
theorem dX3_put_29 : decode cX3_put 29 = .ok (.return_, 1) := by decide +kernel
theorem dX4_init_0 : decode cX4_init 0 = .ok (.aload_n 0, 1) := by decide +kernel
theorem dX4_init_1 : decode cX4_init 1 = .ok (.invokespecial 3, 3) := by decide +kernel
theorem dX4_init_4 : decode cX4_init 4 = .ok (.aload_n 0, 1) := by decide +kernel
theorem dX4_init_5 : decode cX4_init 5 = .ok (.bipush 60, 2) := by decide +kernel
theorem dX4_init_7 : decode cX4_init 7 = .ok (.newarray .char, 2) := by decide +kernel
theorem dX4_init_9 : decode cX4_init 9 = .ok (.putfield 9, 3) := by decide +kernel
theorem dX4_init_12 : decode cX4_init 12 = .ok (.aload_n 0, 1) := by decide +kernel
theorem dX4_init_13 : decode cX4_init 13 = .ok (.iconst (-1), 1) := by decide +kernel
theorem dX4_init_14 : decode cX4_init 14 = .ok (.putfield 15, 3) := by decide +kernel
theorem dX4_init_17 : decode cX4_init 17 = .ok (.aload_n 0, 1) := by decide +kernel
theorem dX4_init_18 : decode cX4_init 18 = .ok (.bipush 30, 2) := by decide +kernel
theorem dX4_init_20 : decode cX4_init 20 = .ok (.newarray .int, 2) := by decide +kernel
theorem dX4_init_22 : decode cX4_init 22 = .ok (.putfield 19, 3) := by decide +kernel
theorem dX4_init_25 : decode cX4_init 25 = .ok (.aload_n 0, 1) := by decide +kernel
theorem dX4_init_26 : decode cX4_init 26 = .ok (.bipush 30, 2) := by decide +kernel
theorem dX4_init_28 : decode cX4_init 28 = .ok (.newarray .int, 2) := by decide +kernel
theorem dX4_init_30 : decode cX4_init 30 = .ok (.putfield 23, 3) := by decide +kernel
theorem dX4_init_33 : decode cX4_init 33 = .ok (.aload_n 0, 1) := by decide +kernel
theorem dX4_init_34 : decode cX4_init 34 = .ok (.bipush 30, 2) := by decide +kernel
theorem dX4_init_36 : decode cX4_init 36 = .ok (.newarray .int, 2) := by decide +kernel
theorem dX4_init_38 : decode cX4_init 38 = .ok (.putfield 26, 3) := by decide +kernel
theorem dX4_init_41 : decode cX4_init 41 = .ok (.aload_n 0, 1) := by decide +kernel
theorem dX4_init_42 : decode cX4_init 42 = .ok (.bipush 30, 2) := by decide +kernel
theorem dX4_init_44 : decode cX4_init 44 = .ok (.newarray .int, 2) := by decide +kernel
theorem dX4_init_46 : decode cX4_init 46 = .ok (.putfield 29, 3) := by decide +kernel
theorem dX4_init_49 : decode cX4_init 49 = .ok (.return_, 1) := by decide +kernel
theorem dX4_addCharacter_0 : decode cX4_addCharacter 0 = .ok (.aload_n 0, 1) := by decide +kernel
theorem dX4_addCharacter_1 : decode cX4_addCharacter 1 = .ok (.getfield 32, 3) := by decide +kernel
theorem dX4_addCharacter_4 : decode cX4_addCharacter 4 = .ok (.bipush 60, 2) := by decide +kernel
theorem dX4_addCharacter_6 : decode cX4_addCharacter 6 = .ok (.if_icmp .ge 23, 3) := by decide +kernel
theorem dX4_addCharacter_9 : decode cX4_addCharacter 9 = .ok (.aload_n 0, 1) := by decide +kernel
theorem dX4_addCharacter_10 : decode cX4_addCharacter 10 = .ok (.getfield 9, 3) := by decide +kernel
theorem dX4_addCharacter_13 : decode cX4_addCharacter 13 = .ok (.aload_n 0, 1) := by decide +kernel
theorem dX4_addCharacter_14 : decode cX4_addCharacter 14 = .ok (.getfield 32, 3) := by decide +kernel
theorem dX4_addCharacter_17 : decode cX4_addCharacter 17 = .ok (.iload_n 1, 1) := by decide +kernel
theorem dX4_addCharacter_18 : decode cX4_addCharacter 18 = .ok (.castore, 1) := by decide +kernel
theorem dX4_addCharacter_19 : decode cX4_addCharacter 19 = .ok (.aload_n 0, 1) := by decide +kernel
theorem dX4_addCharacter_20 : decode cX4_addCharacter 20 = .ok (.dup, 1) := by decide +kernel
theorem dX4_addCharacter_21 : decode cX4_addCharacter 21 = .ok (.getfield 32, 3) := by decide +kernel
theorem dX4_addCharacter_24 : decode cX4_addCharacter 24 = .ok (.iconst 1, 1) := by decide +kernel
theorem dX4_addCharacter_25 : decode cX4_addCharacter 25 = .ok (.iadd, 1) := by decide +kernel
theorem dX4_addCharacter_26 : decode cX4_addCharacter 26 = .ok (.putfield 32, 3) := by decide +kernel
theorem dX4_addCharacter_29 : decode cX4_addCharacter 29 = .ok (.return_, 1) := by decide +kernel
theorem dX4_readText_0 : decode cX4_readText 0 = .ok (.aload_n 0, 1) := by decide +kernel
theorem dX4_readText_1 : decode cX4_readText 1 = .ok (.iconst 0, 1) := by decide +kernel
theorem dX4_readText_2 : decode cX4_readText 2 = .ok (.putfield 35, 3) := by decide +kernel
theorem dX4_readText_5 : decode cX4_readText 5 = .ok (.aload_n 0, 1) := by decide +kernel
theorem dX4_readText_6 : decode cX4_readText 6 = .ok (.iconst 0, 1) := by decide +kernel
theorem dX4_readText_7 : decode cX4_readText 7 = .ok (.putfield 38, 3) := by decide +kernel
theorem dX4_readText_10 : decode cX4_readText 10 = .ok (.aload_n 0, 1) := by decide +kernel
theorem dX4_readText_11 : decode cX4_readText 11 = .ok (.iconst 0, 1) := by decide +kernel
theorem dX4_readText_12 : decode cX4_readText 12 = .ok (.putfield 41, 3) := by decide +kernel
theorem dX4_readText_15 : decode cX4_readText 15 = .ok (.iconst 0, 1) := by decide +kernel
theorem dX4_readText_16 : decode cX4_readText 16 = .ok (.istore_n 1, 1) := by decide +kernel
theorem dX4_readText_17 : decode cX4_readText 17 = .ok (.iload_n 1, 1) := by decide +kernel
theorem dX4_readText_18 : decode cX4_readText 18 = .ok (.bipush 30, 2) := by decide +kernel
theorem dX4_readText_20 : decode cX4_readText 20 = .ok (.if_icmp .gt 40, 3) := by decide +kernel
theorem dX4_readText_23 : decode cX4_readText 23 = .ok (.aload_n 0, 1) := by decide +kernel
theorem dX4_readText_24 : decode cX4_readText 24 = .ok (.getfield 41, 3) := by decide +kernel
theorem dX4_readText_27 : decode cX4_readText 27 = .ok (.ifCond .ne 33, 3) := by decide +kernel
theorem dX4_readText_30 : decode cX4_readText 30 = .ok (.aload_n 0, 1) := by decide +kernel
theorem dX4_readText_31 : decode cX4_readText 31 = .ok (.invokevirtual 45, 3) := by decide +kernel
theorem dX4_readText_34 : decode cX4_readText 34 = .ok (.aload_n 0, 1) := by decide +kernel
theorem dX4_readText_35 : decode cX4_readText 35 = .ok (.getfield 35, 3) := by decide +kernel
theorem dX4_readText_38 : decode cX4_readText 38 = .ok (.aload_n 0, 1) := by decide +kernel
theorem dX4_readText_39 : decode cX4_readText 39 = .ok (.getfield 32, 3) := by decide +kernel
theorem dX4_readText_42 : decode cX4_readText 42 = .ok (.if_icmp .ne 6, 3) := by decide +kernel
theorem dX4_readText_45 : decode cX4_readText 45 = .ok (.goto 15, 3) := by decide +kernel
theorem dX4_readText_48 : decode cX4_readText 48 = .ok (.aload_n 0, 1) := by decide +kernel
theorem dX4_readText_49 : decode cX4_readText 49 = .ok (.bipush 59, 2) := by decide +kernel
theorem dX4_readText_51 : decode cX4_readText 51 = .ok (.invokevirtual 48, 3) := by decide +kernel
theorem dX4_readText_54 : decode cX4_readText 54 = .ok (.iinc 1 1, 3) := by decide +kernel
theorem dX4_readText_57 : decode cX4_readText 57 = .ok (.goto (-40), 3) := by decide +kernel
theorem dX4_readText_60 : decode cX4_readText 60 = .ok (.aload_n 0, 1) := by decide +kernel
theorem dX4_readText_61 : decode cX4_readText 61 = .ok (.aload_n 0, 1) := by decide +kernel
theorem dX4_readText_62 : decode cX4_readText 62 = .ok (.getfield 41, 3) := by decide +kernel
theorem dX4_readText_65 : decode cX4_readText 65 = .ok (.ifCond .eq 10, 3) := by decide +kernel
theorem dX4_readText_68 : decode cX4_readText 68 = .ok (.aload_n 0, 1) := by decide +kernel
theorem dX4_readText_69 : decode cX4_readText 69 = .ok (.getfield 35, 3) := by decide +kernel
theorem dX4_readText_72 : decode cX4_readText 72 = .ok (.goto 4, 3) := by decide +kernel
theorem dX4_readText_75 : decode cX4_readText 75 = .ok (.iconst (-1), 1) := by decide +kernel
theorem dX4_readText_76 : decode cX4_readText 76 = .ok (.putfield 15, 3) := by decide +kernel
theorem dX4_readText_79 : decode cX4_readText 79 = .ok (.aload_n 0, 1) := by decide +kernel
theorem dX4_readText_80 : decode cX4_readText 80 = .ok (.iconst 0, 1) := by decide +kernel
theorem dX4_readText_81 : decode cX4_readText 81 = .ok (.putfield 32, 3) := by decide +kernel
theorem dX4_readText_84 : decode cX4_readText 84 = .ok (.aload_n 0, 1) := by decide +kernel
theorem dX4_readText_85 : decode cX4_readText 85 = .ok (.getfield 41, 3) := by decide +kernel
theorem dX4_readText_88 : decode cX4_readText 88 = .ok (.ifCond .ne 7, 3) := by decide +kernel
theorem dX4_readText_91 : decode cX4_readText 91 = .ok (.iconst 1, 1) := by decide +kernel
theorem dX4_readText_92 : decode cX4_readText 92 = .ok (.goto 4, 3) := by decide +kernel
theorem dX4_readText_95 : decode cX4_readText 95 = .ok (.iconst 0, 1) := by decide +kernel
theorem dX4_readText_96 : decode cX4_readText 96 = .ok (.ireturn, 1) := by decide +kernel
theorem dX4_readOrder_0 : decode cX4_readOrder 0 = .ok (.aload_n 0, 1) := by decide +kernel
theorem dX4_readOrder_1 : decode cX4_readOrder 1 = .ok (.invokevirtual 52, 3) := by decide +kernel
theorem dX4_readOrder_4 : decode cX4_readOrder 4 = .ok (.istore_n 1, 1) := by decide +kernel
theorem dX4_readOrder_5 : decode cX4_readOrder 5 = .ok (.aload_n 0, 1) := by decide +kernel
theorem dX4_readOrder_6 : decode cX4_readOrder 6 = .ok (.iload_n 1, 1) := by decide +kernel
theorem dX4_readOrder_7 : decode cX4_readOrder 7 = .ok (.invokevirtual 56, 3) := by decide +kernel
theorem dX4_readOrder_10 : decode cX4_readOrder 10 = .ok (.ifCond .eq 10, 3) := by decide +kernel
theorem dX4_readOrder_13 : decode cX4_readOrder 13 = .ok (.aload_n 0, 1) := by decide +kernel
theorem dX4_readOrder_14 : decode cX4_readOrder 14 = .ok (.invokevirtual 60, 3) := by decide +kernel
theorem dX4_readOrder_17 : decode cX4_readOrder 17 = .ok (.goto 4, 3) := by decide +kernel
theorem dX4_readOrder_20 : decode cX4_readOrder 20 = .ok (.iconst 0, 1) := by decide +kernel
theorem dX4_readOrder_21 : decode cX4_readOrder 21 = .ok (.istore_n 2, 1) := by decide +kernel
theorem dX4_readOrder_22 : decode cX4_readOrder 22 = .ok (.aload_n 0, 1) := by decide +kernel
theorem dX4_readOrder_23 : decode cX4_readOrder 23 = .ok (.iload_n 1, 1) := by decide +kernel
theorem dX4_readOrder_24 : decode cX4_readOrder 24 = .ok (.invokevirtual 56, 3) := by decide +kernel
theorem dX4_readOrder_27 : decode cX4_readOrder 27 = .ok (.ifCond .eq 17, 3) := by decide +kernel
theorem dX4_readOrder_30 : decode cX4_readOrder 30 = .ok (.aload_n 0, 1) := by decide +kernel
theorem dX4_readOrder_31 : decode cX4_readOrder 31 = .ok (.iload_n 1, 1) := by decide +kernel
theorem dX4_readOrder_32 : decode cX4_readOrder 32 = .ok (.invokevirtual 63, 3) := by decide +kernel
theorem dX4_readOrder_35 : decode cX4_readOrder 35 = .ok (.ifCond .eq 9, 3) := by decide +kernel
theorem dX4_readOrder_38 : decode cX4_readOrder 38 = .ok (.aload_n 0, 1) := by decide +kernel
theorem dX4_readOrder_39 : decode cX4_readOrder 39 = .ok (.bipush 46, 2) := by decide +kernel
theorem dX4_readOrder_41 : decode cX4_readOrder 41 = .ok (.invokevirtual 48, 3) := by decide +kernel
theorem dX4_readOrder_44 : decode cX4_readOrder 44 = .ok (.aload_n 0, 1) := by decide +kernel
theorem dX4_readOrder_45 : decode cX4_readOrder 45 = .ok (.iload_n 1, 1) := by decide +kernel
theorem dX4_readOrder_46 : decode cX4_readOrder 46 = .ok (.invokevirtual 63, 3) := by decide +kernel
theorem dX4_readOrder_49 : decode cX4_readOrder 49 = .ok (.ifCond .eq 10, 3) := by decide +kernel
theorem dX4_readOrder_52 : decode cX4_readOrder 52 = .ok (.aload_n 0, 1) := by decide +kernel
theorem dX4_readOrder_53 : decode cX4_readOrder 53 = .ok (.invokevirtual 60, 3) := by decide +kernel
theorem dX4_readOrder_56 : decode cX4_readOrder 56 = .ok (.goto 4, 3) := by decide +kernel
theorem dX4_readOrder_59 : decode cX4_readOrder 59 = .ok (.iconst 0, 1) := by decide +kernel
theorem dX4_readOrder_60 : decode cX4_readOrder 60 = .ok (.istore_n 3, 1) := by decide +kernel
theorem dX4_readOrder_61 : decode cX4_readOrder 61 = .ok (.aload_n 0, 1) := by decide +kernel
theorem dX4_readOrder_62 : decode cX4_readOrder 62 = .ok (.iload_n 1, 1) := by decide +kernel
theorem dX4_readOrder_63 : decode cX4_readOrder 63 = .ok (.invokevirtual 66, 3) := by decide +kernel
theorem dX4_readOrder_66 : decode cX4_readOrder 66 = .ok (.istore 4, 2) := by decide +kernel
theorem dX4_readOrder_68 : decode cX4_readOrder 68 = .ok (.aload_n 0, 1) := by decide +kernel
theorem dX4_readOrder_69 : decode cX4_readOrder 69 = .ok (.getfield 41, 3) := by decide +kernel
theorem dX4_readOrder_72 : decode cX4_readOrder 72 = .ok (.ifCond .ne 63, 3) := by decide +kernel
theorem dX4_readOrder_75 : decode cX4_readOrder 75 = .ok (.aload_n 0, 1) := by decide +kernel
theorem dX4_readOrder_76 : decode cX4_readOrder 76 = .ok (.getfield 38, 3) := by decide +kernel
theorem dX4_readOrder_79 : decode cX4_readOrder 79 = .ok (.bipush 30, 2) := by decide +kernel
theorem dX4_readOrder_81 : decode cX4_readOrder 81 = .ok (.if_icmp .ge 54, 3) := by decide +kernel
theorem dX4_readOrder_84 : decode cX4_readOrder 84 = .ok (.aload_n 0, 1) := by decide +kernel
theorem dX4_readOrder_85 : decode cX4_readOrder 85 = .ok (.getfield 19, 3) := by decide +kernel
theorem dX4_readOrder_88 : decode cX4_readOrder 88 = .ok (.aload_n 0, 1) := by decide +kernel
theorem dX4_readOrder_89 : decode cX4_readOrder 89 = .ok (.getfield 38, 3) := by decide +kernel
theorem dX4_readOrder_92 : decode cX4_readOrder 92 = .ok (.iload_n 1, 1) := by decide +kernel
theorem dX4_readOrder_93 : decode cX4_readOrder 93 = .ok (.iastore, 1) := by decide +kernel
theorem dX4_readOrder_94 : decode cX4_readOrder 94 = .ok (.aload_n 0, 1) := by decide +kernel
theorem dX4_readOrder_95 : decode cX4_readOrder 95 = .ok (.getfield 23, 3) := by decide +kernel
theorem dX4_readOrder_98 : decode cX4_readOrder 98 = .ok (.aload_n 0, 1) := by decide +kernel
theorem dX4_readOrder_99 : decode cX4_readOrder 99 = .ok (.getfield 38, 3) := by decide +kernel
theorem dX4_readOrder_102 : decode cX4_readOrder 102 = .ok (.iload_n 2, 1) := by decide +kernel
theorem dX4_readOrder_103 : decode cX4_readOrder 103 = .ok (.iastore, 1) := by decide +kernel
theorem dX4_readOrder_104 : decode cX4_readOrder 104 = .ok (.aload_n 0, 1) := by decide +kernel
theorem dX4_readOrder_105 : decode cX4_readOrder 105 = .ok (.getfield 26, 3) := by decide +kernel
theorem dX4_readOrder_108 : decode cX4_readOrder 108 = .ok (.aload_n 0, 1) := by decide +kernel
theorem dX4_readOrder_109 : decode cX4_readOrder 109 = .ok (.getfield 38, 3) := by decide +kernel
theorem dX4_readOrder_112 : decode cX4_readOrder 112 = .ok (.iload_n 3, 1) := by decide +kernel
theorem dX4_readOrder_113 : decode cX4_readOrder 113 = .ok (.iastore, 1) := by decide +kernel
theorem dX4_readOrder_114 : decode cX4_readOrder 114 = .ok (.aload_n 0, 1) := by decide +kernel
theorem dX4_readOrder_115 : decode cX4_readOrder 115 = .ok (.getfield 29, 3) := by decide +kernel
theorem dX4_readOrder_118 : decode cX4_readOrder 118 = .ok (.aload_n 0, 1) := by decide +kernel
theorem dX4_readOrder_119 : decode cX4_readOrder 119 = .ok (.getfield 38, 3) := by decide +kernel
theorem dX4_readOrder_122 : decode cX4_readOrder 122 = .ok (.iload 4, 2) := by decide +kernel
theorem dX4_readOrder_124 : decode cX4_readOrder 124 = .ok (.iastore, 1) := by decide +kernel
theorem dX4_readOrder_125 : decode cX4_readOrder 125 = .ok (.aload_n 0, 1) := by decide +kernel
theorem dX4_readOrder_126 : decode cX4_readOrder 126 = .ok (.dup, 1) := by decide +kernel
theorem dX4_readOrder_127 : decode cX4_readOrder 127 = .ok (.getfield 38, 3) := by decide +kernel
theorem dX4_readOrder_130 : decode cX4_readOrder 130 = .ok (.iconst 1, 1) := by decide +kernel
theorem dX4_readOrder_131 : decode cX4_readOrder 131 = .ok (.iadd, 1) := by decide +kernel
theorem dX4_readOrder_132 : decode cX4_readOrder 132 = .ok (.putfield 38, 3) := by decide +kernel
theorem dX4_readOrder_135 : decode cX4_readOrder 135 = .ok (.return_, 1) := by decide +kernel
theorem dX4_hasMatter_0 : decode cX4_hasMatter 0 = .ok (.iload_n 1, 1) := by decide +kernel
theorem dX4_hasMatter_1 : decode cX4_hasMatter 1 = .ok (.bipush 97, 2) := by decide +kernel
theorem dX4_hasMatter_3 : decode cX4_hasMatter 3 = .ok (.if_icmp .eq 27, 3) := by decide +kernel
theorem dX4_hasMatter_6 : decode cX4_hasMatter 6 = .ok (.iload_n 1, 1) := by decide +kernel
theorem dX4_hasMatter_7 : decode cX4_hasMatter 7 = .ok (.bipush 113, 2) := by decide +kernel
theorem dX4_hasMatter_9 : decode cX4_hasMatter 9 = .ok (.if_icmp .eq 21, 3) := by decide +kernel
theorem dX4_hasMatter_12 : decode cX4_hasMatter 12 = .ok (.iload_n 1, 1) := by decide +kernel
theorem dX4_hasMatter_13 : decode cX4_hasMatter 13 = .ok (.bipush 100, 2) := by decide +kernel
theorem dX4_hasMatter_15 : decode cX4_hasMatter 15 = .ok (.if_icmp .eq 15, 3) := by decide +kernel
theorem dX4_hasMatter_18 : decode cX4_hasMatter 18 = .ok (.iload_n 1, 1) := by decide +kernel
theorem dX4_hasMatter_19 : decode cX4_hasMatter 19 = .ok (.bipush 116, 2) := by decide +kernel
theorem dX4_hasMatter_21 : decode cX4_hasMatter 21 = .ok (.if_icmp .eq 9, 3) := by decide +kernel
theorem dX4_hasMatter_24 : decode cX4_hasMatter 24 = .ok (.iload_n 1, 1) := by decide +kernel
theorem dX4_hasMatter_25 : decode cX4_hasMatter 25 = .ok (.bipush 105, 2) := by decide +kernel
theorem dX4_hasMatter_27 : decode cX4_hasMatter 27 = .ok (.if_icmp .ne 7, 3) := by decide +kernel
theorem dX4_hasMatter_30 : decode cX4_hasMatter 30 = .ok (.iconst 1, 1) := by decide +kernel
theorem dX4_hasMatter_31 : decode cX4_hasMatter 31 = .ok (.goto 4, 3) := by decide +kernel
theorem dX4_hasMatter_34 : decode cX4_hasMatter 34 = .ok (.iconst 0, 1) := by decide +kernel
theorem dX4_hasMatter_35 : decode cX4_hasMatter 35 = .ok (.ireturn, 1) := by decide +kernel
theorem dX4_hasGuild_0 : decode cX4_hasGuild 0 = .ok (.iload_n 1, 1) := by decide +kernel
theorem dX4_hasGuild_1 : decode cX4_hasGuild 1 = .ok (.bipush 97, 2) := by decide +kernel
theorem dX4_hasGuild_3 : decode cX4_hasGuild 3 = .ok (.if_icmp .eq 33, 3) := by decide +kernel
theorem dX4_hasGuild_6 : decode cX4_hasGuild 6 = .ok (.iload_n 1, 1) := by decide +kernel
theorem dX4_hasGuild_7 : decode cX4_hasGuild 7 = .ok (.bipush 113, 2) := by decide +kernel
theorem dX4_hasGuild_9 : decode cX4_hasGuild 9 = .ok (.if_icmp .eq 27, 3) := by decide +kernel
theorem dX4_hasGuild_12 : decode cX4_hasGuild 12 = .ok (.iload_n 1, 1) := by decide +kernel
theorem dX4_hasGuild_13 : decode cX4_hasGuild 13 = .ok (.bipush 116, 2) := by decide +kernel
theorem dX4_hasGuild_15 : decode cX4_hasGuild 15 = .ok (.if_icmp .eq 21, 3) := by decide +kernel
theorem dX4_hasGuild_18 : decode cX4_hasGuild 18 = .ok (.iload_n 1, 1) := by decide +kernel
theorem dX4_hasGuild_19 : decode cX4_hasGuild 19 = .ok (.bipush 115, 2) := by decide +kernel
theorem dX4_hasGuild_21 : decode cX4_hasGuild 21 = .ok (.if_icmp .eq 15, 3) := by decide +kernel
theorem dX4_hasGuild_24 : decode cX4_hasGuild 24 = .ok (.iload_n 1, 1) := by decide +kernel
theorem dX4_hasGuild_25 : decode cX4_hasGuild 25 = .ok (.bipush 114, 2) := by decide +kernel
theorem dX4_hasGuild_27 : decode cX4_hasGuild 27 = .ok (.if_icmp .eq 9, 3) := by decide +kernel
theorem dX4_hasGuild_30 : decode cX4_hasGuild 30 = .ok (.iload_n 1, 1) := by decide +kernel
theorem dX4_hasGuild_31 : decode cX4_hasGuild 31 = .ok (.bipush 105, 2) := by decide +kernel
theorem dX4_hasGuild_33 : decode cX4_hasGuild 33 = .ok (.if_icmp .ne 7, 3) := by decide +kernel
theorem dX4_hasGuild_36 : decode cX4_hasGuild 36 = .ok (.iconst 1, 1) := by decide +kernel
theorem dX4_hasGuild_37 : decode cX4_hasGuild 37 = .ok (.goto 4, 3) := by decide +kernel
theorem dX4_hasGuild_40 : decode cX4_hasGuild 40 = .ok (.iconst 0, 1) := by decide +kernel
theorem dX4_hasGuild_41 : decode cX4_hasGuild 41 = .ok (.ireturn, 1) := by decide +kernel
theorem dX4_readLast_0 : decode cX4_readLast 0 = .ok (.iload_n 1, 1) := by decide +kernel
theorem dX4_readLast_1 : decode cX4_readLast 1 = .ok (.lookupswitch 67 #[(97, 35), (104, 62), (105, 51)], 35) := by decide +kernel
theorem dX4_readLast_36 : decode cX4_readLast 36 = .ok (.aload_n 0, 1) := by decide +kernel
theorem dX4_readLast_37 : decode cX4_readLast 37 = .ok (.bipush 61, 2) := by decide +kernel
theorem dX4_readLast_39 : decode cX4_readLast 39 = .ok (.invokevirtual 48, 3) := by decide +kernel
theorem dX4_readLast_42 : decode cX4_readLast 42 = .ok (.aload_n 0, 1) := by decide +kernel
theorem dX4_readLast_43 : decode cX4_readLast 43 = .ok (.invokevirtual 70, 3) := by decide +kernel
theorem dX4_readLast_46 : decode cX4_readLast 46 = .ok (.aload_n 0, 1) := by decide +kernel
theorem dX4_readLast_47 : decode cX4_readLast 47 = .ok (.invokevirtual 73, 3) := by decide +kernel
theorem dX4_readLast_50 : decode cX4_readLast 50 = .ok (.imul, 1) := by decide +kernel
theorem dX4_readLast_51 : decode cX4_readLast 51 = .ok (.ireturn, 1) := by decide +kernel
theorem dX4_readLast_52 : decode cX4_readLast 52 = .ok (.aload_n 0, 1) := by decide +kernel
theorem dX4_readLast_53 : decode cX4_readLast 53 = .ok (.bipush 60, 2) := by decide +kernel
theorem dX4_readLast_55 : decode cX4_readLast 55 = .ok (.invokevirtual 48, 3) := by decide +kernel
theorem dX4_readLast_58 : decode cX4_readLast 58 = .ok (.aload_n 0, 1) := by decide +kernel
theorem dX4_readLast_59 : decode cX4_readLast 59 = .ok (.invokevirtual 60, 3) := by decide +kernel
theorem dX4_readLast_62 : decode cX4_readLast 62 = .ok (.ireturn, 1) := by decide +kernel
theorem dX4_readLast_63 : decode cX4_readLast 63 = .ok (.aload_n 0, 1) := by decide +kernel
theorem dX4_readLast_64 : decode cX4_readLast 64 = .ok (.invokevirtual 73, 3) := by decide +kernel
theorem dX4_readLast_67 : decode cX4_readLast 67 = .ok (.ireturn, 1) := by decide +kernel
theorem dX4_readLast_68 : decode cX4_readLast 68 = .ok (.iconst 0, 1) := by decide +kernel
theorem dX4_readLast_69 : decode cX4_readLast 69 = .ok (.ireturn, 1) := by decide +kernel
theorem dX4_readLetter_0 : decode cX4_readLetter 0 = .ok (.aload_n 0, 1) := by decide +kernel
theorem dX4_readLetter_1 : decode cX4_readLetter 1 = .ok (.invokevirtual 76, 3) := by decide +kernel
theorem dX4_readLetter_4 : decode cX4_readLetter 4 = .ok (.istore_n 1, 1) := by decide +kernel
theorem dX4_readLetter_5 : decode cX4_readLetter 5 = .ok (.aload_n 0, 1) := by decide +kernel
theorem dX4_readLetter_6 : decode cX4_readLetter 6 = .ok (.aload_n 0, 1) := by decide +kernel
theorem dX4_readLetter_7 : decode cX4_readLetter 7 = .ok (.getfield 41, 3) := by decide +kernel
theorem dX4_readLetter_10 : decode cX4_readLetter 10 = .ok (.ifCond .ne 12, 3) := by decide +kernel
theorem dX4_readLetter_13 : decode cX4_readLetter 13 = .ok (.ldc 80, 2) := by decide +kernel
theorem dX4_readLetter_15 : decode cX4_readLetter 15 = .ok (.iload_n 1, 1) := by decide +kernel
theorem dX4_readLetter_16 : decode cX4_readLetter 16 = .ok (.invokevirtual 82, 3) := by decide +kernel
theorem dX4_readLetter_19 : decode cX4_readLetter 19 = .ok (.ifCond .ge 7, 3) := by decide +kernel
theorem dX4_readLetter_22 : decode cX4_readLetter 22 = .ok (.iconst 1, 1) := by decide +kernel
theorem dX4_readLetter_23 : decode cX4_readLetter 23 = .ok (.goto 4, 3) := by decide +kernel
theorem dX4_readLetter_26 : decode cX4_readLetter 26 = .ok (.iconst 0, 1) := by decide +kernel
theorem dX4_readLetter_27 : decode cX4_readLetter 27 = .ok (.putfield 41, 3) := by decide +kernel
theorem dX4_readLetter_30 : decode cX4_readLetter 30 = .ok (.aload_n 0, 1) := by decide +kernel
theorem dX4_readLetter_31 : decode cX4_readLetter 31 = .ok (.dup, 1) := by decide +kernel
theorem dX4_readLetter_32 : decode cX4_readLetter 32 = .ok (.getfield 35, 3) := by decide +kernel
theorem dX4_readLetter_35 : decode cX4_readLetter 35 = .ok (.aload_n 0, 1) := by decide +kernel
theorem dX4_readLetter_36 : decode cX4_readLetter 36 = .ok (.getfield 41, 3) := by decide +kernel
theorem dX4_readLetter_39 : decode cX4_readLetter 39 = .ok (.ifCond .eq 7, 3) := by decide +kernel
theorem dX4_readLetter_42 : decode cX4_readLetter 42 = .ok (.iconst 0, 1) := by decide +kernel
theorem dX4_readLetter_43 : decode cX4_readLetter 43 = .ok (.goto 4, 3) := by decide +kernel
theorem dX4_readLetter_46 : decode cX4_readLetter 46 = .ok (.iconst 1, 1) := by decide +kernel
theorem dX4_readLetter_47 : decode cX4_readLetter 47 = .ok (.iadd, 1) := by decide +kernel
theorem dX4_readLetter_48 : decode cX4_readLetter 48 = .ok (.putfield 35, 3) := by decide +kernel
theorem dX4_readLetter_51 : decode cX4_readLetter 51 = .ok (.iload_n 1, 1) := by decide +kernel
theorem dX4_readLetter_52 : decode cX4_readLetter 52 = .ok (.ireturn, 1) := by decide +kernel
theorem dX4_readSign_0 : decode cX4_readSign 0 = .ok (.aload_n 0, 1) := by decide +kernel
theorem dX4_readSign_1 : decode cX4_readSign 1 = .ok (.aload_n 0, 1) := by decide +kernel
theorem dX4_readSign_2 : decode cX4_readSign 2 = .ok (.getfield 41, 3) := by decide +kernel
theorem dX4_readSign_5 : decode cX4_readSign 5 = .ok (.ifCond .ne 11, 3) := by decide +kernel
theorem dX4_readSign_8 : decode cX4_readSign 8 = .ok (.aload_n 0, 1) := by decide +kernel
theorem dX4_readSign_9 : decode cX4_readSign 9 = .ok (.invokevirtual 76, 3) := by decide +kernel
theorem dX4_readSign_12 : decode cX4_readSign 12 = .ok (.iload_n 1, 1) := by decide +kernel
theorem dX4_readSign_13 : decode cX4_readSign 13 = .ok (.if_icmp .eq 7, 3) := by decide +kernel
theorem dX4_readSign_16 : decode cX4_readSign 16 = .ok (.iconst 1, 1) := by decide +kernel
theorem dX4_readSign_17 : decode cX4_readSign 17 = .ok (.goto 4, 3) := by decide +kernel
theorem dX4_readSign_20 : decode cX4_readSign 20 = .ok (.iconst 0, 1) := by decide +kernel
theorem dX4_readSign_21 : decode cX4_readSign 21 = .ok (.putfield 41, 3) := by decide +kernel
theorem dX4_readSign_24 : decode cX4_readSign 24 = .ok (.aload_n 0, 1) := by decide +kernel
theorem dX4_readSign_25 : decode cX4_readSign 25 = .ok (.dup, 1) := by decide +kernel
theorem dX4_readSign_26 : decode cX4_readSign 26 = .ok (.getfield 35, 3) := by decide +kernel
theorem dX4_readSign_29 : decode cX4_readSign 29 = .ok (.aload_n 0, 1) := by decide +kernel
theorem dX4_readSign_30 : decode cX4_readSign 30 = .ok (.getfield 41, 3) := by decide +kernel
theorem dX4_readSign_33 : decode cX4_readSign 33 = .ok (.ifCond .eq 7, 3) := by decide +kernel
theorem dX4_readSign_36 : decode cX4_readSign 36 = .ok (.iconst 0, 1) := by decide +kernel
theorem dX4_readSign_37 : decode cX4_readSign 37 = .ok (.goto 4, 3) := by decide +kernel
theorem dX4_readSign_40 : decode cX4_readSign 40 = .ok (.iconst 1, 1) := by decide +kernel
theorem dX4_readSign_41 : decode cX4_readSign 41 = .ok (.iadd, 1) := by decide +kernel
theorem dX4_readSign_42 : decode cX4_readSign 42 = .ok (.putfield 35, 3) := by decide +kernel
theorem dX4_readSign_45 : decode cX4_readSign 45 = .ok (.return_, 1) := by decide +kernel
theorem dX4_readPlusOrMinus_0 : decode cX4_readPlusOrMinus 0 = .ok (.aload_n 0, 1) := by decide +kernel
theorem dX4_readPlusOrMinus_1 : decode cX4_readPlusOrMinus 1 = .ok (.invokevirtual 76, 3) := by decide +kernel
theorem dX4_readPlusOrMinus_4 : decode cX4_readPlusOrMinus 4 = .ok (.bipush 45, 2) := by decide +kernel
theorem dX4_readPlusOrMinus_6 : decode cX4_readPlusOrMinus 6 = .ok (.if_icmp .ne 7, 3) := by decide +kernel
theorem dX4_readPlusOrMinus_9 : decode cX4_readPlusOrMinus 9 = .ok (.iconst 1, 1) := by decide +kernel
theorem dX4_readPlusOrMinus_10 : decode cX4_readPlusOrMinus 10 = .ok (.goto 4, 3) := by decide +kernel
theorem dX4_readPlusOrMinus_13 : decode cX4_readPlusOrMinus 13 = .ok (.iconst 0, 1) := by decide +kernel
theorem dX4_readPlusOrMinus_14 : decode cX4_readPlusOrMinus 14 = .ok (.istore_n 1, 1) := by decide +kernel
theorem dX4_readPlusOrMinus_15 : decode cX4_readPlusOrMinus 15 = .ok (.aload_n 0, 1) := by decide +kernel
theorem dX4_readPlusOrMinus_16 : decode cX4_readPlusOrMinus 16 = .ok (.iload_n 1, 1) := by decide +kernel
theorem dX4_readPlusOrMinus_17 : decode cX4_readPlusOrMinus 17 = .ok (.ifCond .eq 8, 3) := by decide +kernel
theorem dX4_readPlusOrMinus_20 : decode cX4_readPlusOrMinus 20 = .ok (.bipush 45, 2) := by decide +kernel
theorem dX4_readPlusOrMinus_22 : decode cX4_readPlusOrMinus 22 = .ok (.goto 5, 3) := by decide +kernel
theorem dX4_readPlusOrMinus_25 : decode cX4_readPlusOrMinus 25 = .ok (.bipush 43, 2) := by decide +kernel
theorem dX4_readPlusOrMinus_27 : decode cX4_readPlusOrMinus 27 = .ok (.invokevirtual 48, 3) := by decide +kernel
theorem dX4_readPlusOrMinus_30 : decode cX4_readPlusOrMinus 30 = .ok (.iload_n 1, 1) := by decide +kernel
theorem dX4_readPlusOrMinus_31 : decode cX4_readPlusOrMinus 31 = .ok (.ifCond .eq 7, 3) := by decide +kernel
theorem dX4_readPlusOrMinus_34 : decode cX4_readPlusOrMinus 34 = .ok (.iconst (-1), 1) := by decide +kernel
theorem dX4_readPlusOrMinus_35 : decode cX4_readPlusOrMinus 35 = .ok (.goto 4, 3) := by decide +kernel
theorem dX4_readPlusOrMinus_38 : decode cX4_readPlusOrMinus 38 = .ok (.iconst 1, 1) := by decide +kernel
theorem dX4_readPlusOrMinus_39 : decode cX4_readPlusOrMinus 39 = .ok (.ireturn, 1) := by decide +kernel
theorem dX4_readOneOrTwoDigits_0 : decode cX4_readOneOrTwoDigits 0 = .ok (.aload_n 0, 1) := by decide +kernel
theorem dX4_readOneOrTwoDigits_1 : decode cX4_readOneOrTwoDigits 1 = .ok (.invokevirtual 60, 3) := by decide +kernel
theorem dX4_readOneOrTwoDigits_4 : decode cX4_readOneOrTwoDigits 4 = .ok (.istore_n 1, 1) := by decide +kernel
theorem dX4_readOneOrTwoDigits_5 : decode cX4_readOneOrTwoDigits 5 = .ok (.aload_n 0, 1) := by decide +kernel
theorem dX4_readOneOrTwoDigits_6 : decode cX4_readOneOrTwoDigits 6 = .ok (.aload_n 0, 1) := by decide +kernel
theorem dX4_readOneOrTwoDigits_7 : decode cX4_readOneOrTwoDigits 7 = .ok (.invokevirtual 76, 3) := by decide +kernel
theorem dX4_readOneOrTwoDigits_10 : decode cX4_readOneOrTwoDigits 10 = .ok (.invokevirtual 87, 3) := by decide +kernel
theorem dX4_readOneOrTwoDigits_13 : decode cX4_readOneOrTwoDigits 13 = .ok (.ifCond .eq 15, 3) := by decide +kernel
theorem dX4_readOneOrTwoDigits_16 : decode cX4_readOneOrTwoDigits 16 = .ok (.bipush 10, 2) := by decide +kernel
theorem dX4_readOneOrTwoDigits_18 : decode cX4_readOneOrTwoDigits 18 = .ok (.iload_n 1, 1) := by decide +kernel
theorem dX4_readOneOrTwoDigits_19 : decode cX4_readOneOrTwoDigits 19 = .ok (.imul, 1) := by decide +kernel
theorem dX4_readOneOrTwoDigits_20 : decode cX4_readOneOrTwoDigits 20 = .ok (.aload_n 0, 1) := by decide +kernel
theorem dX4_readOneOrTwoDigits_21 : decode cX4_readOneOrTwoDigits 21 = .ok (.invokevirtual 60, 3) := by decide +kernel
theorem dX4_readOneOrTwoDigits_24 : decode cX4_readOneOrTwoDigits 24 = .ok (.iadd, 1) := by decide +kernel
theorem dX4_readOneOrTwoDigits_25 : decode cX4_readOneOrTwoDigits 25 = .ok (.goto 4, 3) := by decide +kernel
theorem dX4_readOneOrTwoDigits_28 : decode cX4_readOneOrTwoDigits 28 = .ok (.iload_n 1, 1) := by decide +kernel
theorem dX4_readOneOrTwoDigits_29 : decode cX4_readOneOrTwoDigits 29 = .ok (.ireturn, 1) := by decide +kernel
theorem dX4_readDigit_0 : decode cX4_readDigit 0 = .ok (.aload_n 0, 1) := by decide +kernel
theorem dX4_readDigit_1 : decode cX4_readDigit 1 = .ok (.invokevirtual 76, 3) := by decide +kernel
theorem dX4_readDigit_4 : decode cX4_readDigit 4 = .ok (.istore_n 1, 1) := by decide +kernel
theorem dX4_readDigit_5 : decode cX4_readDigit 5 = .ok (.aload_n 0, 1) := by decide +kernel
theorem dX4_readDigit_6 : decode cX4_readDigit 6 = .ok (.aload_n 0, 1) := by decide +kernel
theorem dX4_readDigit_7 : decode cX4_readDigit 7 = .ok (.getfield 41, 3) := by decide +kernel
theorem dX4_readDigit_10 : decode cX4_readDigit 10 = .ok (.ifCond .ne 11, 3) := by decide +kernel
theorem dX4_readDigit_13 : decode cX4_readDigit 13 = .ok (.aload_n 0, 1) := by decide +kernel
theorem dX4_readDigit_14 : decode cX4_readDigit 14 = .ok (.iload_n 1, 1) := by decide +kernel
theorem dX4_readDigit_15 : decode cX4_readDigit 15 = .ok (.invokevirtual 87, 3) := by decide +kernel
theorem dX4_readDigit_18 : decode cX4_readDigit 18 = .ok (.ifCond .ne 7, 3) := by decide +kernel
theorem dX4_readDigit_21 : decode cX4_readDigit 21 = .ok (.iconst 1, 1) := by decide +kernel
theorem dX4_readDigit_22 : decode cX4_readDigit 22 = .ok (.goto 4, 3) := by decide +kernel
theorem dX4_readDigit_25 : decode cX4_readDigit 25 = .ok (.iconst 0, 1) := by decide +kernel
theorem dX4_readDigit_26 : decode cX4_readDigit 26 = .ok (.putfield 41, 3) := by decide +kernel
theorem dX4_readDigit_29 : decode cX4_readDigit 29 = .ok (.aload_n 0, 1) := by decide +kernel
theorem dX4_readDigit_30 : decode cX4_readDigit 30 = .ok (.dup, 1) := by decide +kernel
theorem dX4_readDigit_31 : decode cX4_readDigit 31 = .ok (.getfield 35, 3) := by decide +kernel
theorem dX4_readDigit_34 : decode cX4_readDigit 34 = .ok (.aload_n 0, 1) := by decide +kernel
theorem dX4_readDigit_35 : decode cX4_readDigit 35 = .ok (.getfield 41, 3) := by decide +kernel
theorem dX4_readDigit_38 : decode cX4_readDigit 38 = .ok (.ifCond .eq 7, 3) := by decide +kernel
theorem dX4_readDigit_41 : decode cX4_readDigit 41 = .ok (.iconst 0, 1) := by decide +kernel
theorem dX4_readDigit_42 : decode cX4_readDigit 42 = .ok (.goto 4, 3) := by decide +kernel
theorem dX4_readDigit_45 : decode cX4_readDigit 45 = .ok (.iconst 1, 1) := by decide +kernel
theorem dX4_readDigit_46 : decode cX4_readDigit 46 = .ok (.iadd, 1) := by decide +kernel
theorem dX4_readDigit_47 : decode cX4_readDigit 47 = .ok (.putfield 35, 3) := by decide +kernel
theorem dX4_readDigit_50 : decode cX4_readDigit 50 = .ok (.iload_n 1, 1) := by decide +kernel
theorem dX4_readDigit_51 : decode cX4_readDigit 51 = .ok (.bipush 48, 2) := by decide +kernel
theorem dX4_readDigit_53 : decode cX4_readDigit 53 = .ok (.isub, 1) := by decide +kernel
theorem dX4_readDigit_54 : decode cX4_readDigit 54 = .ok (.ireturn, 1) := by decide +kernel
theorem dX4_isDigit_0 : decode cX4_isDigit 0 = .ok (.iload_n 1, 1) := by decide +kernel
theorem dX4_isDigit_1 : decode cX4_isDigit 1 = .ok (.bipush 48, 2) := by decide +kernel
theorem dX4_isDigit_3 : decode cX4_isDigit 3 = .ok (.if_icmp .lt 13, 3) := by decide +kernel
theorem dX4_isDigit_6 : decode cX4_isDigit 6 = .ok (.iload_n 1, 1) := by decide +kernel
theorem dX4_isDigit_7 : decode cX4_isDigit 7 = .ok (.bipush 57, 2) := by decide +kernel
theorem dX4_isDigit_9 : decode cX4_isDigit 9 = .ok (.if_icmp .gt 7, 3) := by decide +kernel
theorem dX4_isDigit_12 : decode cX4_isDigit 12 = .ok (.iconst 1, 1) := by decide +kernel
theorem dX4_isDigit_13 : decode cX4_isDigit 13 = .ok (.goto 4, 3) := by decide +kernel
theorem dX4_isDigit_16 : decode cX4_isDigit 16 = .ok (.iconst 0, 1) := by decide +kernel
theorem dX4_isDigit_17 : decode cX4_isDigit 17 = .ok (.ireturn, 1) := by decide +kernel
theorem dX4_nextCharacter_0 : decode cX4_nextCharacter 0 = .ok (.aload_n 0, 1) := by decide +kernel
theorem dX4_nextCharacter_1 : decode cX4_nextCharacter 1 = .ok (.getfield 35, 3) := by decide +kernel
theorem dX4_nextCharacter_4 : decode cX4_nextCharacter 4 = .ok (.aload_n 0, 1) := by decide +kernel
theorem dX4_nextCharacter_5 : decode cX4_nextCharacter 5 = .ok (.getfield 32, 3) := by decide +kernel
theorem dX4_nextCharacter_8 : decode cX4_nextCharacter 8 = .ok (.if_icmp .ge 15, 3) := by decide +kernel
theorem dX4_nextCharacter_11 : decode cX4_nextCharacter 11 = .ok (.aload_n 0, 1) := by decide +kernel
theorem dX4_nextCharacter_12 : decode cX4_nextCharacter 12 = .ok (.getfield 9, 3) := by decide +kernel
theorem dX4_nextCharacter_15 : decode cX4_nextCharacter 15 = .ok (.aload_n 0, 1) := by decide +kernel
theorem dX4_nextCharacter_16 : decode cX4_nextCharacter 16 = .ok (.getfield 35, 3) := by decide +kernel
theorem dX4_nextCharacter_19 : decode cX4_nextCharacter 19 = .ok (.caload, 1) := by decide +kernel
theorem dX4_nextCharacter_20 : decode cX4_nextCharacter 20 = .ok (.goto 4, 3) := by decide +kernel
theorem dX4_nextCharacter_23 : decode cX4_nextCharacter 23 = .ok (.iconst 0, 1) := by decide +kernel
theorem dX4_nextCharacter_24 : decode cX4_nextCharacter 24 = .ok (.ireturn, 1) := by decide +kernel
theorem dX5_init_0 : decode cX5_init 0 = .ok (.aload_n 0, 1) := by decide +kernel
theorem dX5_init_1 : decode cX5_init 1 = .ok (.invokespecial 3, 3) := by decide +kernel
theorem dX5_init_4 : decode cX5_init 4 = .ok (.aload_n 0, 1) := by decide +kernel
theorem dX5_init_5 : decode cX5_init 5 = .ok (.aload_n 1, 1) := by decide +kernel
theorem dX5_init_6 : decode cX5_init 6 = .ok (.putfield 9, 3) := by decide +kernel
theorem dX5_init_9 : decode cX5_init 9 = .ok (.return_, 1) := by decide +kernel
theorem dX5_refusesMatter_0 : decode cX5_refusesMatter 0 = .ok (.aload_n 0, 1) := by decide +kernel
theorem dX5_refusesMatter_1 : decode cX5_refusesMatter 1 = .ok (.aload_n 0, 1) := by decide +kernel
theorem dX5_refusesMatter_2 : decode cX5_refusesMatter 2 = .ok (.getfield 9, 3) := by decide +kernel
theorem dX5_refusesMatter_5 : decode cX5_refusesMatter 5 = .ok (.getfield 15, 3) := by decide +kernel
theorem dX5_refusesMatter_8 : decode cX5_refusesMatter 8 = .ok (.bipush 8, 2) := by decide +kernel
theorem dX5_refusesMatter_10 : decode cX5_refusesMatter 10 = .ok (.if_icmp .lt 7, 3) := by decide +kernel
theorem dX5_refusesMatter_13 : decode cX5_refusesMatter 13 = .ok (.iconst 1, 1) := by decide +kernel
theorem dX5_refusesMatter_14 : decode cX5_refusesMatter 14 = .ok (.goto 4, 3) := by decide +kernel
theorem dX5_refusesMatter_17 : decode cX5_refusesMatter 17 = .ok (.iconst 0, 1) := by decide +kernel
theorem dX5_refusesMatter_18 : decode cX5_refusesMatter 18 = .ok (.iconst 1, 1) := by decide +kernel
theorem dX5_refusesMatter_19 : decode cX5_refusesMatter 19 = .ok (.aload_n 0, 1) := by decide +kernel
theorem dX5_refusesMatter_20 : decode cX5_refusesMatter 20 = .ok (.getfield 9, 3) := by decide +kernel
theorem dX5_refusesMatter_23 : decode cX5_refusesMatter 23 = .ok (.getfield 15, 3) := by decide +kernel
theorem dX5_refusesMatter_26 : decode cX5_refusesMatter 26 = .ok (.invokevirtual 21, 3) := by decide +kernel
theorem dX5_refusesMatter_29 : decode cX5_refusesMatter 29 = .ok (.ireturn, 1) := by decide +kernel
theorem dX5_refusesSet_0 : decode cX5_refusesSet 0 = .ok (.aload_n 0, 1) := by decide +kernel
theorem dX5_refusesSet_1 : decode cX5_refusesSet 1 = .ok (.getfield 9, 3) := by decide +kernel
theorem dX5_refusesSet_4 : decode cX5_refusesSet 4 = .ok (.iload_n 1, 1) := by decide +kernel
theorem dX5_refusesSet_5 : decode cX5_refusesSet 5 = .ok (.invokevirtual 25, 3) := by decide +kernel
theorem dX5_refusesSet_8 : decode cX5_refusesSet 8 = .ok (.istore 4, 2) := by decide +kernel
theorem dX5_refusesSet_10 : decode cX5_refusesSet 10 = .ok (.aload_n 0, 1) := by decide +kernel
theorem dX5_refusesSet_11 : decode cX5_refusesSet 11 = .ok (.iload_n 1, 1) := by decide +kernel
theorem dX5_refusesSet_12 : decode cX5_refusesSet 12 = .ok (.invokevirtual 29, 3) := by decide +kernel
theorem dX5_refusesSet_15 : decode cX5_refusesSet 15 = .ok (.ifCond .ne 52, 3) := by decide +kernel
theorem dX5_refusesSet_18 : decode cX5_refusesSet 18 = .ok (.aload_n 0, 1) := by decide +kernel
theorem dX5_refusesSet_19 : decode cX5_refusesSet 19 = .ok (.iload 4, 2) := by decide +kernel
theorem dX5_refusesSet_21 : decode cX5_refusesSet 21 = .ok (.ifCond .le 7, 3) := by decide +kernel
theorem dX5_refusesSet_24 : decode cX5_refusesSet 24 = .ok (.iconst 1, 1) := by decide +kernel
theorem dX5_refusesSet_25 : decode cX5_refusesSet 25 = .ok (.goto 4, 3) := by decide +kernel
theorem dX5_refusesSet_28 : decode cX5_refusesSet 28 = .ok (.iconst 0, 1) := by decide +kernel
theorem dX5_refusesSet_29 : decode cX5_refusesSet 29 = .ok (.bipush 6, 2) := by decide +kernel
theorem dX5_refusesSet_31 : decode cX5_refusesSet 31 = .ok (.iload 4, 2) := by decide +kernel
theorem dX5_refusesSet_33 : decode cX5_refusesSet 33 = .ok (.invokevirtual 21, 3) := by decide +kernel
theorem dX5_refusesSet_36 : decode cX5_refusesSet 36 = .ok (.ifCond .ne 31, 3) := by decide +kernel
theorem dX5_refusesSet_39 : decode cX5_refusesSet 39 = .ok (.aload_n 0, 1) := by decide +kernel
theorem dX5_refusesSet_40 : decode cX5_refusesSet 40 = .ok (.aload_n 0, 1) := by decide +kernel
theorem dX5_refusesSet_41 : decode cX5_refusesSet 41 = .ok (.getfield 9, 3) := by decide +kernel
theorem dX5_refusesSet_44 : decode cX5_refusesSet 44 = .ok (.iload_n 1, 1) := by decide +kernel
theorem dX5_refusesSet_45 : decode cX5_refusesSet 45 = .ok (.iload_n 2, 1) := by decide +kernel
theorem dX5_refusesSet_46 : decode cX5_refusesSet 46 = .ok (.invokevirtual 33, 3) := by decide +kernel
theorem dX5_refusesSet_49 : decode cX5_refusesSet 49 = .ok (.iload_n 3, 1) := by decide +kernel
theorem dX5_refusesSet_50 : decode cX5_refusesSet 50 = .ok (.if_icmp .ne 7, 3) := by decide +kernel
theorem dX5_refusesSet_53 : decode cX5_refusesSet 53 = .ok (.iconst 1, 1) := by decide +kernel
theorem dX5_refusesSet_54 : decode cX5_refusesSet 54 = .ok (.goto 4, 3) := by decide +kernel
theorem dX5_refusesSet_57 : decode cX5_refusesSet 57 = .ok (.iconst 0, 1) := by decide +kernel
theorem dX5_refusesSet_58 : decode cX5_refusesSet 58 = .ok (.bipush 10, 2) := by decide +kernel
theorem dX5_refusesSet_60 : decode cX5_refusesSet 60 = .ok (.iload_n 3, 1) := by decide +kernel
theorem dX5_refusesSet_61 : decode cX5_refusesSet 61 = .ok (.invokevirtual 21, 3) := by decide +kernel
theorem dX5_refusesSet_64 : decode cX5_refusesSet 64 = .ok (.ifCond .eq 7, 3) := by decide +kernel
theorem dX5_refusesSet_67 : decode cX5_refusesSet 67 = .ok (.iconst 1, 1) := by decide +kernel
theorem dX5_refusesSet_68 : decode cX5_refusesSet 68 = .ok (.goto 4, 3) := by decide +kernel
theorem dX5_refusesSet_71 : decode cX5_refusesSet 71 = .ok (.iconst 0, 1) := by decide +kernel
theorem dX5_refusesSet_72 : decode cX5_refusesSet 72 = .ok (.ireturn, 1) := by decide +kernel
theorem dX5_refusesAsk_0 : decode cX5_refusesAsk 0 = .ok (.aload_n 0, 1) := by decide +kernel
theorem dX5_refusesAsk_1 : decode cX5_refusesAsk 1 = .ok (.getfield 9, 3) := by decide +kernel
theorem dX5_refusesAsk_4 : decode cX5_refusesAsk 4 = .ok (.iload_n 1, 1) := by decide +kernel
theorem dX5_refusesAsk_5 : decode cX5_refusesAsk 5 = .ok (.iload_n 2, 1) := by decide +kernel
theorem dX5_refusesAsk_6 : decode cX5_refusesAsk 6 = .ok (.invokevirtual 37, 3) := by decide +kernel
theorem dX5_refusesAsk_9 : decode cX5_refusesAsk 9 = .ok (.istore_n 3, 1) := by decide +kernel
theorem dX5_refusesAsk_10 : decode cX5_refusesAsk 10 = .ok (.aload_n 0, 1) := by decide +kernel
theorem dX5_refusesAsk_11 : decode cX5_refusesAsk 11 = .ok (.invokevirtual 40, 3) := by decide +kernel
theorem dX5_refusesAsk_14 : decode cX5_refusesAsk 14 = .ok (.ifCond .ne 47, 3) := by decide +kernel
theorem dX5_refusesAsk_17 : decode cX5_refusesAsk 17 = .ok (.aload_n 0, 1) := by decide +kernel
theorem dX5_refusesAsk_18 : decode cX5_refusesAsk 18 = .ok (.iload_n 1, 1) := by decide +kernel
theorem dX5_refusesAsk_19 : decode cX5_refusesAsk 19 = .ok (.invokevirtual 29, 3) := by decide +kernel
theorem dX5_refusesAsk_22 : decode cX5_refusesAsk 22 = .ok (.ifCond .ne 39, 3) := by decide +kernel
theorem dX5_refusesAsk_25 : decode cX5_refusesAsk 25 = .ok (.aload_n 0, 1) := by decide +kernel
theorem dX5_refusesAsk_26 : decode cX5_refusesAsk 26 = .ok (.iload_n 1, 1) := by decide +kernel
theorem dX5_refusesAsk_27 : decode cX5_refusesAsk 27 = .ok (.iload_n 2, 1) := by decide +kernel
theorem dX5_refusesAsk_28 : decode cX5_refusesAsk 28 = .ok (.invokevirtual 44, 3) := by decide +kernel
theorem dX5_refusesAsk_31 : decode cX5_refusesAsk 31 = .ok (.ifCond .ne 30, 3) := by decide +kernel
theorem dX5_refusesAsk_34 : decode cX5_refusesAsk 34 = .ok (.aload_n 0, 1) := by decide +kernel
theorem dX5_refusesAsk_35 : decode cX5_refusesAsk 35 = .ok (.iload_n 2, 1) := by decide +kernel
theorem dX5_refusesAsk_36 : decode cX5_refusesAsk 36 = .ok (.invokevirtual 48, 3) := by decide +kernel
theorem dX5_refusesAsk_39 : decode cX5_refusesAsk 39 = .ok (.ifCond .ne 22, 3) := by decide +kernel
theorem dX5_refusesAsk_42 : decode cX5_refusesAsk 42 = .ok (.aload_n 0, 1) := by decide +kernel
theorem dX5_refusesAsk_43 : decode cX5_refusesAsk 43 = .ok (.iload_n 3, 1) := by decide +kernel
theorem dX5_refusesAsk_44 : decode cX5_refusesAsk 44 = .ok (.ifCond .eq 7, 3) := by decide +kernel
theorem dX5_refusesAsk_47 : decode cX5_refusesAsk 47 = .ok (.iconst 1, 1) := by decide +kernel
theorem dX5_refusesAsk_48 : decode cX5_refusesAsk 48 = .ok (.goto 4, 3) := by decide +kernel
theorem dX5_refusesAsk_51 : decode cX5_refusesAsk 51 = .ok (.iconst 0, 1) := by decide +kernel
theorem dX5_refusesAsk_52 : decode cX5_refusesAsk 52 = .ok (.bipush 9, 2) := by decide +kernel
theorem dX5_refusesAsk_54 : decode cX5_refusesAsk 54 = .ok (.iload_n 3, 1) := by decide +kernel
theorem dX5_refusesAsk_55 : decode cX5_refusesAsk 55 = .ok (.invokevirtual 21, 3) := by decide +kernel
theorem dX5_refusesAsk_58 : decode cX5_refusesAsk 58 = .ok (.ifCond .eq 7, 3) := by decide +kernel
theorem dX5_refusesAsk_61 : decode cX5_refusesAsk 61 = .ok (.iconst 1, 1) := by decide +kernel
theorem dX5_refusesAsk_62 : decode cX5_refusesAsk 62 = .ok (.goto 4, 3) := by decide +kernel
theorem dX5_refusesAsk_65 : decode cX5_refusesAsk 65 = .ok (.iconst 0, 1) := by decide +kernel
theorem dX5_refusesAsk_66 : decode cX5_refusesAsk 66 = .ok (.ireturn, 1) := by decide +kernel
theorem dX5_refusesDecide_0 : decode cX5_refusesDecide 0 = .ok (.aload_n 0, 1) := by decide +kernel
theorem dX5_refusesDecide_1 : decode cX5_refusesDecide 1 = .ok (.invokevirtual 40, 3) := by decide +kernel
theorem dX5_refusesDecide_4 : decode cX5_refusesDecide 4 = .ok (.ifCond .ne 19, 3) := by decide +kernel
theorem dX5_refusesDecide_7 : decode cX5_refusesDecide 7 = .ok (.aload_n 0, 1) := by decide +kernel
theorem dX5_refusesDecide_8 : decode cX5_refusesDecide 8 = .ok (.iload_n 1, 1) := by decide +kernel
theorem dX5_refusesDecide_9 : decode cX5_refusesDecide 9 = .ok (.invokevirtual 29, 3) := by decide +kernel
theorem dX5_refusesDecide_12 : decode cX5_refusesDecide 12 = .ok (.ifCond .ne 11, 3) := by decide +kernel
theorem dX5_refusesDecide_15 : decode cX5_refusesDecide 15 = .ok (.aload_n 0, 1) := by decide +kernel
theorem dX5_refusesDecide_16 : decode cX5_refusesDecide 16 = .ok (.iload_n 1, 1) := by decide +kernel
theorem dX5_refusesDecide_17 : decode cX5_refusesDecide 17 = .ok (.invokevirtual 51, 3) := by decide +kernel
theorem dX5_refusesDecide_20 : decode cX5_refusesDecide 20 = .ok (.ifCond .eq 7, 3) := by decide +kernel
theorem dX5_refusesDecide_23 : decode cX5_refusesDecide 23 = .ok (.iconst 1, 1) := by decide +kernel
theorem dX5_refusesDecide_24 : decode cX5_refusesDecide 24 = .ok (.goto 4, 3) := by decide +kernel
theorem dX5_refusesDecide_27 : decode cX5_refusesDecide 27 = .ok (.iconst 0, 1) := by decide +kernel
theorem dX5_refusesDecide_28 : decode cX5_refusesDecide 28 = .ok (.ireturn, 1) := by decide +kernel
theorem dX5_refusesTell_0 : decode cX5_refusesTell 0 = .ok (.aload_n 0, 1) := by decide +kernel
theorem dX5_refusesTell_1 : decode cX5_refusesTell 1 = .ok (.getfield 9, 3) := by decide +kernel
theorem dX5_refusesTell_4 : decode cX5_refusesTell 4 = .ok (.iload_n 1, 1) := by decide +kernel
theorem dX5_refusesTell_5 : decode cX5_refusesTell 5 = .ok (.iload_n 2, 1) := by decide +kernel
theorem dX5_refusesTell_6 : decode cX5_refusesTell 6 = .ok (.invokevirtual 37, 3) := by decide +kernel
theorem dX5_refusesTell_9 : decode cX5_refusesTell 9 = .ok (.istore_n 3, 1) := by decide +kernel
theorem dX5_refusesTell_10 : decode cX5_refusesTell 10 = .ok (.aload_n 0, 1) := by decide +kernel
theorem dX5_refusesTell_11 : decode cX5_refusesTell 11 = .ok (.invokevirtual 40, 3) := by decide +kernel
theorem dX5_refusesTell_14 : decode cX5_refusesTell 14 = .ok (.ifCond .ne 72, 3) := by decide +kernel
theorem dX5_refusesTell_17 : decode cX5_refusesTell 17 = .ok (.aload_n 0, 1) := by decide +kernel
theorem dX5_refusesTell_18 : decode cX5_refusesTell 18 = .ok (.aload_n 0, 1) := by decide +kernel
theorem dX5_refusesTell_19 : decode cX5_refusesTell 19 = .ok (.getfield 9, 3) := by decide +kernel
theorem dX5_refusesTell_22 : decode cX5_refusesTell 22 = .ok (.getfield 54, 3) := by decide +kernel
theorem dX5_refusesTell_25 : decode cX5_refusesTell 25 = .ok (.iload_n 1, 1) := by decide +kernel
theorem dX5_refusesTell_26 : decode cX5_refusesTell 26 = .ok (.iaload, 1) := by decide +kernel
theorem dX5_refusesTell_27 : decode cX5_refusesTell 27 = .ok (.ifCond .ne 7, 3) := by decide +kernel
theorem dX5_refusesTell_30 : decode cX5_refusesTell 30 = .ok (.iconst 1, 1) := by decide +kernel
theorem dX5_refusesTell_31 : decode cX5_refusesTell 31 = .ok (.goto 4, 3) := by decide +kernel
theorem dX5_refusesTell_34 : decode cX5_refusesTell 34 = .ok (.iconst 0, 1) := by decide +kernel
theorem dX5_refusesTell_35 : decode cX5_refusesTell 35 = .ok (.bipush 8, 2) := by decide +kernel
theorem dX5_refusesTell_37 : decode cX5_refusesTell 37 = .ok (.iload_n 1, 1) := by decide +kernel
theorem dX5_refusesTell_38 : decode cX5_refusesTell 38 = .ok (.invokevirtual 21, 3) := by decide +kernel
theorem dX5_refusesTell_41 : decode cX5_refusesTell 41 = .ok (.ifCond .ne 45, 3) := by decide +kernel
theorem dX5_refusesTell_44 : decode cX5_refusesTell 44 = .ok (.aload_n 0, 1) := by decide +kernel
theorem dX5_refusesTell_45 : decode cX5_refusesTell 45 = .ok (.iload_n 1, 1) := by decide +kernel
theorem dX5_refusesTell_46 : decode cX5_refusesTell 46 = .ok (.iload_n 2, 1) := by decide +kernel
theorem dX5_refusesTell_47 : decode cX5_refusesTell 47 = .ok (.invokevirtual 44, 3) := by decide +kernel
theorem dX5_refusesTell_50 : decode cX5_refusesTell 50 = .ok (.ifCond .ne 36, 3) := by decide +kernel
theorem dX5_refusesTell_53 : decode cX5_refusesTell 53 = .ok (.aload_n 0, 1) := by decide +kernel
theorem dX5_refusesTell_54 : decode cX5_refusesTell 54 = .ok (.iload_n 2, 1) := by decide +kernel
theorem dX5_refusesTell_55 : decode cX5_refusesTell 55 = .ok (.invokevirtual 48, 3) := by decide +kernel
theorem dX5_refusesTell_58 : decode cX5_refusesTell 58 = .ok (.ifCond .ne 28, 3) := by decide +kernel
theorem dX5_refusesTell_61 : decode cX5_refusesTell 61 = .ok (.aload_n 0, 1) := by decide +kernel
theorem dX5_refusesTell_62 : decode cX5_refusesTell 62 = .ok (.iload_n 3, 1) := by decide +kernel
theorem dX5_refusesTell_63 : decode cX5_refusesTell 63 = .ok (.iconst 3, 1) := by decide +kernel
theorem dX5_refusesTell_64 : decode cX5_refusesTell 64 = .ok (.if_icmp .eq 8, 3) := by decide +kernel
theorem dX5_refusesTell_67 : decode cX5_refusesTell 67 = .ok (.iload_n 3, 1) := by decide +kernel
theorem dX5_refusesTell_68 : decode cX5_refusesTell 68 = .ok (.iconst 4, 1) := by decide +kernel
theorem dX5_refusesTell_69 : decode cX5_refusesTell 69 = .ok (.if_icmp .ne 7, 3) := by decide +kernel
theorem dX5_refusesTell_72 : decode cX5_refusesTell 72 = .ok (.iconst 1, 1) := by decide +kernel
theorem dX5_refusesTell_73 : decode cX5_refusesTell 73 = .ok (.goto 4, 3) := by decide +kernel
theorem dX5_refusesTell_76 : decode cX5_refusesTell 76 = .ok (.iconst 0, 1) := by decide +kernel
theorem dX5_refusesTell_77 : decode cX5_refusesTell 77 = .ok (.bipush 9, 2) := by decide +kernel
theorem dX5_refusesTell_79 : decode cX5_refusesTell 79 = .ok (.iload_n 3, 1) := by decide +kernel
theorem dX5_refusesTell_80 : decode cX5_refusesTell 80 = .ok (.invokevirtual 21, 3) := by decide +kernel
theorem dX5_refusesTell_83 : decode cX5_refusesTell 83 = .ok (.ifCond .eq 7, 3) := by decide +kernel
theorem dX5_refusesTell_86 : decode cX5_refusesTell 86 = .ok (.iconst 1, 1) := by decide +kernel
theorem dX5_refusesTell_87 : decode cX5_refusesTell 87 = .ok (.goto 4, 3) := by decide +kernel
theorem dX5_refusesTell_90 : decode cX5_refusesTell 90 = .ok (.iconst 0, 1) := by decide +kernel
theorem dX5_refusesTell_91 : decode cX5_refusesTell 91 = .ok (.ireturn, 1) := by decide +kernel
theorem dX5_refusesFaint_0 : decode cX5_refusesFaint 0 = .ok (.aload_n 0, 1) := by decide +kernel
theorem dX5_refusesFaint_1 : decode cX5_refusesFaint 1 = .ok (.invokevirtual 40, 3) := by decide +kernel
theorem dX5_refusesFaint_4 : decode cX5_refusesFaint 4 = .ok (.ireturn, 1) := by decide +kernel
theorem dX5_refusesWake_0 : decode cX5_refusesWake 0 = .ok (.aload_n 0, 1) := by decide +kernel
theorem dX5_refusesWake_1 : decode cX5_refusesWake 1 = .ok (.aload_n 0, 1) := by decide +kernel
theorem dX5_refusesWake_2 : decode cX5_refusesWake 2 = .ok (.getfield 9, 3) := by decide +kernel
theorem dX5_refusesWake_5 : decode cX5_refusesWake 5 = .ok (.getfield 58, 3) := by decide +kernel
theorem dX5_refusesWake_8 : decode cX5_refusesWake 8 = .ok (.bipush 11, 2) := by decide +kernel
theorem dX5_refusesWake_10 : decode cX5_refusesWake 10 = .ok (.aload_n 0, 1) := by decide +kernel
theorem dX5_refusesWake_11 : decode cX5_refusesWake 11 = .ok (.getfield 9, 3) := by decide +kernel
theorem dX5_refusesWake_14 : decode cX5_refusesWake 14 = .ok (.getfield 62, 3) := by decide +kernel
theorem dX5_refusesWake_17 : decode cX5_refusesWake 17 = .ok (.invokevirtual 21, 3) := by decide +kernel
theorem dX5_refusesWake_20 : decode cX5_refusesWake 20 = .ok (.ireturn, 1) := by decide +kernel
theorem dX5_refusesSleep_0 : decode cX5_refusesSleep 0 = .ok (.aload_n 0, 1) := by decide +kernel
theorem dX5_refusesSleep_1 : decode cX5_refusesSleep 1 = .ok (.aload_n 0, 1) := by decide +kernel
theorem dX5_refusesSleep_2 : decode cX5_refusesSleep 2 = .ok (.getfield 9, 3) := by decide +kernel
theorem dX5_refusesSleep_5 : decode cX5_refusesSleep 5 = .ok (.getfield 65, 3) := by decide +kernel
theorem dX5_refusesSleep_8 : decode cX5_refusesSleep 8 = .ok (.iload_n 1, 1) := by decide +kernel
theorem dX5_refusesSleep_9 : decode cX5_refusesSleep 9 = .ok (.baload, 1) := by decide +kernel
theorem dX5_refusesSleep_10 : decode cX5_refusesSleep 10 = .ok (.ifCond .ne 7, 3) := by decide +kernel
theorem dX5_refusesSleep_13 : decode cX5_refusesSleep 13 = .ok (.iconst 1, 1) := by decide +kernel
theorem dX5_refusesSleep_14 : decode cX5_refusesSleep 14 = .ok (.goto 4, 3) := by decide +kernel
theorem dX5_refusesSleep_17 : decode cX5_refusesSleep 17 = .ok (.iconst 0, 1) := by decide +kernel
theorem dX5_refusesSleep_18 : decode cX5_refusesSleep 18 = .ok (.bipush 10, 2) := by decide +kernel
theorem dX5_refusesSleep_20 : decode cX5_refusesSleep 20 = .ok (.iconst 0, 1) := by decide +kernel
theorem dX5_refusesSleep_21 : decode cX5_refusesSleep 21 = .ok (.invokevirtual 21, 3) := by decide +kernel
theorem dX5_refusesSleep_24 : decode cX5_refusesSleep 24 = .ok (.ireturn, 1) := by decide +kernel
theorem dX5_refusesRouse_0 : decode cX5_refusesRouse 0 = .ok (.aload_n 0, 1) := by decide +kernel
theorem dX5_refusesRouse_1 : decode cX5_refusesRouse 1 = .ok (.aload_n 0, 1) := by decide +kernel
theorem dX5_refusesRouse_2 : decode cX5_refusesRouse 2 = .ok (.getfield 9, 3) := by decide +kernel
theorem dX5_refusesRouse_5 : decode cX5_refusesRouse 5 = .ok (.getfield 65, 3) := by decide +kernel
theorem dX5_refusesRouse_8 : decode cX5_refusesRouse 8 = .ok (.iload_n 1, 1) := by decide +kernel
theorem dX5_refusesRouse_9 : decode cX5_refusesRouse 9 = .ok (.baload, 1) := by decide +kernel
theorem dX5_refusesRouse_10 : decode cX5_refusesRouse 10 = .ok (.bipush 10, 2) := by decide +kernel
theorem dX5_refusesRouse_12 : decode cX5_refusesRouse 12 = .ok (.iconst 1, 1) := by decide +kernel
theorem dX5_refusesRouse_13 : decode cX5_refusesRouse 13 = .ok (.invokevirtual 21, 3) := by decide +kernel
theorem dX5_refusesRouse_16 : decode cX5_refusesRouse 16 = .ok (.ireturn, 1) := by decide +kernel
theorem dX5_refusesInquire_0 : decode cX5_refusesInquire 0 = .ok (.aload_n 0, 1) := by decide +kernel
theorem dX5_refusesInquire_1 : decode cX5_refusesInquire 1 = .ok (.getfield 9, 3) := by decide +kernel
theorem dX5_refusesInquire_4 : decode cX5_refusesInquire 4 = .ok (.iload_n 1, 1) := by decide +kernel
theorem dX5_refusesInquire_5 : decode cX5_refusesInquire 5 = .ok (.iload_n 2, 1) := by decide +kernel
theorem dX5_refusesInquire_6 : decode cX5_refusesInquire 6 = .ok (.invokevirtual 37, 3) := by decide +kernel
theorem dX5_refusesInquire_9 : decode cX5_refusesInquire 9 = .ok (.istore 4, 2) := by decide +kernel
theorem dX5_refusesInquire_11 : decode cX5_refusesInquire 11 = .ok (.aload_n 0, 1) := by decide +kernel
theorem dX5_refusesInquire_12 : decode cX5_refusesInquire 12 = .ok (.iload_n 1, 1) := by decide +kernel
theorem dX5_refusesInquire_13 : decode cX5_refusesInquire 13 = .ok (.iload_n 2, 1) := by decide +kernel
theorem dX5_refusesInquire_14 : decode cX5_refusesInquire 14 = .ok (.invokevirtual 44, 3) := by decide +kernel
theorem dX5_refusesInquire_17 : decode cX5_refusesInquire 17 = .ok (.ifCond .ne 78, 3) := by decide +kernel
theorem dX5_refusesInquire_20 : decode cX5_refusesInquire 20 = .ok (.aload_n 0, 1) := by decide +kernel
theorem dX5_refusesInquire_21 : decode cX5_refusesInquire 21 = .ok (.iload_n 1, 1) := by decide +kernel
theorem dX5_refusesInquire_22 : decode cX5_refusesInquire 22 = .ok (.iload_n 3, 1) := by decide +kernel
theorem dX5_refusesInquire_23 : decode cX5_refusesInquire 23 = .ok (.invokevirtual 44, 3) := by decide +kernel
theorem dX5_refusesInquire_26 : decode cX5_refusesInquire 26 = .ok (.ifCond .ne 69, 3) := by decide +kernel
theorem dX5_refusesInquire_29 : decode cX5_refusesInquire 29 = .ok (.aload_n 0, 1) := by decide +kernel
theorem dX5_refusesInquire_30 : decode cX5_refusesInquire 30 = .ok (.iload_n 2, 1) := by decide +kernel
theorem dX5_refusesInquire_31 : decode cX5_refusesInquire 31 = .ok (.invokevirtual 48, 3) := by decide +kernel
theorem dX5_refusesInquire_34 : decode cX5_refusesInquire 34 = .ok (.ifCond .ne 61, 3) := by decide +kernel
theorem dX5_refusesInquire_37 : decode cX5_refusesInquire 37 = .ok (.aload_n 0, 1) := by decide +kernel
theorem dX5_refusesInquire_38 : decode cX5_refusesInquire 38 = .ok (.iload_n 3, 1) := by decide +kernel
theorem dX5_refusesInquire_39 : decode cX5_refusesInquire 39 = .ok (.invokevirtual 48, 3) := by decide +kernel
theorem dX5_refusesInquire_42 : decode cX5_refusesInquire 42 = .ok (.ifCond .ne 53, 3) := by decide +kernel
theorem dX5_refusesInquire_45 : decode cX5_refusesInquire 45 = .ok (.aload_n 0, 1) := by decide +kernel
theorem dX5_refusesInquire_46 : decode cX5_refusesInquire 46 = .ok (.iload 4, 2) := by decide +kernel
theorem dX5_refusesInquire_48 : decode cX5_refusesInquire 48 = .ok (.iconst 1, 1) := by decide +kernel
theorem dX5_refusesInquire_49 : decode cX5_refusesInquire 49 = .ok (.if_icmp .eq 7, 3) := by decide +kernel
theorem dX5_refusesInquire_52 : decode cX5_refusesInquire 52 = .ok (.iconst 1, 1) := by decide +kernel
theorem dX5_refusesInquire_53 : decode cX5_refusesInquire 53 = .ok (.goto 4, 3) := by decide +kernel
theorem dX5_refusesInquire_56 : decode cX5_refusesInquire 56 = .ok (.iconst 0, 1) := by decide +kernel
theorem dX5_refusesInquire_57 : decode cX5_refusesInquire 57 = .ok (.bipush 12, 2) := by decide +kernel
theorem dX5_refusesInquire_59 : decode cX5_refusesInquire 59 = .ok (.iload 4, 2) := by decide +kernel
theorem dX5_refusesInquire_61 : decode cX5_refusesInquire 61 = .ok (.invokevirtual 21, 3) := by decide +kernel
theorem dX5_refusesInquire_64 : decode cX5_refusesInquire 64 = .ok (.ifCond .ne 31, 3) := by decide +kernel
theorem dX5_refusesInquire_67 : decode cX5_refusesInquire 67 = .ok (.aload_n 0, 1) := by decide +kernel
theorem dX5_refusesInquire_68 : decode cX5_refusesInquire 68 = .ok (.aload_n 0, 1) := by decide +kernel
theorem dX5_refusesInquire_69 : decode cX5_refusesInquire 69 = .ok (.getfield 9, 3) := by decide +kernel
theorem dX5_refusesInquire_72 : decode cX5_refusesInquire 72 = .ok (.iload_n 1, 1) := by decide +kernel
theorem dX5_refusesInquire_73 : decode cX5_refusesInquire 73 = .ok (.iload_n 3, 1) := by decide +kernel
theorem dX5_refusesInquire_74 : decode cX5_refusesInquire 74 = .ok (.invokevirtual 37, 3) := by decide +kernel
theorem dX5_refusesInquire_77 : decode cX5_refusesInquire 77 = .ok (.iconst 1, 1) := by decide +kernel
theorem dX5_refusesInquire_78 : decode cX5_refusesInquire 78 = .ok (.if_icmp .ne 7, 3) := by decide +kernel
theorem dX5_refusesInquire_81 : decode cX5_refusesInquire 81 = .ok (.iconst 1, 1) := by decide +kernel
theorem dX5_refusesInquire_82 : decode cX5_refusesInquire 82 = .ok (.goto 4, 3) := by decide +kernel
theorem dX5_refusesInquire_85 : decode cX5_refusesInquire 85 = .ok (.iconst 0, 1) := by decide +kernel
theorem dX5_refusesInquire_86 : decode cX5_refusesInquire 86 = .ok (.bipush 13, 2) := by decide +kernel
theorem dX5_refusesInquire_88 : decode cX5_refusesInquire 88 = .ok (.iload_n 3, 1) := by decide +kernel
theorem dX5_refusesInquire_89 : decode cX5_refusesInquire 89 = .ok (.invokevirtual 21, 3) := by decide +kernel
theorem dX5_refusesInquire_92 : decode cX5_refusesInquire 92 = .ok (.ifCond .eq 7, 3) := by decide +kernel
theorem dX5_refusesInquire_95 : decode cX5_refusesInquire 95 = .ok (.iconst 1, 1) := by decide +kernel
theorem dX5_refusesInquire_96 : decode cX5_refusesInquire 96 = .ok (.goto 4, 3) := by decide +kernel
theorem dX5_refusesInquire_99 : decode cX5_refusesInquire 99 = .ok (.iconst 0, 1) := by decide +kernel
theorem dX5_refusesInquire_100 : decode cX5_refusesInquire 100 = .ok (.ireturn, 1) := by decide +kernel
theorem dX5_hasFainted_0 : decode cX5_hasFainted 0 = .ok (.aload_n 0, 1) := by decide +kernel
theorem dX5_hasFainted_1 : decode cX5_hasFainted 1 = .ok (.aload_n 0, 1) := by decide +kernel
theorem dX5_hasFainted_2 : decode cX5_hasFainted 2 = .ok (.getfield 9, 3) := by decide +kernel
theorem dX5_hasFainted_5 : decode cX5_hasFainted 5 = .ok (.getfield 58, 3) := by decide +kernel
theorem dX5_hasFainted_8 : decode cX5_hasFainted 8 = .ok (.ifCond .ne 7, 3) := by decide +kernel
theorem dX5_hasFainted_11 : decode cX5_hasFainted 11 = .ok (.iconst 1, 1) := by decide +kernel
theorem dX5_hasFainted_12 : decode cX5_hasFainted 12 = .ok (.goto 4, 3) := by decide +kernel
theorem dX5_hasFainted_15 : decode cX5_hasFainted 15 = .ok (.iconst 0, 1) := by decide +kernel
theorem dX5_hasFainted_16 : decode cX5_hasFainted 16 = .ok (.iconst 2, 1) := by decide +kernel
theorem dX5_hasFainted_17 : decode cX5_hasFainted 17 = .ok (.aload_n 0, 1) := by decide +kernel
theorem dX5_hasFainted_18 : decode cX5_hasFainted 18 = .ok (.getfield 9, 3) := by decide +kernel
theorem dX5_hasFainted_21 : decode cX5_hasFainted 21 = .ok (.iconst 0, 1) := by decide +kernel
theorem dX5_hasFainted_22 : decode cX5_hasFainted 22 = .ok (.invokevirtual 69, 3) := by decide +kernel
theorem dX5_hasFainted_25 : decode cX5_hasFainted 25 = .ok (.invokevirtual 21, 3) := by decide +kernel
theorem dX5_hasFainted_28 : decode cX5_hasFainted 28 = .ok (.ireturn, 1) := by decide +kernel
theorem dX5_isNotOpen_0 : decode cX5_isNotOpen 0 = .ok (.aload_n 0, 1) := by decide +kernel
theorem dX5_isNotOpen_1 : decode cX5_isNotOpen 1 = .ok (.aload_n 0, 1) := by decide +kernel
theorem dX5_isNotOpen_2 : decode cX5_isNotOpen 2 = .ok (.getfield 9, 3) := by decide +kernel
theorem dX5_isNotOpen_5 : decode cX5_isNotOpen 5 = .ok (.getfield 54, 3) := by decide +kernel
theorem dX5_isNotOpen_8 : decode cX5_isNotOpen 8 = .ok (.iload_n 1, 1) := by decide +kernel
theorem dX5_isNotOpen_9 : decode cX5_isNotOpen 9 = .ok (.iaload, 1) := by decide +kernel
theorem dX5_isNotOpen_10 : decode cX5_isNotOpen 10 = .ok (.ifCond .eq 7, 3) := by decide +kernel
theorem dX5_isNotOpen_13 : decode cX5_isNotOpen 13 = .ok (.iconst 1, 1) := by decide +kernel
theorem dX5_isNotOpen_14 : decode cX5_isNotOpen 14 = .ok (.goto 4, 3) := by decide +kernel
theorem dX5_isNotOpen_17 : decode cX5_isNotOpen 17 = .ok (.iconst 0, 1) := by decide +kernel
theorem dX5_isNotOpen_18 : decode cX5_isNotOpen 18 = .ok (.iconst 3, 1) := by decide +kernel
theorem dX5_isNotOpen_19 : decode cX5_isNotOpen 19 = .ok (.aload_n 0, 1) := by decide +kernel
theorem dX5_isNotOpen_20 : decode cX5_isNotOpen 20 = .ok (.getfield 9, 3) := by decide +kernel
theorem dX5_isNotOpen_23 : decode cX5_isNotOpen 23 = .ok (.getfield 54, 3) := by decide +kernel
theorem dX5_isNotOpen_26 : decode cX5_isNotOpen 26 = .ok (.iload_n 1, 1) := by decide +kernel
theorem dX5_isNotOpen_27 : decode cX5_isNotOpen 27 = .ok (.iaload, 1) := by decide +kernel
theorem dX5_isNotOpen_28 : decode cX5_isNotOpen 28 = .ok (.invokevirtual 21, 3) := by decide +kernel
theorem dX5_isNotOpen_31 : decode cX5_isNotOpen 31 = .ok (.ireturn, 1) := by decide +kernel
theorem dX5_isNoGuildOf_0 : decode cX5_isNoGuildOf 0 = .ok (.aload_n 0, 1) := by decide +kernel
theorem dX5_isNoGuildOf_1 : decode cX5_isNoGuildOf 1 = .ok (.aload_n 0, 1) := by decide +kernel
theorem dX5_isNoGuildOf_2 : decode cX5_isNoGuildOf 2 = .ok (.getfield 9, 3) := by decide +kernel
theorem dX5_isNoGuildOf_5 : decode cX5_isNoGuildOf 5 = .ok (.iload_n 1, 1) := by decide +kernel
theorem dX5_isNoGuildOf_6 : decode cX5_isNoGuildOf 6 = .ok (.iload_n 2, 1) := by decide +kernel
theorem dX5_isNoGuildOf_7 : decode cX5_isNoGuildOf 7 = .ok (.invokevirtual 72, 3) := by decide +kernel
theorem dX5_isNoGuildOf_10 : decode cX5_isNoGuildOf 10 = .ok (.ifCond .ne 7, 3) := by decide +kernel
theorem dX5_isNoGuildOf_13 : decode cX5_isNoGuildOf 13 = .ok (.iconst 1, 1) := by decide +kernel
theorem dX5_isNoGuildOf_14 : decode cX5_isNoGuildOf 14 = .ok (.goto 4, 3) := by decide +kernel
theorem dX5_isNoGuildOf_17 : decode cX5_isNoGuildOf 17 = .ok (.iconst 0, 1) := by decide +kernel
theorem dX5_isNoGuildOf_18 : decode cX5_isNoGuildOf 18 = .ok (.iconst 4, 1) := by decide +kernel
theorem dX5_isNoGuildOf_19 : decode cX5_isNoGuildOf 19 = .ok (.iload_n 2, 1) := by decide +kernel
theorem dX5_isNoGuildOf_20 : decode cX5_isNoGuildOf 20 = .ok (.invokevirtual 21, 3) := by decide +kernel
theorem dX5_isNoGuildOf_23 : decode cX5_isNoGuildOf 23 = .ok (.ireturn, 1) := by decide +kernel
theorem dX5_isAsleep_0 : decode cX5_isAsleep 0 = .ok (.aload_n 0, 1) := by decide +kernel
theorem dX5_isAsleep_1 : decode cX5_isAsleep 1 = .ok (.aload_n 0, 1) := by decide +kernel
theorem dX5_isAsleep_2 : decode cX5_isAsleep 2 = .ok (.getfield 9, 3) := by decide +kernel
theorem dX5_isAsleep_5 : decode cX5_isAsleep 5 = .ok (.getfield 65, 3) := by decide +kernel
theorem dX5_isAsleep_8 : decode cX5_isAsleep 8 = .ok (.iload_n 1, 1) := by decide +kernel
theorem dX5_isAsleep_9 : decode cX5_isAsleep 9 = .ok (.baload, 1) := by decide +kernel
theorem dX5_isAsleep_10 : decode cX5_isAsleep 10 = .ok (.ifCond .ne 7, 3) := by decide +kernel
theorem dX5_isAsleep_13 : decode cX5_isAsleep 13 = .ok (.iconst 1, 1) := by decide +kernel
theorem dX5_isAsleep_14 : decode cX5_isAsleep 14 = .ok (.goto 4, 3) := by decide +kernel
theorem dX5_isAsleep_17 : decode cX5_isAsleep 17 = .ok (.iconst 0, 1) := by decide +kernel
theorem dX5_isAsleep_18 : decode cX5_isAsleep 18 = .ok (.iconst 5, 1) := by decide +kernel
theorem dX5_isAsleep_19 : decode cX5_isAsleep 19 = .ok (.iload_n 1, 1) := by decide +kernel
theorem dX5_isAsleep_20 : decode cX5_isAsleep 20 = .ok (.invokevirtual 21, 3) := by decide +kernel
theorem dX5_isAsleep_23 : decode cX5_isAsleep 23 = .ok (.ireturn, 1) := by decide +kernel
theorem dX5_isUndecided_0 : decode cX5_isUndecided 0 = .ok (.aload_n 0, 1) := by decide +kernel
theorem dX5_isUndecided_1 : decode cX5_isUndecided 1 = .ok (.getfield 9, 3) := by decide +kernel
theorem dX5_isUndecided_4 : decode cX5_isUndecided 4 = .ok (.iload_n 1, 1) := by decide +kernel
theorem dX5_isUndecided_5 : decode cX5_isUndecided 5 = .ok (.invokevirtual 75, 3) := by decide +kernel
theorem dX5_isUndecided_8 : decode cX5_isUndecided 8 = .ok (.istore_n 2, 1) := by decide +kernel
theorem dX5_isUndecided_9 : decode cX5_isUndecided 9 = .ok (.iload_n 2, 1) := by decide +kernel
theorem dX5_isUndecided_10 : decode cX5_isUndecided 10 = .ok (.bipush 6, 2) := by decide +kernel
theorem dX5_isUndecided_12 : decode cX5_isUndecided 12 = .ok (.if_icmp .lt 14, 3) := by decide +kernel
theorem dX5_isUndecided_15 : decode cX5_isUndecided 15 = .ok (.aload_n 0, 1) := by decide +kernel
theorem dX5_isUndecided_16 : decode cX5_isUndecided 16 = .ok (.getfield 9, 3) := by decide +kernel
theorem dX5_isUndecided_19 : decode cX5_isUndecided 19 = .ok (.iload_n 1, 1) := by decide +kernel
theorem dX5_isUndecided_20 : decode cX5_isUndecided 20 = .ok (.invokevirtual 78, 3) := by decide +kernel
theorem dX5_isUndecided_23 : decode cX5_isUndecided 23 = .ok (.ifCond .ne 7, 3) := by decide +kernel
theorem dX5_isUndecided_26 : decode cX5_isUndecided 26 = .ok (.iconst 1, 1) := by decide +kernel
theorem dX5_isUndecided_27 : decode cX5_isUndecided 27 = .ok (.goto 4, 3) := by decide +kernel
theorem dX5_isUndecided_30 : decode cX5_isUndecided 30 = .ok (.iconst 0, 1) := by decide +kernel
theorem dX5_isUndecided_31 : decode cX5_isUndecided 31 = .ok (.istore_n 3, 1) := by decide +kernel
theorem dX5_isUndecided_32 : decode cX5_isUndecided 32 = .ok (.aload_n 0, 1) := by decide +kernel
theorem dX5_isUndecided_33 : decode cX5_isUndecided 33 = .ok (.iload_n 3, 1) := by decide +kernel
theorem dX5_isUndecided_34 : decode cX5_isUndecided 34 = .ok (.ifCond .eq 18, 3) := by decide +kernel
theorem dX5_isUndecided_37 : decode cX5_isUndecided 37 = .ok (.aload_n 0, 1) := by decide +kernel
theorem dX5_isUndecided_38 : decode cX5_isUndecided 38 = .ok (.getfield 9, 3) := by decide +kernel
theorem dX5_isUndecided_41 : decode cX5_isUndecided 41 = .ok (.iload_n 1, 1) := by decide +kernel
theorem dX5_isUndecided_42 : decode cX5_isUndecided 42 = .ok (.invokevirtual 81, 3) := by decide +kernel
theorem dX5_isUndecided_45 : decode cX5_isUndecided 45 = .ok (.ifCond .ne 7, 3) := by decide +kernel
theorem dX5_isUndecided_48 : decode cX5_isUndecided 48 = .ok (.iconst 1, 1) := by decide +kernel
theorem dX5_isUndecided_49 : decode cX5_isUndecided 49 = .ok (.goto 4, 3) := by decide +kernel
theorem dX5_isUndecided_52 : decode cX5_isUndecided 52 = .ok (.iconst 0, 1) := by decide +kernel
theorem dX5_isUndecided_53 : decode cX5_isUndecided 53 = .ok (.bipush 7, 2) := by decide +kernel
theorem dX5_isUndecided_55 : decode cX5_isUndecided 55 = .ok (.iload_n 2, 1) := by decide +kernel
theorem dX5_isUndecided_56 : decode cX5_isUndecided 56 = .ok (.invokevirtual 21, 3) := by decide +kernel
theorem dX5_isUndecided_59 : decode cX5_isUndecided 59 = .ok (.ireturn, 1) := by decide +kernel
theorem dX5_keepIf_0 : decode cX5_keepIf 0 = .ok (.iload_n 1, 1) := by decide +kernel
theorem dX5_keepIf_1 : decode cX5_keepIf 1 = .ok (.ifCond .eq 13, 3) := by decide +kernel
theorem dX5_keepIf_4 : decode cX5_keepIf 4 = .ok (.aload_n 0, 1) := by decide +kernel
theorem dX5_keepIf_5 : decode cX5_keepIf 5 = .ok (.iload_n 2, 1) := by decide +kernel
theorem dX5_keepIf_6 : decode cX5_keepIf 6 = .ok (.putfield 84, 3) := by decide +kernel
theorem dX5_keepIf_9 : decode cX5_keepIf 9 = .ok (.aload_n 0, 1) := by decide +kernel
theorem dX5_keepIf_10 : decode cX5_keepIf 10 = .ok (.iload_n 3, 1) := by decide +kernel
theorem dX5_keepIf_11 : decode cX5_keepIf 11 = .ok (.putfield 87, 3) := by decide +kernel
theorem dX5_keepIf_14 : decode cX5_keepIf 14 = .ok (.iload_n 1, 1) := by decide +kernel
theorem dX5_keepIf_15 : decode cX5_keepIf 15 = .ok (.ireturn, 1) := by decide +kernel
theorem dX6_init_0 : decode cX6_init 0 = .ok (.aload_n 0, 1) := by decide +kernel
theorem dX6_init_1 : decode cX6_init 1 = .ok (.invokespecial 1, 3) := by decide +kernel
theorem dX6_init_4 : decode cX6_init 4 = .ok (.aload_n 0, 1) := by decide +kernel
theorem dX6_init_5 : decode cX6_init 5 = .ok (.new 7, 3) := by decide +kernel
theorem dX6_init_8 : decode cX6_init 8 = .ok (.dup, 1) := by decide +kernel
theorem dX6_init_9 : decode cX6_init 9 = .ok (.invokespecial 9, 3) := by decide +kernel
theorem dX6_init_12 : decode cX6_init 12 = .ok (.putfield 10, 3) := by decide +kernel
theorem dX6_init_15 : decode cX6_init 15 = .ok (.aload_n 0, 1) := by decide +kernel
theorem dX6_init_16 : decode cX6_init 16 = .ok (.new 7, 3) := by decide +kernel
theorem dX6_init_19 : decode cX6_init 19 = .ok (.dup, 1) := by decide +kernel
theorem dX6_init_20 : decode cX6_init 20 = .ok (.invokespecial 9, 3) := by decide +kernel
theorem dX6_init_23 : decode cX6_init 23 = .ok (.putfield 16, 3) := by decide +kernel
theorem dX6_init_26 : decode cX6_init 26 = .ok (.aload_n 0, 1) := by decide +kernel
theorem dX6_init_27 : decode cX6_init 27 = .ok (.new 7, 3) := by decide +kernel
theorem dX6_init_30 : decode cX6_init 30 = .ok (.dup, 1) := by decide +kernel
theorem dX6_init_31 : decode cX6_init 31 = .ok (.invokespecial 9, 3) := by decide +kernel
theorem dX6_init_34 : decode cX6_init 34 = .ok (.putfield 19, 3) := by decide +kernel
theorem dX6_init_37 : decode cX6_init 37 = .ok (.aload_n 0, 1) := by decide +kernel
theorem dX6_init_38 : decode cX6_init 38 = .ok (.new 22, 3) := by decide +kernel
theorem dX6_init_41 : decode cX6_init 41 = .ok (.dup, 1) := by decide +kernel
theorem dX6_init_42 : decode cX6_init 42 = .ok (.invokespecial 24, 3) := by decide +kernel
theorem dX6_init_45 : decode cX6_init 45 = .ok (.putfield 25, 3) := by decide +kernel
theorem dX6_init_48 : decode cX6_init 48 = .ok (.aload_n 0, 1) := by decide +kernel
theorem dX6_init_49 : decode cX6_init 49 = .ok (.new 29, 3) := by decide +kernel
theorem dX6_init_52 : decode cX6_init 52 = .ok (.dup, 1) := by decide +kernel
theorem dX6_init_53 : decode cX6_init 53 = .ok (.aload_n 0, 1) := by decide +kernel
theorem dX6_init_54 : decode cX6_init 54 = .ok (.getfield 10, 3) := by decide +kernel
theorem dX6_init_57 : decode cX6_init 57 = .ok (.invokespecial 31, 3) := by decide +kernel
theorem dX6_init_60 : decode cX6_init 60 = .ok (.putfield 34, 3) := by decide +kernel
theorem dX6_init_63 : decode cX6_init 63 = .ok (.aload_n 0, 1) := by decide +kernel
theorem dX6_init_64 : decode cX6_init 64 = .ok (.new 38, 3) := by decide +kernel
theorem dX6_init_67 : decode cX6_init 67 = .ok (.dup, 1) := by decide +kernel
theorem dX6_init_68 : decode cX6_init 68 = .ok (.invokespecial 40, 3) := by decide +kernel
theorem dX6_init_71 : decode cX6_init 71 = .ok (.putfield 41, 3) := by decide +kernel
theorem dX6_init_74 : decode cX6_init 74 = .ok (.aload_n 0, 1) := by decide +kernel
theorem dX6_init_75 : decode cX6_init 75 = .ok (.new 45, 3) := by decide +kernel
theorem dX6_init_78 : decode cX6_init 78 = .ok (.dup, 1) := by decide +kernel
theorem dX6_init_79 : decode cX6_init 79 = .ok (.aload_n 0, 1) := by decide +kernel
theorem dX6_init_80 : decode cX6_init 80 = .ok (.getfield 10, 3) := by decide +kernel
theorem dX6_init_83 : decode cX6_init 83 = .ok (.aload_n 0, 1) := by decide +kernel
theorem dX6_init_84 : decode cX6_init 84 = .ok (.getfield 34, 3) := by decide +kernel
theorem dX6_init_87 : decode cX6_init 87 = .ok (.invokespecial 47, 3) := by decide +kernel
theorem dX6_init_90 : decode cX6_init 90 = .ok (.putfield 50, 3) := by decide +kernel
theorem dX6_init_93 : decode cX6_init 93 = .ok (.aload_n 0, 1) := by decide +kernel
theorem dX6_init_94 : decode cX6_init 94 = .ok (.new 54, 3) := by decide +kernel
theorem dX6_init_97 : decode cX6_init 97 = .ok (.dup, 1) := by decide +kernel
theorem dX6_init_98 : decode cX6_init 98 = .ok (.invokespecial 56, 3) := by decide +kernel
theorem dX6_init_101 : decode cX6_init 101 = .ok (.putfield 57, 3) := by decide +kernel
theorem dX6_init_104 : decode cX6_init 104 = .ok (.return_, 1) := by decide +kernel
theorem dX6_matter_0 : decode cX6_matter 0 = .ok (.aload_n 0, 1) := by decide +kernel
theorem dX6_matter_1 : decode cX6_matter 1 = .ok (.aload_n 0, 1) := by decide +kernel
theorem dX6_matter_2 : decode cX6_matter 2 = .ok (.getfield 34, 3) := by decide +kernel
theorem dX6_matter_5 : decode cX6_matter 5 = .ok (.invokevirtual 61, 3) := by decide +kernel
theorem dX6_matter_8 : decode cX6_matter 8 = .ok (.invokevirtual 65, 3) := by decide +kernel
theorem dX6_matter_11 : decode cX6_matter 11 = .ok (.aload_n 0, 1) := by decide +kernel
theorem dX6_matter_12 : decode cX6_matter 12 = .ok (.getfield 10, 3) := by decide +kernel
theorem dX6_matter_15 : decode cX6_matter 15 = .ok (.invokevirtual 69, 3) := by decide +kernel
theorem dX6_matter_18 : decode cX6_matter 18 = .ok (.ireturn, 1) := by decide +kernel
theorem dX6_set_0 : decode cX6_set 0 = .ok (.aload_n 0, 1) := by decide +kernel
theorem dX6_set_1 : decode cX6_set 1 = .ok (.iload_n 1, 1) := by decide +kernel
theorem dX6_set_2 : decode cX6_set 2 = .ok (.invokevirtual 73, 3) := by decide +kernel
theorem dX6_set_5 : decode cX6_set 5 = .ok (.aload_n 0, 1) := by decide +kernel
theorem dX6_set_6 : decode cX6_set 6 = .ok (.getfield 10, 3) := by decide +kernel
theorem dX6_set_9 : decode cX6_set 9 = .ok (.iload_n 2, 1) := by decide +kernel
theorem dX6_set_10 : decode cX6_set 10 = .ok (.invokevirtual 77, 3) := by decide +kernel
theorem dX6_set_13 : decode cX6_set 13 = .ok (.ifCond .ne 13, 3) := by decide +kernel
theorem dX6_set_16 : decode cX6_set 16 = .ok (.new 81, 3) := by decide +kernel
theorem dX6_set_19 : decode cX6_set 19 = .ok (.dup, 1) := by decide +kernel
theorem dX6_set_20 : decode cX6_set 20 = .ok (.ldc 83, 2) := by decide +kernel
theorem dX6_set_22 : decode cX6_set 22 = .ok (.invokespecial 85, 3) := by decide +kernel
theorem dX6_set_25 : decode cX6_set 25 = .ok (.athrow, 1) := by decide +kernel
theorem dX6_set_26 : decode cX6_set 26 = .ok (.aload_n 0, 1) := by decide +kernel
theorem dX6_set_27 : decode cX6_set 27 = .ok (.iload_n 3, 1) := by decide +kernel
theorem dX6_set_28 : decode cX6_set 28 = .ok (.bipush (-50), 2) := by decide +kernel
theorem dX6_set_30 : decode cX6_set 30 = .ok (.bipush 50, 2) := by decide +kernel
theorem dX6_set_32 : decode cX6_set 32 = .ok (.invokevirtual 88, 3) := by decide +kernel
theorem dX6_set_35 : decode cX6_set 35 = .ok (.aload_n 0, 1) := by decide +kernel
theorem dX6_set_36 : decode cX6_set 36 = .ok (.aload_n 0, 1) := by decide +kernel
theorem dX6_set_37 : decode cX6_set 37 = .ok (.getfield 34, 3) := by decide +kernel
theorem dX6_set_40 : decode cX6_set 40 = .ok (.iload_n 1, 1) := by decide +kernel
theorem dX6_set_41 : decode cX6_set 41 = .ok (.iload_n 2, 1) := by decide +kernel
theorem dX6_set_42 : decode cX6_set 42 = .ok (.iload_n 3, 1) := by decide +kernel
theorem dX6_set_43 : decode cX6_set 43 = .ok (.invokevirtual 92, 3) := by decide +kernel
theorem dX6_set_46 : decode cX6_set 46 = .ok (.invokevirtual 65, 3) := by decide +kernel
theorem dX6_set_49 : decode cX6_set 49 = .ok (.aload_n 0, 1) := by decide +kernel
theorem dX6_set_50 : decode cX6_set 50 = .ok (.getfield 10, 3) := by decide +kernel
theorem dX6_set_53 : decode cX6_set 53 = .ok (.iload_n 1, 1) := by decide +kernel
theorem dX6_set_54 : decode cX6_set 54 = .ok (.iload_n 2, 1) := by decide +kernel
theorem dX6_set_55 : decode cX6_set 55 = .ok (.iload_n 3, 1) := by decide +kernel
theorem dX6_set_56 : decode cX6_set 56 = .ok (.invokevirtual 96, 3) := by decide +kernel
theorem dX6_set_59 : decode cX6_set 59 = .ok (.ireturn, 1) := by decide +kernel
theorem dX6_matterOf_0 : decode cX6_matterOf 0 = .ok (.aload_n 0, 1) := by decide +kernel
theorem dX6_matterOf_1 : decode cX6_matterOf 1 = .ok (.iload_n 1, 1) := by decide +kernel
theorem dX6_matterOf_2 : decode cX6_matterOf 2 = .ok (.invokevirtual 73, 3) := by decide +kernel
theorem dX6_matterOf_5 : decode cX6_matterOf 5 = .ok (.aload_n 0, 1) := by decide +kernel
theorem dX6_matterOf_6 : decode cX6_matterOf 6 = .ok (.iload_n 2, 1) := by decide +kernel
theorem dX6_matterOf_7 : decode cX6_matterOf 7 = .ok (.iconst 0, 1) := by decide +kernel
theorem dX6_matterOf_8 : decode cX6_matterOf 8 = .ok (.bipush 7, 2) := by decide +kernel
theorem dX6_matterOf_10 : decode cX6_matterOf 10 = .ok (.invokevirtual 88, 3) := by decide +kernel
theorem dX6_matterOf_13 : decode cX6_matterOf 13 = .ok (.aload_n 0, 1) := by decide +kernel
theorem dX6_matterOf_14 : decode cX6_matterOf 14 = .ok (.getfield 10, 3) := by decide +kernel
theorem dX6_matterOf_17 : decode cX6_matterOf 17 = .ok (.iload_n 1, 1) := by decide +kernel
theorem dX6_matterOf_18 : decode cX6_matterOf 18 = .ok (.iload_n 2, 1) := by decide +kernel
theorem dX6_matterOf_19 : decode cX6_matterOf 19 = .ok (.invokevirtual 100, 3) := by decide +kernel
theorem dX6_matterOf_22 : decode cX6_matterOf 22 = .ok (.ireturn, 1) := by decide +kernel
theorem dX6_answer_0 : decode cX6_answer 0 = .ok (.aload_n 0, 1) := by decide +kernel
theorem dX6_answer_1 : decode cX6_answer 1 = .ok (.iload_n 1, 1) := by decide +kernel
theorem dX6_answer_2 : decode cX6_answer 2 = .ok (.invokevirtual 73, 3) := by decide +kernel
theorem dX6_answer_5 : decode cX6_answer 5 = .ok (.aload_n 0, 1) := by decide +kernel
theorem dX6_answer_6 : decode cX6_answer 6 = .ok (.iload_n 2, 1) := by decide +kernel
theorem dX6_answer_7 : decode cX6_answer 7 = .ok (.invokevirtual 104, 3) := by decide +kernel
theorem dX6_answer_10 : decode cX6_answer 10 = .ok (.aload_n 0, 1) := by decide +kernel
theorem dX6_answer_11 : decode cX6_answer 11 = .ok (.getfield 10, 3) := by decide +kernel
theorem dX6_answer_14 : decode cX6_answer 14 = .ok (.iload_n 1, 1) := by decide +kernel
theorem dX6_answer_15 : decode cX6_answer 15 = .ok (.iload_n 2, 1) := by decide +kernel
theorem dX6_answer_16 : decode cX6_answer 16 = .ok (.invokevirtual 107, 3) := by decide +kernel
theorem dX6_answer_19 : decode cX6_answer 19 = .ok (.ifCond .eq 15, 3) := by decide +kernel
theorem dX6_answer_22 : decode cX6_answer 22 = .ok (.aload_n 0, 1) := by decide +kernel
theorem dX6_answer_23 : decode cX6_answer 23 = .ok (.getfield 10, 3) := by decide +kernel
theorem dX6_answer_26 : decode cX6_answer 26 = .ok (.iload_n 1, 1) := by decide +kernel
theorem dX6_answer_27 : decode cX6_answer 27 = .ok (.iload_n 2, 1) := by decide +kernel
theorem dX6_answer_28 : decode cX6_answer 28 = .ok (.invokevirtual 111, 3) := by decide +kernel
theorem dX6_answer_31 : decode cX6_answer 31 = .ok (.goto 4, 3) := by decide +kernel
theorem dX6_answer_34 : decode cX6_answer 34 = .ok (.iconst (-1), 1) := by decide +kernel
theorem dX6_answer_35 : decode cX6_answer 35 = .ok (.ireturn, 1) := by decide +kernel
theorem dX6_amount_0 : decode cX6_amount 0 = .ok (.aload_n 0, 1) := by decide +kernel
theorem dX6_amount_1 : decode cX6_amount 1 = .ok (.iload_n 1, 1) := by decide +kernel
theorem dX6_amount_2 : decode cX6_amount 2 = .ok (.invokevirtual 73, 3) := by decide +kernel
theorem dX6_amount_5 : decode cX6_amount 5 = .ok (.aload_n 0, 1) := by decide +kernel
theorem dX6_amount_6 : decode cX6_amount 6 = .ok (.iload_n 2, 1) := by decide +kernel
theorem dX6_amount_7 : decode cX6_amount 7 = .ok (.invokevirtual 104, 3) := by decide +kernel
theorem dX6_amount_10 : decode cX6_amount 10 = .ok (.aload_n 0, 1) := by decide +kernel
theorem dX6_amount_11 : decode cX6_amount 11 = .ok (.getfield 10, 3) := by decide +kernel
theorem dX6_amount_14 : decode cX6_amount 14 = .ok (.iload_n 1, 1) := by decide +kernel
theorem dX6_amount_15 : decode cX6_amount 15 = .ok (.iload_n 2, 1) := by decide +kernel
theorem dX6_amount_16 : decode cX6_amount 16 = .ok (.invokevirtual 114, 3) := by decide +kernel
theorem dX6_amount_19 : decode cX6_amount 19 = .ok (.ireturn, 1) := by decide +kernel
theorem dX6_ask_0 : decode cX6_ask 0 = .ok (.aload_n 0, 1) := by decide +kernel
theorem dX6_ask_1 : decode cX6_ask 1 = .ok (.iload_n 1, 1) := by decide +kernel
theorem dX6_ask_2 : decode cX6_ask 2 = .ok (.invokevirtual 73, 3) := by decide +kernel
theorem dX6_ask_5 : decode cX6_ask 5 = .ok (.aload_n 0, 1) := by decide +kernel
theorem dX6_ask_6 : decode cX6_ask 6 = .ok (.iload_n 2, 1) := by decide +kernel
theorem dX6_ask_7 : decode cX6_ask 7 = .ok (.invokevirtual 104, 3) := by decide +kernel
theorem dX6_ask_10 : decode cX6_ask 10 = .ok (.aload_n 0, 1) := by decide +kernel
theorem dX6_ask_11 : decode cX6_ask 11 = .ok (.aload_n 0, 1) := by decide +kernel
theorem dX6_ask_12 : decode cX6_ask 12 = .ok (.getfield 34, 3) := by decide +kernel
theorem dX6_ask_15 : decode cX6_ask 15 = .ok (.iload_n 1, 1) := by decide +kernel
theorem dX6_ask_16 : decode cX6_ask 16 = .ok (.iload_n 2, 1) := by decide +kernel
theorem dX6_ask_17 : decode cX6_ask 17 = .ok (.invokevirtual 117, 3) := by decide +kernel
theorem dX6_ask_20 : decode cX6_ask 20 = .ok (.invokevirtual 65, 3) := by decide +kernel
theorem dX6_ask_23 : decode cX6_ask 23 = .ok (.aload_n 0, 1) := by decide +kernel
theorem dX6_ask_24 : decode cX6_ask 24 = .ok (.getfield 10, 3) := by decide +kernel
theorem dX6_ask_27 : decode cX6_ask 27 = .ok (.iload_n 1, 1) := by decide +kernel
theorem dX6_ask_28 : decode cX6_ask 28 = .ok (.iload_n 2, 1) := by decide +kernel
theorem dX6_ask_29 : decode cX6_ask 29 = .ok (.invokevirtual 120, 3) := by decide +kernel
theorem dX6_ask_32 : decode cX6_ask 32 = .ok (.ireturn, 1) := by decide +kernel
theorem dX6_decide_0 : decode cX6_decide 0 = .ok (.aload_n 0, 1) := by decide +kernel
theorem dX6_decide_1 : decode cX6_decide 1 = .ok (.iload_n 1, 1) := by decide +kernel
theorem dX6_decide_2 : decode cX6_decide 2 = .ok (.invokevirtual 73, 3) := by decide +kernel
theorem dX6_decide_5 : decode cX6_decide 5 = .ok (.aload_n 0, 1) := by decide +kernel
theorem dX6_decide_6 : decode cX6_decide 6 = .ok (.aload_n 0, 1) := by decide +kernel
theorem dX6_decide_7 : decode cX6_decide 7 = .ok (.getfield 34, 3) := by decide +kernel
theorem dX6_decide_10 : decode cX6_decide 10 = .ok (.iload_n 1, 1) := by decide +kernel
theorem dX6_decide_11 : decode cX6_decide 11 = .ok (.invokevirtual 123, 3) := by decide +kernel
theorem dX6_decide_14 : decode cX6_decide 14 = .ok (.invokevirtual 65, 3) := by decide +kernel
theorem dX6_decide_17 : decode cX6_decide 17 = .ok (.aload_n 0, 1) := by decide +kernel
theorem dX6_decide_18 : decode cX6_decide 18 = .ok (.getfield 10, 3) := by decide +kernel
theorem dX6_decide_21 : decode cX6_decide 21 = .ok (.iload_n 1, 1) := by decide +kernel
theorem dX6_decide_22 : decode cX6_decide 22 = .ok (.invokevirtual 126, 3) := by decide +kernel
theorem dX6_decide_25 : decode cX6_decide 25 = .ok (.ireturn, 1) := by decide +kernel
theorem dX6_tell_0 : decode cX6_tell 0 = .ok (.aload_n 0, 1) := by decide +kernel
theorem dX6_tell_1 : decode cX6_tell 1 = .ok (.iload_n 1, 1) := by decide +kernel
theorem dX6_tell_2 : decode cX6_tell 2 = .ok (.invokevirtual 73, 3) := by decide +kernel
theorem dX6_tell_5 : decode cX6_tell 5 = .ok (.aload_n 0, 1) := by decide +kernel
theorem dX6_tell_6 : decode cX6_tell 6 = .ok (.iload_n 2, 1) := by decide +kernel
theorem dX6_tell_7 : decode cX6_tell 7 = .ok (.invokevirtual 104, 3) := by decide +kernel
theorem dX6_tell_10 : decode cX6_tell 10 = .ok (.aload_n 0, 1) := by decide +kernel
theorem dX6_tell_11 : decode cX6_tell 11 = .ok (.aload_n 0, 1) := by decide +kernel
theorem dX6_tell_12 : decode cX6_tell 12 = .ok (.getfield 34, 3) := by decide +kernel
theorem dX6_tell_15 : decode cX6_tell 15 = .ok (.iload_n 1, 1) := by decide +kernel
theorem dX6_tell_16 : decode cX6_tell 16 = .ok (.iload_n 2, 1) := by decide +kernel
theorem dX6_tell_17 : decode cX6_tell 17 = .ok (.invokevirtual 130, 3) := by decide +kernel
theorem dX6_tell_20 : decode cX6_tell 20 = .ok (.invokevirtual 65, 3) := by decide +kernel
theorem dX6_tell_23 : decode cX6_tell 23 = .ok (.aload_n 0, 1) := by decide +kernel
theorem dX6_tell_24 : decode cX6_tell 24 = .ok (.getfield 10, 3) := by decide +kernel
theorem dX6_tell_27 : decode cX6_tell 27 = .ok (.iload_n 1, 1) := by decide +kernel
theorem dX6_tell_28 : decode cX6_tell 28 = .ok (.iload_n 2, 1) := by decide +kernel
theorem dX6_tell_29 : decode cX6_tell 29 = .ok (.invokevirtual 133, 3) := by decide +kernel
theorem dX6_tell_32 : decode cX6_tell 32 = .ok (.ireturn, 1) := by decide +kernel
theorem dX6_faint_0 : decode cX6_faint 0 = .ok (.aload_n 0, 1) := by decide +kernel
theorem dX6_faint_1 : decode cX6_faint 1 = .ok (.aload_n 0, 1) := by decide +kernel
theorem dX6_faint_2 : decode cX6_faint 2 = .ok (.getfield 34, 3) := by decide +kernel
theorem dX6_faint_5 : decode cX6_faint 5 = .ok (.invokevirtual 136, 3) := by decide +kernel
theorem dX6_faint_8 : decode cX6_faint 8 = .ok (.invokevirtual 65, 3) := by decide +kernel
theorem dX6_faint_11 : decode cX6_faint 11 = .ok (.aload_n 0, 1) := by decide +kernel
theorem dX6_faint_12 : decode cX6_faint 12 = .ok (.getfield 10, 3) := by decide +kernel
theorem dX6_faint_15 : decode cX6_faint 15 = .ok (.invokevirtual 139, 3) := by decide +kernel
theorem dX6_faint_18 : decode cX6_faint 18 = .ok (.ireturn, 1) := by decide +kernel
theorem dX6_wake_0 : decode cX6_wake 0 = .ok (.aload_n 0, 1) := by decide +kernel
theorem dX6_wake_1 : decode cX6_wake 1 = .ok (.aload_n 0, 1) := by decide +kernel
theorem dX6_wake_2 : decode cX6_wake 2 = .ok (.getfield 34, 3) := by decide +kernel
theorem dX6_wake_5 : decode cX6_wake 5 = .ok (.invokevirtual 142, 3) := by decide +kernel
theorem dX6_wake_8 : decode cX6_wake 8 = .ok (.invokevirtual 65, 3) := by decide +kernel
theorem dX6_wake_11 : decode cX6_wake 11 = .ok (.aload_n 0, 1) := by decide +kernel
theorem dX6_wake_12 : decode cX6_wake 12 = .ok (.getfield 10, 3) := by decide +kernel
theorem dX6_wake_15 : decode cX6_wake 15 = .ok (.invokevirtual 145, 3) := by decide +kernel
theorem dX6_wake_18 : decode cX6_wake 18 = .ok (.ireturn, 1) := by decide +kernel
theorem dX6_isAwake_0 : decode cX6_isAwake 0 = .ok (.aload_n 0, 1) := by decide +kernel
theorem dX6_isAwake_1 : decode cX6_isAwake 1 = .ok (.getfield 10, 3) := by decide +kernel
theorem dX6_isAwake_4 : decode cX6_isAwake 4 = .ok (.getfield 148, 3) := by decide +kernel
theorem dX6_isAwake_7 : decode cX6_isAwake 7 = .ok (.ireturn, 1) := by decide +kernel
theorem dX6_book_0 : decode cX6_book 0 = .ok (.iload_n 1, 1) := by decide +kernel
theorem dX6_book_1 : decode cX6_book 1 = .ok (.ifCond .lt 14, 3) := by decide +kernel
theorem dX6_book_4 : decode cX6_book 4 = .ok (.iload_n 1, 1) := by decide +kernel
theorem dX6_book_5 : decode cX6_book 5 = .ok (.aload_n 0, 1) := by decide +kernel
theorem dX6_book_6 : decode cX6_book 6 = .ok (.getfield 10, 3) := by decide +kernel
theorem dX6_book_9 : decode cX6_book 9 = .ok (.getfield 152, 3) := by decide +kernel
theorem dX6_book_12 : decode cX6_book 12 = .ok (.if_icmp .lt 13, 3) := by decide +kernel
theorem dX6_book_15 : decode cX6_book 15 = .ok (.new 81, 3) := by decide +kernel
theorem dX6_book_18 : decode cX6_book 18 = .ok (.dup, 1) := by decide +kernel
theorem dX6_book_19 : decode cX6_book 19 = .ok (.ldc 156, 2) := by decide +kernel
theorem dX6_book_21 : decode cX6_book 21 = .ok (.invokespecial 85, 3) := by decide +kernel
theorem dX6_book_24 : decode cX6_book 24 = .ok (.athrow, 1) := by decide +kernel
theorem dX6_book_25 : decode cX6_book 25 = .ok (.aload_n 0, 1) := by decide +kernel
theorem dX6_book_26 : decode cX6_book 26 = .ok (.getfield 10, 3) := by decide +kernel
theorem dX6_book_29 : decode cX6_book 29 = .ok (.getfield 158, 3) := by decide +kernel
theorem dX6_book_32 : decode cX6_book 32 = .ok (.iload_n 1, 1) := by decide +kernel
theorem dX6_book_33 : decode cX6_book 33 = .ok (.iaload, 1) := by decide +kernel
theorem dX6_book_34 : decode cX6_book 34 = .ok (.ireturn, 1) := by decide +kernel
theorem dX6_wouldSeal_0 : decode cX6_wouldSeal 0 = .ok (.aload_n 0, 1) := by decide +kernel
theorem dX6_wouldSeal_1 : decode cX6_wouldSeal 1 = .ok (.iload_n 1, 1) := by decide +kernel
theorem dX6_wouldSeal_2 : decode cX6_wouldSeal 2 = .ok (.invokevirtual 73, 3) := by decide +kernel
theorem dX6_wouldSeal_5 : decode cX6_wouldSeal 5 = .ok (.aload_n 0, 1) := by decide +kernel
theorem dX6_wouldSeal_6 : decode cX6_wouldSeal 6 = .ok (.getfield 10, 3) := by decide +kernel
theorem dX6_wouldSeal_9 : decode cX6_wouldSeal 9 = .ok (.getfield 162, 3) := by decide +kernel
theorem dX6_wouldSeal_12 : decode cX6_wouldSeal 12 = .ok (.iload_n 1, 1) := by decide +kernel
theorem dX6_wouldSeal_13 : decode cX6_wouldSeal 13 = .ok (.iaload, 1) := by decide +kernel
theorem dX6_wouldSeal_14 : decode cX6_wouldSeal 14 = .ok (.ifCond .ne 14, 3) := by decide +kernel
theorem dX6_wouldSeal_17 : decode cX6_wouldSeal 17 = .ok (.aload_n 0, 1) := by decide +kernel
theorem dX6_wouldSeal_18 : decode cX6_wouldSeal 18 = .ok (.getfield 10, 3) := by decide +kernel
theorem dX6_wouldSeal_21 : decode cX6_wouldSeal 21 = .ok (.iload_n 1, 1) := by decide +kernel
theorem dX6_wouldSeal_22 : decode cX6_wouldSeal 22 = .ok (.invokevirtual 165, 3) := by decide +kernel
theorem dX6_wouldSeal_25 : decode cX6_wouldSeal 25 = .ok (.ifCond .ne 13, 3) := by decide +kernel
theorem dX6_wouldSeal_28 : decode cX6_wouldSeal 28 = .ok (.new 168, 3) := by decide +kernel
theorem dX6_wouldSeal_31 : decode cX6_wouldSeal 31 = .ok (.dup, 1) := by decide +kernel
theorem dX6_wouldSeal_32 : decode cX6_wouldSeal 32 = .ok (.ldc 170, 2) := by decide +kernel
theorem dX6_wouldSeal_34 : decode cX6_wouldSeal 34 = .ok (.invokespecial 172, 3) := by decide +kernel
theorem dX6_wouldSeal_37 : decode cX6_wouldSeal 37 = .ok (.athrow, 1) := by decide +kernel
theorem dX6_wouldSeal_38 : decode cX6_wouldSeal 38 = .ok (.aload_n 0, 1) := by decide +kernel
theorem dX6_wouldSeal_39 : decode cX6_wouldSeal 39 = .ok (.getfield 10, 3) := by decide +kernel
theorem dX6_wouldSeal_42 : decode cX6_wouldSeal 42 = .ok (.iload_n 1, 1) := by decide +kernel
theorem dX6_wouldSeal_43 : decode cX6_wouldSeal 43 = .ok (.invokevirtual 173, 3) := by decide +kernel
theorem dX6_wouldSeal_46 : decode cX6_wouldSeal 46 = .ok (.ireturn, 1) := by decide +kernel
theorem dX6_sleep_0 : decode cX6_sleep 0 = .ok (.aload_n 0, 1) := by decide +kernel
theorem dX6_sleep_1 : decode cX6_sleep 1 = .ok (.iload_n 1, 1) := by decide +kernel
theorem dX6_sleep_2 : decode cX6_sleep 2 = .ok (.invokevirtual 104, 3) := by decide +kernel
theorem dX6_sleep_5 : decode cX6_sleep 5 = .ok (.aload_n 0, 1) := by decide +kernel
theorem dX6_sleep_6 : decode cX6_sleep 6 = .ok (.aload_n 0, 1) := by decide +kernel
theorem dX6_sleep_7 : decode cX6_sleep 7 = .ok (.getfield 34, 3) := by decide +kernel
theorem dX6_sleep_10 : decode cX6_sleep 10 = .ok (.iload_n 1, 1) := by decide +kernel
theorem dX6_sleep_11 : decode cX6_sleep 11 = .ok (.invokevirtual 176, 3) := by decide +kernel
theorem dX6_sleep_14 : decode cX6_sleep 14 = .ok (.invokevirtual 65, 3) := by decide +kernel
theorem dX6_sleep_17 : decode cX6_sleep 17 = .ok (.aload_n 0, 1) := by decide +kernel
theorem dX6_sleep_18 : decode cX6_sleep 18 = .ok (.getfield 10, 3) := by decide +kernel
theorem dX6_sleep_21 : decode cX6_sleep 21 = .ok (.iload_n 1, 1) := by decide +kernel
theorem dX6_sleep_22 : decode cX6_sleep 22 = .ok (.iconst 0, 1) := by decide +kernel
theorem dX6_sleep_23 : decode cX6_sleep 23 = .ok (.invokevirtual 179, 3) := by decide +kernel
theorem dX6_sleep_26 : decode cX6_sleep 26 = .ok (.ireturn, 1) := by decide +kernel
theorem dX6_rouse_0 : decode cX6_rouse 0 = .ok (.aload_n 0, 1) := by decide +kernel
theorem dX6_rouse_1 : decode cX6_rouse 1 = .ok (.iload_n 1, 1) := by decide +kernel
theorem dX6_rouse_2 : decode cX6_rouse 2 = .ok (.invokevirtual 104, 3) := by decide +kernel
theorem dX6_rouse_5 : decode cX6_rouse 5 = .ok (.aload_n 0, 1) := by decide +kernel
theorem dX6_rouse_6 : decode cX6_rouse 6 = .ok (.aload_n 0, 1) := by decide +kernel
theorem dX6_rouse_7 : decode cX6_rouse 7 = .ok (.getfield 34, 3) := by decide +kernel
theorem dX6_rouse_10 : decode cX6_rouse 10 = .ok (.iload_n 1, 1) := by decide +kernel
theorem dX6_rouse_11 : decode cX6_rouse 11 = .ok (.invokevirtual 183, 3) := by decide +kernel
theorem dX6_rouse_14 : decode cX6_rouse 14 = .ok (.invokevirtual 65, 3) := by decide +kernel
theorem dX6_rouse_17 : decode cX6_rouse 17 = .ok (.aload_n 0, 1) := by decide +kernel
theorem dX6_rouse_18 : decode cX6_rouse 18 = .ok (.getfield 10, 3) := by decide +kernel
theorem dX6_rouse_21 : decode cX6_rouse 21 = .ok (.iload_n 1, 1) := by decide +kernel
theorem dX6_rouse_22 : decode cX6_rouse 22 = .ok (.iconst 1, 1) := by decide +kernel
theorem dX6_rouse_23 : decode cX6_rouse 23 = .ok (.invokevirtual 179, 3) := by decide +kernel
theorem dX6_rouse_26 : decode cX6_rouse 26 = .ok (.ireturn, 1) := by decide +kernel
theorem dX6_inquire_0 : decode cX6_inquire 0 = .ok (.aload_n 0, 1) := by decide +kernel
theorem dX6_inquire_1 : decode cX6_inquire 1 = .ok (.iload_n 1, 1) := by decide +kernel
theorem dX6_inquire_2 : decode cX6_inquire 2 = .ok (.invokevirtual 73, 3) := by decide +kernel
theorem dX6_inquire_5 : decode cX6_inquire 5 = .ok (.aload_n 0, 1) := by decide +kernel
theorem dX6_inquire_6 : decode cX6_inquire 6 = .ok (.iload_n 2, 1) := by decide +kernel
theorem dX6_inquire_7 : decode cX6_inquire 7 = .ok (.invokevirtual 104, 3) := by decide +kernel
theorem dX6_inquire_10 : decode cX6_inquire 10 = .ok (.aload_n 0, 1) := by decide +kernel
theorem dX6_inquire_11 : decode cX6_inquire 11 = .ok (.iload_n 3, 1) := by decide +kernel
theorem dX6_inquire_12 : decode cX6_inquire 12 = .ok (.invokevirtual 104, 3) := by decide +kernel
theorem dX6_inquire_15 : decode cX6_inquire 15 = .ok (.aload_n 0, 1) := by decide +kernel
theorem dX6_inquire_16 : decode cX6_inquire 16 = .ok (.aload_n 0, 1) := by decide +kernel
theorem dX6_inquire_17 : decode cX6_inquire 17 = .ok (.getfield 34, 3) := by decide +kernel
theorem dX6_inquire_20 : decode cX6_inquire 20 = .ok (.iload_n 1, 1) := by decide +kernel
theorem dX6_inquire_21 : decode cX6_inquire 21 = .ok (.iload_n 2, 1) := by decide +kernel
theorem dX6_inquire_22 : decode cX6_inquire 22 = .ok (.iload_n 3, 1) := by decide +kernel
theorem dX6_inquire_23 : decode cX6_inquire 23 = .ok (.invokevirtual 186, 3) := by decide +kernel
theorem dX6_inquire_26 : decode cX6_inquire 26 = .ok (.invokevirtual 65, 3) := by decide +kernel
theorem dX6_inquire_29 : decode cX6_inquire 29 = .ok (.aload_n 0, 1) := by decide +kernel
theorem dX6_inquire_30 : decode cX6_inquire 30 = .ok (.getfield 10, 3) := by decide +kernel
theorem dX6_inquire_33 : decode cX6_inquire 33 = .ok (.iload_n 1, 1) := by decide +kernel
theorem dX6_inquire_34 : decode cX6_inquire 34 = .ok (.iload_n 2, 1) := by decide +kernel
theorem dX6_inquire_35 : decode cX6_inquire 35 = .ok (.iload_n 3, 1) := by decide +kernel
theorem dX6_inquire_36 : decode cX6_inquire 36 = .ok (.invokevirtual 189, 3) := by decide +kernel
theorem dX6_inquire_39 : decode cX6_inquire 39 = .ok (.ireturn, 1) := by decide +kernel
theorem dX6_guildOf_0 : decode cX6_guildOf 0 = .ok (.aload_n 0, 1) := by decide +kernel
theorem dX6_guildOf_1 : decode cX6_guildOf 1 = .ok (.iload_n 1, 1) := by decide +kernel
theorem dX6_guildOf_2 : decode cX6_guildOf 2 = .ok (.invokevirtual 104, 3) := by decide +kernel
theorem dX6_guildOf_5 : decode cX6_guildOf 5 = .ok (.aload_n 0, 1) := by decide +kernel
theorem dX6_guildOf_6 : decode cX6_guildOf 6 = .ok (.iload_n 2, 1) := by decide +kernel
theorem dX6_guildOf_7 : decode cX6_guildOf 7 = .ok (.iconst 0, 1) := by decide +kernel
theorem dX6_guildOf_8 : decode cX6_guildOf 8 = .ok (.iconst 5, 1) := by decide +kernel
theorem dX6_guildOf_9 : decode cX6_guildOf 9 = .ok (.invokevirtual 88, 3) := by decide +kernel
theorem dX6_guildOf_12 : decode cX6_guildOf 12 = .ok (.aload_n 0, 1) := by decide +kernel
theorem dX6_guildOf_13 : decode cX6_guildOf 13 = .ok (.getfield 10, 3) := by decide +kernel
theorem dX6_guildOf_16 : decode cX6_guildOf 16 = .ok (.iload_n 1, 1) := by decide +kernel
theorem dX6_guildOf_17 : decode cX6_guildOf 17 = .ok (.iload_n 2, 1) := by decide +kernel
theorem dX6_guildOf_18 : decode cX6_guildOf 18 = .ok (.invokevirtual 192, 3) := by decide +kernel
theorem dX6_guildOf_21 : decode cX6_guildOf 21 = .ok (.ireturn, 1) := by decide +kernel
theorem dX6_canLearn_0 : decode cX6_canLearn 0 = .ok (.aload_n 0, 1) := by decide +kernel
theorem dX6_canLearn_1 : decode cX6_canLearn 1 = .ok (.iload_n 1, 1) := by decide +kernel
theorem dX6_canLearn_2 : decode cX6_canLearn 2 = .ok (.invokevirtual 104, 3) := by decide +kernel
theorem dX6_canLearn_5 : decode cX6_canLearn 5 = .ok (.iload_n 2, 1) := by decide +kernel
theorem dX6_canLearn_6 : decode cX6_canLearn 6 = .ok (.ifCond .eq 14, 3) := by decide +kernel
theorem dX6_canLearn_9 : decode cX6_canLearn 9 = .ok (.aload_n 0, 1) := by decide +kernel
theorem dX6_canLearn_10 : decode cX6_canLearn 10 = .ok (.getfield 10, 3) := by decide +kernel
theorem dX6_canLearn_13 : decode cX6_canLearn 13 = .ok (.iload_n 1, 1) := by decide +kernel
theorem dX6_canLearn_14 : decode cX6_canLearn 14 = .ok (.invokevirtual 195, 3) := by decide +kernel
theorem dX6_canLearn_17 : decode cX6_canLearn 17 = .ok (.goto 11, 3) := by decide +kernel
theorem dX6_canLearn_20 : decode cX6_canLearn 20 = .ok (.aload_n 0, 1) := by decide +kernel
theorem dX6_canLearn_21 : decode cX6_canLearn 21 = .ok (.getfield 10, 3) := by decide +kernel
theorem dX6_canLearn_24 : decode cX6_canLearn 24 = .ok (.iload_n 1, 1) := by decide +kernel
theorem dX6_canLearn_25 : decode cX6_canLearn 25 = .ok (.invokevirtual 198, 3) := by decide +kernel
theorem dX6_canLearn_28 : decode cX6_canLearn 28 = .ok (.ireturn, 1) := by decide +kernel
theorem dX6_pass_0 : decode cX6_pass 0 = .ok (.aload_n 0, 1) := by decide +kernel
theorem dX6_pass_1 : decode cX6_pass 1 = .ok (.iload_n 1, 1) := by decide +kernel
theorem dX6_pass_2 : decode cX6_pass 2 = .ok (.iconst 1, 1) := by decide +kernel
theorem dX6_pass_3 : decode cX6_pass 3 = .ok (.bipush 24, 2) := by decide +kernel
theorem dX6_pass_5 : decode cX6_pass 5 = .ok (.invokevirtual 88, 3) := by decide +kernel
theorem dX6_pass_8 : decode cX6_pass 8 = .ok (.aload_n 0, 1) := by decide +kernel
theorem dX6_pass_9 : decode cX6_pass 9 = .ok (.iconst 0, 1) := by decide +kernel
theorem dX6_pass_10 : decode cX6_pass 10 = .ok (.invokevirtual 65, 3) := by decide +kernel
theorem dX6_pass_13 : decode cX6_pass 13 = .ok (.aload_n 0, 1) := by decide +kernel
theorem dX6_pass_14 : decode cX6_pass 14 = .ok (.getfield 10, 3) := by decide +kernel
theorem dX6_pass_17 : decode cX6_pass 17 = .ok (.iload_n 1, 1) := by decide +kernel
theorem dX6_pass_18 : decode cX6_pass 18 = .ok (.invokevirtual 201, 3) := by decide +kernel
theorem dX6_pass_21 : decode cX6_pass 21 = .ok (.ireturn, 1) := by decide +kernel
theorem dX6_ranked_0 : decode cX6_ranked 0 = .ok (.iload_n 1, 1) := by decide +kernel
theorem dX6_ranked_1 : decode cX6_ranked 1 = .ok (.ifCond .lt 9, 3) := by decide +kernel
theorem dX6_ranked_4 : decode cX6_ranked 4 = .ok (.iload_n 1, 1) := by decide +kernel
theorem dX6_ranked_5 : decode cX6_ranked 5 = .ok (.bipush 6, 2) := by decide +kernel
theorem dX6_ranked_7 : decode cX6_ranked 7 = .ok (.if_icmp .lt 13, 3) := by decide +kernel
theorem dX6_ranked_10 : decode cX6_ranked 10 = .ok (.new 204, 3) := by decide +kernel
theorem dX6_ranked_13 : decode cX6_ranked 13 = .ok (.dup, 1) := by decide +kernel
theorem dX6_ranked_14 : decode cX6_ranked 14 = .ok (.ldc 206, 2) := by decide +kernel
theorem dX6_ranked_16 : decode cX6_ranked 16 = .ok (.invokespecial 208, 3) := by decide +kernel
theorem dX6_ranked_19 : decode cX6_ranked 19 = .ok (.athrow, 1) := by decide +kernel
theorem dX6_ranked_20 : decode cX6_ranked 20 = .ok (.aload_n 0, 1) := by decide +kernel
theorem dX6_ranked_21 : decode cX6_ranked 21 = .ok (.getfield 10, 3) := by decide +kernel
theorem dX6_ranked_24 : decode cX6_ranked 24 = .ok (.iload_n 1, 1) := by decide +kernel
theorem dX6_ranked_25 : decode cX6_ranked 25 = .ok (.invokevirtual 209, 3) := by decide +kernel
theorem dX6_ranked_28 : decode cX6_ranked 28 = .ok (.ireturn, 1) := by decide +kernel
theorem dX6_coins_0 : decode cX6_coins 0 = .ok (.iload_n 1, 1) := by decide +kernel
theorem dX6_coins_1 : decode cX6_coins 1 = .ok (.ifCond .eq 13, 3) := by decide +kernel
theorem dX6_coins_4 : decode cX6_coins 4 = .ok (.aload_n 0, 1) := by decide +kernel
theorem dX6_coins_5 : decode cX6_coins 5 = .ok (.getfield 10, 3) := by decide +kernel
theorem dX6_coins_8 : decode cX6_coins 8 = .ok (.invokevirtual 212, 3) := by decide +kernel
theorem dX6_coins_11 : decode cX6_coins 11 = .ok (.goto 10, 3) := by decide +kernel
theorem dX6_coins_14 : decode cX6_coins 14 = .ok (.aload_n 0, 1) := by decide +kernel
theorem dX6_coins_15 : decode cX6_coins 15 = .ok (.getfield 10, 3) := by decide +kernel
theorem dX6_coins_18 : decode cX6_coins 18 = .ok (.invokevirtual 215, 3) := by decide +kernel
theorem dX6_coins_21 : decode cX6_coins 21 = .ok (.ireturn, 1) := by decide +kernel
theorem dX6_line_0 : decode cX6_line 0 = .ok (.aload_n 0, 1) := by decide +kernel
theorem dX6_line_1 : decode cX6_line 1 = .ok (.iload_n 1, 1) := by decide +kernel
theorem dX6_line_2 : decode cX6_line 2 = .ok (.invokevirtual 73, 3) := by decide +kernel
theorem dX6_line_5 : decode cX6_line 5 = .ok (.aload_n 0, 1) := by decide +kernel
theorem dX6_line_6 : decode cX6_line 6 = .ok (.getfield 57, 3) := by decide +kernel
theorem dX6_line_9 : decode cX6_line 9 = .ok (.aload_n 0, 1) := by decide +kernel
theorem dX6_line_10 : decode cX6_line 10 = .ok (.getfield 10, 3) := by decide +kernel
theorem dX6_line_13 : decode cX6_line 13 = .ok (.iload_n 1, 1) := by decide +kernel
theorem dX6_line_14 : decode cX6_line 14 = .ok (.invokevirtual 218, 3) := by decide +kernel
theorem dX6_line_17 : decode cX6_line 17 = .ok (.aload_n 0, 1) := by decide +kernel
theorem dX6_line_18 : decode cX6_line 18 = .ok (.getfield 57, 3) := by decide +kernel
theorem dX6_line_21 : decode cX6_line 21 = .ok (.getfield 222, 3) := by decide +kernel
theorem dX6_line_24 : decode cX6_line 24 = .ok (.ireturn, 1) := by decide +kernel
theorem dX6_character_0 : decode cX6_character 0 = .ok (.iload_n 1, 1) := by decide +kernel
theorem dX6_character_1 : decode cX6_character 1 = .ok (.ifCond .lt 14, 3) := by decide +kernel
theorem dX6_character_4 : decode cX6_character 4 = .ok (.iload_n 1, 1) := by decide +kernel
theorem dX6_character_5 : decode cX6_character 5 = .ok (.aload_n 0, 1) := by decide +kernel
theorem dX6_character_6 : decode cX6_character 6 = .ok (.getfield 57, 3) := by decide +kernel
theorem dX6_character_9 : decode cX6_character 9 = .ok (.getfield 222, 3) := by decide +kernel
theorem dX6_character_12 : decode cX6_character 12 = .ok (.if_icmp .lt 13, 3) := by decide +kernel
theorem dX6_character_15 : decode cX6_character 15 = .ok (.new 204, 3) := by decide +kernel
theorem dX6_character_18 : decode cX6_character 18 = .ok (.dup, 1) := by decide +kernel
theorem dX6_character_19 : decode cX6_character 19 = .ok (.ldc 225, 2) := by decide +kernel
theorem dX6_character_21 : decode cX6_character 21 = .ok (.invokespecial 208, 3) := by decide +kernel
theorem dX6_character_24 : decode cX6_character 24 = .ok (.athrow, 1) := by decide +kernel
theorem dX6_character_25 : decode cX6_character 25 = .ok (.aload_n 0, 1) := by decide +kernel
theorem dX6_character_26 : decode cX6_character 26 = .ok (.getfield 57, 3) := by decide +kernel
theorem dX6_character_29 : decode cX6_character 29 = .ok (.getfield 227, 3) := by decide +kernel
theorem dX6_character_32 : decode cX6_character 32 = .ok (.iload_n 1, 1) := by decide +kernel
theorem dX6_character_33 : decode cX6_character 33 = .ok (.caload, 1) := by decide +kernel
theorem dX6_character_34 : decode cX6_character 34 = .ok (.ireturn, 1) := by decide +kernel
theorem dX6_append_0 : decode cX6_append 0 = .ok (.aload_n 0, 1) := by decide +kernel
theorem dX6_append_1 : decode cX6_append 1 = .ok (.getfield 41, 3) := by decide +kernel
theorem dX6_append_4 : decode cX6_append 4 = .ok (.getfield 231, 3) := by decide +kernel
theorem dX6_append_7 : decode cX6_append 7 = .ok (.bipush 60, 2) := by decide +kernel
theorem dX6_append_9 : decode cX6_append 9 = .ok (.if_icmp .lt 13, 3) := by decide +kernel
theorem dX6_append_12 : decode cX6_append 12 = .ok (.new 168, 3) := by decide +kernel
theorem dX6_append_15 : decode cX6_append 15 = .ok (.dup, 1) := by decide +kernel
theorem dX6_append_16 : decode cX6_append 16 = .ok (.ldc 232, 2) := by decide +kernel
theorem dX6_append_18 : decode cX6_append 18 = .ok (.invokespecial 172, 3) := by decide +kernel
theorem dX6_append_21 : decode cX6_append 21 = .ok (.athrow, 1) := by decide +kernel
theorem dX6_append_22 : decode cX6_append 22 = .ok (.aload_n 0, 1) := by decide +kernel
theorem dX6_append_23 : decode cX6_append 23 = .ok (.getfield 41, 3) := by decide +kernel
theorem dX6_append_26 : decode cX6_append 26 = .ok (.iload_n 1, 1) := by decide +kernel
theorem dX6_append_27 : decode cX6_append 27 = .ok (.invokevirtual 234, 3) := by decide +kernel
theorem dX6_append_30 : decode cX6_append 30 = .ok (.aload_n 0, 1) := by decide +kernel
theorem dX6_append_31 : decode cX6_append 31 = .ok (.getfield 41, 3) := by decide +kernel
theorem dX6_append_34 : decode cX6_append 34 = .ok (.getfield 231, 3) := by decide +kernel
theorem dX6_append_37 : decode cX6_append 37 = .ok (.ireturn, 1) := by decide +kernel
theorem dX6_run_0 : decode cX6_run 0 = .ok (.aload_n 0, 1) := by decide +kernel
theorem dX6_run_1 : decode cX6_run 1 = .ok (.getfield 41, 3) := by decide +kernel
theorem dX6_run_4 : decode cX6_run 4 = .ok (.invokevirtual 238, 3) := by decide +kernel
theorem dX6_run_7 : decode cX6_run 7 = .ok (.ifCond .ne 13, 3) := by decide +kernel
theorem dX6_run_10 : decode cX6_run 10 = .ok (.new 241, 3) := by decide +kernel
theorem dX6_run_13 : decode cX6_run 13 = .ok (.dup, 1) := by decide +kernel
theorem dX6_run_14 : decode cX6_run 14 = .ok (.ldc 243, 2) := by decide +kernel
theorem dX6_run_16 : decode cX6_run 16 = .ok (.invokespecial 245, 3) := by decide +kernel
theorem dX6_run_19 : decode cX6_run 19 = .ok (.athrow, 1) := by decide +kernel
theorem dX6_run_20 : decode cX6_run 20 = .ok (.aload_n 0, 1) := by decide +kernel
theorem dX6_run_21 : decode cX6_run 21 = .ok (.getfield 16, 3) := by decide +kernel
theorem dX6_run_24 : decode cX6_run 24 = .ok (.aload_n 0, 1) := by decide +kernel
theorem dX6_run_25 : decode cX6_run 25 = .ok (.getfield 10, 3) := by decide +kernel
theorem dX6_run_28 : decode cX6_run 28 = .ok (.invokevirtual 246, 3) := by decide +kernel
theorem dX6_run_31 : decode cX6_run 31 = .ok (.aload_n 0, 1) := by decide +kernel
theorem dX6_run_32 : decode cX6_run 32 = .ok (.getfield 50, 3) := by decide +kernel
theorem dX6_run_35 : decode cX6_run 35 = .ok (.aload_n 0, 1) := by decide +kernel
theorem dX6_run_36 : decode cX6_run 36 = .ok (.getfield 41, 3) := by decide +kernel
theorem dX6_run_39 : decode cX6_run 39 = .ok (.invokevirtual 249, 3) := by decide +kernel
theorem dX6_run_42 : decode cX6_run 42 = .ok (.istore_n 1, 1) := by decide +kernel
theorem dX6_run_43 : decode cX6_run 43 = .ok (.iload_n 1, 1) := by decide +kernel
theorem dX6_run_44 : decode cX6_run 44 = .ok (.ifCond .eq 14, 3) := by decide +kernel
theorem dX6_run_47 : decode cX6_run 47 = .ok (.aload_n 0, 1) := by decide +kernel
theorem dX6_run_48 : decode cX6_run 48 = .ok (.getfield 10, 3) := by decide +kernel
theorem dX6_run_51 : decode cX6_run 51 = .ok (.aload_n 0, 1) := by decide +kernel
theorem dX6_run_52 : decode cX6_run 52 = .ok (.getfield 16, 3) := by decide +kernel
theorem dX6_run_55 : decode cX6_run 55 = .ok (.invokevirtual 246, 3) := by decide +kernel
theorem dX6_run_58 : decode cX6_run 58 = .ok (.iload_n 1, 1) := by decide +kernel
theorem dX6_run_59 : decode cX6_run 59 = .ok (.iconst 1, 1) := by decide +kernel
theorem dX6_run_60 : decode cX6_run 60 = .ok (.if_icmp .ne 13, 3) := by decide +kernel
theorem dX6_run_63 : decode cX6_run 63 = .ok (.new 253, 3) := by decide +kernel
theorem dX6_run_66 : decode cX6_run 66 = .ok (.dup, 1) := by decide +kernel
theorem dX6_run_67 : decode cX6_run 67 = .ok (.ldc 255, 2) := by decide +kernel
theorem dX6_run_69 : decode cX6_run 69 = .ok (.invokespecial 257, 3) := by decide +kernel
theorem dX6_run_72 : decode cX6_run 72 = .ok (.athrow, 1) := by decide +kernel
theorem dX6_run_73 : decode cX6_run 73 = .ok (.iload_n 1, 1) := by decide +kernel
theorem dX6_run_74 : decode cX6_run 74 = .ok (.iconst 2, 1) := by decide +kernel
theorem dX6_run_75 : decode cX6_run 75 = .ok (.if_icmp .ne 14, 3) := by decide +kernel
theorem dX6_run_78 : decode cX6_run 78 = .ok (.new 241, 3) := by decide +kernel
theorem dX6_run_81 : decode cX6_run 81 = .ok (.dup, 1) := by decide +kernel
theorem dX6_run_82 : decode cX6_run 82 = .ok (.ldc_w 258, 3) := by decide +kernel
theorem dX6_run_85 : decode cX6_run 85 = .ok (.invokespecial 245, 3) := by decide +kernel
theorem dX6_run_88 : decode cX6_run 88 = .ok (.athrow, 1) := by decide +kernel
theorem dX6_run_89 : decode cX6_run 89 = .ok (.aload_n 0, 1) := by decide +kernel
theorem dX6_run_90 : decode cX6_run 90 = .ok (.getfield 25, 3) := by decide +kernel
theorem dX6_run_93 : decode cX6_run 93 = .ok (.aload_n 0, 1) := by decide +kernel
theorem dX6_run_94 : decode cX6_run 94 = .ok (.getfield 16, 3) := by decide +kernel
theorem dX6_run_97 : decode cX6_run 97 = .ok (.invokevirtual 260, 3) := by decide +kernel
theorem dX6_run_100 : decode cX6_run 100 = .ok (.aload_n 0, 1) := by decide +kernel
theorem dX6_run_101 : decode cX6_run 101 = .ok (.getfield 41, 3) := by decide +kernel
theorem dX6_run_104 : decode cX6_run 104 = .ok (.getfield 263, 3) := by decide +kernel
theorem dX6_run_107 : decode cX6_run 107 = .ok (.ireturn, 1) := by decide +kernel
theorem dX6_errorPosition_0 : decode cX6_errorPosition 0 = .ok (.aload_n 0, 1) := by decide +kernel
theorem dX6_errorPosition_1 : decode cX6_errorPosition 1 = .ok (.getfield 41, 3) := by decide +kernel
theorem dX6_errorPosition_4 : decode cX6_errorPosition 4 = .ok (.getfield 266, 3) := by decide +kernel
theorem dX6_errorPosition_7 : decode cX6_errorPosition 7 = .ok (.ireturn, 1) := by decide +kernel
theorem dX6_refusal_0 : decode cX6_refusal 0 = .ok (.aload_n 0, 1) := by decide +kernel
theorem dX6_refusal_1 : decode cX6_refusal 1 = .ok (.getfield 34, 3) := by decide +kernel
theorem dX6_refusal_4 : decode cX6_refusal 4 = .ok (.getfield 269, 3) := by decide +kernel
theorem dX6_refusal_7 : decode cX6_refusal 7 = .ok (.ifCond .ne 14, 3) := by decide +kernel
theorem dX6_refusal_10 : decode cX6_refusal 10 = .ok (.new 81, 3) := by decide +kernel
theorem dX6_refusal_13 : decode cX6_refusal 13 = .ok (.dup, 1) := by decide +kernel
theorem dX6_refusal_14 : decode cX6_refusal 14 = .ok (.ldc_w 272, 3) := by decide +kernel
theorem dX6_refusal_17 : decode cX6_refusal 17 = .ok (.invokespecial 85, 3) := by decide +kernel
theorem dX6_refusal_20 : decode cX6_refusal 20 = .ok (.athrow, 1) := by decide +kernel
theorem dX6_refusal_21 : decode cX6_refusal 21 = .ok (.iload_n 1, 1) := by decide +kernel
theorem dX6_refusal_22 : decode cX6_refusal 22 = .ok (.ifCond .eq 13, 3) := by decide +kernel
theorem dX6_refusal_25 : decode cX6_refusal 25 = .ok (.aload_n 0, 1) := by decide +kernel
theorem dX6_refusal_26 : decode cX6_refusal 26 = .ok (.getfield 34, 3) := by decide +kernel
theorem dX6_refusal_29 : decode cX6_refusal 29 = .ok (.getfield 274, 3) := by decide +kernel
theorem dX6_refusal_32 : decode cX6_refusal 32 = .ok (.goto 10, 3) := by decide +kernel
theorem dX6_refusal_35 : decode cX6_refusal 35 = .ok (.aload_n 0, 1) := by decide +kernel
theorem dX6_refusal_36 : decode cX6_refusal 36 = .ok (.getfield 34, 3) := by decide +kernel
theorem dX6_refusal_39 : decode cX6_refusal 39 = .ok (.getfield 269, 3) := by decide +kernel
theorem dX6_refusal_42 : decode cX6_refusal 42 = .ok (.ireturn, 1) := by decide +kernel
theorem dX6_account_0 : decode cX6_account 0 = .ok (.aload_n 0, 1) := by decide +kernel
theorem dX6_account_1 : decode cX6_account 1 = .ok (.iload_n 1, 1) := by decide +kernel
theorem dX6_account_2 : decode cX6_account 2 = .ok (.iconst 0, 1) := by decide +kernel
theorem dX6_account_3 : decode cX6_account 3 = .ok (.bipush 12, 2) := by decide +kernel
theorem dX6_account_5 : decode cX6_account 5 = .ok (.invokevirtual 88, 3) := by decide +kernel
theorem dX6_account_8 : decode cX6_account 8 = .ok (.iload_n 1, 1) := by decide +kernel
theorem dX6_account_9 : decode cX6_account 9 = .ok (.lookupswitch 43 #[(11, 27), (12, 35)], 27) := by decide +kernel
theorem dX6_account_36 : decode cX6_account 36 = .ok (.aload_n 0, 1) := by decide +kernel
theorem dX6_account_37 : decode cX6_account 37 = .ok (.getfield 41, 3) := by decide +kernel
theorem dX6_account_40 : decode cX6_account 40 = .ok (.getfield 231, 3) := by decide +kernel
theorem dX6_account_43 : decode cX6_account 43 = .ok (.ireturn, 1) := by decide +kernel
theorem dX6_account_44 : decode cX6_account 44 = .ok (.aload_n 0, 1) := by decide +kernel
theorem dX6_account_45 : decode cX6_account 45 = .ok (.getfield 25, 3) := by decide +kernel
theorem dX6_account_48 : decode cX6_account 48 = .ok (.getfield 277, 3) := by decide +kernel
theorem dX6_account_51 : decode cX6_account 51 = .ok (.ireturn, 1) := by decide +kernel
theorem dX6_account_52 : decode cX6_account 52 = .ok (.aload_n 0, 1) := by decide +kernel
theorem dX6_account_53 : decode cX6_account 53 = .ok (.getfield 10, 3) := by decide +kernel
theorem dX6_account_56 : decode cX6_account 56 = .ok (.iload_n 1, 1) := by decide +kernel
theorem dX6_account_57 : decode cX6_account 57 = .ok (.invokevirtual 280, 3) := by decide +kernel
theorem dX6_account_60 : decode cX6_account 60 = .ok (.ireturn, 1) := by decide +kernel
theorem dX6_isWell_0 : decode cX6_isWell 0 = .ok (.aload_n 0, 1) := by decide +kernel
theorem dX6_isWell_1 : decode cX6_isWell 1 = .ok (.getfield 10, 3) := by decide +kernel
theorem dX6_isWell_4 : decode cX6_isWell 4 = .ok (.invokevirtual 283, 3) := by decide +kernel
theorem dX6_isWell_7 : decode cX6_isWell 7 = .ok (.ifCond .eq 27, 3) := by decide +kernel
theorem dX6_isWell_10 : decode cX6_isWell 10 = .ok (.aload_n 0, 1) := by decide +kernel
theorem dX6_isWell_11 : decode cX6_isWell 11 = .ok (.getfield 10, 3) := by decide +kernel
theorem dX6_isWell_14 : decode cX6_isWell 14 = .ok (.invokevirtual 286, 3) := by decide +kernel
theorem dX6_isWell_17 : decode cX6_isWell 17 = .ok (.ifCond .eq 17, 3) := by decide +kernel
theorem dX6_isWell_20 : decode cX6_isWell 20 = .ok (.aload_n 0, 1) := by decide +kernel
theorem dX6_isWell_21 : decode cX6_isWell 21 = .ok (.getfield 10, 3) := by decide +kernel
theorem dX6_isWell_24 : decode cX6_isWell 24 = .ok (.invokevirtual 289, 3) := by decide +kernel
theorem dX6_isWell_27 : decode cX6_isWell 27 = .ok (.ifCond .eq 7, 3) := by decide +kernel
theorem dX6_isWell_30 : decode cX6_isWell 30 = .ok (.iconst 1, 1) := by decide +kernel
theorem dX6_isWell_31 : decode cX6_isWell 31 = .ok (.goto 4, 3) := by decide +kernel
theorem dX6_isWell_34 : decode cX6_isWell 34 = .ok (.iconst 0, 1) := by decide +kernel
theorem dX6_isWell_35 : decode cX6_isWell 35 = .ok (.ireturn, 1) := by decide +kernel
theorem dX6_meanDoubt_0 : decode cX6_meanDoubt 0 = .ok (.aload_n 0, 1) := by decide +kernel
theorem dX6_meanDoubt_1 : decode cX6_meanDoubt 1 = .ok (.getfield 10, 3) := by decide +kernel
theorem dX6_meanDoubt_4 : decode cX6_meanDoubt 4 = .ok (.invokevirtual 292, 3) := by decide +kernel
theorem dX6_meanDoubt_7 : decode cX6_meanDoubt 7 = .ok (.i2d, 1) := by decide +kernel
theorem dX6_meanDoubt_8 : decode cX6_meanDoubt 8 = .ok (.ldc2_w 295, 3) := by decide +kernel
theorem dX6_meanDoubt_11 : decode cX6_meanDoubt 11 = .ok (.ddiv, 1) := by decide +kernel
theorem dX6_meanDoubt_12 : decode cX6_meanDoubt 12 = .ok (.dreturn, 1) := by decide +kernel
theorem dX6_sealedShare_0 : decode cX6_sealedShare 0 = .ok (.aload_n 0, 1) := by decide +kernel
theorem dX6_sealedShare_1 : decode cX6_sealedShare 1 = .ok (.getfield 10, 3) := by decide +kernel
theorem dX6_sealedShare_4 : decode cX6_sealedShare 4 = .ok (.getfield 152, 3) := by decide +kernel
theorem dX6_sealedShare_7 : decode cX6_sealedShare 7 = .ok (.ifCond .ne 14, 3) := by decide +kernel
theorem dX6_sealedShare_10 : decode cX6_sealedShare 10 = .ok (.new 297, 3) := by decide +kernel
theorem dX6_sealedShare_13 : decode cX6_sealedShare 13 = .ok (.dup, 1) := by decide +kernel
theorem dX6_sealedShare_14 : decode cX6_sealedShare 14 = .ok (.ldc_w 299, 3) := by decide +kernel
theorem dX6_sealedShare_17 : decode cX6_sealedShare 17 = .ok (.invokespecial 301, 3) := by decide +kernel
theorem dX6_sealedShare_20 : decode cX6_sealedShare 20 = .ok (.athrow, 1) := by decide +kernel
theorem dX6_sealedShare_21 : decode cX6_sealedShare 21 = .ok (.aload_n 0, 1) := by decide +kernel
theorem dX6_sealedShare_22 : decode cX6_sealedShare 22 = .ok (.getfield 10, 3) := by decide +kernel
theorem dX6_sealedShare_25 : decode cX6_sealedShare 25 = .ok (.iconst 1, 1) := by decide +kernel
theorem dX6_sealedShare_26 : decode cX6_sealedShare 26 = .ok (.invokevirtual 302, 3) := by decide +kernel
theorem dX6_sealedShare_29 : decode cX6_sealedShare 29 = .ok (.i2f, 1) := by decide +kernel
theorem dX6_sealedShare_30 : decode cX6_sealedShare 30 = .ok (.aload_n 0, 1) := by decide +kernel
theorem dX6_sealedShare_31 : decode cX6_sealedShare 31 = .ok (.getfield 10, 3) := by decide +kernel
theorem dX6_sealedShare_34 : decode cX6_sealedShare 34 = .ok (.getfield 152, 3) := by decide +kernel
theorem dX6_sealedShare_37 : decode cX6_sealedShare 37 = .ok (.i2f, 1) := by decide +kernel
theorem dX6_sealedShare_38 : decode cX6_sealedShare 38 = .ok (.fdiv, 1) := by decide +kernel
theorem dX6_sealedShare_39 : decode cX6_sealedShare 39 = .ok (.freturn, 1) := by decide +kernel
theorem dX6_undo_0 : decode cX6_undo 0 = .ok (.aload_n 0, 1) := by decide +kernel
theorem dX6_undo_1 : decode cX6_undo 1 = .ok (.getfield 25, 3) := by decide +kernel
theorem dX6_undo_4 : decode cX6_undo 4 = .ok (.getfield 277, 3) := by decide +kernel
theorem dX6_undo_7 : decode cX6_undo 7 = .ok (.ifCond .ne 14, 3) := by decide +kernel
theorem dX6_undo_10 : decode cX6_undo 10 = .ok (.new 168, 3) := by decide +kernel
theorem dX6_undo_13 : decode cX6_undo 13 = .ok (.dup, 1) := by decide +kernel
theorem dX6_undo_14 : decode cX6_undo 14 = .ok (.ldc_w 305, 3) := by decide +kernel
theorem dX6_undo_17 : decode cX6_undo 17 = .ok (.invokespecial 172, 3) := by decide +kernel
theorem dX6_undo_20 : decode cX6_undo 20 = .ok (.athrow, 1) := by decide +kernel
theorem dX6_undo_21 : decode cX6_undo 21 = .ok (.aload_n 0, 1) := by decide +kernel
theorem dX6_undo_22 : decode cX6_undo 22 = .ok (.getfield 25, 3) := by decide +kernel
theorem dX6_undo_25 : decode cX6_undo 25 = .ok (.aload_n 0, 1) := by decide +kernel
theorem dX6_undo_26 : decode cX6_undo 26 = .ok (.getfield 10, 3) := by decide +kernel
theorem dX6_undo_29 : decode cX6_undo 29 = .ok (.invokevirtual 307, 3) := by decide +kernel
theorem dX6_undo_32 : decode cX6_undo 32 = .ok (.aload_n 0, 1) := by decide +kernel
theorem dX6_undo_33 : decode cX6_undo 33 = .ok (.getfield 25, 3) := by decide +kernel
theorem dX6_undo_36 : decode cX6_undo 36 = .ok (.getfield 277, 3) := by decide +kernel
theorem dX6_undo_39 : decode cX6_undo 39 = .ok (.ireturn, 1) := by decide +kernel
theorem dX6_save_0 : decode cX6_save 0 = .ok (.aload_n 0, 1) := by decide +kernel
theorem dX6_save_1 : decode cX6_save 1 = .ok (.getfield 19, 3) := by decide +kernel
theorem dX6_save_4 : decode cX6_save 4 = .ok (.aload_n 0, 1) := by decide +kernel
theorem dX6_save_5 : decode cX6_save 5 = .ok (.getfield 10, 3) := by decide +kernel
theorem dX6_save_8 : decode cX6_save 8 = .ok (.invokevirtual 246, 3) := by decide +kernel
theorem dX6_save_11 : decode cX6_save 11 = .ok (.aload_n 0, 1) := by decide +kernel
theorem dX6_save_12 : decode cX6_save 12 = .ok (.iconst 1, 1) := by decide +kernel
theorem dX6_save_13 : decode cX6_save 13 = .ok (.putfield 310, 3) := by decide +kernel
theorem dX6_save_16 : decode cX6_save 16 = .ok (.aload_n 0, 1) := by decide +kernel
theorem dX6_save_17 : decode cX6_save 17 = .ok (.getfield 10, 3) := by decide +kernel
theorem dX6_save_20 : decode cX6_save 20 = .ok (.getfield 313, 3) := by decide +kernel
theorem dX6_save_23 : decode cX6_save 23 = .ok (.ireturn, 1) := by decide +kernel
theorem dX6_restore_0 : decode cX6_restore 0 = .ok (.aload_n 0, 1) := by decide +kernel
theorem dX6_restore_1 : decode cX6_restore 1 = .ok (.getfield 310, 3) := by decide +kernel
theorem dX6_restore_4 : decode cX6_restore 4 = .ok (.ifCond .ne 14, 3) := by decide +kernel
theorem dX6_restore_7 : decode cX6_restore 7 = .ok (.new 168, 3) := by decide +kernel
theorem dX6_restore_10 : decode cX6_restore 10 = .ok (.dup, 1) := by decide +kernel
theorem dX6_restore_11 : decode cX6_restore 11 = .ok (.ldc_w 316, 3) := by decide +kernel
theorem dX6_restore_14 : decode cX6_restore 14 = .ok (.invokespecial 172, 3) := by decide +kernel
theorem dX6_restore_17 : decode cX6_restore 17 = .ok (.athrow, 1) := by decide +kernel
theorem dX6_restore_18 : decode cX6_restore 18 = .ok (.aload_n 0, 1) := by decide +kernel
theorem dX6_restore_19 : decode cX6_restore 19 = .ok (.getfield 10, 3) := by decide +kernel
theorem dX6_restore_22 : decode cX6_restore 22 = .ok (.aload_n 0, 1) := by decide +kernel
theorem dX6_restore_23 : decode cX6_restore 23 = .ok (.getfield 19, 3) := by decide +kernel
theorem dX6_restore_26 : decode cX6_restore 26 = .ok (.invokevirtual 246, 3) := by decide +kernel
theorem dX6_restore_29 : decode cX6_restore 29 = .ok (.aload_n 0, 1) := by decide +kernel
theorem dX6_restore_30 : decode cX6_restore 30 = .ok (.getfield 25, 3) := by decide +kernel
theorem dX6_restore_33 : decode cX6_restore 33 = .ok (.invokevirtual 318, 3) := by decide +kernel
theorem dX6_restore_36 : decode cX6_restore 36 = .ok (.aload_n 0, 1) := by decide +kernel
theorem dX6_restore_37 : decode cX6_restore 37 = .ok (.getfield 10, 3) := by decide +kernel
theorem dX6_restore_40 : decode cX6_restore 40 = .ok (.getfield 313, 3) := by decide +kernel
theorem dX6_restore_43 : decode cX6_restore 43 = .ok (.ireturn, 1) := by decide +kernel
theorem dX6_startChange_0 : decode cX6_startChange 0 = .ok (.iload_n 1, 1) := by decide +kernel
theorem dX6_startChange_1 : decode cX6_startChange 1 = .ok (.ifCond .eq 14, 3) := by decide +kernel
theorem dX6_startChange_4 : decode cX6_startChange 4 = .ok (.new 253, 3) := by decide +kernel
theorem dX6_startChange_7 : decode cX6_startChange 7 = .ok (.dup, 1) := by decide +kernel
theorem dX6_startChange_8 : decode cX6_startChange 8 = .ok (.ldc_w 321, 3) := by decide +kernel
theorem dX6_startChange_11 : decode cX6_startChange 11 = .ok (.invokespecial 257, 3) := by decide +kernel
theorem dX6_startChange_14 : decode cX6_startChange 14 = .ok (.athrow, 1) := by decide +kernel
theorem dX6_startChange_15 : decode cX6_startChange 15 = .ok (.aload_n 0, 1) := by decide +kernel
theorem dX6_startChange_16 : decode cX6_startChange 16 = .ok (.getfield 25, 3) := by decide +kernel
theorem dX6_startChange_19 : decode cX6_startChange 19 = .ok (.aload_n 0, 1) := by decide +kernel
theorem dX6_startChange_20 : decode cX6_startChange 20 = .ok (.getfield 10, 3) := by decide +kernel
theorem dX6_startChange_23 : decode cX6_startChange 23 = .ok (.invokevirtual 260, 3) := by decide +kernel
theorem dX6_startChange_26 : decode cX6_startChange 26 = .ok (.return_, 1) := by decide +kernel
theorem dX6_requireMatter_0 : decode cX6_requireMatter 0 = .ok (.aload_n 0, 1) := by decide +kernel
theorem dX6_requireMatter_1 : decode cX6_requireMatter 1 = .ok (.getfield 10, 3) := by decide +kernel
theorem dX6_requireMatter_4 : decode cX6_requireMatter 4 = .ok (.iload_n 1, 1) := by decide +kernel
theorem dX6_requireMatter_5 : decode cX6_requireMatter 5 = .ok (.invokevirtual 323, 3) := by decide +kernel
theorem dX6_requireMatter_8 : decode cX6_requireMatter 8 = .ok (.ifCond .ne 14, 3) := by decide +kernel
theorem dX6_requireMatter_11 : decode cX6_requireMatter 11 = .ok (.new 81, 3) := by decide +kernel
theorem dX6_requireMatter_14 : decode cX6_requireMatter 14 = .ok (.dup, 1) := by decide +kernel
theorem dX6_requireMatter_15 : decode cX6_requireMatter 15 = .ok (.ldc_w 326, 3) := by decide +kernel
theorem dX6_requireMatter_18 : decode cX6_requireMatter 18 = .ok (.invokespecial 85, 3) := by decide +kernel
theorem dX6_requireMatter_21 : decode cX6_requireMatter 21 = .ok (.athrow, 1) := by decide +kernel
theorem dX6_requireMatter_22 : decode cX6_requireMatter 22 = .ok (.return_, 1) := by decide +kernel
theorem dX6_requireGuild_0 : decode cX6_requireGuild 0 = .ok (.aload_n 0, 1) := by decide +kernel
theorem dX6_requireGuild_1 : decode cX6_requireGuild 1 = .ok (.getfield 10, 3) := by decide +kernel
theorem dX6_requireGuild_4 : decode cX6_requireGuild 4 = .ok (.iload_n 1, 1) := by decide +kernel
theorem dX6_requireGuild_5 : decode cX6_requireGuild 5 = .ok (.invokevirtual 77, 3) := by decide +kernel
theorem dX6_requireGuild_8 : decode cX6_requireGuild 8 = .ok (.ifCond .ne 13, 3) := by decide +kernel
theorem dX6_requireGuild_11 : decode cX6_requireGuild 11 = .ok (.new 204, 3) := by decide +kernel
theorem dX6_requireGuild_14 : decode cX6_requireGuild 14 = .ok (.dup, 1) := by decide +kernel
theorem dX6_requireGuild_15 : decode cX6_requireGuild 15 = .ok (.ldc 83, 2) := by decide +kernel
theorem dX6_requireGuild_17 : decode cX6_requireGuild 17 = .ok (.invokespecial 208, 3) := by decide +kernel
theorem dX6_requireGuild_20 : decode cX6_requireGuild 20 = .ok (.athrow, 1) := by decide +kernel
theorem dX6_requireGuild_21 : decode cX6_requireGuild 21 = .ok (.return_, 1) := by decide +kernel
theorem dX6_requireFromTo_0 : decode cX6_requireFromTo 0 = .ok (.iload_n 1, 1) := by decide +kernel
theorem dX6_requireFromTo_1 : decode cX6_requireFromTo 1 = .ok (.iload_n 2, 1) := by decide +kernel
theorem dX6_requireFromTo_2 : decode cX6_requireFromTo 2 = .ok (.if_icmp .lt 8, 3) := by decide +kernel
theorem dX6_requireFromTo_5 : decode cX6_requireFromTo 5 = .ok (.iload_n 1, 1) := by decide +kernel
theorem dX6_requireFromTo_6 : decode cX6_requireFromTo 6 = .ok (.iload_n 3, 1) := by decide +kernel
theorem dX6_requireFromTo_7 : decode cX6_requireFromTo 7 = .ok (.if_icmp .le 14, 3) := by decide +kernel
theorem dX6_requireFromTo_10 : decode cX6_requireFromTo 10 = .ok (.new 241, 3) := by decide +kernel
theorem dX6_requireFromTo_13 : decode cX6_requireFromTo 13 = .ok (.dup, 1) := by decide +kernel
theorem dX6_requireFromTo_14 : decode cX6_requireFromTo 14 = .ok (.ldc_w 328, 3) := by decide +kernel
theorem dX6_requireFromTo_17 : decode cX6_requireFromTo 17 = .ok (.invokespecial 245, 3) := by decide +kernel
theorem dX6_requireFromTo_20 : decode cX6_requireFromTo 20 = .ok (.athrow, 1) := by decide +kernel
theorem dX6_requireFromTo_21 : decode cX6_requireFromTo 21 = .ok (.return_, 1) := by decide +kernel
theorem dX7_init_0 : decode cX7_init 0 = .ok (.aload_n 0, 1) := by decide +kernel
theorem dX7_init_1 : decode cX7_init 1 = .ok (.invokespecial 3, 3) := by decide +kernel
theorem dX7_init_4 : decode cX7_init 4 = .ok (.aload_n 0, 1) := by decide +kernel
theorem dX7_init_5 : decode cX7_init 5 = .ok (.sipush 144, 3) := by decide +kernel
theorem dX7_init_8 : decode cX7_init 8 = .ok (.newarray .int, 2) := by decide +kernel
theorem dX7_init_10 : decode cX7_init 10 = .ok (.putfield 9, 3) := by decide +kernel
theorem dX7_init_13 : decode cX7_init 13 = .ok (.aload_n 0, 1) := by decide +kernel
theorem dX7_init_14 : decode cX7_init 14 = .ok (.sipush 144, 3) := by decide +kernel
theorem dX7_init_17 : decode cX7_init 17 = .ok (.newarray .int, 2) := by decide +kernel
theorem dX7_init_19 : decode cX7_init 19 = .ok (.putfield 13, 3) := by decide +kernel
theorem dX7_init_22 : decode cX7_init 22 = .ok (.aload_n 0, 1) := by decide +kernel
theorem dX7_init_23 : decode cX7_init 23 = .ok (.sipush 144, 3) := by decide +kernel
theorem dX7_init_26 : decode cX7_init 26 = .ok (.newarray .int, 2) := by decide +kernel
theorem dX7_init_28 : decode cX7_init 28 = .ok (.putfield 16, 3) := by decide +kernel
theorem dX7_init_31 : decode cX7_init 31 = .ok (.aload_n 0, 1) := by decide +kernel
theorem dX7_init_32 : decode cX7_init 32 = .ok (.sipush 1152, 3) := by decide +kernel
theorem dX7_init_35 : decode cX7_init 35 = .ok (.newarray .int, 2) := by decide +kernel
theorem dX7_init_37 : decode cX7_init 37 = .ok (.putfield 19, 3) := by decide +kernel
theorem dX7_init_40 : decode cX7_init 40 = .ok (.aload_n 0, 1) := by decide +kernel
theorem dX7_init_41 : decode cX7_init 41 = .ok (.bipush 60, 2) := by decide +kernel
theorem dX7_init_43 : decode cX7_init 43 = .ok (.newarray .char, 2) := by decide +kernel
theorem dX7_init_45 : decode cX7_init 45 = .ok (.putfield 22, 3) := by decide +kernel
theorem dX7_init_48 : decode cX7_init 48 = .ok (.aload_n 0, 1) := by decide +kernel
theorem dX7_init_49 : decode cX7_init 49 = .ok (.bipush 60, 2) := by decide +kernel
theorem dX7_init_51 : decode cX7_init 51 = .ok (.newarray .char, 2) := by decide +kernel
theorem dX7_init_53 : decode cX7_init 53 = .ok (.putfield 26, 3) := by decide +kernel
theorem dX7_init_56 : decode cX7_init 56 = .ok (.aload_n 0, 1) := by decide +kernel
theorem dX7_init_57 : decode cX7_init 57 = .ok (.iconst (-1), 1) := by decide +kernel
theorem dX7_init_58 : decode cX7_init 58 = .ok (.putfield 29, 3) := by decide +kernel
theorem dX7_init_61 : decode cX7_init 61 = .ok (.aload_n 0, 1) := by decide +kernel
theorem dX7_init_62 : decode cX7_init 62 = .ok (.sipush 240, 3) := by decide +kernel
theorem dX7_init_65 : decode cX7_init 65 = .ok (.newarray .int, 2) := by decide +kernel
theorem dX7_init_67 : decode cX7_init 67 = .ok (.putfield 33, 3) := by decide +kernel
theorem dX7_init_70 : decode cX7_init 70 = .ok (.iconst 0, 1) := by decide +kernel
theorem dX7_init_71 : decode cX7_init 71 = .ok (.istore_n 1, 1) := by decide +kernel
theorem dX7_init_72 : decode cX7_init 72 = .ok (.iload_n 1, 1) := by decide +kernel
theorem dX7_init_73 : decode cX7_init 73 = .ok (.bipush 6, 2) := by decide +kernel
theorem dX7_init_75 : decode cX7_init 75 = .ok (.if_icmp .ge 20, 3) := by decide +kernel
theorem dX7_init_78 : decode cX7_init 78 = .ok (.aload_n 0, 1) := by decide +kernel
theorem dX7_init_79 : decode cX7_init 79 = .ok (.getfield 9, 3) := by decide +kernel
theorem dX7_init_82 : decode cX7_init 82 = .ok (.bipush 6, 2) := by decide +kernel
theorem dX7_init_84 : decode cX7_init 84 = .ok (.iload_n 1, 1) := by decide +kernel
theorem dX7_init_85 : decode cX7_init 85 = .ok (.iadd, 1) := by decide +kernel
theorem dX7_init_86 : decode cX7_init 86 = .ok (.bipush 20, 2) := by decide +kernel
theorem dX7_init_88 : decode cX7_init 88 = .ok (.iastore, 1) := by decide +kernel
theorem dX7_init_89 : decode cX7_init 89 = .ok (.iinc 1 1, 3) := by decide +kernel
theorem dX7_init_92 : decode cX7_init 92 = .ok (.goto (-20), 3) := by decide +kernel
theorem dX7_init_95 : decode cX7_init 95 = .ok (.return_, 1) := by decide +kernel
theorem dX7_thrown_0 : decode cX7_thrown 0 = .ok (.aload_n 0, 1) := by decide +kernel
theorem dX7_thrown_1 : decode cX7_thrown 1 = .ok (.getfield 36, 3) := by decide +kernel
theorem dX7_thrown_4 : decode cX7_thrown 4 = .ok (.ireturn, 1) := by decide +kernel
theorem dX7_in_0 : decode cX7_in 0 = .ok (.iload_n 0, 1) := by decide +kernel
theorem dX7_in_1 : decode cX7_in 1 = .ok (.iload_n 1, 1) := by decide +kernel
theorem dX7_in_2 : decode cX7_in 2 = .ok (.if_icmp .lt 12, 3) := by decide +kernel
theorem dX7_in_5 : decode cX7_in 5 = .ok (.iload_n 0, 1) := by decide +kernel
theorem dX7_in_6 : decode cX7_in 6 = .ok (.iload_n 2, 1) := by decide +kernel
theorem dX7_in_7 : decode cX7_in 7 = .ok (.if_icmp .gt 7, 3) := by decide +kernel
theorem dX7_in_10 : decode cX7_in 10 = .ok (.iconst 1, 1) := by decide +kernel
theorem dX7_in_11 : decode cX7_in 11 = .ok (.goto 4, 3) := by decide +kernel
theorem dX7_in_14 : decode cX7_in 14 = .ok (.iconst 0, 1) := by decide +kernel
theorem dX7_in_15 : decode cX7_in 15 = .ok (.ireturn, 1) := by decide +kernel
theorem dX7_keep_0 : decode cX7_keep 0 = .ok (.aload_n 0, 1) := by decide +kernel
theorem dX7_keep_1 : decode cX7_keep 1 = .ok (.iconst 0, 1) := by decide +kernel
theorem dX7_keep_2 : decode cX7_keep 2 = .ok (.putfield 36, 3) := by decide +kernel
theorem dX7_keep_5 : decode cX7_keep 5 = .ok (.aload_n 0, 1) := by decide +kernel
theorem dX7_keep_6 : decode cX7_keep 6 = .ok (.getfield 9, 3) := by decide +kernel
theorem dX7_keep_9 : decode cX7_keep 9 = .ok (.iconst 0, 1) := by decide +kernel
theorem dX7_keep_10 : decode cX7_keep 10 = .ok (.aload_n 0, 1) := by decide +kernel
theorem dX7_keep_11 : decode cX7_keep 11 = .ok (.getfield 13, 3) := by decide +kernel
theorem dX7_keep_14 : decode cX7_keep 14 = .ok (.iconst 0, 1) := by decide +kernel
theorem dX7_keep_15 : decode cX7_keep 15 = .ok (.sipush 144, 3) := by decide +kernel
theorem dX7_keep_18 : decode cX7_keep 18 = .ok (.invokestatic 39, 3) := by decide +kernel
theorem dX7_keep_21 : decode cX7_keep 21 = .ok (.return_, 1) := by decide +kernel
theorem dX7_ends_0 : decode cX7_ends 0 = .ok (.aload_n 0, 1) := by decide +kernel
theorem dX7_ends_1 : decode cX7_ends 1 = .ok (.getfield 36, 3) := by decide +kernel
theorem dX7_ends_4 : decode cX7_ends 4 = .ok (.ifCond .le 21, 3) := by decide +kernel
theorem dX7_ends_7 : decode cX7_ends 7 = .ok (.aload_n 0, 1) := by decide +kernel
theorem dX7_ends_8 : decode cX7_ends 8 = .ok (.getfield 13, 3) := by decide +kernel
theorem dX7_ends_11 : decode cX7_ends 11 = .ok (.iconst 0, 1) := by decide +kernel
theorem dX7_ends_12 : decode cX7_ends 12 = .ok (.aload_n 0, 1) := by decide +kernel
theorem dX7_ends_13 : decode cX7_ends 13 = .ok (.getfield 9, 3) := by decide +kernel
theorem dX7_ends_16 : decode cX7_ends 16 = .ok (.iconst 0, 1) := by decide +kernel
theorem dX7_ends_17 : decode cX7_ends 17 = .ok (.sipush 144, 3) := by decide +kernel
theorem dX7_ends_20 : decode cX7_ends 20 = .ok (.invokestatic 39, 3) := by decide +kernel
theorem dX7_ends_23 : decode cX7_ends 23 = .ok (.iconst 0, 1) := by decide +kernel
theorem dX7_ends_24 : decode cX7_ends 24 = .ok (.ireturn, 1) := by decide +kernel
theorem dX7_ends_25 : decode cX7_ends 25 = .ok (.aload_n 0, 1) := by decide +kernel
theorem dX7_ends_26 : decode cX7_ends 26 = .ok (.getfield 45, 3) := by decide +kernel
theorem dX7_ends_29 : decode cX7_ends 29 = .ok (.bipush 8, 2) := by decide +kernel
theorem dX7_ends_31 : decode cX7_ends 31 = .ok (.if_icmp .ne 31, 3) := by decide +kernel
theorem dX7_ends_34 : decode cX7_ends 34 = .ok (.aload_n 0, 1) := by decide +kernel
theorem dX7_ends_35 : decode cX7_ends 35 = .ok (.getfield 19, 3) := by decide +kernel
theorem dX7_ends_38 : decode cX7_ends 38 = .ok (.sipush 144, 3) := by decide +kernel
theorem dX7_ends_41 : decode cX7_ends 41 = .ok (.aload_n 0, 1) := by decide +kernel
theorem dX7_ends_42 : decode cX7_ends 42 = .ok (.getfield 19, 3) := by decide +kernel
theorem dX7_ends_45 : decode cX7_ends 45 = .ok (.iconst 0, 1) := by decide +kernel
theorem dX7_ends_46 : decode cX7_ends 46 = .ok (.sipush 1008, 3) := by decide +kernel
theorem dX7_ends_49 : decode cX7_ends 49 = .ok (.invokestatic 39, 3) := by decide +kernel
theorem dX7_ends_52 : decode cX7_ends 52 = .ok (.aload_n 0, 1) := by decide +kernel
theorem dX7_ends_53 : decode cX7_ends 53 = .ok (.dup, 1) := by decide +kernel
theorem dX7_ends_54 : decode cX7_ends 54 = .ok (.getfield 45, 3) := by decide +kernel
theorem dX7_ends_57 : decode cX7_ends 57 = .ok (.iconst 1, 1) := by decide +kernel
theorem dX7_ends_58 : decode cX7_ends 58 = .ok (.isub, 1) := by decide +kernel
theorem dX7_ends_59 : decode cX7_ends 59 = .ok (.putfield 45, 3) := by decide +kernel
theorem dX7_ends_62 : decode cX7_ends 62 = .ok (.aload_n 0, 1) := by decide +kernel
theorem dX7_ends_63 : decode cX7_ends 63 = .ok (.getfield 13, 3) := by decide +kernel
theorem dX7_ends_66 : decode cX7_ends 66 = .ok (.iconst 0, 1) := by decide +kernel
theorem dX7_ends_67 : decode cX7_ends 67 = .ok (.aload_n 0, 1) := by decide +kernel
theorem dX7_ends_68 : decode cX7_ends 68 = .ok (.getfield 19, 3) := by decide +kernel
theorem dX7_ends_71 : decode cX7_ends 71 = .ok (.sipush 144, 3) := by decide +kernel
theorem dX7_ends_74 : decode cX7_ends 74 = .ok (.aload_n 0, 1) := by decide +kernel
theorem dX7_ends_75 : decode cX7_ends 75 = .ok (.getfield 45, 3) := by decide +kernel
theorem dX7_ends_78 : decode cX7_ends 78 = .ok (.imul, 1) := by decide +kernel
theorem dX7_ends_79 : decode cX7_ends 79 = .ok (.sipush 144, 3) := by decide +kernel
theorem dX7_ends_82 : decode cX7_ends 82 = .ok (.invokestatic 39, 3) := by decide +kernel
theorem dX7_ends_85 : decode cX7_ends 85 = .ok (.aload_n 0, 1) := by decide +kernel
theorem dX7_ends_86 : decode cX7_ends 86 = .ok (.dup, 1) := by decide +kernel
theorem dX7_ends_87 : decode cX7_ends 87 = .ok (.getfield 45, 3) := by decide +kernel
theorem dX7_ends_90 : decode cX7_ends 90 = .ok (.iconst 1, 1) := by decide +kernel
theorem dX7_ends_91 : decode cX7_ends 91 = .ok (.iadd, 1) := by decide +kernel
theorem dX7_ends_92 : decode cX7_ends 92 = .ok (.putfield 45, 3) := by decide +kernel
theorem dX7_ends_95 : decode cX7_ends 95 = .ok (.iload_n 1, 1) := by decide +kernel
theorem dX7_ends_96 : decode cX7_ends 96 = .ok (.ireturn, 1) := by decide +kernel
theorem dX7_fails_0 : decode cX7_fails 0 = .ok (.aload_n 0, 1) := by decide +kernel
theorem dX7_fails_1 : decode cX7_fails 1 = .ok (.iload_n 1, 1) := by decide +kernel
theorem dX7_fails_2 : decode cX7_fails 2 = .ok (.putfield 36, 3) := by decide +kernel
theorem dX7_fails_5 : decode cX7_fails 5 = .ok (.iconst 0, 1) := by decide +kernel
theorem dX7_fails_6 : decode cX7_fails 6 = .ok (.ireturn, 1) := by decide +kernel
theorem dX7_refuse_0 : decode cX7_refuse 0 = .ok (.aload_n 0, 1) := by decide +kernel
theorem dX7_refuse_1 : decode cX7_refuse 1 = .ok (.iload_n 1, 1) := by decide +kernel
theorem dX7_refuse_2 : decode cX7_refuse 2 = .ok (.putfield 36, 3) := by decide +kernel
theorem dX7_refuse_5 : decode cX7_refuse 5 = .ok (.aload_n 0, 1) := by decide +kernel
theorem dX7_refuse_6 : decode cX7_refuse 6 = .ok (.iconst 1, 1) := by decide +kernel
theorem dX7_refuse_7 : decode cX7_refuse 7 = .ok (.putfield 48, 3) := by decide +kernel
theorem dX7_refuse_10 : decode cX7_refuse 10 = .ok (.aload_n 0, 1) := by decide +kernel
theorem dX7_refuse_11 : decode cX7_refuse 11 = .ok (.iload_n 2, 1) := by decide +kernel
theorem dX7_refuse_12 : decode cX7_refuse 12 = .ok (.putfield 52, 3) := by decide +kernel
theorem dX7_refuse_15 : decode cX7_refuse 15 = .ok (.aload_n 0, 1) := by decide +kernel
theorem dX7_refuse_16 : decode cX7_refuse 16 = .ok (.iload_n 3, 1) := by decide +kernel
theorem dX7_refuse_17 : decode cX7_refuse 17 = .ok (.putfield 55, 3) := by decide +kernel
theorem dX7_refuse_20 : decode cX7_refuse 20 = .ok (.iconst 0, 1) := by decide +kernel
theorem dX7_refuse_21 : decode cX7_refuse 21 = .ok (.ireturn, 1) := by decide +kernel
theorem dX7_refusal_0 : decode cX7_refusal 0 = .ok (.aload_n 0, 1) := by decide +kernel
theorem dX7_refusal_1 : decode cX7_refusal 1 = .ok (.aload_n 0, 1) := by decide +kernel
theorem dX7_refusal_2 : decode cX7_refusal 2 = .ok (.getfield 52, 3) := by decide +kernel
theorem dX7_refusal_5 : decode cX7_refusal 5 = .ok (.ifCond .ne 7, 3) := by decide +kernel
theorem dX7_refusal_8 : decode cX7_refusal 8 = .ok (.iconst 1, 1) := by decide +kernel
theorem dX7_refusal_9 : decode cX7_refusal 9 = .ok (.goto 4, 3) := by decide +kernel
theorem dX7_refusal_12 : decode cX7_refusal 12 = .ok (.iconst 0, 1) := by decide +kernel
theorem dX7_refusal_13 : decode cX7_refusal 13 = .ok (.putfield 36, 3) := by decide +kernel
theorem dX7_refusal_16 : decode cX7_refusal 16 = .ok (.aload_n 0, 1) := by decide +kernel
theorem dX7_refusal_17 : decode cX7_refusal 17 = .ok (.getfield 36, 3) := by decide +kernel
theorem dX7_refusal_20 : decode cX7_refusal 20 = .ok (.ifCond .le 7, 3) := by decide +kernel
theorem dX7_refusal_23 : decode cX7_refusal 23 = .ok (.iconst 0, 1) := by decide +kernel
theorem dX7_refusal_24 : decode cX7_refusal 24 = .ok (.goto 18, 3) := by decide +kernel
theorem dX7_refusal_27 : decode cX7_refusal 27 = .ok (.iload_n 1, 1) := by decide +kernel
theorem dX7_refusal_28 : decode cX7_refusal 28 = .ok (.ifCond .eq 10, 3) := by decide +kernel
theorem dX7_refusal_31 : decode cX7_refusal 31 = .ok (.aload_n 0, 1) := by decide +kernel
theorem dX7_refusal_32 : decode cX7_refusal 32 = .ok (.getfield 55, 3) := by decide +kernel
theorem dX7_refusal_35 : decode cX7_refusal 35 = .ok (.goto 7, 3) := by decide +kernel
theorem dX7_refusal_38 : decode cX7_refusal 38 = .ok (.aload_n 0, 1) := by decide +kernel
theorem dX7_refusal_39 : decode cX7_refusal 39 = .ok (.getfield 52, 3) := by decide +kernel
theorem dX7_refusal_42 : decode cX7_refusal 42 = .ok (.ireturn, 1) := by decide +kernel
theorem dX7_isMatter_0 : decode cX7_isMatter 0 = .ok (.iload_n 1, 1) := by decide +kernel
theorem dX7_isMatter_1 : decode cX7_isMatter 1 = .ok (.iconst 0, 1) := by decide +kernel
theorem dX7_isMatter_2 : decode cX7_isMatter 2 = .ok (.aload_n 0, 1) := by decide +kernel
theorem dX7_isMatter_3 : decode cX7_isMatter 3 = .ok (.getfield 9, 3) := by decide +kernel
theorem dX7_isMatter_6 : decode cX7_isMatter 6 = .ok (.iconst 0, 1) := by decide +kernel
theorem dX7_isMatter_7 : decode cX7_isMatter 7 = .ok (.iaload, 1) := by decide +kernel
theorem dX7_isMatter_8 : decode cX7_isMatter 8 = .ok (.iconst 1, 1) := by decide +kernel
theorem dX7_isMatter_9 : decode cX7_isMatter 9 = .ok (.isub, 1) := by decide +kernel
theorem dX7_isMatter_10 : decode cX7_isMatter 10 = .ok (.invokestatic 58, 3) := by decide +kernel
theorem dX7_isMatter_13 : decode cX7_isMatter 13 = .ok (.ireturn, 1) := by decide +kernel
theorem dX7_isGuild_0 : decode cX7_isGuild 0 = .ok (.iload_n 0, 1) := by decide +kernel
theorem dX7_isGuild_1 : decode cX7_isGuild 1 = .ok (.iconst 0, 1) := by decide +kernel
theorem dX7_isGuild_2 : decode cX7_isGuild 2 = .ok (.iconst 5, 1) := by decide +kernel
theorem dX7_isGuild_3 : decode cX7_isGuild 3 = .ok (.invokestatic 58, 3) := by decide +kernel
theorem dX7_isGuild_6 : decode cX7_isGuild 6 = .ok (.ireturn, 1) := by decide +kernel
theorem dX7_how_0 : decode cX7_how 0 = .ok (.aload_n 0, 1) := by decide +kernel
theorem dX7_how_1 : decode cX7_how 1 = .ok (.getfield 9, 3) := by decide +kernel
theorem dX7_how_4 : decode cX7_how 4 = .ok (.bipush 32, 2) := by decide +kernel
theorem dX7_how_6 : decode cX7_how 6 = .ok (.bipush 14, 2) := by decide +kernel
theorem dX7_how_8 : decode cX7_how 8 = .ok (.iload_n 1, 1) := by decide +kernel
theorem dX7_how_9 : decode cX7_how 9 = .ok (.imul, 1) := by decide +kernel
theorem dX7_how_10 : decode cX7_how 10 = .ok (.iadd, 1) := by decide +kernel
theorem dX7_how_11 : decode cX7_how 11 = .ok (.iconst 0, 1) := by decide +kernel
theorem dX7_how_12 : decode cX7_how 12 = .ok (.iadd, 1) := by decide +kernel
theorem dX7_how_13 : decode cX7_how 13 = .ok (.iaload, 1) := by decide +kernel
theorem dX7_how_14 : decode cX7_how 14 = .ok (.ireturn, 1) := by decide +kernel
theorem dX7_amountOf_0 : decode cX7_amountOf 0 = .ok (.aload_n 0, 1) := by decide +kernel
theorem dX7_amountOf_1 : decode cX7_amountOf 1 = .ok (.getfield 9, 3) := by decide +kernel
theorem dX7_amountOf_4 : decode cX7_amountOf 4 = .ok (.bipush 32, 2) := by decide +kernel
theorem dX7_amountOf_6 : decode cX7_amountOf 6 = .ok (.bipush 14, 2) := by decide +kernel
theorem dX7_amountOf_8 : decode cX7_amountOf 8 = .ok (.iload_n 1, 1) := by decide +kernel
theorem dX7_amountOf_9 : decode cX7_amountOf 9 = .ok (.imul, 1) := by decide +kernel
theorem dX7_amountOf_10 : decode cX7_amountOf 10 = .ok (.iadd, 1) := by decide +kernel
theorem dX7_amountOf_11 : decode cX7_amountOf 11 = .ok (.iconst 2, 1) := by decide +kernel
theorem dX7_amountOf_12 : decode cX7_amountOf 12 = .ok (.iadd, 1) := by decide +kernel
theorem dX7_amountOf_13 : decode cX7_amountOf 13 = .ok (.iload_n 2, 1) := by decide +kernel
theorem dX7_amountOf_14 : decode cX7_amountOf 14 = .ok (.iadd, 1) := by decide +kernel
theorem dX7_amountOf_15 : decode cX7_amountOf 15 = .ok (.iaload, 1) := by decide +kernel
theorem dX7_amountOf_16 : decode cX7_amountOf 16 = .ok (.ireturn, 1) := by decide +kernel
theorem dX7_isOf_0 : decode cX7_isOf 0 = .ok (.aload_n 0, 1) := by decide +kernel
theorem dX7_isOf_1 : decode cX7_isOf 1 = .ok (.iload_n 1, 1) := by decide +kernel
theorem dX7_isOf_2 : decode cX7_isOf 2 = .ok (.iload_n 2, 1) := by decide +kernel
theorem dX7_isOf_3 : decode cX7_isOf 3 = .ok (.invokevirtual 62, 3) := by decide +kernel
theorem dX7_isOf_6 : decode cX7_isOf 6 = .ok (.ifCond .eq 7, 3) := by decide +kernel
theorem dX7_isOf_9 : decode cX7_isOf 9 = .ok (.iconst 1, 1) := by decide +kernel
theorem dX7_isOf_10 : decode cX7_isOf 10 = .ok (.goto 4, 3) := by decide +kernel
theorem dX7_isOf_13 : decode cX7_isOf 13 = .ok (.iconst 0, 1) := by decide +kernel
theorem dX7_isOf_14 : decode cX7_isOf 14 = .ok (.ireturn, 1) := by decide +kernel
theorem dX7_answerOf_0 : decode cX7_answerOf 0 = .ok (.aload_n 0, 1) := by decide +kernel
theorem dX7_answerOf_1 : decode cX7_answerOf 1 = .ok (.getfield 9, 3) := by decide +kernel
theorem dX7_answerOf_4 : decode cX7_answerOf 4 = .ok (.bipush 32, 2) := by decide +kernel
theorem dX7_answerOf_6 : decode cX7_answerOf 6 = .ok (.bipush 14, 2) := by decide +kernel
theorem dX7_answerOf_8 : decode cX7_answerOf 8 = .ok (.iload_n 1, 1) := by decide +kernel
theorem dX7_answerOf_9 : decode cX7_answerOf 9 = .ok (.imul, 1) := by decide +kernel
theorem dX7_answerOf_10 : decode cX7_answerOf 10 = .ok (.iadd, 1) := by decide +kernel
theorem dX7_answerOf_11 : decode cX7_answerOf 11 = .ok (.bipush 8, 2) := by decide +kernel
theorem dX7_answerOf_13 : decode cX7_answerOf 13 = .ok (.iadd, 1) := by decide +kernel
theorem dX7_answerOf_14 : decode cX7_answerOf 14 = .ok (.iload_n 2, 1) := by decide +kernel
theorem dX7_answerOf_15 : decode cX7_answerOf 15 = .ok (.iadd, 1) := by decide +kernel
theorem dX7_answerOf_16 : decode cX7_answerOf 16 = .ok (.iaload, 1) := by decide +kernel
theorem dX7_answerOf_17 : decode cX7_answerOf 17 = .ok (.ireturn, 1) := by decide +kernel
theorem dX7_answers_0 : decode cX7_answers 0 = .ok (.aload_n 0, 1) := by decide +kernel
theorem dX7_answers_1 : decode cX7_answers 1 = .ok (.getfield 9, 3) := by decide +kernel
theorem dX7_answers_4 : decode cX7_answers 4 = .ok (.bipush 32, 2) := by decide +kernel
theorem dX7_answers_6 : decode cX7_answers 6 = .ok (.bipush 14, 2) := by decide +kernel
theorem dX7_answers_8 : decode cX7_answers 8 = .ok (.iload_n 1, 1) := by decide +kernel
theorem dX7_answers_9 : decode cX7_answers 9 = .ok (.imul, 1) := by decide +kernel
theorem dX7_answers_10 : decode cX7_answers 10 = .ok (.iadd, 1) := by decide +kernel
theorem dX7_answers_11 : decode cX7_answers 11 = .ok (.bipush 8, 2) := by decide +kernel
theorem dX7_answers_13 : decode cX7_answers 13 = .ok (.iadd, 1) := by decide +kernel
theorem dX7_answers_14 : decode cX7_answers 14 = .ok (.iload_n 2, 1) := by decide +kernel
theorem dX7_answers_15 : decode cX7_answers 15 = .ok (.iadd, 1) := by decide +kernel
theorem dX7_answers_16 : decode cX7_answers 16 = .ok (.iload_n 3, 1) := by decide +kernel
theorem dX7_answers_17 : decode cX7_answers 17 = .ok (.iastore, 1) := by decide +kernel
theorem dX7_answers_18 : decode cX7_answers 18 = .ok (.return_, 1) := by decide +kernel
theorem dX7_isAsleep_0 : decode cX7_isAsleep 0 = .ok (.aload_n 0, 1) := by decide +kernel
theorem dX7_isAsleep_1 : decode cX7_isAsleep 1 = .ok (.getfield 9, 3) := by decide +kernel
theorem dX7_isAsleep_4 : decode cX7_isAsleep 4 = .ok (.bipush 12, 2) := by decide +kernel
theorem dX7_isAsleep_6 : decode cX7_isAsleep 6 = .ok (.iload_n 1, 1) := by decide +kernel
theorem dX7_isAsleep_7 : decode cX7_isAsleep 7 = .ok (.iadd, 1) := by decide +kernel
theorem dX7_isAsleep_8 : decode cX7_isAsleep 8 = .ok (.iaload, 1) := by decide +kernel
theorem dX7_isAsleep_9 : decode cX7_isAsleep 9 = .ok (.iconst 1, 1) := by decide +kernel
theorem dX7_isAsleep_10 : decode cX7_isAsleep 10 = .ok (.if_icmp .ne 7, 3) := by decide +kernel
theorem dX7_isAsleep_13 : decode cX7_isAsleep 13 = .ok (.iconst 1, 1) := by decide +kernel
theorem dX7_isAsleep_14 : decode cX7_isAsleep 14 = .ok (.goto 4, 3) := by decide +kernel
theorem dX7_isAsleep_17 : decode cX7_isAsleep 17 = .ok (.iconst 0, 1) := by decide +kernel
theorem dX7_isAsleep_18 : decode cX7_isAsleep 18 = .ok (.ireturn, 1) := by decide +kernel
theorem dX7_count_0 : decode cX7_count 0 = .ok (.iconst 0, 1) := by decide +kernel
theorem dX7_count_1 : decode cX7_count 1 = .ok (.istore 4, 2) := by decide +kernel
theorem dX7_count_3 : decode cX7_count 3 = .ok (.iconst 0, 1) := by decide +kernel
theorem dX7_count_4 : decode cX7_count 4 = .ok (.istore 5, 2) := by decide +kernel
theorem dX7_count_6 : decode cX7_count 6 = .ok (.iload 5, 2) := by decide +kernel
theorem dX7_count_8 : decode cX7_count 8 = .ok (.bipush 6, 2) := by decide +kernel
theorem dX7_count_10 : decode cX7_count 10 = .ok (.if_icmp .ge 44, 3) := by decide +kernel
theorem dX7_count_13 : decode cX7_count 13 = .ok (.iload 4, 2) := by decide +kernel
theorem dX7_count_15 : decode cX7_count 15 = .ok (.aload_n 0, 1) := by decide +kernel
theorem dX7_count_16 : decode cX7_count 16 = .ok (.iload_n 1, 1) := by decide +kernel
theorem dX7_count_17 : decode cX7_count 17 = .ok (.iload 5, 2) := by decide +kernel
theorem dX7_count_19 : decode cX7_count 19 = .ok (.invokevirtual 66, 3) := by decide +kernel
theorem dX7_count_22 : decode cX7_count 22 = .ok (.ifCond .eq 22, 3) := by decide +kernel
theorem dX7_count_25 : decode cX7_count 25 = .ok (.aload_n 0, 1) := by decide +kernel
theorem dX7_count_26 : decode cX7_count 26 = .ok (.iload_n 1, 1) := by decide +kernel
theorem dX7_count_27 : decode cX7_count 27 = .ok (.iload 5, 2) := by decide +kernel
theorem dX7_count_29 : decode cX7_count 29 = .ok (.invokevirtual 70, 3) := by decide +kernel
theorem dX7_count_32 : decode cX7_count 32 = .ok (.iload_n 2, 1) := by decide +kernel
theorem dX7_count_33 : decode cX7_count 33 = .ok (.iload_n 3, 1) := by decide +kernel
theorem dX7_count_34 : decode cX7_count 34 = .ok (.invokestatic 58, 3) := by decide +kernel
theorem dX7_count_37 : decode cX7_count 37 = .ok (.ifCond .eq 7, 3) := by decide +kernel
theorem dX7_count_40 : decode cX7_count 40 = .ok (.iconst 1, 1) := by decide +kernel
theorem dX7_count_41 : decode cX7_count 41 = .ok (.goto 4, 3) := by decide +kernel
theorem dX7_count_44 : decode cX7_count 44 = .ok (.iconst 0, 1) := by decide +kernel
theorem dX7_count_45 : decode cX7_count 45 = .ok (.iadd, 1) := by decide +kernel
theorem dX7_count_46 : decode cX7_count 46 = .ok (.istore 4, 2) := by decide +kernel
theorem dX7_count_48 : decode cX7_count 48 = .ok (.iinc 5 1, 3) := by decide +kernel
theorem dX7_count_51 : decode cX7_count 51 = .ok (.goto (-45), 3) := by decide +kernel
theorem dX7_count_54 : decode cX7_count 54 = .ok (.iload 4, 2) := by decide +kernel
theorem dX7_count_56 : decode cX7_count 56 = .ok (.ireturn, 1) := by decide +kernel
theorem dX7_matters_0 : decode cX7_matters 0 = .ok (.iconst 0, 1) := by decide +kernel
theorem dX7_matters_1 : decode cX7_matters 1 = .ok (.istore_n 2, 1) := by decide +kernel
theorem dX7_matters_2 : decode cX7_matters 2 = .ok (.iconst 0, 1) := by decide +kernel
theorem dX7_matters_3 : decode cX7_matters 3 = .ok (.istore_n 3, 1) := by decide +kernel
theorem dX7_matters_4 : decode cX7_matters 4 = .ok (.iload_n 3, 1) := by decide +kernel
theorem dX7_matters_5 : decode cX7_matters 5 = .ok (.aload_n 0, 1) := by decide +kernel
theorem dX7_matters_6 : decode cX7_matters 6 = .ok (.getfield 9, 3) := by decide +kernel
theorem dX7_matters_9 : decode cX7_matters 9 = .ok (.iconst 0, 1) := by decide +kernel
theorem dX7_matters_10 : decode cX7_matters 10 = .ok (.iaload, 1) := by decide +kernel
theorem dX7_matters_11 : decode cX7_matters 11 = .ok (.if_icmp .ge 26, 3) := by decide +kernel
theorem dX7_matters_14 : decode cX7_matters 14 = .ok (.iload_n 2, 1) := by decide +kernel
theorem dX7_matters_15 : decode cX7_matters 15 = .ok (.aload_n 0, 1) := by decide +kernel
theorem dX7_matters_16 : decode cX7_matters 16 = .ok (.iload_n 3, 1) := by decide +kernel
theorem dX7_matters_17 : decode cX7_matters 17 = .ok (.invokevirtual 73, 3) := by decide +kernel
theorem dX7_matters_20 : decode cX7_matters 20 = .ok (.iload_n 1, 1) := by decide +kernel
theorem dX7_matters_21 : decode cX7_matters 21 = .ok (.if_icmp .ne 7, 3) := by decide +kernel
theorem dX7_matters_24 : decode cX7_matters 24 = .ok (.iconst 1, 1) := by decide +kernel
theorem dX7_matters_25 : decode cX7_matters 25 = .ok (.goto 4, 3) := by decide +kernel
theorem dX7_matters_28 : decode cX7_matters 28 = .ok (.iconst 0, 1) := by decide +kernel
theorem dX7_matters_29 : decode cX7_matters 29 = .ok (.iadd, 1) := by decide +kernel
theorem dX7_matters_30 : decode cX7_matters 30 = .ok (.istore_n 2, 1) := by decide +kernel
theorem dX7_matters_31 : decode cX7_matters 31 = .ok (.iinc 3 1, 3) := by decide +kernel
theorem dX7_matters_34 : decode cX7_matters 34 = .ok (.goto (-30), 3) := by decide +kernel
theorem dX7_matters_37 : decode cX7_matters 37 = .ok (.iload_n 2, 1) := by decide +kernel
theorem dX7_matters_38 : decode cX7_matters 38 = .ok (.ireturn, 1) := by decide +kernel
theorem dX7_doMatter_0 : decode cX7_doMatter 0 = .ok (.aload_n 0, 1) := by decide +kernel
theorem dX7_doMatter_1 : decode cX7_doMatter 1 = .ok (.getfield 9, 3) := by decide +kernel
theorem dX7_doMatter_4 : decode cX7_doMatter 4 = .ok (.iconst 0, 1) := by decide +kernel
theorem dX7_doMatter_5 : decode cX7_doMatter 5 = .ok (.iaload, 1) := by decide +kernel
theorem dX7_doMatter_6 : decode cX7_doMatter 6 = .ok (.istore_n 1, 1) := by decide +kernel
theorem dX7_doMatter_7 : decode cX7_doMatter 7 = .ok (.iload_n 1, 1) := by decide +kernel
theorem dX7_doMatter_8 : decode cX7_doMatter 8 = .ok (.bipush 8, 2) := by decide +kernel
theorem dX7_doMatter_10 : decode cX7_doMatter 10 = .ok (.if_icmp .ne 12, 3) := by decide +kernel
theorem dX7_doMatter_13 : decode cX7_doMatter 13 = .ok (.aload_n 0, 1) := by decide +kernel
theorem dX7_doMatter_14 : decode cX7_doMatter 14 = .ok (.iconst 1, 1) := by decide +kernel
theorem dX7_doMatter_15 : decode cX7_doMatter 15 = .ok (.iconst 1, 1) := by decide +kernel
theorem dX7_doMatter_16 : decode cX7_doMatter 16 = .ok (.bipush 8, 2) := by decide +kernel
theorem dX7_doMatter_18 : decode cX7_doMatter 18 = .ok (.invokevirtual 77, 3) := by decide +kernel
theorem dX7_doMatter_21 : decode cX7_doMatter 21 = .ok (.ireturn, 1) := by decide +kernel
theorem dX7_doMatter_22 : decode cX7_doMatter 22 = .ok (.iconst 0, 1) := by decide +kernel
theorem dX7_doMatter_23 : decode cX7_doMatter 23 = .ok (.istore_n 2, 1) := by decide +kernel
theorem dX7_doMatter_24 : decode cX7_doMatter 24 = .ok (.iload_n 2, 1) := by decide +kernel
theorem dX7_doMatter_25 : decode cX7_doMatter 25 = .ok (.bipush 14, 2) := by decide +kernel
theorem dX7_doMatter_27 : decode cX7_doMatter 27 = .ok (.if_icmp .ge 24, 3) := by decide +kernel
theorem dX7_doMatter_30 : decode cX7_doMatter 30 = .ok (.aload_n 0, 1) := by decide +kernel
theorem dX7_doMatter_31 : decode cX7_doMatter 31 = .ok (.getfield 9, 3) := by decide +kernel
theorem dX7_doMatter_34 : decode cX7_doMatter 34 = .ok (.bipush 32, 2) := by decide +kernel
theorem dX7_doMatter_36 : decode cX7_doMatter 36 = .ok (.bipush 14, 2) := by decide +kernel
theorem dX7_doMatter_38 : decode cX7_doMatter 38 = .ok (.iload_n 1, 1) := by decide +kernel
theorem dX7_doMatter_39 : decode cX7_doMatter 39 = .ok (.imul, 1) := by decide +kernel
theorem dX7_doMatter_40 : decode cX7_doMatter 40 = .ok (.iadd, 1) := by decide +kernel
theorem dX7_doMatter_41 : decode cX7_doMatter 41 = .ok (.iload_n 2, 1) := by decide +kernel
theorem dX7_doMatter_42 : decode cX7_doMatter 42 = .ok (.iadd, 1) := by decide +kernel
theorem dX7_doMatter_43 : decode cX7_doMatter 43 = .ok (.iconst 0, 1) := by decide +kernel
theorem dX7_doMatter_44 : decode cX7_doMatter 44 = .ok (.iastore, 1) := by decide +kernel
theorem dX7_doMatter_45 : decode cX7_doMatter 45 = .ok (.iinc 2 1, 3) := by decide +kernel
theorem dX7_doMatter_48 : decode cX7_doMatter 48 = .ok (.goto (-24), 3) := by decide +kernel
theorem dX7_doMatter_51 : decode cX7_doMatter 51 = .ok (.aload_n 0, 1) := by decide +kernel
theorem dX7_doMatter_52 : decode cX7_doMatter 52 = .ok (.getfield 9, 3) := by decide +kernel
theorem dX7_doMatter_55 : decode cX7_doMatter 55 = .ok (.bipush 32, 2) := by decide +kernel
theorem dX7_doMatter_57 : decode cX7_doMatter 57 = .ok (.bipush 14, 2) := by decide +kernel
theorem dX7_doMatter_59 : decode cX7_doMatter 59 = .ok (.iload_n 1, 1) := by decide +kernel
theorem dX7_doMatter_60 : decode cX7_doMatter 60 = .ok (.imul, 1) := by decide +kernel
theorem dX7_doMatter_61 : decode cX7_doMatter 61 = .ok (.iadd, 1) := by decide +kernel
theorem dX7_doMatter_62 : decode cX7_doMatter 62 = .ok (.iconst 1, 1) := by decide +kernel
theorem dX7_doMatter_63 : decode cX7_doMatter 63 = .ok (.iadd, 1) := by decide +kernel
theorem dX7_doMatter_64 : decode cX7_doMatter 64 = .ok (.aload_n 0, 1) := by decide +kernel
theorem dX7_doMatter_65 : decode cX7_doMatter 65 = .ok (.getfield 9, 3) := by decide +kernel
theorem dX7_doMatter_68 : decode cX7_doMatter 68 = .ok (.iconst 2, 1) := by decide +kernel
theorem dX7_doMatter_69 : decode cX7_doMatter 69 = .ok (.iaload, 1) := by decide +kernel
theorem dX7_doMatter_70 : decode cX7_doMatter 70 = .ok (.iastore, 1) := by decide +kernel
theorem dX7_doMatter_71 : decode cX7_doMatter 71 = .ok (.aload_n 0, 1) := by decide +kernel
theorem dX7_doMatter_72 : decode cX7_doMatter 72 = .ok (.getfield 9, 3) := by decide +kernel
theorem dX7_doMatter_75 : decode cX7_doMatter 75 = .ok (.iconst 0, 1) := by decide +kernel
theorem dX7_doMatter_76 : decode cX7_doMatter 76 = .ok (.dup2, 1) := by decide +kernel
theorem dX7_doMatter_77 : decode cX7_doMatter 77 = .ok (.iaload, 1) := by decide +kernel
theorem dX7_doMatter_78 : decode cX7_doMatter 78 = .ok (.iconst 1, 1) := by decide +kernel
theorem dX7_doMatter_79 : decode cX7_doMatter 79 = .ok (.iadd, 1) := by decide +kernel
theorem dX7_doMatter_80 : decode cX7_doMatter 80 = .ok (.iastore, 1) := by decide +kernel
theorem dX7_doMatter_81 : decode cX7_doMatter 81 = .ok (.iload_n 1, 1) := by decide +kernel
theorem dX7_doMatter_82 : decode cX7_doMatter 82 = .ok (.ireturn, 1) := by decide +kernel
theorem dX7_matter_0 : decode cX7_matter 0 = .ok (.aload_n 0, 1) := by decide +kernel
theorem dX7_matter_1 : decode cX7_matter 1 = .ok (.invokevirtual 81, 3) := by decide +kernel
theorem dX7_matter_4 : decode cX7_matter 4 = .ok (.aload_n 0, 1) := by decide +kernel
theorem dX7_matter_5 : decode cX7_matter 5 = .ok (.aload_n 0, 1) := by decide +kernel
theorem dX7_matter_6 : decode cX7_matter 6 = .ok (.invokevirtual 84, 3) := by decide +kernel
theorem dX7_matter_9 : decode cX7_matter 9 = .ok (.invokevirtual 88, 3) := by decide +kernel
theorem dX7_matter_12 : decode cX7_matter 12 = .ok (.ireturn, 1) := by decide +kernel
theorem dX7_doSet_0 : decode cX7_doSet 0 = .ok (.aload_n 0, 1) := by decide +kernel
theorem dX7_doSet_1 : decode cX7_doSet 1 = .ok (.iload_n 1, 1) := by decide +kernel
theorem dX7_doSet_2 : decode cX7_doSet 2 = .ok (.invokevirtual 91, 3) := by decide +kernel
theorem dX7_doSet_5 : decode cX7_doSet 5 = .ok (.ifCond .eq 10, 3) := by decide +kernel
theorem dX7_doSet_8 : decode cX7_doSet 8 = .ok (.iload_n 2, 1) := by decide +kernel
theorem dX7_doSet_9 : decode cX7_doSet 9 = .ok (.invokestatic 95, 3) := by decide +kernel
theorem dX7_doSet_12 : decode cX7_doSet 12 = .ok (.ifCond .ne 9, 3) := by decide +kernel
theorem dX7_doSet_15 : decode cX7_doSet 15 = .ok (.aload_n 0, 1) := by decide +kernel
theorem dX7_doSet_16 : decode cX7_doSet 16 = .ok (.iconst 1, 1) := by decide +kernel
theorem dX7_doSet_17 : decode cX7_doSet 17 = .ok (.invokevirtual 98, 3) := by decide +kernel
theorem dX7_doSet_20 : decode cX7_doSet 20 = .ok (.ireturn, 1) := by decide +kernel
theorem dX7_doSet_21 : decode cX7_doSet 21 = .ok (.iload_n 3, 1) := by decide +kernel
theorem dX7_doSet_22 : decode cX7_doSet 22 = .ok (.bipush (-50), 2) := by decide +kernel
theorem dX7_doSet_24 : decode cX7_doSet 24 = .ok (.bipush 50, 2) := by decide +kernel
theorem dX7_doSet_26 : decode cX7_doSet 26 = .ok (.invokestatic 58, 3) := by decide +kernel
theorem dX7_doSet_29 : decode cX7_doSet 29 = .ok (.ifCond .ne 9, 3) := by decide +kernel
theorem dX7_doSet_32 : decode cX7_doSet 32 = .ok (.aload_n 0, 1) := by decide +kernel
theorem dX7_doSet_33 : decode cX7_doSet 33 = .ok (.iconst 2, 1) := by decide +kernel
theorem dX7_doSet_34 : decode cX7_doSet 34 = .ok (.invokevirtual 98, 3) := by decide +kernel
theorem dX7_doSet_37 : decode cX7_doSet 37 = .ok (.ireturn, 1) := by decide +kernel
theorem dX7_doSet_38 : decode cX7_doSet 38 = .ok (.aload_n 0, 1) := by decide +kernel
theorem dX7_doSet_39 : decode cX7_doSet 39 = .ok (.iload_n 1, 1) := by decide +kernel
theorem dX7_doSet_40 : decode cX7_doSet 40 = .ok (.invokevirtual 73, 3) := by decide +kernel
theorem dX7_doSet_43 : decode cX7_doSet 43 = .ok (.ifCond .eq 15, 3) := by decide +kernel
theorem dX7_doSet_46 : decode cX7_doSet 46 = .ok (.aload_n 0, 1) := by decide +kernel
theorem dX7_doSet_47 : decode cX7_doSet 47 = .ok (.iconst 3, 1) := by decide +kernel
theorem dX7_doSet_48 : decode cX7_doSet 48 = .ok (.iconst 3, 1) := by decide +kernel
theorem dX7_doSet_49 : decode cX7_doSet 49 = .ok (.aload_n 0, 1) := by decide +kernel
theorem dX7_doSet_50 : decode cX7_doSet 50 = .ok (.iload_n 1, 1) := by decide +kernel
theorem dX7_doSet_51 : decode cX7_doSet 51 = .ok (.invokevirtual 73, 3) := by decide +kernel
theorem dX7_doSet_54 : decode cX7_doSet 54 = .ok (.invokevirtual 77, 3) := by decide +kernel
theorem dX7_doSet_57 : decode cX7_doSet 57 = .ok (.ireturn, 1) := by decide +kernel
theorem dX7_doSet_58 : decode cX7_doSet 58 = .ok (.aload_n 0, 1) := by decide +kernel
theorem dX7_doSet_59 : decode cX7_doSet 59 = .ok (.iload_n 1, 1) := by decide +kernel
theorem dX7_doSet_60 : decode cX7_doSet 60 = .ok (.iconst 1, 1) := by decide +kernel
theorem dX7_doSet_61 : decode cX7_doSet 61 = .ok (.iconst 4, 1) := by decide +kernel
theorem dX7_doSet_62 : decode cX7_doSet 62 = .ok (.invokevirtual 101, 3) := by decide +kernel
theorem dX7_doSet_65 : decode cX7_doSet 65 = .ok (.ifCond .le 18, 3) := by decide +kernel
theorem dX7_doSet_68 : decode cX7_doSet 68 = .ok (.aload_n 0, 1) := by decide +kernel
theorem dX7_doSet_69 : decode cX7_doSet 69 = .ok (.iconst 3, 1) := by decide +kernel
theorem dX7_doSet_70 : decode cX7_doSet 70 = .ok (.bipush 6, 2) := by decide +kernel
theorem dX7_doSet_72 : decode cX7_doSet 72 = .ok (.aload_n 0, 1) := by decide +kernel
theorem dX7_doSet_73 : decode cX7_doSet 73 = .ok (.iload_n 1, 1) := by decide +kernel
theorem dX7_doSet_74 : decode cX7_doSet 74 = .ok (.iconst 1, 1) := by decide +kernel
theorem dX7_doSet_75 : decode cX7_doSet 75 = .ok (.iconst 4, 1) := by decide +kernel
theorem dX7_doSet_76 : decode cX7_doSet 76 = .ok (.invokevirtual 101, 3) := by decide +kernel
theorem dX7_doSet_79 : decode cX7_doSet 79 = .ok (.invokevirtual 77, 3) := by decide +kernel
theorem dX7_doSet_82 : decode cX7_doSet 82 = .ok (.ireturn, 1) := by decide +kernel
theorem dX7_doSet_83 : decode cX7_doSet 83 = .ok (.aload_n 0, 1) := by decide +kernel
theorem dX7_doSet_84 : decode cX7_doSet 84 = .ok (.iload_n 1, 1) := by decide +kernel
theorem dX7_doSet_85 : decode cX7_doSet 85 = .ok (.iload_n 2, 1) := by decide +kernel
theorem dX7_doSet_86 : decode cX7_doSet 86 = .ok (.invokevirtual 62, 3) := by decide +kernel
theorem dX7_doSet_89 : decode cX7_doSet 89 = .ok (.iload_n 3, 1) := by decide +kernel
theorem dX7_doSet_90 : decode cX7_doSet 90 = .ok (.if_icmp .ne 12, 3) := by decide +kernel
theorem dX7_doSet_93 : decode cX7_doSet 93 = .ok (.aload_n 0, 1) := by decide +kernel
theorem dX7_doSet_94 : decode cX7_doSet 94 = .ok (.iconst 3, 1) := by decide +kernel
theorem dX7_doSet_95 : decode cX7_doSet 95 = .ok (.bipush 10, 2) := by decide +kernel
theorem dX7_doSet_97 : decode cX7_doSet 97 = .ok (.iload_n 3, 1) := by decide +kernel
theorem dX7_doSet_98 : decode cX7_doSet 98 = .ok (.invokevirtual 77, 3) := by decide +kernel
theorem dX7_doSet_101 : decode cX7_doSet 101 = .ok (.ireturn, 1) := by decide +kernel
theorem dX7_doSet_102 : decode cX7_doSet 102 = .ok (.aload_n 0, 1) := by decide +kernel
theorem dX7_doSet_103 : decode cX7_doSet 103 = .ok (.getfield 9, 3) := by decide +kernel
theorem dX7_doSet_106 : decode cX7_doSet 106 = .ok (.bipush 32, 2) := by decide +kernel
theorem dX7_doSet_108 : decode cX7_doSet 108 = .ok (.bipush 14, 2) := by decide +kernel
theorem dX7_doSet_110 : decode cX7_doSet 110 = .ok (.iload_n 1, 1) := by decide +kernel
theorem dX7_doSet_111 : decode cX7_doSet 111 = .ok (.imul, 1) := by decide +kernel
theorem dX7_doSet_112 : decode cX7_doSet 112 = .ok (.iadd, 1) := by decide +kernel
theorem dX7_doSet_113 : decode cX7_doSet 113 = .ok (.iconst 2, 1) := by decide +kernel
theorem dX7_doSet_114 : decode cX7_doSet 114 = .ok (.iadd, 1) := by decide +kernel
theorem dX7_doSet_115 : decode cX7_doSet 115 = .ok (.iload_n 2, 1) := by decide +kernel
theorem dX7_doSet_116 : decode cX7_doSet 116 = .ok (.iadd, 1) := by decide +kernel
theorem dX7_doSet_117 : decode cX7_doSet 117 = .ok (.iload_n 3, 1) := by decide +kernel
theorem dX7_doSet_118 : decode cX7_doSet 118 = .ok (.iastore, 1) := by decide +kernel
theorem dX7_doSet_119 : decode cX7_doSet 119 = .ok (.aload_n 0, 1) := by decide +kernel
theorem dX7_doSet_120 : decode cX7_doSet 120 = .ok (.iload_n 1, 1) := by decide +kernel
theorem dX7_doSet_121 : decode cX7_doSet 121 = .ok (.iconst 0, 1) := by decide +kernel
theorem dX7_doSet_122 : decode cX7_doSet 122 = .ok (.iconst 4, 1) := by decide +kernel
theorem dX7_doSet_123 : decode cX7_doSet 123 = .ok (.invokevirtual 101, 3) := by decide +kernel
theorem dX7_doSet_126 : decode cX7_doSet 126 = .ok (.ireturn, 1) := by decide +kernel
theorem dX7_set_0 : decode cX7_set 0 = .ok (.aload_n 0, 1) := by decide +kernel
theorem dX7_set_1 : decode cX7_set 1 = .ok (.invokevirtual 81, 3) := by decide +kernel
theorem dX7_set_4 : decode cX7_set 4 = .ok (.aload_n 0, 1) := by decide +kernel
theorem dX7_set_5 : decode cX7_set 5 = .ok (.aload_n 0, 1) := by decide +kernel
theorem dX7_set_6 : decode cX7_set 6 = .ok (.iload_n 1, 1) := by decide +kernel
theorem dX7_set_7 : decode cX7_set 7 = .ok (.iload_n 2, 1) := by decide +kernel
theorem dX7_set_8 : decode cX7_set 8 = .ok (.iload_n 3, 1) := by decide +kernel
theorem dX7_set_9 : decode cX7_set 9 = .ok (.invokevirtual 104, 3) := by decide +kernel
theorem dX7_set_12 : decode cX7_set 12 = .ok (.invokevirtual 88, 3) := by decide +kernel
theorem dX7_set_15 : decode cX7_set 15 = .ok (.ireturn, 1) := by decide +kernel
theorem dX7_matterOf_0 : decode cX7_matterOf 0 = .ok (.aload_n 0, 1) := by decide +kernel
theorem dX7_matterOf_1 : decode cX7_matterOf 1 = .ok (.aload_n 0, 1) := by decide +kernel
theorem dX7_matterOf_2 : decode cX7_matterOf 2 = .ok (.iload_n 1, 1) := by decide +kernel
theorem dX7_matterOf_3 : decode cX7_matterOf 3 = .ok (.invokevirtual 91, 3) := by decide +kernel
theorem dX7_matterOf_6 : decode cX7_matterOf 6 = .ok (.ifCond .ne 7, 3) := by decide +kernel
theorem dX7_matterOf_9 : decode cX7_matterOf 9 = .ok (.iconst 1, 1) := by decide +kernel
theorem dX7_matterOf_10 : decode cX7_matterOf 10 = .ok (.goto 18, 3) := by decide +kernel
theorem dX7_matterOf_13 : decode cX7_matterOf 13 = .ok (.iload_n 2, 1) := by decide +kernel
theorem dX7_matterOf_14 : decode cX7_matterOf 14 = .ok (.iconst 0, 1) := by decide +kernel
theorem dX7_matterOf_15 : decode cX7_matterOf 15 = .ok (.bipush 7, 2) := by decide +kernel
theorem dX7_matterOf_17 : decode cX7_matterOf 17 = .ok (.invokestatic 58, 3) := by decide +kernel
theorem dX7_matterOf_20 : decode cX7_matterOf 20 = .ok (.ifCond .ne 7, 3) := by decide +kernel
theorem dX7_matterOf_23 : decode cX7_matterOf 23 = .ok (.iconst 2, 1) := by decide +kernel
theorem dX7_matterOf_24 : decode cX7_matterOf 24 = .ok (.goto 4, 3) := by decide +kernel
theorem dX7_matterOf_27 : decode cX7_matterOf 27 = .ok (.iconst 0, 1) := by decide +kernel
theorem dX7_matterOf_28 : decode cX7_matterOf 28 = .ok (.putfield 36, 3) := by decide +kernel
theorem dX7_matterOf_31 : decode cX7_matterOf 31 = .ok (.aload_n 0, 1) := by decide +kernel
theorem dX7_matterOf_32 : decode cX7_matterOf 32 = .ok (.getfield 36, 3) := by decide +kernel
theorem dX7_matterOf_35 : decode cX7_matterOf 35 = .ok (.ifCond .le 5, 3) := by decide +kernel
theorem dX7_matterOf_38 : decode cX7_matterOf 38 = .ok (.iconst 0, 1) := by decide +kernel
theorem dX7_matterOf_39 : decode cX7_matterOf 39 = .ok (.ireturn, 1) := by decide +kernel
theorem dX7_matterOf_40 : decode cX7_matterOf 40 = .ok (.iload_n 2, 1) := by decide +kernel
theorem dX7_matterOf_41 : decode cX7_matterOf 41 = .ok (.tableswitch 119 0 6 #[43, 49, 57, 65, 73, 81, 89], 43) := by decide +kernel
theorem dX7_matterOf_84 : decode cX7_matterOf 84 = .ok (.aload_n 0, 1) := by decide +kernel
theorem dX7_matterOf_85 : decode cX7_matterOf 85 = .ok (.iload_n 1, 1) := by decide +kernel
theorem dX7_matterOf_86 : decode cX7_matterOf 86 = .ok (.invokevirtual 73, 3) := by decide +kernel
theorem dX7_matterOf_89 : decode cX7_matterOf 89 = .ok (.ireturn, 1) := by decide +kernel
theorem dX7_matterOf_90 : decode cX7_matterOf 90 = .ok (.aload_n 0, 1) := by decide +kernel
theorem dX7_matterOf_91 : decode cX7_matterOf 91 = .ok (.iload_n 1, 1) := by decide +kernel
theorem dX7_matterOf_92 : decode cX7_matterOf 92 = .ok (.iconst 0, 1) := by decide +kernel
theorem dX7_matterOf_93 : decode cX7_matterOf 93 = .ok (.iconst 4, 1) := by decide +kernel
theorem dX7_matterOf_94 : decode cX7_matterOf 94 = .ok (.invokevirtual 101, 3) := by decide +kernel
theorem dX7_matterOf_97 : decode cX7_matterOf 97 = .ok (.ireturn, 1) := by decide +kernel
theorem dX7_matterOf_98 : decode cX7_matterOf 98 = .ok (.aload_n 0, 1) := by decide +kernel
theorem dX7_matterOf_99 : decode cX7_matterOf 99 = .ok (.iload_n 1, 1) := by decide +kernel
theorem dX7_matterOf_100 : decode cX7_matterOf 100 = .ok (.iconst 1, 1) := by decide +kernel
theorem dX7_matterOf_101 : decode cX7_matterOf 101 = .ok (.iconst 4, 1) := by decide +kernel
theorem dX7_matterOf_102 : decode cX7_matterOf 102 = .ok (.invokevirtual 101, 3) := by decide +kernel
theorem dX7_matterOf_105 : decode cX7_matterOf 105 = .ok (.ireturn, 1) := by decide +kernel
theorem dX7_matterOf_106 : decode cX7_matterOf 106 = .ok (.aload_n 0, 1) := by decide +kernel
theorem dX7_matterOf_107 : decode cX7_matterOf 107 = .ok (.iload_n 1, 1) := by decide +kernel
theorem dX7_matterOf_108 : decode cX7_matterOf 108 = .ok (.iconst 1, 1) := by decide +kernel
theorem dX7_matterOf_109 : decode cX7_matterOf 109 = .ok (.iconst 1, 1) := by decide +kernel
theorem dX7_matterOf_110 : decode cX7_matterOf 110 = .ok (.invokevirtual 101, 3) := by decide +kernel
theorem dX7_matterOf_113 : decode cX7_matterOf 113 = .ok (.ireturn, 1) := by decide +kernel
theorem dX7_matterOf_114 : decode cX7_matterOf 114 = .ok (.aload_n 0, 1) := by decide +kernel
theorem dX7_matterOf_115 : decode cX7_matterOf 115 = .ok (.iload_n 1, 1) := by decide +kernel
theorem dX7_matterOf_116 : decode cX7_matterOf 116 = .ok (.iconst 2, 1) := by decide +kernel
theorem dX7_matterOf_117 : decode cX7_matterOf 117 = .ok (.iconst 2, 1) := by decide +kernel
theorem dX7_matterOf_118 : decode cX7_matterOf 118 = .ok (.invokevirtual 101, 3) := by decide +kernel
theorem dX7_matterOf_121 : decode cX7_matterOf 121 = .ok (.ireturn, 1) := by decide +kernel
theorem dX7_matterOf_122 : decode cX7_matterOf 122 = .ok (.aload_n 0, 1) := by decide +kernel
theorem dX7_matterOf_123 : decode cX7_matterOf 123 = .ok (.iload_n 1, 1) := by decide +kernel
theorem dX7_matterOf_124 : decode cX7_matterOf 124 = .ok (.iconst 3, 1) := by decide +kernel
theorem dX7_matterOf_125 : decode cX7_matterOf 125 = .ok (.iconst 4, 1) := by decide +kernel
theorem dX7_matterOf_126 : decode cX7_matterOf 126 = .ok (.invokevirtual 101, 3) := by decide +kernel
theorem dX7_matterOf_129 : decode cX7_matterOf 129 = .ok (.ireturn, 1) := by decide +kernel
theorem dX7_matterOf_130 : decode cX7_matterOf 130 = .ok (.iconst 0, 1) := by decide +kernel
theorem dX7_matterOf_131 : decode cX7_matterOf 131 = .ok (.istore_n 3, 1) := by decide +kernel
theorem dX7_matterOf_132 : decode cX7_matterOf 132 = .ok (.iconst 0, 1) := by decide +kernel
theorem dX7_matterOf_133 : decode cX7_matterOf 133 = .ok (.istore 4, 2) := by decide +kernel
theorem dX7_matterOf_135 : decode cX7_matterOf 135 = .ok (.iload 4, 2) := by decide +kernel
theorem dX7_matterOf_137 : decode cX7_matterOf 137 = .ok (.bipush 6, 2) := by decide +kernel
theorem dX7_matterOf_139 : decode cX7_matterOf 139 = .ok (.if_icmp .ge 19, 3) := by decide +kernel
theorem dX7_matterOf_142 : decode cX7_matterOf 142 = .ok (.iload_n 3, 1) := by decide +kernel
theorem dX7_matterOf_143 : decode cX7_matterOf 143 = .ok (.aload_n 0, 1) := by decide +kernel
theorem dX7_matterOf_144 : decode cX7_matterOf 144 = .ok (.iload_n 1, 1) := by decide +kernel
theorem dX7_matterOf_145 : decode cX7_matterOf 145 = .ok (.iload 4, 2) := by decide +kernel
theorem dX7_matterOf_147 : decode cX7_matterOf 147 = .ok (.invokevirtual 62, 3) := by decide +kernel
theorem dX7_matterOf_150 : decode cX7_matterOf 150 = .ok (.iadd, 1) := by decide +kernel
theorem dX7_matterOf_151 : decode cX7_matterOf 151 = .ok (.istore_n 3, 1) := by decide +kernel
theorem dX7_matterOf_152 : decode cX7_matterOf 152 = .ok (.iinc 4 1, 3) := by decide +kernel
theorem dX7_matterOf_155 : decode cX7_matterOf 155 = .ok (.goto (-20), 3) := by decide +kernel
theorem dX7_matterOf_158 : decode cX7_matterOf 158 = .ok (.iload_n 3, 1) := by decide +kernel
theorem dX7_matterOf_159 : decode cX7_matterOf 159 = .ok (.ireturn, 1) := by decide +kernel
theorem dX7_matterOf_160 : decode cX7_matterOf 160 = .ok (.aload_n 0, 1) := by decide +kernel
theorem dX7_matterOf_161 : decode cX7_matterOf 161 = .ok (.getfield 9, 3) := by decide +kernel
theorem dX7_matterOf_164 : decode cX7_matterOf 164 = .ok (.bipush 32, 2) := by decide +kernel
theorem dX7_matterOf_166 : decode cX7_matterOf 166 = .ok (.bipush 14, 2) := by decide +kernel
theorem dX7_matterOf_168 : decode cX7_matterOf 168 = .ok (.iload_n 1, 1) := by decide +kernel
theorem dX7_matterOf_169 : decode cX7_matterOf 169 = .ok (.imul, 1) := by decide +kernel
theorem dX7_matterOf_170 : decode cX7_matterOf 170 = .ok (.iadd, 1) := by decide +kernel
theorem dX7_matterOf_171 : decode cX7_matterOf 171 = .ok (.iconst 1, 1) := by decide +kernel
theorem dX7_matterOf_172 : decode cX7_matterOf 172 = .ok (.iadd, 1) := by decide +kernel
theorem dX7_matterOf_173 : decode cX7_matterOf 173 = .ok (.iaload, 1) := by decide +kernel
theorem dX7_matterOf_174 : decode cX7_matterOf 174 = .ok (.ireturn, 1) := by decide +kernel
theorem dX7_answer_0 : decode cX7_answer 0 = .ok (.aload_n 0, 1) := by decide +kernel
theorem dX7_answer_1 : decode cX7_answer 1 = .ok (.aload_n 0, 1) := by decide +kernel
theorem dX7_answer_2 : decode cX7_answer 2 = .ok (.iload_n 1, 1) := by decide +kernel
theorem dX7_answer_3 : decode cX7_answer 3 = .ok (.invokevirtual 91, 3) := by decide +kernel
theorem dX7_answer_6 : decode cX7_answer 6 = .ok (.ifCond .ne 7, 3) := by decide +kernel
theorem dX7_answer_9 : decode cX7_answer 9 = .ok (.iconst 1, 1) := by decide +kernel
theorem dX7_answer_10 : decode cX7_answer 10 = .ok (.goto 15, 3) := by decide +kernel
theorem dX7_answer_13 : decode cX7_answer 13 = .ok (.iload_n 2, 1) := by decide +kernel
theorem dX7_answer_14 : decode cX7_answer 14 = .ok (.invokestatic 95, 3) := by decide +kernel
theorem dX7_answer_17 : decode cX7_answer 17 = .ok (.ifCond .ne 7, 3) := by decide +kernel
theorem dX7_answer_20 : decode cX7_answer 20 = .ok (.iconst 2, 1) := by decide +kernel
theorem dX7_answer_21 : decode cX7_answer 21 = .ok (.goto 4, 3) := by decide +kernel
theorem dX7_answer_24 : decode cX7_answer 24 = .ok (.iconst 0, 1) := by decide +kernel
theorem dX7_answer_25 : decode cX7_answer 25 = .ok (.putfield 36, 3) := by decide +kernel
theorem dX7_answer_28 : decode cX7_answer 28 = .ok (.aload_n 0, 1) := by decide +kernel
theorem dX7_answer_29 : decode cX7_answer 29 = .ok (.getfield 36, 3) := by decide +kernel
theorem dX7_answer_32 : decode cX7_answer 32 = .ok (.ifCond .le 7, 3) := by decide +kernel
theorem dX7_answer_35 : decode cX7_answer 35 = .ok (.iconst 0, 1) := by decide +kernel
theorem dX7_answer_36 : decode cX7_answer 36 = .ok (.goto 22, 3) := by decide +kernel
theorem dX7_answer_39 : decode cX7_answer 39 = .ok (.aload_n 0, 1) := by decide +kernel
theorem dX7_answer_40 : decode cX7_answer 40 = .ok (.iload_n 1, 1) := by decide +kernel
theorem dX7_answer_41 : decode cX7_answer 41 = .ok (.iload_n 2, 1) := by decide +kernel
theorem dX7_answer_42 : decode cX7_answer 42 = .ok (.invokevirtual 66, 3) := by decide +kernel
theorem dX7_answer_45 : decode cX7_answer 45 = .ok (.ifCond .eq 12, 3) := by decide +kernel
theorem dX7_answer_48 : decode cX7_answer 48 = .ok (.aload_n 0, 1) := by decide +kernel
theorem dX7_answer_49 : decode cX7_answer 49 = .ok (.iload_n 1, 1) := by decide +kernel
theorem dX7_answer_50 : decode cX7_answer 50 = .ok (.iload_n 2, 1) := by decide +kernel
theorem dX7_answer_51 : decode cX7_answer 51 = .ok (.invokevirtual 70, 3) := by decide +kernel
theorem dX7_answer_54 : decode cX7_answer 54 = .ok (.goto 4, 3) := by decide +kernel
theorem dX7_answer_57 : decode cX7_answer 57 = .ok (.iconst (-1), 1) := by decide +kernel
theorem dX7_answer_58 : decode cX7_answer 58 = .ok (.ireturn, 1) := by decide +kernel
theorem dX7_amount_0 : decode cX7_amount 0 = .ok (.aload_n 0, 1) := by decide +kernel
theorem dX7_amount_1 : decode cX7_amount 1 = .ok (.aload_n 0, 1) := by decide +kernel
theorem dX7_amount_2 : decode cX7_amount 2 = .ok (.iload_n 1, 1) := by decide +kernel
theorem dX7_amount_3 : decode cX7_amount 3 = .ok (.invokevirtual 91, 3) := by decide +kernel
theorem dX7_amount_6 : decode cX7_amount 6 = .ok (.ifCond .ne 7, 3) := by decide +kernel
theorem dX7_amount_9 : decode cX7_amount 9 = .ok (.iconst 1, 1) := by decide +kernel
theorem dX7_amount_10 : decode cX7_amount 10 = .ok (.goto 15, 3) := by decide +kernel
theorem dX7_amount_13 : decode cX7_amount 13 = .ok (.iload_n 2, 1) := by decide +kernel
theorem dX7_amount_14 : decode cX7_amount 14 = .ok (.invokestatic 95, 3) := by decide +kernel
theorem dX7_amount_17 : decode cX7_amount 17 = .ok (.ifCond .ne 7, 3) := by decide +kernel
theorem dX7_amount_20 : decode cX7_amount 20 = .ok (.iconst 2, 1) := by decide +kernel
theorem dX7_amount_21 : decode cX7_amount 21 = .ok (.goto 4, 3) := by decide +kernel
theorem dX7_amount_24 : decode cX7_amount 24 = .ok (.iconst 0, 1) := by decide +kernel
theorem dX7_amount_25 : decode cX7_amount 25 = .ok (.putfield 36, 3) := by decide +kernel
theorem dX7_amount_28 : decode cX7_amount 28 = .ok (.aload_n 0, 1) := by decide +kernel
theorem dX7_amount_29 : decode cX7_amount 29 = .ok (.getfield 36, 3) := by decide +kernel
theorem dX7_amount_32 : decode cX7_amount 32 = .ok (.ifCond .le 7, 3) := by decide +kernel
theorem dX7_amount_35 : decode cX7_amount 35 = .ok (.iconst 0, 1) := by decide +kernel
theorem dX7_amount_36 : decode cX7_amount 36 = .ok (.goto 9, 3) := by decide +kernel
theorem dX7_amount_39 : decode cX7_amount 39 = .ok (.aload_n 0, 1) := by decide +kernel
theorem dX7_amount_40 : decode cX7_amount 40 = .ok (.iload_n 1, 1) := by decide +kernel
theorem dX7_amount_41 : decode cX7_amount 41 = .ok (.iload_n 2, 1) := by decide +kernel
theorem dX7_amount_42 : decode cX7_amount 42 = .ok (.invokevirtual 62, 3) := by decide +kernel
theorem dX7_amount_45 : decode cX7_amount 45 = .ok (.ireturn, 1) := by decide +kernel
theorem dX7_doubtOf_0 : decode cX7_doubtOf 0 = .ok (.iconst 0, 1) := by decide +kernel
theorem dX7_doubtOf_1 : decode cX7_doubtOf 1 = .ok (.istore_n 2, 1) := by decide +kernel
theorem dX7_doubtOf_2 : decode cX7_doubtOf 2 = .ok (.iload_n 2, 1) := by decide +kernel
theorem dX7_doubtOf_3 : decode cX7_doubtOf 3 = .ok (.aload_n 0, 1) := by decide +kernel
theorem dX7_doubtOf_4 : decode cX7_doubtOf 4 = .ok (.getfield 9, 3) := by decide +kernel
theorem dX7_doubtOf_7 : decode cX7_doubtOf 7 = .ok (.iconst 0, 1) := by decide +kernel
theorem dX7_doubtOf_8 : decode cX7_doubtOf 8 = .ok (.iaload, 1) := by decide +kernel
theorem dX7_doubtOf_9 : decode cX7_doubtOf 9 = .ok (.if_icmp .ge 30, 3) := by decide +kernel
theorem dX7_doubtOf_12 : decode cX7_doubtOf 12 = .ok (.aload_n 0, 1) := by decide +kernel
theorem dX7_doubtOf_13 : decode cX7_doubtOf 13 = .ok (.iload_n 2, 1) := by decide +kernel
theorem dX7_doubtOf_14 : decode cX7_doubtOf 14 = .ok (.iload_n 1, 1) := by decide +kernel
theorem dX7_doubtOf_15 : decode cX7_doubtOf 15 = .ok (.invokevirtual 66, 3) := by decide +kernel
theorem dX7_doubtOf_18 : decode cX7_doubtOf 18 = .ok (.ifCond .eq 15, 3) := by decide +kernel
theorem dX7_doubtOf_21 : decode cX7_doubtOf 21 = .ok (.aload_n 0, 1) := by decide +kernel
theorem dX7_doubtOf_22 : decode cX7_doubtOf 22 = .ok (.iload_n 2, 1) := by decide +kernel
theorem dX7_doubtOf_23 : decode cX7_doubtOf 23 = .ok (.iload_n 1, 1) := by decide +kernel
theorem dX7_doubtOf_24 : decode cX7_doubtOf 24 = .ok (.invokevirtual 70, 3) := by decide +kernel
theorem dX7_doubtOf_27 : decode cX7_doubtOf 27 = .ok (.iconst 1, 1) := by decide +kernel
theorem dX7_doubtOf_28 : decode cX7_doubtOf 28 = .ok (.if_icmp .ne 5, 3) := by decide +kernel
theorem dX7_doubtOf_31 : decode cX7_doubtOf 31 = .ok (.iload_n 2, 1) := by decide +kernel
theorem dX7_doubtOf_32 : decode cX7_doubtOf 32 = .ok (.ireturn, 1) := by decide +kernel
theorem dX7_doubtOf_33 : decode cX7_doubtOf 33 = .ok (.iinc 2 1, 3) := by decide +kernel
theorem dX7_doubtOf_36 : decode cX7_doubtOf 36 = .ok (.goto (-34), 3) := by decide +kernel
theorem dX7_doubtOf_39 : decode cX7_doubtOf 39 = .ok (.iconst (-1), 1) := by decide +kernel
theorem dX7_doubtOf_40 : decode cX7_doubtOf 40 = .ok (.ireturn, 1) := by decide +kernel
theorem dX7_wouldBeReady_0 : decode cX7_wouldBeReady 0 = .ok (.aload_n 0, 1) := by decide +kernel
theorem dX7_wouldBeReady_1 : decode cX7_wouldBeReady 1 = .ok (.iload_n 2, 1) := by decide +kernel
theorem dX7_wouldBeReady_2 : decode cX7_wouldBeReady 2 = .ok (.invokevirtual 107, 3) := by decide +kernel
theorem dX7_wouldBeReady_5 : decode cX7_wouldBeReady 5 = .ok (.ifCond .ge 26, 3) := by decide +kernel
theorem dX7_wouldBeReady_8 : decode cX7_wouldBeReady 8 = .ok (.aload_n 0, 1) := by decide +kernel
theorem dX7_wouldBeReady_9 : decode cX7_wouldBeReady 9 = .ok (.getfield 9, 3) := by decide +kernel
theorem dX7_wouldBeReady_12 : decode cX7_wouldBeReady 12 = .ok (.bipush 6, 2) := by decide +kernel
theorem dX7_wouldBeReady_14 : decode cX7_wouldBeReady 14 = .ok (.iload_n 2, 1) := by decide +kernel
theorem dX7_wouldBeReady_15 : decode cX7_wouldBeReady 15 = .ok (.iadd, 1) := by decide +kernel
theorem dX7_wouldBeReady_16 : decode cX7_wouldBeReady 16 = .ok (.iaload, 1) := by decide +kernel
theorem dX7_wouldBeReady_17 : decode cX7_wouldBeReady 17 = .ok (.aload_n 0, 1) := by decide +kernel
theorem dX7_wouldBeReady_18 : decode cX7_wouldBeReady 18 = .ok (.iload_n 1, 1) := by decide +kernel
theorem dX7_wouldBeReady_19 : decode cX7_wouldBeReady 19 = .ok (.iload_n 2, 1) := by decide +kernel
theorem dX7_wouldBeReady_20 : decode cX7_wouldBeReady 20 = .ok (.invokevirtual 62, 3) := by decide +kernel
theorem dX7_wouldBeReady_23 : decode cX7_wouldBeReady 23 = .ok (.iadd, 1) := by decide +kernel
theorem dX7_wouldBeReady_24 : decode cX7_wouldBeReady 24 = .ok (.ifCond .lt 7, 3) := by decide +kernel
theorem dX7_wouldBeReady_27 : decode cX7_wouldBeReady 27 = .ok (.iconst 1, 1) := by decide +kernel
theorem dX7_wouldBeReady_28 : decode cX7_wouldBeReady 28 = .ok (.goto 4, 3) := by decide +kernel
theorem dX7_wouldBeReady_31 : decode cX7_wouldBeReady 31 = .ok (.iconst 0, 1) := by decide +kernel
theorem dX7_wouldBeReady_32 : decode cX7_wouldBeReady 32 = .ok (.ireturn, 1) := by decide +kernel
theorem dX7_doAsk_0 : decode cX7_doAsk 0 = .ok (.aload_n 0, 1) := by decide +kernel
theorem dX7_doAsk_1 : decode cX7_doAsk 1 = .ok (.iload_n 1, 1) := by decide +kernel
theorem dX7_doAsk_2 : decode cX7_doAsk 2 = .ok (.invokevirtual 91, 3) := by decide +kernel
theorem dX7_doAsk_5 : decode cX7_doAsk 5 = .ok (.ifCond .ne 9, 3) := by decide +kernel
theorem dX7_doAsk_8 : decode cX7_doAsk 8 = .ok (.aload_n 0, 1) := by decide +kernel
theorem dX7_doAsk_9 : decode cX7_doAsk 9 = .ok (.iconst 1, 1) := by decide +kernel
theorem dX7_doAsk_10 : decode cX7_doAsk 10 = .ok (.invokevirtual 98, 3) := by decide +kernel
theorem dX7_doAsk_13 : decode cX7_doAsk 13 = .ok (.ireturn, 1) := by decide +kernel
theorem dX7_doAsk_14 : decode cX7_doAsk 14 = .ok (.iload_n 2, 1) := by decide +kernel
theorem dX7_doAsk_15 : decode cX7_doAsk 15 = .ok (.invokestatic 95, 3) := by decide +kernel
theorem dX7_doAsk_18 : decode cX7_doAsk 18 = .ok (.ifCond .ne 9, 3) := by decide +kernel
theorem dX7_doAsk_21 : decode cX7_doAsk 21 = .ok (.aload_n 0, 1) := by decide +kernel
theorem dX7_doAsk_22 : decode cX7_doAsk 22 = .ok (.iconst 2, 1) := by decide +kernel
theorem dX7_doAsk_23 : decode cX7_doAsk 23 = .ok (.invokevirtual 98, 3) := by decide +kernel
theorem dX7_doAsk_26 : decode cX7_doAsk 26 = .ok (.ireturn, 1) := by decide +kernel
theorem dX7_doAsk_27 : decode cX7_doAsk 27 = .ok (.aload_n 0, 1) := by decide +kernel
theorem dX7_doAsk_28 : decode cX7_doAsk 28 = .ok (.getfield 9, 3) := by decide +kernel
theorem dX7_doAsk_31 : decode cX7_doAsk 31 = .ok (.iconst 1, 1) := by decide +kernel
theorem dX7_doAsk_32 : decode cX7_doAsk 32 = .ok (.iaload, 1) := by decide +kernel
theorem dX7_doAsk_33 : decode cX7_doAsk 33 = .ok (.iconst 1, 1) := by decide +kernel
theorem dX7_doAsk_34 : decode cX7_doAsk 34 = .ok (.if_icmp .ne 15, 3) := by decide +kernel
theorem dX7_doAsk_37 : decode cX7_doAsk 37 = .ok (.aload_n 0, 1) := by decide +kernel
theorem dX7_doAsk_38 : decode cX7_doAsk 38 = .ok (.iconst 3, 1) := by decide +kernel
theorem dX7_doAsk_39 : decode cX7_doAsk 39 = .ok (.iconst 2, 1) := by decide +kernel
theorem dX7_doAsk_40 : decode cX7_doAsk 40 = .ok (.aload_n 0, 1) := by decide +kernel
theorem dX7_doAsk_41 : decode cX7_doAsk 41 = .ok (.iconst 0, 1) := by decide +kernel
theorem dX7_doAsk_42 : decode cX7_doAsk 42 = .ok (.invokevirtual 110, 3) := by decide +kernel
theorem dX7_doAsk_45 : decode cX7_doAsk 45 = .ok (.invokevirtual 77, 3) := by decide +kernel
theorem dX7_doAsk_48 : decode cX7_doAsk 48 = .ok (.ireturn, 1) := by decide +kernel
theorem dX7_doAsk_49 : decode cX7_doAsk 49 = .ok (.aload_n 0, 1) := by decide +kernel
theorem dX7_doAsk_50 : decode cX7_doAsk 50 = .ok (.iload_n 1, 1) := by decide +kernel
theorem dX7_doAsk_51 : decode cX7_doAsk 51 = .ok (.invokevirtual 73, 3) := by decide +kernel
theorem dX7_doAsk_54 : decode cX7_doAsk 54 = .ok (.ifCond .eq 15, 3) := by decide +kernel
theorem dX7_doAsk_57 : decode cX7_doAsk 57 = .ok (.aload_n 0, 1) := by decide +kernel
theorem dX7_doAsk_58 : decode cX7_doAsk 58 = .ok (.iconst 3, 1) := by decide +kernel
theorem dX7_doAsk_59 : decode cX7_doAsk 59 = .ok (.iconst 3, 1) := by decide +kernel
theorem dX7_doAsk_60 : decode cX7_doAsk 60 = .ok (.aload_n 0, 1) := by decide +kernel
theorem dX7_doAsk_61 : decode cX7_doAsk 61 = .ok (.iload_n 1, 1) := by decide +kernel
theorem dX7_doAsk_62 : decode cX7_doAsk 62 = .ok (.invokevirtual 73, 3) := by decide +kernel
theorem dX7_doAsk_65 : decode cX7_doAsk 65 = .ok (.invokevirtual 77, 3) := by decide +kernel
theorem dX7_doAsk_68 : decode cX7_doAsk 68 = .ok (.ireturn, 1) := by decide +kernel
theorem dX7_doAsk_69 : decode cX7_doAsk 69 = .ok (.aload_n 0, 1) := by decide +kernel
theorem dX7_doAsk_70 : decode cX7_doAsk 70 = .ok (.iload_n 1, 1) := by decide +kernel
theorem dX7_doAsk_71 : decode cX7_doAsk 71 = .ok (.iload_n 2, 1) := by decide +kernel
theorem dX7_doAsk_72 : decode cX7_doAsk 72 = .ok (.invokevirtual 66, 3) := by decide +kernel
theorem dX7_doAsk_75 : decode cX7_doAsk 75 = .ok (.ifCond .ne 11, 3) := by decide +kernel
theorem dX7_doAsk_78 : decode cX7_doAsk 78 = .ok (.aload_n 0, 1) := by decide +kernel
theorem dX7_doAsk_79 : decode cX7_doAsk 79 = .ok (.iconst 3, 1) := by decide +kernel
theorem dX7_doAsk_80 : decode cX7_doAsk 80 = .ok (.iconst 4, 1) := by decide +kernel
theorem dX7_doAsk_81 : decode cX7_doAsk 81 = .ok (.iload_n 2, 1) := by decide +kernel
theorem dX7_doAsk_82 : decode cX7_doAsk 82 = .ok (.invokevirtual 77, 3) := by decide +kernel
theorem dX7_doAsk_85 : decode cX7_doAsk 85 = .ok (.ireturn, 1) := by decide +kernel
theorem dX7_doAsk_86 : decode cX7_doAsk 86 = .ok (.aload_n 0, 1) := by decide +kernel
theorem dX7_doAsk_87 : decode cX7_doAsk 87 = .ok (.iload_n 2, 1) := by decide +kernel
theorem dX7_doAsk_88 : decode cX7_doAsk 88 = .ok (.invokevirtual 113, 3) := by decide +kernel
theorem dX7_doAsk_91 : decode cX7_doAsk 91 = .ok (.ifCond .eq 11, 3) := by decide +kernel
theorem dX7_doAsk_94 : decode cX7_doAsk 94 = .ok (.aload_n 0, 1) := by decide +kernel
theorem dX7_doAsk_95 : decode cX7_doAsk 95 = .ok (.iconst 3, 1) := by decide +kernel
theorem dX7_doAsk_96 : decode cX7_doAsk 96 = .ok (.iconst 5, 1) := by decide +kernel
theorem dX7_doAsk_97 : decode cX7_doAsk 97 = .ok (.iload_n 2, 1) := by decide +kernel
theorem dX7_doAsk_98 : decode cX7_doAsk 98 = .ok (.invokevirtual 77, 3) := by decide +kernel
theorem dX7_doAsk_101 : decode cX7_doAsk 101 = .ok (.ireturn, 1) := by decide +kernel
theorem dX7_doAsk_102 : decode cX7_doAsk 102 = .ok (.aload_n 0, 1) := by decide +kernel
theorem dX7_doAsk_103 : decode cX7_doAsk 103 = .ok (.iload_n 1, 1) := by decide +kernel
theorem dX7_doAsk_104 : decode cX7_doAsk 104 = .ok (.iload_n 2, 1) := by decide +kernel
theorem dX7_doAsk_105 : decode cX7_doAsk 105 = .ok (.invokevirtual 70, 3) := by decide +kernel
theorem dX7_doAsk_108 : decode cX7_doAsk 108 = .ok (.ifCond .eq 17, 3) := by decide +kernel
theorem dX7_doAsk_111 : decode cX7_doAsk 111 = .ok (.aload_n 0, 1) := by decide +kernel
theorem dX7_doAsk_112 : decode cX7_doAsk 112 = .ok (.iconst 3, 1) := by decide +kernel
theorem dX7_doAsk_113 : decode cX7_doAsk 113 = .ok (.bipush 9, 2) := by decide +kernel
theorem dX7_doAsk_115 : decode cX7_doAsk 115 = .ok (.aload_n 0, 1) := by decide +kernel
theorem dX7_doAsk_116 : decode cX7_doAsk 116 = .ok (.iload_n 1, 1) := by decide +kernel
theorem dX7_doAsk_117 : decode cX7_doAsk 117 = .ok (.iload_n 2, 1) := by decide +kernel
theorem dX7_doAsk_118 : decode cX7_doAsk 118 = .ok (.invokevirtual 70, 3) := by decide +kernel
theorem dX7_doAsk_121 : decode cX7_doAsk 121 = .ok (.invokevirtual 77, 3) := by decide +kernel
theorem dX7_doAsk_124 : decode cX7_doAsk 124 = .ok (.ireturn, 1) := by decide +kernel
theorem dX7_doAsk_125 : decode cX7_doAsk 125 = .ok (.aload_n 0, 1) := by decide +kernel
theorem dX7_doAsk_126 : decode cX7_doAsk 126 = .ok (.iload_n 1, 1) := by decide +kernel
theorem dX7_doAsk_127 : decode cX7_doAsk 127 = .ok (.iload_n 2, 1) := by decide +kernel
theorem dX7_doAsk_128 : decode cX7_doAsk 128 = .ok (.aload_n 0, 1) := by decide +kernel
theorem dX7_doAsk_129 : decode cX7_doAsk 129 = .ok (.iload_n 1, 1) := by decide +kernel
theorem dX7_doAsk_130 : decode cX7_doAsk 130 = .ok (.iload_n 2, 1) := by decide +kernel
theorem dX7_doAsk_131 : decode cX7_doAsk 131 = .ok (.invokevirtual 116, 3) := by decide +kernel
theorem dX7_doAsk_134 : decode cX7_doAsk 134 = .ok (.ifCond .eq 7, 3) := by decide +kernel
theorem dX7_doAsk_137 : decode cX7_doAsk 137 = .ok (.iconst 1, 1) := by decide +kernel
theorem dX7_doAsk_138 : decode cX7_doAsk 138 = .ok (.goto 4, 3) := by decide +kernel
theorem dX7_doAsk_141 : decode cX7_doAsk 141 = .ok (.iconst 2, 1) := by decide +kernel
theorem dX7_doAsk_142 : decode cX7_doAsk 142 = .ok (.invokevirtual 119, 3) := by decide +kernel
theorem dX7_doAsk_145 : decode cX7_doAsk 145 = .ok (.aload_n 0, 1) := by decide +kernel
theorem dX7_doAsk_146 : decode cX7_doAsk 146 = .ok (.iload_n 1, 1) := by decide +kernel
theorem dX7_doAsk_147 : decode cX7_doAsk 147 = .ok (.iload_n 2, 1) := by decide +kernel
theorem dX7_doAsk_148 : decode cX7_doAsk 148 = .ok (.invokevirtual 70, 3) := by decide +kernel
theorem dX7_doAsk_151 : decode cX7_doAsk 151 = .ok (.ireturn, 1) := by decide +kernel
theorem dX7_ask_0 : decode cX7_ask 0 = .ok (.aload_n 0, 1) := by decide +kernel
theorem dX7_ask_1 : decode cX7_ask 1 = .ok (.invokevirtual 81, 3) := by decide +kernel
theorem dX7_ask_4 : decode cX7_ask 4 = .ok (.aload_n 0, 1) := by decide +kernel
theorem dX7_ask_5 : decode cX7_ask 5 = .ok (.aload_n 0, 1) := by decide +kernel
theorem dX7_ask_6 : decode cX7_ask 6 = .ok (.iload_n 1, 1) := by decide +kernel
theorem dX7_ask_7 : decode cX7_ask 7 = .ok (.iload_n 2, 1) := by decide +kernel
theorem dX7_ask_8 : decode cX7_ask 8 = .ok (.invokevirtual 123, 3) := by decide +kernel
theorem dX7_ask_11 : decode cX7_ask 11 = .ok (.invokevirtual 88, 3) := by decide +kernel
theorem dX7_ask_14 : decode cX7_ask 14 = .ok (.ireturn, 1) := by decide +kernel
theorem dX7_decides_0 : decode cX7_decides 0 = .ok (.aload_n 0, 1) := by decide +kernel
theorem dX7_decides_1 : decode cX7_decides 1 = .ok (.getfield 9, 3) := by decide +kernel
theorem dX7_decides_4 : decode cX7_decides 4 = .ok (.bipush 32, 2) := by decide +kernel
theorem dX7_decides_6 : decode cX7_decides 6 = .ok (.bipush 14, 2) := by decide +kernel
theorem dX7_decides_8 : decode cX7_decides 8 = .ok (.iload_n 1, 1) := by decide +kernel
theorem dX7_decides_9 : decode cX7_decides 9 = .ok (.imul, 1) := by decide +kernel
theorem dX7_decides_10 : decode cX7_decides 10 = .ok (.iadd, 1) := by decide +kernel
theorem dX7_decides_11 : decode cX7_decides 11 = .ok (.iconst 0, 1) := by decide +kernel
theorem dX7_decides_12 : decode cX7_decides 12 = .ok (.iadd, 1) := by decide +kernel
theorem dX7_decides_13 : decode cX7_decides 13 = .ok (.iload_n 2, 1) := by decide +kernel
theorem dX7_decides_14 : decode cX7_decides 14 = .ok (.iastore, 1) := by decide +kernel
theorem dX7_decides_15 : decode cX7_decides 15 = .ok (.aload_n 0, 1) := by decide +kernel
theorem dX7_decides_16 : decode cX7_decides 16 = .ok (.getfield 9, 3) := by decide +kernel
theorem dX7_decides_19 : decode cX7_decides 19 = .ok (.bipush 24, 2) := by decide +kernel
theorem dX7_decides_21 : decode cX7_decides 21 = .ok (.aload_n 0, 1) := by decide +kernel
theorem dX7_decides_22 : decode cX7_decides 22 = .ok (.getfield 9, 3) := by decide +kernel
theorem dX7_decides_25 : decode cX7_decides 25 = .ok (.iconst 5, 1) := by decide +kernel
theorem dX7_decides_26 : decode cX7_decides 26 = .ok (.iaload, 1) := by decide +kernel
theorem dX7_decides_27 : decode cX7_decides 27 = .ok (.iadd, 1) := by decide +kernel
theorem dX7_decides_28 : decode cX7_decides 28 = .ok (.iload_n 1, 1) := by decide +kernel
theorem dX7_decides_29 : decode cX7_decides 29 = .ok (.iastore, 1) := by decide +kernel
theorem dX7_decides_30 : decode cX7_decides 30 = .ok (.aload_n 0, 1) := by decide +kernel
theorem dX7_decides_31 : decode cX7_decides 31 = .ok (.getfield 9, 3) := by decide +kernel
theorem dX7_decides_34 : decode cX7_decides 34 = .ok (.iconst 5, 1) := by decide +kernel
theorem dX7_decides_35 : decode cX7_decides 35 = .ok (.dup2, 1) := by decide +kernel
theorem dX7_decides_36 : decode cX7_decides 36 = .ok (.iaload, 1) := by decide +kernel
theorem dX7_decides_37 : decode cX7_decides 37 = .ok (.iconst 1, 1) := by decide +kernel
theorem dX7_decides_38 : decode cX7_decides 38 = .ok (.iadd, 1) := by decide +kernel
theorem dX7_decides_39 : decode cX7_decides 39 = .ok (.iastore, 1) := by decide +kernel
theorem dX7_decides_40 : decode cX7_decides 40 = .ok (.return_, 1) := by decide +kernel
theorem dX7_doDecide_0 : decode cX7_doDecide 0 = .ok (.aload_n 0, 1) := by decide +kernel
theorem dX7_doDecide_1 : decode cX7_doDecide 1 = .ok (.iload_n 1, 1) := by decide +kernel
theorem dX7_doDecide_2 : decode cX7_doDecide 2 = .ok (.invokevirtual 91, 3) := by decide +kernel
theorem dX7_doDecide_5 : decode cX7_doDecide 5 = .ok (.ifCond .ne 9, 3) := by decide +kernel
theorem dX7_doDecide_8 : decode cX7_doDecide 8 = .ok (.aload_n 0, 1) := by decide +kernel
theorem dX7_doDecide_9 : decode cX7_doDecide 9 = .ok (.iconst 1, 1) := by decide +kernel
theorem dX7_doDecide_10 : decode cX7_doDecide 10 = .ok (.invokevirtual 98, 3) := by decide +kernel
theorem dX7_doDecide_13 : decode cX7_doDecide 13 = .ok (.ireturn, 1) := by decide +kernel
theorem dX7_doDecide_14 : decode cX7_doDecide 14 = .ok (.aload_n 0, 1) := by decide +kernel
theorem dX7_doDecide_15 : decode cX7_doDecide 15 = .ok (.getfield 9, 3) := by decide +kernel
theorem dX7_doDecide_18 : decode cX7_doDecide 18 = .ok (.iconst 1, 1) := by decide +kernel
theorem dX7_doDecide_19 : decode cX7_doDecide 19 = .ok (.iaload, 1) := by decide +kernel
theorem dX7_doDecide_20 : decode cX7_doDecide 20 = .ok (.iconst 1, 1) := by decide +kernel
theorem dX7_doDecide_21 : decode cX7_doDecide 21 = .ok (.if_icmp .ne 15, 3) := by decide +kernel
theorem dX7_doDecide_24 : decode cX7_doDecide 24 = .ok (.aload_n 0, 1) := by decide +kernel
theorem dX7_doDecide_25 : decode cX7_doDecide 25 = .ok (.iconst 2, 1) := by decide +kernel
theorem dX7_doDecide_26 : decode cX7_doDecide 26 = .ok (.iconst 2, 1) := by decide +kernel
theorem dX7_doDecide_27 : decode cX7_doDecide 27 = .ok (.aload_n 0, 1) := by decide +kernel
theorem dX7_doDecide_28 : decode cX7_doDecide 28 = .ok (.iconst 0, 1) := by decide +kernel
theorem dX7_doDecide_29 : decode cX7_doDecide 29 = .ok (.invokevirtual 110, 3) := by decide +kernel
theorem dX7_doDecide_32 : decode cX7_doDecide 32 = .ok (.invokevirtual 77, 3) := by decide +kernel
theorem dX7_doDecide_35 : decode cX7_doDecide 35 = .ok (.ireturn, 1) := by decide +kernel
theorem dX7_doDecide_36 : decode cX7_doDecide 36 = .ok (.aload_n 0, 1) := by decide +kernel
theorem dX7_doDecide_37 : decode cX7_doDecide 37 = .ok (.iload_n 1, 1) := by decide +kernel
theorem dX7_doDecide_38 : decode cX7_doDecide 38 = .ok (.invokevirtual 73, 3) := by decide +kernel
theorem dX7_doDecide_41 : decode cX7_doDecide 41 = .ok (.ifCond .eq 15, 3) := by decide +kernel
theorem dX7_doDecide_44 : decode cX7_doDecide 44 = .ok (.aload_n 0, 1) := by decide +kernel
theorem dX7_doDecide_45 : decode cX7_doDecide 45 = .ok (.iconst 2, 1) := by decide +kernel
theorem dX7_doDecide_46 : decode cX7_doDecide 46 = .ok (.iconst 3, 1) := by decide +kernel
theorem dX7_doDecide_47 : decode cX7_doDecide 47 = .ok (.aload_n 0, 1) := by decide +kernel
theorem dX7_doDecide_48 : decode cX7_doDecide 48 = .ok (.iload_n 1, 1) := by decide +kernel
theorem dX7_doDecide_49 : decode cX7_doDecide 49 = .ok (.invokevirtual 73, 3) := by decide +kernel
theorem dX7_doDecide_52 : decode cX7_doDecide 52 = .ok (.invokevirtual 77, 3) := by decide +kernel
theorem dX7_doDecide_55 : decode cX7_doDecide 55 = .ok (.ireturn, 1) := by decide +kernel
theorem dX7_doDecide_56 : decode cX7_doDecide 56 = .ok (.aload_n 0, 1) := by decide +kernel
theorem dX7_doDecide_57 : decode cX7_doDecide 57 = .ok (.iload_n 1, 1) := by decide +kernel
theorem dX7_doDecide_58 : decode cX7_doDecide 58 = .ok (.iconst 2, 1) := by decide +kernel
theorem dX7_doDecide_59 : decode cX7_doDecide 59 = .ok (.iconst 2, 1) := by decide +kernel
theorem dX7_doDecide_60 : decode cX7_doDecide 60 = .ok (.invokevirtual 101, 3) := by decide +kernel
theorem dX7_doDecide_63 : decode cX7_doDecide 63 = .ok (.aload_n 0, 1) := by decide +kernel
theorem dX7_doDecide_64 : decode cX7_doDecide 64 = .ok (.iload_n 1, 1) := by decide +kernel
theorem dX7_doDecide_65 : decode cX7_doDecide 65 = .ok (.iconst 4, 1) := by decide +kernel
theorem dX7_doDecide_66 : decode cX7_doDecide 66 = .ok (.iconst 4, 1) := by decide +kernel
theorem dX7_doDecide_67 : decode cX7_doDecide 67 = .ok (.invokevirtual 101, 3) := by decide +kernel
theorem dX7_doDecide_70 : decode cX7_doDecide 70 = .ok (.iadd, 1) := by decide +kernel
theorem dX7_doDecide_71 : decode cX7_doDecide 71 = .ok (.ifCond .le 11, 3) := by decide +kernel
theorem dX7_doDecide_74 : decode cX7_doDecide 74 = .ok (.aload_n 0, 1) := by decide +kernel
theorem dX7_doDecide_75 : decode cX7_doDecide 75 = .ok (.iload_n 1, 1) := by decide +kernel
theorem dX7_doDecide_76 : decode cX7_doDecide 76 = .ok (.iconst 2, 1) := by decide +kernel
theorem dX7_doDecide_77 : decode cX7_doDecide 77 = .ok (.invokevirtual 126, 3) := by decide +kernel
theorem dX7_doDecide_80 : decode cX7_doDecide 80 = .ok (.iconst 2, 1) := by decide +kernel
theorem dX7_doDecide_81 : decode cX7_doDecide 81 = .ok (.ireturn, 1) := by decide +kernel
theorem dX7_doDecide_82 : decode cX7_doDecide 82 = .ok (.iconst 0, 1) := by decide +kernel
theorem dX7_doDecide_83 : decode cX7_doDecide 83 = .ok (.istore_n 2, 1) := by decide +kernel
theorem dX7_doDecide_84 : decode cX7_doDecide 84 = .ok (.iload_n 2, 1) := by decide +kernel
theorem dX7_doDecide_85 : decode cX7_doDecide 85 = .ok (.bipush 6, 2) := by decide +kernel
theorem dX7_doDecide_87 : decode cX7_doDecide 87 = .ok (.if_icmp .ge 27, 3) := by decide +kernel
theorem dX7_doDecide_90 : decode cX7_doDecide 90 = .ok (.aload_n 0, 1) := by decide +kernel
theorem dX7_doDecide_91 : decode cX7_doDecide 91 = .ok (.iload_n 1, 1) := by decide +kernel
theorem dX7_doDecide_92 : decode cX7_doDecide 92 = .ok (.iload_n 2, 1) := by decide +kernel
theorem dX7_doDecide_93 : decode cX7_doDecide 93 = .ok (.invokevirtual 66, 3) := by decide +kernel
theorem dX7_doDecide_96 : decode cX7_doDecide 96 = .ok (.ifCond .eq 12, 3) := by decide +kernel
theorem dX7_doDecide_99 : decode cX7_doDecide 99 = .ok (.aload_n 0, 1) := by decide +kernel
theorem dX7_doDecide_100 : decode cX7_doDecide 100 = .ok (.iload_n 1, 1) := by decide +kernel
theorem dX7_doDecide_101 : decode cX7_doDecide 101 = .ok (.iload_n 2, 1) := by decide +kernel
theorem dX7_doDecide_102 : decode cX7_doDecide 102 = .ok (.invokevirtual 70, 3) := by decide +kernel
theorem dX7_doDecide_105 : decode cX7_doDecide 105 = .ok (.ifCond .eq 9, 3) := by decide +kernel
theorem dX7_doDecide_108 : decode cX7_doDecide 108 = .ok (.iinc 2 1, 3) := by decide +kernel
theorem dX7_doDecide_111 : decode cX7_doDecide 111 = .ok (.goto (-27), 3) := by decide +kernel
theorem dX7_doDecide_114 : decode cX7_doDecide 114 = .ok (.iload_n 2, 1) := by decide +kernel
theorem dX7_doDecide_115 : decode cX7_doDecide 115 = .ok (.bipush 6, 2) := by decide +kernel
theorem dX7_doDecide_117 : decode cX7_doDecide 117 = .ok (.if_icmp .lt 13, 3) := by decide +kernel
theorem dX7_doDecide_120 : decode cX7_doDecide 120 = .ok (.aload_n 0, 1) := by decide +kernel
theorem dX7_doDecide_121 : decode cX7_doDecide 121 = .ok (.iload_n 1, 1) := by decide +kernel
theorem dX7_doDecide_122 : decode cX7_doDecide 122 = .ok (.iconst 0, 1) := by decide +kernel
theorem dX7_doDecide_123 : decode cX7_doDecide 123 = .ok (.iconst 4, 1) := by decide +kernel
theorem dX7_doDecide_124 : decode cX7_doDecide 124 = .ok (.invokevirtual 101, 3) := by decide +kernel
theorem dX7_doDecide_127 : decode cX7_doDecide 127 = .ok (.ifCond .ne 12, 3) := by decide +kernel
theorem dX7_doDecide_130 : decode cX7_doDecide 130 = .ok (.aload_n 0, 1) := by decide +kernel
theorem dX7_doDecide_131 : decode cX7_doDecide 131 = .ok (.iconst 2, 1) := by decide +kernel
theorem dX7_doDecide_132 : decode cX7_doDecide 132 = .ok (.bipush 7, 2) := by decide +kernel
theorem dX7_doDecide_134 : decode cX7_doDecide 134 = .ok (.iload_n 2, 1) := by decide +kernel
theorem dX7_doDecide_135 : decode cX7_doDecide 135 = .ok (.invokevirtual 77, 3) := by decide +kernel
theorem dX7_doDecide_138 : decode cX7_doDecide 138 = .ok (.ireturn, 1) := by decide +kernel
theorem dX7_doDecide_139 : decode cX7_doDecide 139 = .ok (.aload_n 0, 1) := by decide +kernel
theorem dX7_doDecide_140 : decode cX7_doDecide 140 = .ok (.iload_n 1, 1) := by decide +kernel
theorem dX7_doDecide_141 : decode cX7_doDecide 141 = .ok (.iconst 1, 1) := by decide +kernel
theorem dX7_doDecide_142 : decode cX7_doDecide 142 = .ok (.invokevirtual 126, 3) := by decide +kernel
theorem dX7_doDecide_145 : decode cX7_doDecide 145 = .ok (.iconst 1, 1) := by decide +kernel
theorem dX7_doDecide_146 : decode cX7_doDecide 146 = .ok (.ireturn, 1) := by decide +kernel
theorem dX7_decide_0 : decode cX7_decide 0 = .ok (.aload_n 0, 1) := by decide +kernel
theorem dX7_decide_1 : decode cX7_decide 1 = .ok (.invokevirtual 81, 3) := by decide +kernel
theorem dX7_decide_4 : decode cX7_decide 4 = .ok (.aload_n 0, 1) := by decide +kernel
theorem dX7_decide_5 : decode cX7_decide 5 = .ok (.aload_n 0, 1) := by decide +kernel
theorem dX7_decide_6 : decode cX7_decide 6 = .ok (.iload_n 1, 1) := by decide +kernel
theorem dX7_decide_7 : decode cX7_decide 7 = .ok (.invokevirtual 130, 3) := by decide +kernel
theorem dX7_decide_10 : decode cX7_decide 10 = .ok (.invokevirtual 88, 3) := by decide +kernel
theorem dX7_decide_13 : decode cX7_decide 13 = .ok (.ireturn, 1) := by decide +kernel
theorem dX7_hears_0 : decode cX7_hears 0 = .ok (.aload_n 0, 1) := by decide +kernel
theorem dX7_hears_1 : decode cX7_hears 1 = .ok (.iload_n 1, 1) := by decide +kernel
theorem dX7_hears_2 : decode cX7_hears 2 = .ok (.iload_n 2, 1) := by decide +kernel
theorem dX7_hears_3 : decode cX7_hears 3 = .ok (.iload_n 3, 1) := by decide +kernel
theorem dX7_hears_4 : decode cX7_hears 4 = .ok (.ifCond .eq 7, 3) := by decide +kernel
theorem dX7_hears_7 : decode cX7_hears 7 = .ok (.iconst 3, 1) := by decide +kernel
theorem dX7_hears_8 : decode cX7_hears 8 = .ok (.goto 4, 3) := by decide +kernel
theorem dX7_hears_11 : decode cX7_hears 11 = .ok (.iconst 4, 1) := by decide +kernel
theorem dX7_hears_12 : decode cX7_hears 12 = .ok (.invokevirtual 119, 3) := by decide +kernel
theorem dX7_hears_15 : decode cX7_hears 15 = .ok (.aload_n 0, 1) := by decide +kernel
theorem dX7_hears_16 : decode cX7_hears 16 = .ok (.getfield 9, 3) := by decide +kernel
theorem dX7_hears_19 : decode cX7_hears 19 = .ok (.bipush 6, 2) := by decide +kernel
theorem dX7_hears_21 : decode cX7_hears 21 = .ok (.iload_n 2, 1) := by decide +kernel
theorem dX7_hears_22 : decode cX7_hears 22 = .ok (.iadd, 1) := by decide +kernel
theorem dX7_hears_23 : decode cX7_hears 23 = .ok (.dup2, 1) := by decide +kernel
theorem dX7_hears_24 : decode cX7_hears 24 = .ok (.iaload, 1) := by decide +kernel
theorem dX7_hears_25 : decode cX7_hears 25 = .ok (.iload_n 3, 1) := by decide +kernel
theorem dX7_hears_26 : decode cX7_hears 26 = .ok (.ifCond .eq 12, 3) := by decide +kernel
theorem dX7_hears_29 : decode cX7_hears 29 = .ok (.aload_n 0, 1) := by decide +kernel
theorem dX7_hears_30 : decode cX7_hears 30 = .ok (.iload_n 1, 1) := by decide +kernel
theorem dX7_hears_31 : decode cX7_hears 31 = .ok (.iload_n 2, 1) := by decide +kernel
theorem dX7_hears_32 : decode cX7_hears 32 = .ok (.invokevirtual 62, 3) := by decide +kernel
theorem dX7_hears_35 : decode cX7_hears 35 = .ok (.goto 4, 3) := by decide +kernel
theorem dX7_hears_38 : decode cX7_hears 38 = .ok (.iconst 0, 1) := by decide +kernel
theorem dX7_hears_39 : decode cX7_hears 39 = .ok (.iadd, 1) := by decide +kernel
theorem dX7_hears_40 : decode cX7_hears 40 = .ok (.iastore, 1) := by decide +kernel
theorem dX7_hears_41 : decode cX7_hears 41 = .ok (.return_, 1) := by decide +kernel
theorem dX7_doTell_0 : decode cX7_doTell 0 = .ok (.aload_n 0, 1) := by decide +kernel
theorem dX7_doTell_1 : decode cX7_doTell 1 = .ok (.iload_n 1, 1) := by decide +kernel
theorem dX7_doTell_2 : decode cX7_doTell 2 = .ok (.invokevirtual 91, 3) := by decide +kernel
theorem dX7_doTell_5 : decode cX7_doTell 5 = .ok (.ifCond .ne 9, 3) := by decide +kernel
theorem dX7_doTell_8 : decode cX7_doTell 8 = .ok (.aload_n 0, 1) := by decide +kernel
theorem dX7_doTell_9 : decode cX7_doTell 9 = .ok (.iconst 1, 1) := by decide +kernel
theorem dX7_doTell_10 : decode cX7_doTell 10 = .ok (.invokevirtual 98, 3) := by decide +kernel
theorem dX7_doTell_13 : decode cX7_doTell 13 = .ok (.ireturn, 1) := by decide +kernel
theorem dX7_doTell_14 : decode cX7_doTell 14 = .ok (.iload_n 2, 1) := by decide +kernel
theorem dX7_doTell_15 : decode cX7_doTell 15 = .ok (.invokestatic 95, 3) := by decide +kernel
theorem dX7_doTell_18 : decode cX7_doTell 18 = .ok (.ifCond .ne 9, 3) := by decide +kernel
theorem dX7_doTell_21 : decode cX7_doTell 21 = .ok (.aload_n 0, 1) := by decide +kernel
theorem dX7_doTell_22 : decode cX7_doTell 22 = .ok (.iconst 2, 1) := by decide +kernel
theorem dX7_doTell_23 : decode cX7_doTell 23 = .ok (.invokevirtual 98, 3) := by decide +kernel
theorem dX7_doTell_26 : decode cX7_doTell 26 = .ok (.ireturn, 1) := by decide +kernel
theorem dX7_doTell_27 : decode cX7_doTell 27 = .ok (.aload_n 0, 1) := by decide +kernel
theorem dX7_doTell_28 : decode cX7_doTell 28 = .ok (.getfield 9, 3) := by decide +kernel
theorem dX7_doTell_31 : decode cX7_doTell 31 = .ok (.iconst 1, 1) := by decide +kernel
theorem dX7_doTell_32 : decode cX7_doTell 32 = .ok (.iaload, 1) := by decide +kernel
theorem dX7_doTell_33 : decode cX7_doTell 33 = .ok (.iconst 1, 1) := by decide +kernel
theorem dX7_doTell_34 : decode cX7_doTell 34 = .ok (.if_icmp .ne 15, 3) := by decide +kernel
theorem dX7_doTell_37 : decode cX7_doTell 37 = .ok (.aload_n 0, 1) := by decide +kernel
theorem dX7_doTell_38 : decode cX7_doTell 38 = .ok (.iconst 3, 1) := by decide +kernel
theorem dX7_doTell_39 : decode cX7_doTell 39 = .ok (.iconst 2, 1) := by decide +kernel
theorem dX7_doTell_40 : decode cX7_doTell 40 = .ok (.aload_n 0, 1) := by decide +kernel
theorem dX7_doTell_41 : decode cX7_doTell 41 = .ok (.iconst 0, 1) := by decide +kernel
theorem dX7_doTell_42 : decode cX7_doTell 42 = .ok (.invokevirtual 110, 3) := by decide +kernel
theorem dX7_doTell_45 : decode cX7_doTell 45 = .ok (.invokevirtual 77, 3) := by decide +kernel
theorem dX7_doTell_48 : decode cX7_doTell 48 = .ok (.ireturn, 1) := by decide +kernel
theorem dX7_doTell_49 : decode cX7_doTell 49 = .ok (.aload_n 0, 1) := by decide +kernel
theorem dX7_doTell_50 : decode cX7_doTell 50 = .ok (.iload_n 1, 1) := by decide +kernel
theorem dX7_doTell_51 : decode cX7_doTell 51 = .ok (.invokevirtual 73, 3) := by decide +kernel
theorem dX7_doTell_54 : decode cX7_doTell 54 = .ok (.ifCond .ne 12, 3) := by decide +kernel
theorem dX7_doTell_57 : decode cX7_doTell 57 = .ok (.aload_n 0, 1) := by decide +kernel
theorem dX7_doTell_58 : decode cX7_doTell 58 = .ok (.iconst 3, 1) := by decide +kernel
theorem dX7_doTell_59 : decode cX7_doTell 59 = .ok (.bipush 8, 2) := by decide +kernel
theorem dX7_doTell_61 : decode cX7_doTell 61 = .ok (.iload_n 1, 1) := by decide +kernel
theorem dX7_doTell_62 : decode cX7_doTell 62 = .ok (.invokevirtual 77, 3) := by decide +kernel
theorem dX7_doTell_65 : decode cX7_doTell 65 = .ok (.ireturn, 1) := by decide +kernel
theorem dX7_doTell_66 : decode cX7_doTell 66 = .ok (.aload_n 0, 1) := by decide +kernel
theorem dX7_doTell_67 : decode cX7_doTell 67 = .ok (.iload_n 1, 1) := by decide +kernel
theorem dX7_doTell_68 : decode cX7_doTell 68 = .ok (.iload_n 2, 1) := by decide +kernel
theorem dX7_doTell_69 : decode cX7_doTell 69 = .ok (.invokevirtual 66, 3) := by decide +kernel
theorem dX7_doTell_72 : decode cX7_doTell 72 = .ok (.ifCond .ne 11, 3) := by decide +kernel
theorem dX7_doTell_75 : decode cX7_doTell 75 = .ok (.aload_n 0, 1) := by decide +kernel
theorem dX7_doTell_76 : decode cX7_doTell 76 = .ok (.iconst 3, 1) := by decide +kernel
theorem dX7_doTell_77 : decode cX7_doTell 77 = .ok (.iconst 4, 1) := by decide +kernel
theorem dX7_doTell_78 : decode cX7_doTell 78 = .ok (.iload_n 2, 1) := by decide +kernel
theorem dX7_doTell_79 : decode cX7_doTell 79 = .ok (.invokevirtual 77, 3) := by decide +kernel
theorem dX7_doTell_82 : decode cX7_doTell 82 = .ok (.ireturn, 1) := by decide +kernel
theorem dX7_doTell_83 : decode cX7_doTell 83 = .ok (.aload_n 0, 1) := by decide +kernel
theorem dX7_doTell_84 : decode cX7_doTell 84 = .ok (.iload_n 2, 1) := by decide +kernel
theorem dX7_doTell_85 : decode cX7_doTell 85 = .ok (.invokevirtual 113, 3) := by decide +kernel
theorem dX7_doTell_88 : decode cX7_doTell 88 = .ok (.ifCond .eq 11, 3) := by decide +kernel
theorem dX7_doTell_91 : decode cX7_doTell 91 = .ok (.aload_n 0, 1) := by decide +kernel
theorem dX7_doTell_92 : decode cX7_doTell 92 = .ok (.iconst 3, 1) := by decide +kernel
theorem dX7_doTell_93 : decode cX7_doTell 93 = .ok (.iconst 5, 1) := by decide +kernel
theorem dX7_doTell_94 : decode cX7_doTell 94 = .ok (.iload_n 2, 1) := by decide +kernel
theorem dX7_doTell_95 : decode cX7_doTell 95 = .ok (.invokevirtual 77, 3) := by decide +kernel
theorem dX7_doTell_98 : decode cX7_doTell 98 = .ok (.ireturn, 1) := by decide +kernel
theorem dX7_doTell_99 : decode cX7_doTell 99 = .ok (.aload_n 0, 1) := by decide +kernel
theorem dX7_doTell_100 : decode cX7_doTell 100 = .ok (.iload_n 1, 1) := by decide +kernel
theorem dX7_doTell_101 : decode cX7_doTell 101 = .ok (.iload_n 2, 1) := by decide +kernel
theorem dX7_doTell_102 : decode cX7_doTell 102 = .ok (.invokevirtual 70, 3) := by decide +kernel
theorem dX7_doTell_105 : decode cX7_doTell 105 = .ok (.iconst 3, 1) := by decide +kernel
theorem dX7_doTell_106 : decode cX7_doTell 106 = .ok (.if_icmp .lt 17, 3) := by decide +kernel
theorem dX7_doTell_109 : decode cX7_doTell 109 = .ok (.aload_n 0, 1) := by decide +kernel
theorem dX7_doTell_110 : decode cX7_doTell 110 = .ok (.iconst 3, 1) := by decide +kernel
theorem dX7_doTell_111 : decode cX7_doTell 111 = .ok (.bipush 9, 2) := by decide +kernel
theorem dX7_doTell_113 : decode cX7_doTell 113 = .ok (.aload_n 0, 1) := by decide +kernel
theorem dX7_doTell_114 : decode cX7_doTell 114 = .ok (.iload_n 1, 1) := by decide +kernel
theorem dX7_doTell_115 : decode cX7_doTell 115 = .ok (.iload_n 2, 1) := by decide +kernel
theorem dX7_doTell_116 : decode cX7_doTell 116 = .ok (.invokevirtual 70, 3) := by decide +kernel
theorem dX7_doTell_119 : decode cX7_doTell 119 = .ok (.invokevirtual 77, 3) := by decide +kernel
theorem dX7_doTell_122 : decode cX7_doTell 122 = .ok (.ireturn, 1) := by decide +kernel
theorem dX7_doTell_123 : decode cX7_doTell 123 = .ok (.aload_n 0, 1) := by decide +kernel
theorem dX7_doTell_124 : decode cX7_doTell 124 = .ok (.iload_n 1, 1) := by decide +kernel
theorem dX7_doTell_125 : decode cX7_doTell 125 = .ok (.iload_n 2, 1) := by decide +kernel
theorem dX7_doTell_126 : decode cX7_doTell 126 = .ok (.aload_n 0, 1) := by decide +kernel
theorem dX7_doTell_127 : decode cX7_doTell 127 = .ok (.iload_n 1, 1) := by decide +kernel
theorem dX7_doTell_128 : decode cX7_doTell 128 = .ok (.invokevirtual 73, 3) := by decide +kernel
theorem dX7_doTell_131 : decode cX7_doTell 131 = .ok (.iconst 1, 1) := by decide +kernel
theorem dX7_doTell_132 : decode cX7_doTell 132 = .ok (.if_icmp .ne 7, 3) := by decide +kernel
theorem dX7_doTell_135 : decode cX7_doTell 135 = .ok (.iconst 1, 1) := by decide +kernel
theorem dX7_doTell_136 : decode cX7_doTell 136 = .ok (.goto 4, 3) := by decide +kernel
theorem dX7_doTell_139 : decode cX7_doTell 139 = .ok (.iconst 0, 1) := by decide +kernel
theorem dX7_doTell_140 : decode cX7_doTell 140 = .ok (.invokevirtual 133, 3) := by decide +kernel
theorem dX7_doTell_143 : decode cX7_doTell 143 = .ok (.aload_n 0, 1) := by decide +kernel
theorem dX7_doTell_144 : decode cX7_doTell 144 = .ok (.getfield 9, 3) := by decide +kernel
theorem dX7_doTell_147 : decode cX7_doTell 147 = .ok (.bipush 6, 2) := by decide +kernel
theorem dX7_doTell_149 : decode cX7_doTell 149 = .ok (.iload_n 2, 1) := by decide +kernel
theorem dX7_doTell_150 : decode cX7_doTell 150 = .ok (.iadd, 1) := by decide +kernel
theorem dX7_doTell_151 : decode cX7_doTell 151 = .ok (.iaload, 1) := by decide +kernel
theorem dX7_doTell_152 : decode cX7_doTell 152 = .ok (.ireturn, 1) := by decide +kernel
theorem dX7_tell_0 : decode cX7_tell 0 = .ok (.aload_n 0, 1) := by decide +kernel
theorem dX7_tell_1 : decode cX7_tell 1 = .ok (.invokevirtual 81, 3) := by decide +kernel
theorem dX7_tell_4 : decode cX7_tell 4 = .ok (.aload_n 0, 1) := by decide +kernel
theorem dX7_tell_5 : decode cX7_tell 5 = .ok (.aload_n 0, 1) := by decide +kernel
theorem dX7_tell_6 : decode cX7_tell 6 = .ok (.iload_n 1, 1) := by decide +kernel
theorem dX7_tell_7 : decode cX7_tell 7 = .ok (.iload_n 2, 1) := by decide +kernel
theorem dX7_tell_8 : decode cX7_tell 8 = .ok (.invokevirtual 137, 3) := by decide +kernel
theorem dX7_tell_11 : decode cX7_tell 11 = .ok (.invokevirtual 88, 3) := by decide +kernel
theorem dX7_tell_14 : decode cX7_tell 14 = .ok (.ireturn, 1) := by decide +kernel
theorem dX7_doFaint_0 : decode cX7_doFaint 0 = .ok (.aload_n 0, 1) := by decide +kernel
theorem dX7_doFaint_1 : decode cX7_doFaint 1 = .ok (.getfield 9, 3) := by decide +kernel
theorem dX7_doFaint_4 : decode cX7_doFaint 4 = .ok (.iconst 1, 1) := by decide +kernel
theorem dX7_doFaint_5 : decode cX7_doFaint 5 = .ok (.iaload, 1) := by decide +kernel
theorem dX7_doFaint_6 : decode cX7_doFaint 6 = .ok (.iconst 1, 1) := by decide +kernel
theorem dX7_doFaint_7 : decode cX7_doFaint 7 = .ok (.if_icmp .ne 15, 3) := by decide +kernel
theorem dX7_doFaint_10 : decode cX7_doFaint 10 = .ok (.aload_n 0, 1) := by decide +kernel
theorem dX7_doFaint_11 : decode cX7_doFaint 11 = .ok (.iconst 1, 1) := by decide +kernel
theorem dX7_doFaint_12 : decode cX7_doFaint 12 = .ok (.iconst 2, 1) := by decide +kernel
theorem dX7_doFaint_13 : decode cX7_doFaint 13 = .ok (.aload_n 0, 1) := by decide +kernel
theorem dX7_doFaint_14 : decode cX7_doFaint 14 = .ok (.iconst 0, 1) := by decide +kernel
theorem dX7_doFaint_15 : decode cX7_doFaint 15 = .ok (.invokevirtual 110, 3) := by decide +kernel
theorem dX7_doFaint_18 : decode cX7_doFaint 18 = .ok (.invokevirtual 77, 3) := by decide +kernel
theorem dX7_doFaint_21 : decode cX7_doFaint 21 = .ok (.ireturn, 1) := by decide +kernel
theorem dX7_doFaint_22 : decode cX7_doFaint 22 = .ok (.aload_n 0, 1) := by decide +kernel
theorem dX7_doFaint_23 : decode cX7_doFaint 23 = .ok (.getfield 9, 3) := by decide +kernel
theorem dX7_doFaint_26 : decode cX7_doFaint 26 = .ok (.iconst 1, 1) := by decide +kernel
theorem dX7_doFaint_27 : decode cX7_doFaint 27 = .ok (.iconst 1, 1) := by decide +kernel
theorem dX7_doFaint_28 : decode cX7_doFaint 28 = .ok (.iastore, 1) := by decide +kernel
theorem dX7_doFaint_29 : decode cX7_doFaint 29 = .ok (.aload_n 0, 1) := by decide +kernel
theorem dX7_doFaint_30 : decode cX7_doFaint 30 = .ok (.getfield 9, 3) := by decide +kernel
theorem dX7_doFaint_33 : decode cX7_doFaint 33 = .ok (.iconst 4, 1) := by decide +kernel
theorem dX7_doFaint_34 : decode cX7_doFaint 34 = .ok (.dup2, 1) := by decide +kernel
theorem dX7_doFaint_35 : decode cX7_doFaint 35 = .ok (.iaload, 1) := by decide +kernel
theorem dX7_doFaint_36 : decode cX7_doFaint 36 = .ok (.iconst 1, 1) := by decide +kernel
theorem dX7_doFaint_37 : decode cX7_doFaint 37 = .ok (.iadd, 1) := by decide +kernel
theorem dX7_doFaint_38 : decode cX7_doFaint 38 = .ok (.iastore, 1) := by decide +kernel
theorem dX7_doFaint_39 : decode cX7_doFaint 39 = .ok (.aload_n 0, 1) := by decide +kernel
theorem dX7_doFaint_40 : decode cX7_doFaint 40 = .ok (.iconst 0, 1) := by decide +kernel
theorem dX7_doFaint_41 : decode cX7_doFaint 41 = .ok (.invokevirtual 110, 3) := by decide +kernel
theorem dX7_doFaint_44 : decode cX7_doFaint 44 = .ok (.ireturn, 1) := by decide +kernel
theorem dX7_faint_0 : decode cX7_faint 0 = .ok (.aload_n 0, 1) := by decide +kernel
theorem dX7_faint_1 : decode cX7_faint 1 = .ok (.invokevirtual 81, 3) := by decide +kernel
theorem dX7_faint_4 : decode cX7_faint 4 = .ok (.aload_n 0, 1) := by decide +kernel
theorem dX7_faint_5 : decode cX7_faint 5 = .ok (.aload_n 0, 1) := by decide +kernel
theorem dX7_faint_6 : decode cX7_faint 6 = .ok (.invokevirtual 140, 3) := by decide +kernel
theorem dX7_faint_9 : decode cX7_faint 9 = .ok (.invokevirtual 88, 3) := by decide +kernel
theorem dX7_faint_12 : decode cX7_faint 12 = .ok (.ireturn, 1) := by decide +kernel
theorem dX7_doWake_0 : decode cX7_doWake 0 = .ok (.aload_n 0, 1) := by decide +kernel
theorem dX7_doWake_1 : decode cX7_doWake 1 = .ok (.getfield 9, 3) := by decide +kernel
theorem dX7_doWake_4 : decode cX7_doWake 4 = .ok (.iconst 1, 1) := by decide +kernel
theorem dX7_doWake_5 : decode cX7_doWake 5 = .ok (.iaload, 1) := by decide +kernel
theorem dX7_doWake_6 : decode cX7_doWake 6 = .ok (.ifCond .ne 17, 3) := by decide +kernel
theorem dX7_doWake_9 : decode cX7_doWake 9 = .ok (.aload_n 0, 1) := by decide +kernel
theorem dX7_doWake_10 : decode cX7_doWake 10 = .ok (.iconst 1, 1) := by decide +kernel
theorem dX7_doWake_11 : decode cX7_doWake 11 = .ok (.bipush 11, 2) := by decide +kernel
theorem dX7_doWake_13 : decode cX7_doWake 13 = .ok (.aload_n 0, 1) := by decide +kernel
theorem dX7_doWake_14 : decode cX7_doWake 14 = .ok (.getfield 9, 3) := by decide +kernel
theorem dX7_doWake_17 : decode cX7_doWake 17 = .ok (.iconst 5, 1) := by decide +kernel
theorem dX7_doWake_18 : decode cX7_doWake 18 = .ok (.iaload, 1) := by decide +kernel
theorem dX7_doWake_19 : decode cX7_doWake 19 = .ok (.invokevirtual 77, 3) := by decide +kernel
theorem dX7_doWake_22 : decode cX7_doWake 22 = .ok (.ireturn, 1) := by decide +kernel
theorem dX7_doWake_23 : decode cX7_doWake 23 = .ok (.aload_n 0, 1) := by decide +kernel
theorem dX7_doWake_24 : decode cX7_doWake 24 = .ok (.getfield 9, 3) := by decide +kernel
theorem dX7_doWake_27 : decode cX7_doWake 27 = .ok (.iconst 1, 1) := by decide +kernel
theorem dX7_doWake_28 : decode cX7_doWake 28 = .ok (.iconst 0, 1) := by decide +kernel
theorem dX7_doWake_29 : decode cX7_doWake 29 = .ok (.iastore, 1) := by decide +kernel
theorem dX7_doWake_30 : decode cX7_doWake 30 = .ok (.iconst 0, 1) := by decide +kernel
theorem dX7_doWake_31 : decode cX7_doWake 31 = .ok (.istore_n 1, 1) := by decide +kernel
theorem dX7_doWake_32 : decode cX7_doWake 32 = .ok (.iconst 0, 1) := by decide +kernel
theorem dX7_doWake_33 : decode cX7_doWake 33 = .ok (.istore_n 2, 1) := by decide +kernel
theorem dX7_doWake_34 : decode cX7_doWake 34 = .ok (.iload_n 2, 1) := by decide +kernel
theorem dX7_doWake_35 : decode cX7_doWake 35 = .ok (.aload_n 0, 1) := by decide +kernel
theorem dX7_doWake_36 : decode cX7_doWake 36 = .ok (.getfield 9, 3) := by decide +kernel
theorem dX7_doWake_39 : decode cX7_doWake 39 = .ok (.iconst 0, 1) := by decide +kernel
theorem dX7_doWake_40 : decode cX7_doWake 40 = .ok (.iaload, 1) := by decide +kernel
theorem dX7_doWake_41 : decode cX7_doWake 41 = .ok (.if_icmp .ge 36, 3) := by decide +kernel
theorem dX7_doWake_44 : decode cX7_doWake 44 = .ok (.aload_n 0, 1) := by decide +kernel
theorem dX7_doWake_45 : decode cX7_doWake 45 = .ok (.iload_n 2, 1) := by decide +kernel
theorem dX7_doWake_46 : decode cX7_doWake 46 = .ok (.invokevirtual 73, 3) := by decide +kernel
theorem dX7_doWake_49 : decode cX7_doWake 49 = .ok (.ifCond .ne 22, 3) := by decide +kernel
theorem dX7_doWake_52 : decode cX7_doWake 52 = .ok (.aload_n 0, 1) := by decide +kernel
theorem dX7_doWake_53 : decode cX7_doWake 53 = .ok (.iload_n 2, 1) := by decide +kernel
theorem dX7_doWake_54 : decode cX7_doWake 54 = .ok (.iconst 1, 1) := by decide +kernel
theorem dX7_doWake_55 : decode cX7_doWake 55 = .ok (.iconst 4, 1) := by decide +kernel
theorem dX7_doWake_56 : decode cX7_doWake 56 = .ok (.invokevirtual 101, 3) := by decide +kernel
theorem dX7_doWake_59 : decode cX7_doWake 59 = .ok (.ifCond .le 12, 3) := by decide +kernel
theorem dX7_doWake_62 : decode cX7_doWake 62 = .ok (.aload_n 0, 1) := by decide +kernel
theorem dX7_doWake_63 : decode cX7_doWake 63 = .ok (.iload_n 2, 1) := by decide +kernel
theorem dX7_doWake_64 : decode cX7_doWake 64 = .ok (.iconst 2, 1) := by decide +kernel
theorem dX7_doWake_65 : decode cX7_doWake 65 = .ok (.invokevirtual 126, 3) := by decide +kernel
theorem dX7_doWake_68 : decode cX7_doWake 68 = .ok (.iinc 1 1, 3) := by decide +kernel
theorem dX7_doWake_71 : decode cX7_doWake 71 = .ok (.iinc 2 1, 3) := by decide +kernel
theorem dX7_doWake_74 : decode cX7_doWake 74 = .ok (.goto (-40), 3) := by decide +kernel
theorem dX7_doWake_77 : decode cX7_doWake 77 = .ok (.iload_n 1, 1) := by decide +kernel
theorem dX7_doWake_78 : decode cX7_doWake 78 = .ok (.ireturn, 1) := by decide +kernel
theorem dX7_wake_0 : decode cX7_wake 0 = .ok (.aload_n 0, 1) := by decide +kernel
theorem dX7_wake_1 : decode cX7_wake 1 = .ok (.invokevirtual 81, 3) := by decide +kernel
theorem dX7_wake_4 : decode cX7_wake 4 = .ok (.aload_n 0, 1) := by decide +kernel
theorem dX7_wake_5 : decode cX7_wake 5 = .ok (.aload_n 0, 1) := by decide +kernel
theorem dX7_wake_6 : decode cX7_wake 6 = .ok (.invokevirtual 143, 3) := by decide +kernel
theorem dX7_wake_9 : decode cX7_wake 9 = .ok (.invokevirtual 88, 3) := by decide +kernel
theorem dX7_wake_12 : decode cX7_wake 12 = .ok (.ireturn, 1) := by decide +kernel
theorem dX7_isAwake_0 : decode cX7_isAwake 0 = .ok (.aload_n 0, 1) := by decide +kernel
theorem dX7_isAwake_1 : decode cX7_isAwake 1 = .ok (.iconst 0, 1) := by decide +kernel
theorem dX7_isAwake_2 : decode cX7_isAwake 2 = .ok (.putfield 36, 3) := by decide +kernel
theorem dX7_isAwake_5 : decode cX7_isAwake 5 = .ok (.aload_n 0, 1) := by decide +kernel
theorem dX7_isAwake_6 : decode cX7_isAwake 6 = .ok (.getfield 9, 3) := by decide +kernel
theorem dX7_isAwake_9 : decode cX7_isAwake 9 = .ok (.iconst 1, 1) := by decide +kernel
theorem dX7_isAwake_10 : decode cX7_isAwake 10 = .ok (.iaload, 1) := by decide +kernel
theorem dX7_isAwake_11 : decode cX7_isAwake 11 = .ok (.ifCond .ne 7, 3) := by decide +kernel
theorem dX7_isAwake_14 : decode cX7_isAwake 14 = .ok (.iconst 1, 1) := by decide +kernel
theorem dX7_isAwake_15 : decode cX7_isAwake 15 = .ok (.goto 4, 3) := by decide +kernel
theorem dX7_isAwake_18 : decode cX7_isAwake 18 = .ok (.iconst 0, 1) := by decide +kernel
theorem dX7_isAwake_19 : decode cX7_isAwake 19 = .ok (.ireturn, 1) := by decide +kernel
theorem dX7_book_0 : decode cX7_book 0 = .ok (.aload_n 0, 1) := by decide +kernel
theorem dX7_book_1 : decode cX7_book 1 = .ok (.iload_n 1, 1) := by decide +kernel
theorem dX7_book_2 : decode cX7_book 2 = .ok (.iconst 0, 1) := by decide +kernel
theorem dX7_book_3 : decode cX7_book 3 = .ok (.aload_n 0, 1) := by decide +kernel
theorem dX7_book_4 : decode cX7_book 4 = .ok (.getfield 9, 3) := by decide +kernel
theorem dX7_book_7 : decode cX7_book 7 = .ok (.iconst 5, 1) := by decide +kernel
theorem dX7_book_8 : decode cX7_book 8 = .ok (.iaload, 1) := by decide +kernel
theorem dX7_book_9 : decode cX7_book 9 = .ok (.iconst 1, 1) := by decide +kernel
theorem dX7_book_10 : decode cX7_book 10 = .ok (.isub, 1) := by decide +kernel
theorem dX7_book_11 : decode cX7_book 11 = .ok (.invokestatic 58, 3) := by decide +kernel
theorem dX7_book_14 : decode cX7_book 14 = .ok (.ifCond .eq 7, 3) := by decide +kernel
theorem dX7_book_17 : decode cX7_book 17 = .ok (.iconst 0, 1) := by decide +kernel
theorem dX7_book_18 : decode cX7_book 18 = .ok (.goto 4, 3) := by decide +kernel
theorem dX7_book_21 : decode cX7_book 21 = .ok (.iconst 1, 1) := by decide +kernel
theorem dX7_book_22 : decode cX7_book 22 = .ok (.putfield 36, 3) := by decide +kernel
theorem dX7_book_25 : decode cX7_book 25 = .ok (.aload_n 0, 1) := by decide +kernel
theorem dX7_book_26 : decode cX7_book 26 = .ok (.getfield 36, 3) := by decide +kernel
theorem dX7_book_29 : decode cX7_book 29 = .ok (.ifCond .le 7, 3) := by decide +kernel
theorem dX7_book_32 : decode cX7_book 32 = .ok (.iconst 0, 1) := by decide +kernel
theorem dX7_book_33 : decode cX7_book 33 = .ok (.goto 12, 3) := by decide +kernel
theorem dX7_book_36 : decode cX7_book 36 = .ok (.aload_n 0, 1) := by decide +kernel
theorem dX7_book_37 : decode cX7_book 37 = .ok (.getfield 9, 3) := by decide +kernel
theorem dX7_book_40 : decode cX7_book 40 = .ok (.bipush 24, 2) := by decide +kernel
theorem dX7_book_42 : decode cX7_book 42 = .ok (.iload_n 1, 1) := by decide +kernel
theorem dX7_book_43 : decode cX7_book 43 = .ok (.iadd, 1) := by decide +kernel
theorem dX7_book_44 : decode cX7_book 44 = .ok (.iaload, 1) := by decide +kernel
theorem dX7_book_45 : decode cX7_book 45 = .ok (.ireturn, 1) := by decide +kernel
theorem dX7_wouldSeal_0 : decode cX7_wouldSeal 0 = .ok (.aload_n 0, 1) := by decide +kernel
theorem dX7_wouldSeal_1 : decode cX7_wouldSeal 1 = .ok (.aload_n 0, 1) := by decide +kernel
theorem dX7_wouldSeal_2 : decode cX7_wouldSeal 2 = .ok (.iload_n 1, 1) := by decide +kernel
theorem dX7_wouldSeal_3 : decode cX7_wouldSeal 3 = .ok (.invokevirtual 91, 3) := by decide +kernel
theorem dX7_wouldSeal_6 : decode cX7_wouldSeal 6 = .ok (.ifCond .ne 7, 3) := by decide +kernel
theorem dX7_wouldSeal_9 : decode cX7_wouldSeal 9 = .ok (.iconst 1, 1) := by decide +kernel
theorem dX7_wouldSeal_10 : decode cX7_wouldSeal 10 = .ok (.goto 26, 3) := by decide +kernel
theorem dX7_wouldSeal_13 : decode cX7_wouldSeal 13 = .ok (.aload_n 0, 1) := by decide +kernel
theorem dX7_wouldSeal_14 : decode cX7_wouldSeal 14 = .ok (.iload_n 1, 1) := by decide +kernel
theorem dX7_wouldSeal_15 : decode cX7_wouldSeal 15 = .ok (.invokevirtual 73, 3) := by decide +kernel
theorem dX7_wouldSeal_18 : decode cX7_wouldSeal 18 = .ok (.ifCond .ne 13, 3) := by decide +kernel
theorem dX7_wouldSeal_21 : decode cX7_wouldSeal 21 = .ok (.aload_n 0, 1) := by decide +kernel
theorem dX7_wouldSeal_22 : decode cX7_wouldSeal 22 = .ok (.iload_n 1, 1) := by decide +kernel
theorem dX7_wouldSeal_23 : decode cX7_wouldSeal 23 = .ok (.iconst 0, 1) := by decide +kernel
theorem dX7_wouldSeal_24 : decode cX7_wouldSeal 24 = .ok (.iconst 4, 1) := by decide +kernel
theorem dX7_wouldSeal_25 : decode cX7_wouldSeal 25 = .ok (.invokevirtual 101, 3) := by decide +kernel
theorem dX7_wouldSeal_28 : decode cX7_wouldSeal 28 = .ok (.ifCond .ne 7, 3) := by decide +kernel
theorem dX7_wouldSeal_31 : decode cX7_wouldSeal 31 = .ok (.iconst 2, 1) := by decide +kernel
theorem dX7_wouldSeal_32 : decode cX7_wouldSeal 32 = .ok (.goto 4, 3) := by decide +kernel
theorem dX7_wouldSeal_35 : decode cX7_wouldSeal 35 = .ok (.iconst 0, 1) := by decide +kernel
theorem dX7_wouldSeal_36 : decode cX7_wouldSeal 36 = .ok (.putfield 36, 3) := by decide +kernel
theorem dX7_wouldSeal_39 : decode cX7_wouldSeal 39 = .ok (.aload_n 0, 1) := by decide +kernel
theorem dX7_wouldSeal_40 : decode cX7_wouldSeal 40 = .ok (.getfield 36, 3) := by decide +kernel
theorem dX7_wouldSeal_43 : decode cX7_wouldSeal 43 = .ok (.ifCond .ne 7, 3) := by decide +kernel
theorem dX7_wouldSeal_46 : decode cX7_wouldSeal 46 = .ok (.iconst 1, 1) := by decide +kernel
theorem dX7_wouldSeal_47 : decode cX7_wouldSeal 47 = .ok (.goto 4, 3) := by decide +kernel
theorem dX7_wouldSeal_50 : decode cX7_wouldSeal 50 = .ok (.iconst 0, 1) := by decide +kernel
theorem dX7_wouldSeal_51 : decode cX7_wouldSeal 51 = .ok (.istore_n 2, 1) := by decide +kernel
theorem dX7_wouldSeal_52 : decode cX7_wouldSeal 52 = .ok (.iconst 0, 1) := by decide +kernel
theorem dX7_wouldSeal_53 : decode cX7_wouldSeal 53 = .ok (.istore_n 3, 1) := by decide +kernel
theorem dX7_wouldSeal_54 : decode cX7_wouldSeal 54 = .ok (.iload_n 3, 1) := by decide +kernel
theorem dX7_wouldSeal_55 : decode cX7_wouldSeal 55 = .ok (.bipush 6, 2) := by decide +kernel
theorem dX7_wouldSeal_57 : decode cX7_wouldSeal 57 = .ok (.if_icmp .ge 68, 3) := by decide +kernel
theorem dX7_wouldSeal_60 : decode cX7_wouldSeal 60 = .ok (.iload_n 2, 1) := by decide +kernel
theorem dX7_wouldSeal_61 : decode cX7_wouldSeal 61 = .ok (.ifCond .eq 64, 3) := by decide +kernel
theorem dX7_wouldSeal_64 : decode cX7_wouldSeal 64 = .ok (.aload_n 0, 1) := by decide +kernel
theorem dX7_wouldSeal_65 : decode cX7_wouldSeal 65 = .ok (.iload_n 1, 1) := by decide +kernel
theorem dX7_wouldSeal_66 : decode cX7_wouldSeal 66 = .ok (.iload_n 3, 1) := by decide +kernel
theorem dX7_wouldSeal_67 : decode cX7_wouldSeal 67 = .ok (.invokevirtual 70, 3) := by decide +kernel
theorem dX7_wouldSeal_70 : decode cX7_wouldSeal 70 = .ok (.iconst 1, 1) := by decide +kernel
theorem dX7_wouldSeal_71 : decode cX7_wouldSeal 71 = .ok (.if_icmp .eq 21, 3) := by decide +kernel
theorem dX7_wouldSeal_74 : decode cX7_wouldSeal 74 = .ok (.aload_n 0, 1) := by decide +kernel
theorem dX7_wouldSeal_75 : decode cX7_wouldSeal 75 = .ok (.iload_n 1, 1) := by decide +kernel
theorem dX7_wouldSeal_76 : decode cX7_wouldSeal 76 = .ok (.iload_n 3, 1) := by decide +kernel
theorem dX7_wouldSeal_77 : decode cX7_wouldSeal 77 = .ok (.invokevirtual 70, 3) := by decide +kernel
theorem dX7_wouldSeal_80 : decode cX7_wouldSeal 80 = .ok (.ifCond .ne 16, 3) := by decide +kernel
theorem dX7_wouldSeal_83 : decode cX7_wouldSeal 83 = .ok (.aload_n 0, 1) := by decide +kernel
theorem dX7_wouldSeal_84 : decode cX7_wouldSeal 84 = .ok (.iload_n 1, 1) := by decide +kernel
theorem dX7_wouldSeal_85 : decode cX7_wouldSeal 85 = .ok (.iload_n 3, 1) := by decide +kernel
theorem dX7_wouldSeal_86 : decode cX7_wouldSeal 86 = .ok (.invokevirtual 116, 3) := by decide +kernel
theorem dX7_wouldSeal_89 : decode cX7_wouldSeal 89 = .ok (.ifCond .eq 7, 3) := by decide +kernel
theorem dX7_wouldSeal_92 : decode cX7_wouldSeal 92 = .ok (.iconst 1, 1) := by decide +kernel
theorem dX7_wouldSeal_93 : decode cX7_wouldSeal 93 = .ok (.goto 4, 3) := by decide +kernel
theorem dX7_wouldSeal_96 : decode cX7_wouldSeal 96 = .ok (.iconst 0, 1) := by decide +kernel
theorem dX7_wouldSeal_97 : decode cX7_wouldSeal 97 = .ok (.istore 4, 2) := by decide +kernel
theorem dX7_wouldSeal_99 : decode cX7_wouldSeal 99 = .ok (.aload_n 0, 1) := by decide +kernel
theorem dX7_wouldSeal_100 : decode cX7_wouldSeal 100 = .ok (.iload_n 1, 1) := by decide +kernel
theorem dX7_wouldSeal_101 : decode cX7_wouldSeal 101 = .ok (.iload_n 3, 1) := by decide +kernel
theorem dX7_wouldSeal_102 : decode cX7_wouldSeal 102 = .ok (.invokevirtual 66, 3) := by decide +kernel
theorem dX7_wouldSeal_105 : decode cX7_wouldSeal 105 = .ok (.ifCond .eq 8, 3) := by decide +kernel
theorem dX7_wouldSeal_108 : decode cX7_wouldSeal 108 = .ok (.iload 4, 2) := by decide +kernel
theorem dX7_wouldSeal_110 : decode cX7_wouldSeal 110 = .ok (.ifCond .eq 7, 3) := by decide +kernel
theorem dX7_wouldSeal_113 : decode cX7_wouldSeal 113 = .ok (.iconst 1, 1) := by decide +kernel
theorem dX7_wouldSeal_114 : decode cX7_wouldSeal 114 = .ok (.goto 4, 3) := by decide +kernel
theorem dX7_wouldSeal_117 : decode cX7_wouldSeal 117 = .ok (.iconst 0, 1) := by decide +kernel
theorem dX7_wouldSeal_118 : decode cX7_wouldSeal 118 = .ok (.istore_n 2, 1) := by decide +kernel
theorem dX7_wouldSeal_119 : decode cX7_wouldSeal 119 = .ok (.iinc 3 1, 3) := by decide +kernel
theorem dX7_wouldSeal_122 : decode cX7_wouldSeal 122 = .ok (.goto (-68), 3) := by decide +kernel
theorem dX7_wouldSeal_125 : decode cX7_wouldSeal 125 = .ok (.iload_n 2, 1) := by decide +kernel
theorem dX7_wouldSeal_126 : decode cX7_wouldSeal 126 = .ok (.ireturn, 1) := by decide +kernel
theorem dX7_awake_0 : decode cX7_awake 0 = .ok (.iconst 0, 1) := by decide +kernel
theorem dX7_awake_1 : decode cX7_awake 1 = .ok (.istore_n 1, 1) := by decide +kernel
theorem dX7_awake_2 : decode cX7_awake 2 = .ok (.iconst 0, 1) := by decide +kernel
theorem dX7_awake_3 : decode cX7_awake 3 = .ok (.istore_n 2, 1) := by decide +kernel
theorem dX7_awake_4 : decode cX7_awake 4 = .ok (.iload_n 2, 1) := by decide +kernel
theorem dX7_awake_5 : decode cX7_awake 5 = .ok (.bipush 6, 2) := by decide +kernel
theorem dX7_awake_7 : decode cX7_awake 7 = .ok (.if_icmp .ge 25, 3) := by decide +kernel
theorem dX7_awake_10 : decode cX7_awake 10 = .ok (.iload_n 1, 1) := by decide +kernel
theorem dX7_awake_11 : decode cX7_awake 11 = .ok (.aload_n 0, 1) := by decide +kernel
theorem dX7_awake_12 : decode cX7_awake 12 = .ok (.iload_n 2, 1) := by decide +kernel
theorem dX7_awake_13 : decode cX7_awake 13 = .ok (.invokevirtual 113, 3) := by decide +kernel
theorem dX7_awake_16 : decode cX7_awake 16 = .ok (.ifCond .eq 7, 3) := by decide +kernel
theorem dX7_awake_19 : decode cX7_awake 19 = .ok (.iconst 0, 1) := by decide +kernel
theorem dX7_awake_20 : decode cX7_awake 20 = .ok (.goto 4, 3) := by decide +kernel
theorem dX7_awake_23 : decode cX7_awake 23 = .ok (.iconst 1, 1) := by decide +kernel
theorem dX7_awake_24 : decode cX7_awake 24 = .ok (.iadd, 1) := by decide +kernel
theorem dX7_awake_25 : decode cX7_awake 25 = .ok (.istore_n 1, 1) := by decide +kernel
theorem dX7_awake_26 : decode cX7_awake 26 = .ok (.iinc 2 1, 3) := by decide +kernel
theorem dX7_awake_29 : decode cX7_awake 29 = .ok (.goto (-25), 3) := by decide +kernel
theorem dX7_awake_32 : decode cX7_awake 32 = .ok (.iload_n 1, 1) := by decide +kernel
theorem dX7_awake_33 : decode cX7_awake 33 = .ok (.ireturn, 1) := by decide +kernel
theorem dX7_doSleep_0 : decode cX7_doSleep 0 = .ok (.iload_n 1, 1) := by decide +kernel
theorem dX7_doSleep_1 : decode cX7_doSleep 1 = .ok (.invokestatic 95, 3) := by decide +kernel
theorem dX7_doSleep_4 : decode cX7_doSleep 4 = .ok (.ifCond .ne 9, 3) := by decide +kernel
theorem dX7_doSleep_7 : decode cX7_doSleep 7 = .ok (.aload_n 0, 1) := by decide +kernel
theorem dX7_doSleep_8 : decode cX7_doSleep 8 = .ok (.iconst 1, 1) := by decide +kernel
theorem dX7_doSleep_9 : decode cX7_doSleep 9 = .ok (.invokevirtual 98, 3) := by decide +kernel
theorem dX7_doSleep_12 : decode cX7_doSleep 12 = .ok (.ireturn, 1) := by decide +kernel
theorem dX7_doSleep_13 : decode cX7_doSleep 13 = .ok (.aload_n 0, 1) := by decide +kernel
theorem dX7_doSleep_14 : decode cX7_doSleep 14 = .ok (.getfield 9, 3) := by decide +kernel
theorem dX7_doSleep_17 : decode cX7_doSleep 17 = .ok (.bipush 12, 2) := by decide +kernel
theorem dX7_doSleep_19 : decode cX7_doSleep 19 = .ok (.iload_n 1, 1) := by decide +kernel
theorem dX7_doSleep_20 : decode cX7_doSleep 20 = .ok (.iadd, 1) := by decide +kernel
theorem dX7_doSleep_21 : decode cX7_doSleep 21 = .ok (.iaload, 1) := by decide +kernel
theorem dX7_doSleep_22 : decode cX7_doSleep 22 = .ok (.iload_n 2, 1) := by decide +kernel
theorem dX7_doSleep_23 : decode cX7_doSleep 23 = .ok (.if_icmp .ne 14, 3) := by decide +kernel
theorem dX7_doSleep_26 : decode cX7_doSleep 26 = .ok (.aload_n 0, 1) := by decide +kernel
theorem dX7_doSleep_27 : decode cX7_doSleep 27 = .ok (.iconst 2, 1) := by decide +kernel
theorem dX7_doSleep_28 : decode cX7_doSleep 28 = .ok (.bipush 10, 2) := by decide +kernel
theorem dX7_doSleep_30 : decode cX7_doSleep 30 = .ok (.iconst 1, 1) := by decide +kernel
theorem dX7_doSleep_31 : decode cX7_doSleep 31 = .ok (.iload_n 2, 1) := by decide +kernel
theorem dX7_doSleep_32 : decode cX7_doSleep 32 = .ok (.isub, 1) := by decide +kernel
theorem dX7_doSleep_33 : decode cX7_doSleep 33 = .ok (.invokevirtual 77, 3) := by decide +kernel
theorem dX7_doSleep_36 : decode cX7_doSleep 36 = .ok (.ireturn, 1) := by decide +kernel
theorem dX7_doSleep_37 : decode cX7_doSleep 37 = .ok (.aload_n 0, 1) := by decide +kernel
theorem dX7_doSleep_38 : decode cX7_doSleep 38 = .ok (.getfield 9, 3) := by decide +kernel
theorem dX7_doSleep_41 : decode cX7_doSleep 41 = .ok (.bipush 12, 2) := by decide +kernel
theorem dX7_doSleep_43 : decode cX7_doSleep 43 = .ok (.iload_n 1, 1) := by decide +kernel
theorem dX7_doSleep_44 : decode cX7_doSleep 44 = .ok (.iadd, 1) := by decide +kernel
theorem dX7_doSleep_45 : decode cX7_doSleep 45 = .ok (.iload_n 2, 1) := by decide +kernel
theorem dX7_doSleep_46 : decode cX7_doSleep 46 = .ok (.iastore, 1) := by decide +kernel
theorem dX7_doSleep_47 : decode cX7_doSleep 47 = .ok (.aload_n 0, 1) := by decide +kernel
theorem dX7_doSleep_48 : decode cX7_doSleep 48 = .ok (.invokevirtual 146, 3) := by decide +kernel
theorem dX7_doSleep_51 : decode cX7_doSleep 51 = .ok (.ireturn, 1) := by decide +kernel
theorem dX7_sleep_0 : decode cX7_sleep 0 = .ok (.aload_n 0, 1) := by decide +kernel
theorem dX7_sleep_1 : decode cX7_sleep 1 = .ok (.invokevirtual 81, 3) := by decide +kernel
theorem dX7_sleep_4 : decode cX7_sleep 4 = .ok (.aload_n 0, 1) := by decide +kernel
theorem dX7_sleep_5 : decode cX7_sleep 5 = .ok (.aload_n 0, 1) := by decide +kernel
theorem dX7_sleep_6 : decode cX7_sleep 6 = .ok (.iload_n 1, 1) := by decide +kernel
theorem dX7_sleep_7 : decode cX7_sleep 7 = .ok (.iconst 1, 1) := by decide +kernel
theorem dX7_sleep_8 : decode cX7_sleep 8 = .ok (.invokevirtual 149, 3) := by decide +kernel
theorem dX7_sleep_11 : decode cX7_sleep 11 = .ok (.invokevirtual 88, 3) := by decide +kernel
theorem dX7_sleep_14 : decode cX7_sleep 14 = .ok (.ireturn, 1) := by decide +kernel
theorem dX7_rouse_0 : decode cX7_rouse 0 = .ok (.aload_n 0, 1) := by decide +kernel
theorem dX7_rouse_1 : decode cX7_rouse 1 = .ok (.invokevirtual 81, 3) := by decide +kernel
theorem dX7_rouse_4 : decode cX7_rouse 4 = .ok (.aload_n 0, 1) := by decide +kernel
theorem dX7_rouse_5 : decode cX7_rouse 5 = .ok (.aload_n 0, 1) := by decide +kernel
theorem dX7_rouse_6 : decode cX7_rouse 6 = .ok (.iload_n 1, 1) := by decide +kernel
theorem dX7_rouse_7 : decode cX7_rouse 7 = .ok (.iconst 0, 1) := by decide +kernel
theorem dX7_rouse_8 : decode cX7_rouse 8 = .ok (.invokevirtual 149, 3) := by decide +kernel
theorem dX7_rouse_11 : decode cX7_rouse 11 = .ok (.invokevirtual 88, 3) := by decide +kernel
theorem dX7_rouse_14 : decode cX7_rouse 14 = .ok (.ireturn, 1) := by decide +kernel
theorem dX7_doInquire_0 : decode cX7_doInquire 0 = .ok (.aload_n 0, 1) := by decide +kernel
theorem dX7_doInquire_1 : decode cX7_doInquire 1 = .ok (.iload_n 1, 1) := by decide +kernel
theorem dX7_doInquire_2 : decode cX7_doInquire 2 = .ok (.invokevirtual 91, 3) := by decide +kernel
theorem dX7_doInquire_5 : decode cX7_doInquire 5 = .ok (.ifCond .ne 9, 3) := by decide +kernel
theorem dX7_doInquire_8 : decode cX7_doInquire 8 = .ok (.aload_n 0, 1) := by decide +kernel
theorem dX7_doInquire_9 : decode cX7_doInquire 9 = .ok (.iconst 1, 1) := by decide +kernel
theorem dX7_doInquire_10 : decode cX7_doInquire 10 = .ok (.invokevirtual 98, 3) := by decide +kernel
theorem dX7_doInquire_13 : decode cX7_doInquire 13 = .ok (.ireturn, 1) := by decide +kernel
theorem dX7_doInquire_14 : decode cX7_doInquire 14 = .ok (.iload_n 2, 1) := by decide +kernel
theorem dX7_doInquire_15 : decode cX7_doInquire 15 = .ok (.invokestatic 95, 3) := by decide +kernel
theorem dX7_doInquire_18 : decode cX7_doInquire 18 = .ok (.ifCond .eq 10, 3) := by decide +kernel
theorem dX7_doInquire_21 : decode cX7_doInquire 21 = .ok (.iload_n 3, 1) := by decide +kernel
theorem dX7_doInquire_22 : decode cX7_doInquire 22 = .ok (.invokestatic 95, 3) := by decide +kernel
theorem dX7_doInquire_25 : decode cX7_doInquire 25 = .ok (.ifCond .ne 9, 3) := by decide +kernel
theorem dX7_doInquire_28 : decode cX7_doInquire 28 = .ok (.aload_n 0, 1) := by decide +kernel
theorem dX7_doInquire_29 : decode cX7_doInquire 29 = .ok (.iconst 2, 1) := by decide +kernel
theorem dX7_doInquire_30 : decode cX7_doInquire 30 = .ok (.invokevirtual 98, 3) := by decide +kernel
theorem dX7_doInquire_33 : decode cX7_doInquire 33 = .ok (.ireturn, 1) := by decide +kernel
theorem dX7_doInquire_34 : decode cX7_doInquire 34 = .ok (.aload_n 0, 1) := by decide +kernel
theorem dX7_doInquire_35 : decode cX7_doInquire 35 = .ok (.iload_n 1, 1) := by decide +kernel
theorem dX7_doInquire_36 : decode cX7_doInquire 36 = .ok (.iload_n 2, 1) := by decide +kernel
theorem dX7_doInquire_37 : decode cX7_doInquire 37 = .ok (.invokevirtual 66, 3) := by decide +kernel
theorem dX7_doInquire_40 : decode cX7_doInquire 40 = .ok (.ifCond .eq 12, 3) := by decide +kernel
theorem dX7_doInquire_43 : decode cX7_doInquire 43 = .ok (.aload_n 0, 1) := by decide +kernel
theorem dX7_doInquire_44 : decode cX7_doInquire 44 = .ok (.iload_n 1, 1) := by decide +kernel
theorem dX7_doInquire_45 : decode cX7_doInquire 45 = .ok (.iload_n 3, 1) := by decide +kernel
theorem dX7_doInquire_46 : decode cX7_doInquire 46 = .ok (.invokevirtual 66, 3) := by decide +kernel
theorem dX7_doInquire_49 : decode cX7_doInquire 49 = .ok (.ifCond .ne 24, 3) := by decide +kernel
theorem dX7_doInquire_52 : decode cX7_doInquire 52 = .ok (.aload_n 0, 1) := by decide +kernel
theorem dX7_doInquire_53 : decode cX7_doInquire 53 = .ok (.iconst 3, 1) := by decide +kernel
theorem dX7_doInquire_54 : decode cX7_doInquire 54 = .ok (.iconst 4, 1) := by decide +kernel
theorem dX7_doInquire_55 : decode cX7_doInquire 55 = .ok (.aload_n 0, 1) := by decide +kernel
theorem dX7_doInquire_56 : decode cX7_doInquire 56 = .ok (.iload_n 1, 1) := by decide +kernel
theorem dX7_doInquire_57 : decode cX7_doInquire 57 = .ok (.iload_n 2, 1) := by decide +kernel
theorem dX7_doInquire_58 : decode cX7_doInquire 58 = .ok (.invokevirtual 66, 3) := by decide +kernel
theorem dX7_doInquire_61 : decode cX7_doInquire 61 = .ok (.ifCond .eq 7, 3) := by decide +kernel
theorem dX7_doInquire_64 : decode cX7_doInquire 64 = .ok (.iload_n 3, 1) := by decide +kernel
theorem dX7_doInquire_65 : decode cX7_doInquire 65 = .ok (.goto 4, 3) := by decide +kernel
theorem dX7_doInquire_68 : decode cX7_doInquire 68 = .ok (.iload_n 2, 1) := by decide +kernel
theorem dX7_doInquire_69 : decode cX7_doInquire 69 = .ok (.invokevirtual 77, 3) := by decide +kernel
theorem dX7_doInquire_72 : decode cX7_doInquire 72 = .ok (.ireturn, 1) := by decide +kernel
theorem dX7_doInquire_73 : decode cX7_doInquire 73 = .ok (.aload_n 0, 1) := by decide +kernel
theorem dX7_doInquire_74 : decode cX7_doInquire 74 = .ok (.iload_n 2, 1) := by decide +kernel
theorem dX7_doInquire_75 : decode cX7_doInquire 75 = .ok (.invokevirtual 113, 3) := by decide +kernel
theorem dX7_doInquire_78 : decode cX7_doInquire 78 = .ok (.ifCond .ne 11, 3) := by decide +kernel
theorem dX7_doInquire_81 : decode cX7_doInquire 81 = .ok (.aload_n 0, 1) := by decide +kernel
theorem dX7_doInquire_82 : decode cX7_doInquire 82 = .ok (.iload_n 3, 1) := by decide +kernel
theorem dX7_doInquire_83 : decode cX7_doInquire 83 = .ok (.invokevirtual 113, 3) := by decide +kernel
theorem dX7_doInquire_86 : decode cX7_doInquire 86 = .ok (.ifCond .eq 23, 3) := by decide +kernel
theorem dX7_doInquire_89 : decode cX7_doInquire 89 = .ok (.aload_n 0, 1) := by decide +kernel
theorem dX7_doInquire_90 : decode cX7_doInquire 90 = .ok (.iconst 3, 1) := by decide +kernel
theorem dX7_doInquire_91 : decode cX7_doInquire 91 = .ok (.iconst 5, 1) := by decide +kernel
theorem dX7_doInquire_92 : decode cX7_doInquire 92 = .ok (.aload_n 0, 1) := by decide +kernel
theorem dX7_doInquire_93 : decode cX7_doInquire 93 = .ok (.iload_n 2, 1) := by decide +kernel
theorem dX7_doInquire_94 : decode cX7_doInquire 94 = .ok (.invokevirtual 113, 3) := by decide +kernel
theorem dX7_doInquire_97 : decode cX7_doInquire 97 = .ok (.ifCond .eq 7, 3) := by decide +kernel
theorem dX7_doInquire_100 : decode cX7_doInquire 100 = .ok (.iload_n 2, 1) := by decide +kernel
theorem dX7_doInquire_101 : decode cX7_doInquire 101 = .ok (.goto 4, 3) := by decide +kernel
theorem dX7_doInquire_104 : decode cX7_doInquire 104 = .ok (.iload_n 3, 1) := by decide +kernel
theorem dX7_doInquire_105 : decode cX7_doInquire 105 = .ok (.invokevirtual 77, 3) := by decide +kernel
theorem dX7_doInquire_108 : decode cX7_doInquire 108 = .ok (.ireturn, 1) := by decide +kernel
theorem dX7_doInquire_109 : decode cX7_doInquire 109 = .ok (.aload_n 0, 1) := by decide +kernel
theorem dX7_doInquire_110 : decode cX7_doInquire 110 = .ok (.iload_n 1, 1) := by decide +kernel
theorem dX7_doInquire_111 : decode cX7_doInquire 111 = .ok (.iload_n 2, 1) := by decide +kernel
theorem dX7_doInquire_112 : decode cX7_doInquire 112 = .ok (.invokevirtual 70, 3) := by decide +kernel
theorem dX7_doInquire_115 : decode cX7_doInquire 115 = .ok (.iconst 1, 1) := by decide +kernel
theorem dX7_doInquire_116 : decode cX7_doInquire 116 = .ok (.if_icmp .eq 17, 3) := by decide +kernel
theorem dX7_doInquire_119 : decode cX7_doInquire 119 = .ok (.aload_n 0, 1) := by decide +kernel
theorem dX7_doInquire_120 : decode cX7_doInquire 120 = .ok (.iconst 3, 1) := by decide +kernel
theorem dX7_doInquire_121 : decode cX7_doInquire 121 = .ok (.bipush 12, 2) := by decide +kernel
theorem dX7_doInquire_123 : decode cX7_doInquire 123 = .ok (.aload_n 0, 1) := by decide +kernel
theorem dX7_doInquire_124 : decode cX7_doInquire 124 = .ok (.iload_n 1, 1) := by decide +kernel
theorem dX7_doInquire_125 : decode cX7_doInquire 125 = .ok (.iload_n 2, 1) := by decide +kernel
theorem dX7_doInquire_126 : decode cX7_doInquire 126 = .ok (.invokevirtual 70, 3) := by decide +kernel
theorem dX7_doInquire_129 : decode cX7_doInquire 129 = .ok (.invokevirtual 77, 3) := by decide +kernel
theorem dX7_doInquire_132 : decode cX7_doInquire 132 = .ok (.ireturn, 1) := by decide +kernel
theorem dX7_doInquire_133 : decode cX7_doInquire 133 = .ok (.aload_n 0, 1) := by decide +kernel
theorem dX7_doInquire_134 : decode cX7_doInquire 134 = .ok (.iload_n 1, 1) := by decide +kernel
theorem dX7_doInquire_135 : decode cX7_doInquire 135 = .ok (.iload_n 3, 1) := by decide +kernel
theorem dX7_doInquire_136 : decode cX7_doInquire 136 = .ok (.invokevirtual 70, 3) := by decide +kernel
theorem dX7_doInquire_139 : decode cX7_doInquire 139 = .ok (.istore 4, 2) := by decide +kernel
theorem dX7_doInquire_141 : decode cX7_doInquire 141 = .ok (.iload 4, 2) := by decide +kernel
theorem dX7_doInquire_143 : decode cX7_doInquire 143 = .ok (.iconst 1, 1) := by decide +kernel
theorem dX7_doInquire_144 : decode cX7_doInquire 144 = .ok (.if_icmp .ne 12, 3) := by decide +kernel
theorem dX7_doInquire_147 : decode cX7_doInquire 147 = .ok (.aload_n 0, 1) := by decide +kernel
theorem dX7_doInquire_148 : decode cX7_doInquire 148 = .ok (.iconst 3, 1) := by decide +kernel
theorem dX7_doInquire_149 : decode cX7_doInquire 149 = .ok (.bipush 13, 2) := by decide +kernel
theorem dX7_doInquire_151 : decode cX7_doInquire 151 = .ok (.iload_n 3, 1) := by decide +kernel
theorem dX7_doInquire_152 : decode cX7_doInquire 152 = .ok (.invokevirtual 77, 3) := by decide +kernel
theorem dX7_doInquire_155 : decode cX7_doInquire 155 = .ok (.ireturn, 1) := by decide +kernel
theorem dX7_doInquire_156 : decode cX7_doInquire 156 = .ok (.iload 4, 2) := by decide +kernel
theorem dX7_doInquire_158 : decode cX7_doInquire 158 = .ok (.iconst 3, 1) := by decide +kernel
theorem dX7_doInquire_159 : decode cX7_doInquire 159 = .ok (.if_icmp .ge 10, 3) := by decide +kernel
theorem dX7_doInquire_162 : decode cX7_doInquire 162 = .ok (.aload_n 0, 1) := by decide +kernel
theorem dX7_doInquire_163 : decode cX7_doInquire 163 = .ok (.iload_n 1, 1) := by decide +kernel
theorem dX7_doInquire_164 : decode cX7_doInquire 164 = .ok (.iload_n 3, 1) := by decide +kernel
theorem dX7_doInquire_165 : decode cX7_doInquire 165 = .ok (.iconst 2, 1) := by decide +kernel
theorem dX7_doInquire_166 : decode cX7_doInquire 166 = .ok (.invokevirtual 119, 3) := by decide +kernel
theorem dX7_doInquire_169 : decode cX7_doInquire 169 = .ok (.aload_n 0, 1) := by decide +kernel
theorem dX7_doInquire_170 : decode cX7_doInquire 170 = .ok (.iload_n 1, 1) := by decide +kernel
theorem dX7_doInquire_171 : decode cX7_doInquire 171 = .ok (.iload_n 2, 1) := by decide +kernel
theorem dX7_doInquire_172 : decode cX7_doInquire 172 = .ok (.iload 4, 2) := by decide +kernel
theorem dX7_doInquire_174 : decode cX7_doInquire 174 = .ok (.iconst 3, 1) := by decide +kernel
theorem dX7_doInquire_175 : decode cX7_doInquire 175 = .ok (.if_icmp .ne 7, 3) := by decide +kernel
theorem dX7_doInquire_178 : decode cX7_doInquire 178 = .ok (.iconst 1, 1) := by decide +kernel
theorem dX7_doInquire_179 : decode cX7_doInquire 179 = .ok (.goto 4, 3) := by decide +kernel
theorem dX7_doInquire_182 : decode cX7_doInquire 182 = .ok (.iconst 0, 1) := by decide +kernel
theorem dX7_doInquire_183 : decode cX7_doInquire 183 = .ok (.invokevirtual 133, 3) := by decide +kernel
theorem dX7_doInquire_186 : decode cX7_doInquire 186 = .ok (.aload_n 0, 1) := by decide +kernel
theorem dX7_doInquire_187 : decode cX7_doInquire 187 = .ok (.getfield 9, 3) := by decide +kernel
theorem dX7_doInquire_190 : decode cX7_doInquire 190 = .ok (.iconst 3, 1) := by decide +kernel
theorem dX7_doInquire_191 : decode cX7_doInquire 191 = .ok (.dup2, 1) := by decide +kernel
theorem dX7_doInquire_192 : decode cX7_doInquire 192 = .ok (.iaload, 1) := by decide +kernel
theorem dX7_doInquire_193 : decode cX7_doInquire 193 = .ok (.iconst 1, 1) := by decide +kernel
theorem dX7_doInquire_194 : decode cX7_doInquire 194 = .ok (.iadd, 1) := by decide +kernel
theorem dX7_doInquire_195 : decode cX7_doInquire 195 = .ok (.iastore, 1) := by decide +kernel
theorem dX7_doInquire_196 : decode cX7_doInquire 196 = .ok (.aload_n 0, 1) := by decide +kernel
theorem dX7_doInquire_197 : decode cX7_doInquire 197 = .ok (.iload_n 1, 1) := by decide +kernel
theorem dX7_doInquire_198 : decode cX7_doInquire 198 = .ok (.iload_n 2, 1) := by decide +kernel
theorem dX7_doInquire_199 : decode cX7_doInquire 199 = .ok (.invokevirtual 70, 3) := by decide +kernel
theorem dX7_doInquire_202 : decode cX7_doInquire 202 = .ok (.ireturn, 1) := by decide +kernel
theorem dX7_inquire_0 : decode cX7_inquire 0 = .ok (.aload_n 0, 1) := by decide +kernel
theorem dX7_inquire_1 : decode cX7_inquire 1 = .ok (.invokevirtual 81, 3) := by decide +kernel
theorem dX7_inquire_4 : decode cX7_inquire 4 = .ok (.aload_n 0, 1) := by decide +kernel
theorem dX7_inquire_5 : decode cX7_inquire 5 = .ok (.aload_n 0, 1) := by decide +kernel
theorem dX7_inquire_6 : decode cX7_inquire 6 = .ok (.iload_n 1, 1) := by decide +kernel
theorem dX7_inquire_7 : decode cX7_inquire 7 = .ok (.iload_n 2, 1) := by decide +kernel
theorem dX7_inquire_8 : decode cX7_inquire 8 = .ok (.iload_n 3, 1) := by decide +kernel
theorem dX7_inquire_9 : decode cX7_inquire 9 = .ok (.invokevirtual 152, 3) := by decide +kernel
theorem dX7_inquire_12 : decode cX7_inquire 12 = .ok (.invokevirtual 88, 3) := by decide +kernel
theorem dX7_inquire_15 : decode cX7_inquire 15 = .ok (.ireturn, 1) := by decide +kernel
theorem dX7_guildOf_0 : decode cX7_guildOf 0 = .ok (.aload_n 0, 1) := by decide +kernel
theorem dX7_guildOf_1 : decode cX7_guildOf 1 = .ok (.iload_n 1, 1) := by decide +kernel
theorem dX7_guildOf_2 : decode cX7_guildOf 2 = .ok (.invokestatic 95, 3) := by decide +kernel
theorem dX7_guildOf_5 : decode cX7_guildOf 5 = .ok (.ifCond .ne 7, 3) := by decide +kernel
theorem dX7_guildOf_8 : decode cX7_guildOf 8 = .ok (.iconst 1, 1) := by decide +kernel
theorem dX7_guildOf_9 : decode cX7_guildOf 9 = .ok (.goto 17, 3) := by decide +kernel
theorem dX7_guildOf_12 : decode cX7_guildOf 12 = .ok (.iload_n 2, 1) := by decide +kernel
theorem dX7_guildOf_13 : decode cX7_guildOf 13 = .ok (.iconst 0, 1) := by decide +kernel
theorem dX7_guildOf_14 : decode cX7_guildOf 14 = .ok (.iconst 5, 1) := by decide +kernel
theorem dX7_guildOf_15 : decode cX7_guildOf 15 = .ok (.invokestatic 58, 3) := by decide +kernel
theorem dX7_guildOf_18 : decode cX7_guildOf 18 = .ok (.ifCond .ne 7, 3) := by decide +kernel
theorem dX7_guildOf_21 : decode cX7_guildOf 21 = .ok (.iconst 2, 1) := by decide +kernel
theorem dX7_guildOf_22 : decode cX7_guildOf 22 = .ok (.goto 4, 3) := by decide +kernel
theorem dX7_guildOf_25 : decode cX7_guildOf 25 = .ok (.iconst 0, 1) := by decide +kernel
theorem dX7_guildOf_26 : decode cX7_guildOf 26 = .ok (.putfield 36, 3) := by decide +kernel
theorem dX7_guildOf_29 : decode cX7_guildOf 29 = .ok (.aload_n 0, 1) := by decide +kernel
theorem dX7_guildOf_30 : decode cX7_guildOf 30 = .ok (.getfield 36, 3) := by decide +kernel
theorem dX7_guildOf_33 : decode cX7_guildOf 33 = .ok (.ifCond .le 5, 3) := by decide +kernel
theorem dX7_guildOf_36 : decode cX7_guildOf 36 = .ok (.iconst 0, 1) := by decide +kernel
theorem dX7_guildOf_37 : decode cX7_guildOf 37 = .ok (.ireturn, 1) := by decide +kernel
theorem dX7_guildOf_38 : decode cX7_guildOf 38 = .ok (.iload_n 2, 1) := by decide +kernel
theorem dX7_guildOf_39 : decode cX7_guildOf 39 = .ok (.tableswitch 67 0 3 #[29, 39, 51, 57], 29) := by decide +kernel
theorem dX7_guildOf_68 : decode cX7_guildOf 68 = .ok (.aload_n 0, 1) := by decide +kernel
theorem dX7_guildOf_69 : decode cX7_guildOf 69 = .ok (.getfield 9, 3) := by decide +kernel
theorem dX7_guildOf_72 : decode cX7_guildOf 72 = .ok (.bipush 6, 2) := by decide +kernel
theorem dX7_guildOf_74 : decode cX7_guildOf 74 = .ok (.iload_n 1, 1) := by decide +kernel
theorem dX7_guildOf_75 : decode cX7_guildOf 75 = .ok (.iadd, 1) := by decide +kernel
theorem dX7_guildOf_76 : decode cX7_guildOf 76 = .ok (.iaload, 1) := by decide +kernel
theorem dX7_guildOf_77 : decode cX7_guildOf 77 = .ok (.ireturn, 1) := by decide +kernel
theorem dX7_guildOf_78 : decode cX7_guildOf 78 = .ok (.iconst 1, 1) := by decide +kernel
theorem dX7_guildOf_79 : decode cX7_guildOf 79 = .ok (.aload_n 0, 1) := by decide +kernel
theorem dX7_guildOf_80 : decode cX7_guildOf 80 = .ok (.getfield 9, 3) := by decide +kernel
theorem dX7_guildOf_83 : decode cX7_guildOf 83 = .ok (.bipush 12, 2) := by decide +kernel
theorem dX7_guildOf_85 : decode cX7_guildOf 85 = .ok (.iload_n 1, 1) := by decide +kernel
theorem dX7_guildOf_86 : decode cX7_guildOf 86 = .ok (.iadd, 1) := by decide +kernel
theorem dX7_guildOf_87 : decode cX7_guildOf 87 = .ok (.iaload, 1) := by decide +kernel
theorem dX7_guildOf_88 : decode cX7_guildOf 88 = .ok (.isub, 1) := by decide +kernel
theorem dX7_guildOf_89 : decode cX7_guildOf 89 = .ok (.ireturn, 1) := by decide +kernel
theorem dX7_guildOf_90 : decode cX7_guildOf 90 = .ok (.aload_n 0, 1) := by decide +kernel
theorem dX7_guildOf_91 : decode cX7_guildOf 91 = .ok (.iload_n 1, 1) := by decide +kernel
theorem dX7_guildOf_92 : decode cX7_guildOf 92 = .ok (.invokevirtual 107, 3) := by decide +kernel
theorem dX7_guildOf_95 : decode cX7_guildOf 95 = .ok (.ireturn, 1) := by decide +kernel
theorem dX7_guildOf_96 : decode cX7_guildOf 96 = .ok (.aload_n 0, 1) := by decide +kernel
theorem dX7_guildOf_97 : decode cX7_guildOf 97 = .ok (.getfield 9, 3) := by decide +kernel
theorem dX7_guildOf_100 : decode cX7_guildOf 100 = .ok (.bipush 18, 2) := by decide +kernel
theorem dX7_guildOf_102 : decode cX7_guildOf 102 = .ok (.iload_n 1, 1) := by decide +kernel
theorem dX7_guildOf_103 : decode cX7_guildOf 103 = .ok (.iadd, 1) := by decide +kernel
theorem dX7_guildOf_104 : decode cX7_guildOf 104 = .ok (.iaload, 1) := by decide +kernel
theorem dX7_guildOf_105 : decode cX7_guildOf 105 = .ok (.ireturn, 1) := by decide +kernel
theorem dX7_guildOf_106 : decode cX7_guildOf 106 = .ok (.iconst 0, 1) := by decide +kernel
theorem dX7_guildOf_107 : decode cX7_guildOf 107 = .ok (.istore_n 3, 1) := by decide +kernel
theorem dX7_guildOf_108 : decode cX7_guildOf 108 = .ok (.iconst 0, 1) := by decide +kernel
theorem dX7_guildOf_109 : decode cX7_guildOf 109 = .ok (.istore 4, 2) := by decide +kernel
theorem dX7_guildOf_111 : decode cX7_guildOf 111 = .ok (.iload 4, 2) := by decide +kernel
theorem dX7_guildOf_113 : decode cX7_guildOf 113 = .ok (.aload_n 0, 1) := by decide +kernel
theorem dX7_guildOf_114 : decode cX7_guildOf 114 = .ok (.getfield 9, 3) := by decide +kernel
theorem dX7_guildOf_117 : decode cX7_guildOf 117 = .ok (.iconst 0, 1) := by decide +kernel
theorem dX7_guildOf_118 : decode cX7_guildOf 118 = .ok (.iaload, 1) := by decide +kernel
theorem dX7_guildOf_119 : decode cX7_guildOf 119 = .ok (.if_icmp .ge 47, 3) := by decide +kernel
theorem dX7_guildOf_122 : decode cX7_guildOf 122 = .ok (.iload_n 3, 1) := by decide +kernel
theorem dX7_guildOf_123 : decode cX7_guildOf 123 = .ok (.aload_n 0, 1) := by decide +kernel
theorem dX7_guildOf_124 : decode cX7_guildOf 124 = .ok (.iload 4, 2) := by decide +kernel
theorem dX7_guildOf_126 : decode cX7_guildOf 126 = .ok (.iload_n 1, 1) := by decide +kernel
theorem dX7_guildOf_127 : decode cX7_guildOf 127 = .ok (.invokevirtual 66, 3) := by decide +kernel
theorem dX7_guildOf_130 : decode cX7_guildOf 130 = .ok (.ifCond .eq 27, 3) := by decide +kernel
theorem dX7_guildOf_133 : decode cX7_guildOf 133 = .ok (.aload_n 0, 1) := by decide +kernel
theorem dX7_guildOf_134 : decode cX7_guildOf 134 = .ok (.iload 4, 2) := by decide +kernel
theorem dX7_guildOf_136 : decode cX7_guildOf 136 = .ok (.iload_n 1, 1) := by decide +kernel
theorem dX7_guildOf_137 : decode cX7_guildOf 137 = .ok (.invokevirtual 70, 3) := by decide +kernel
theorem dX7_guildOf_140 : decode cX7_guildOf 140 = .ok (.iload_n 2, 1) := by decide +kernel
theorem dX7_guildOf_141 : decode cX7_guildOf 141 = .ok (.iconst 4, 1) := by decide +kernel
theorem dX7_guildOf_142 : decode cX7_guildOf 142 = .ok (.if_icmp .ne 7, 3) := by decide +kernel
theorem dX7_guildOf_145 : decode cX7_guildOf 145 = .ok (.iconst 3, 1) := by decide +kernel
theorem dX7_guildOf_146 : decode cX7_guildOf 146 = .ok (.goto 4, 3) := by decide +kernel
theorem dX7_guildOf_149 : decode cX7_guildOf 149 = .ok (.iconst 4, 1) := by decide +kernel
theorem dX7_guildOf_150 : decode cX7_guildOf 150 = .ok (.if_icmp .ne 7, 3) := by decide +kernel
theorem dX7_guildOf_153 : decode cX7_guildOf 153 = .ok (.iconst 1, 1) := by decide +kernel
theorem dX7_guildOf_154 : decode cX7_guildOf 154 = .ok (.goto 4, 3) := by decide +kernel
theorem dX7_guildOf_157 : decode cX7_guildOf 157 = .ok (.iconst 0, 1) := by decide +kernel
theorem dX7_guildOf_158 : decode cX7_guildOf 158 = .ok (.iadd, 1) := by decide +kernel
theorem dX7_guildOf_159 : decode cX7_guildOf 159 = .ok (.istore_n 3, 1) := by decide +kernel
theorem dX7_guildOf_160 : decode cX7_guildOf 160 = .ok (.iinc 4 1, 3) := by decide +kernel
theorem dX7_guildOf_163 : decode cX7_guildOf 163 = .ok (.goto (-52), 3) := by decide +kernel
theorem dX7_guildOf_166 : decode cX7_guildOf 166 = .ok (.iload_n 3, 1) := by decide +kernel
theorem dX7_guildOf_167 : decode cX7_guildOf 167 = .ok (.ireturn, 1) := by decide +kernel
theorem dX7_canLearn_0 : decode cX7_canLearn 0 = .ok (.aload_n 0, 1) := by decide +kernel
theorem dX7_canLearn_1 : decode cX7_canLearn 1 = .ok (.iload_n 1, 1) := by decide +kernel
theorem dX7_canLearn_2 : decode cX7_canLearn 2 = .ok (.invokestatic 95, 3) := by decide +kernel
theorem dX7_canLearn_5 : decode cX7_canLearn 5 = .ok (.ifCond .eq 7, 3) := by decide +kernel
theorem dX7_canLearn_8 : decode cX7_canLearn 8 = .ok (.iconst 0, 1) := by decide +kernel
theorem dX7_canLearn_9 : decode cX7_canLearn 9 = .ok (.goto 4, 3) := by decide +kernel
theorem dX7_canLearn_12 : decode cX7_canLearn 12 = .ok (.iconst 1, 1) := by decide +kernel
theorem dX7_canLearn_13 : decode cX7_canLearn 13 = .ok (.putfield 36, 3) := by decide +kernel
theorem dX7_canLearn_16 : decode cX7_canLearn 16 = .ok (.aload_n 0, 1) := by decide +kernel
theorem dX7_canLearn_17 : decode cX7_canLearn 17 = .ok (.getfield 36, 3) := by decide +kernel
theorem dX7_canLearn_20 : decode cX7_canLearn 20 = .ok (.ifCond .le 7, 3) := by decide +kernel
theorem dX7_canLearn_23 : decode cX7_canLearn 23 = .ok (.iconst (-1), 1) := by decide +kernel
theorem dX7_canLearn_24 : decode cX7_canLearn 24 = .ok (.goto 8, 3) := by decide +kernel
theorem dX7_canLearn_27 : decode cX7_canLearn 27 = .ok (.aload_n 0, 1) := by decide +kernel
theorem dX7_canLearn_28 : decode cX7_canLearn 28 = .ok (.iload_n 1, 1) := by decide +kernel
theorem dX7_canLearn_29 : decode cX7_canLearn 29 = .ok (.invokevirtual 107, 3) := by decide +kernel
theorem dX7_canLearn_32 : decode cX7_canLearn 32 = .ok (.istore_n 3, 1) := by decide +kernel
theorem dX7_canLearn_33 : decode cX7_canLearn 33 = .ok (.iconst 0, 1) := by decide +kernel
theorem dX7_canLearn_34 : decode cX7_canLearn 34 = .ok (.istore 4, 2) := by decide +kernel
theorem dX7_canLearn_36 : decode cX7_canLearn 36 = .ok (.iconst 0, 1) := by decide +kernel
theorem dX7_canLearn_37 : decode cX7_canLearn 37 = .ok (.istore 5, 2) := by decide +kernel
theorem dX7_canLearn_39 : decode cX7_canLearn 39 = .ok (.iload 5, 2) := by decide +kernel
theorem dX7_canLearn_41 : decode cX7_canLearn 41 = .ok (.bipush 6, 2) := by decide +kernel
theorem dX7_canLearn_43 : decode cX7_canLearn 43 = .ok (.if_icmp .ge 63, 3) := by decide +kernel
theorem dX7_canLearn_46 : decode cX7_canLearn 46 = .ok (.iload_n 3, 1) := by decide +kernel
theorem dX7_canLearn_47 : decode cX7_canLearn 47 = .ok (.ifCond .lt 59, 3) := by decide +kernel
theorem dX7_canLearn_50 : decode cX7_canLearn 50 = .ok (.aload_n 0, 1) := by decide +kernel
theorem dX7_canLearn_51 : decode cX7_canLearn 51 = .ok (.iload_n 1, 1) := by decide +kernel
theorem dX7_canLearn_52 : decode cX7_canLearn 52 = .ok (.invokevirtual 113, 3) := by decide +kernel
theorem dX7_canLearn_55 : decode cX7_canLearn 55 = .ok (.ifCond .ne 51, 3) := by decide +kernel
theorem dX7_canLearn_58 : decode cX7_canLearn 58 = .ok (.iload 4, 2) := by decide +kernel
theorem dX7_canLearn_60 : decode cX7_canLearn 60 = .ok (.ifCond .ne 33, 3) := by decide +kernel
theorem dX7_canLearn_63 : decode cX7_canLearn 63 = .ok (.aload_n 0, 1) := by decide +kernel
theorem dX7_canLearn_64 : decode cX7_canLearn 64 = .ok (.iload_n 3, 1) := by decide +kernel
theorem dX7_canLearn_65 : decode cX7_canLearn 65 = .ok (.iload 5, 2) := by decide +kernel
theorem dX7_canLearn_67 : decode cX7_canLearn 67 = .ok (.invokevirtual 66, 3) := by decide +kernel
theorem dX7_canLearn_70 : decode cX7_canLearn 70 = .ok (.ifCond .eq 27, 3) := by decide +kernel
theorem dX7_canLearn_73 : decode cX7_canLearn 73 = .ok (.aload_n 0, 1) := by decide +kernel
theorem dX7_canLearn_74 : decode cX7_canLearn 74 = .ok (.iload 5, 2) := by decide +kernel
theorem dX7_canLearn_76 : decode cX7_canLearn 76 = .ok (.invokevirtual 113, 3) := by decide +kernel
theorem dX7_canLearn_79 : decode cX7_canLearn 79 = .ok (.ifCond .ne 18, 3) := by decide +kernel
theorem dX7_canLearn_82 : decode cX7_canLearn 82 = .ok (.aload_n 0, 1) := by decide +kernel
theorem dX7_canLearn_83 : decode cX7_canLearn 83 = .ok (.iload_n 3, 1) := by decide +kernel
theorem dX7_canLearn_84 : decode cX7_canLearn 84 = .ok (.iload 5, 2) := by decide +kernel
theorem dX7_canLearn_86 : decode cX7_canLearn 86 = .ok (.invokevirtual 70, 3) := by decide +kernel
theorem dX7_canLearn_89 : decode cX7_canLearn 89 = .ok (.iconst 1, 1) := by decide +kernel
theorem dX7_canLearn_90 : decode cX7_canLearn 90 = .ok (.if_icmp .eq 7, 3) := by decide +kernel
theorem dX7_canLearn_93 : decode cX7_canLearn 93 = .ok (.iconst 1, 1) := by decide +kernel
theorem dX7_canLearn_94 : decode cX7_canLearn 94 = .ok (.goto 4, 3) := by decide +kernel
theorem dX7_canLearn_97 : decode cX7_canLearn 97 = .ok (.iconst 0, 1) := by decide +kernel
theorem dX7_canLearn_98 : decode cX7_canLearn 98 = .ok (.istore 4, 2) := by decide +kernel
theorem dX7_canLearn_100 : decode cX7_canLearn 100 = .ok (.iinc 5 1, 3) := by decide +kernel
theorem dX7_canLearn_103 : decode cX7_canLearn 103 = .ok (.goto (-64), 3) := by decide +kernel
theorem dX7_canLearn_106 : decode cX7_canLearn 106 = .ok (.iload 4, 2) := by decide +kernel
theorem dX7_canLearn_108 : decode cX7_canLearn 108 = .ok (.ireturn, 1) := by decide +kernel
theorem dX7_doPass_0 : decode cX7_doPass 0 = .ok (.iload_n 1, 1) := by decide +kernel
theorem dX7_doPass_1 : decode cX7_doPass 1 = .ok (.iconst 1, 1) := by decide +kernel
theorem dX7_doPass_2 : decode cX7_doPass 2 = .ok (.bipush 24, 2) := by decide +kernel
theorem dX7_doPass_4 : decode cX7_doPass 4 = .ok (.invokestatic 58, 3) := by decide +kernel
theorem dX7_doPass_7 : decode cX7_doPass 7 = .ok (.ifCond .ne 9, 3) := by decide +kernel
theorem dX7_doPass_10 : decode cX7_doPass 10 = .ok (.aload_n 0, 1) := by decide +kernel
theorem dX7_doPass_11 : decode cX7_doPass 11 = .ok (.iconst 1, 1) := by decide +kernel
theorem dX7_doPass_12 : decode cX7_doPass 12 = .ok (.invokevirtual 98, 3) := by decide +kernel
theorem dX7_doPass_15 : decode cX7_doPass 15 = .ok (.ireturn, 1) := by decide +kernel
theorem dX7_doPass_16 : decode cX7_doPass 16 = .ok (.iconst 0, 1) := by decide +kernel
theorem dX7_doPass_17 : decode cX7_doPass 17 = .ok (.istore_n 2, 1) := by decide +kernel
theorem dX7_doPass_18 : decode cX7_doPass 18 = .ok (.iconst 0, 1) := by decide +kernel
theorem dX7_doPass_19 : decode cX7_doPass 19 = .ok (.istore_n 3, 1) := by decide +kernel
theorem dX7_doPass_20 : decode cX7_doPass 20 = .ok (.iload_n 3, 1) := by decide +kernel
theorem dX7_doPass_21 : decode cX7_doPass 21 = .ok (.bipush 6, 2) := by decide +kernel
theorem dX7_doPass_23 : decode cX7_doPass 23 = .ok (.if_icmp .ge 43, 3) := by decide +kernel
theorem dX7_doPass_26 : decode cX7_doPass 26 = .ok (.aload_n 0, 1) := by decide +kernel
theorem dX7_doPass_27 : decode cX7_doPass 27 = .ok (.iload_n 3, 1) := by decide +kernel
theorem dX7_doPass_28 : decode cX7_doPass 28 = .ok (.invokevirtual 107, 3) := by decide +kernel
theorem dX7_doPass_31 : decode cX7_doPass 31 = .ok (.ifCond .ge 7, 3) := by decide +kernel
theorem dX7_doPass_34 : decode cX7_doPass 34 = .ok (.iconst 0, 1) := by decide +kernel
theorem dX7_doPass_35 : decode cX7_doPass 35 = .ok (.goto 4, 3) := by decide +kernel
theorem dX7_doPass_38 : decode cX7_doPass 38 = .ok (.iload_n 1, 1) := by decide +kernel
theorem dX7_doPass_39 : decode cX7_doPass 39 = .ok (.istore 4, 2) := by decide +kernel
theorem dX7_doPass_41 : decode cX7_doPass 41 = .ok (.aload_n 0, 1) := by decide +kernel
theorem dX7_doPass_42 : decode cX7_doPass 42 = .ok (.getfield 9, 3) := by decide +kernel
theorem dX7_doPass_45 : decode cX7_doPass 45 = .ok (.bipush 18, 2) := by decide +kernel
theorem dX7_doPass_47 : decode cX7_doPass 47 = .ok (.iload_n 3, 1) := by decide +kernel
theorem dX7_doPass_48 : decode cX7_doPass 48 = .ok (.iadd, 1) := by decide +kernel
theorem dX7_doPass_49 : decode cX7_doPass 49 = .ok (.dup2, 1) := by decide +kernel
theorem dX7_doPass_50 : decode cX7_doPass 50 = .ok (.iaload, 1) := by decide +kernel
theorem dX7_doPass_51 : decode cX7_doPass 51 = .ok (.iload 4, 2) := by decide +kernel
theorem dX7_doPass_53 : decode cX7_doPass 53 = .ok (.iadd, 1) := by decide +kernel
theorem dX7_doPass_54 : decode cX7_doPass 54 = .ok (.iastore, 1) := by decide +kernel
theorem dX7_doPass_55 : decode cX7_doPass 55 = .ok (.iload_n 2, 1) := by decide +kernel
theorem dX7_doPass_56 : decode cX7_doPass 56 = .ok (.iload 4, 2) := by decide +kernel
theorem dX7_doPass_58 : decode cX7_doPass 58 = .ok (.iadd, 1) := by decide +kernel
theorem dX7_doPass_59 : decode cX7_doPass 59 = .ok (.istore_n 2, 1) := by decide +kernel
theorem dX7_doPass_60 : decode cX7_doPass 60 = .ok (.iinc 3 1, 3) := by decide +kernel
theorem dX7_doPass_63 : decode cX7_doPass 63 = .ok (.goto (-43), 3) := by decide +kernel
theorem dX7_doPass_66 : decode cX7_doPass 66 = .ok (.aload_n 0, 1) := by decide +kernel
theorem dX7_doPass_67 : decode cX7_doPass 67 = .ok (.getfield 9, 3) := by decide +kernel
theorem dX7_doPass_70 : decode cX7_doPass 70 = .ok (.iconst 2, 1) := by decide +kernel
theorem dX7_doPass_71 : decode cX7_doPass 71 = .ok (.dup2, 1) := by decide +kernel
theorem dX7_doPass_72 : decode cX7_doPass 72 = .ok (.iaload, 1) := by decide +kernel
theorem dX7_doPass_73 : decode cX7_doPass 73 = .ok (.iload_n 1, 1) := by decide +kernel
theorem dX7_doPass_74 : decode cX7_doPass 74 = .ok (.iadd, 1) := by decide +kernel
theorem dX7_doPass_75 : decode cX7_doPass 75 = .ok (.iastore, 1) := by decide +kernel
theorem dX7_doPass_76 : decode cX7_doPass 76 = .ok (.iload_n 2, 1) := by decide +kernel
theorem dX7_doPass_77 : decode cX7_doPass 77 = .ok (.ireturn, 1) := by decide +kernel
theorem dX7_pass_0 : decode cX7_pass 0 = .ok (.aload_n 0, 1) := by decide +kernel
theorem dX7_pass_1 : decode cX7_pass 1 = .ok (.invokevirtual 81, 3) := by decide +kernel
theorem dX7_pass_4 : decode cX7_pass 4 = .ok (.aload_n 0, 1) := by decide +kernel
theorem dX7_pass_5 : decode cX7_pass 5 = .ok (.aload_n 0, 1) := by decide +kernel
theorem dX7_pass_6 : decode cX7_pass 6 = .ok (.iload_n 1, 1) := by decide +kernel
theorem dX7_pass_7 : decode cX7_pass 7 = .ok (.invokevirtual 155, 3) := by decide +kernel
theorem dX7_pass_10 : decode cX7_pass 10 = .ok (.invokevirtual 88, 3) := by decide +kernel
theorem dX7_pass_13 : decode cX7_pass 13 = .ok (.ireturn, 1) := by decide +kernel
theorem dX7_ranked_0 : decode cX7_ranked 0 = .ok (.aload_n 0, 1) := by decide +kernel
theorem dX7_ranked_1 : decode cX7_ranked 1 = .ok (.iload_n 1, 1) := by decide +kernel
theorem dX7_ranked_2 : decode cX7_ranked 2 = .ok (.iconst 0, 1) := by decide +kernel
theorem dX7_ranked_3 : decode cX7_ranked 3 = .ok (.iconst 5, 1) := by decide +kernel
theorem dX7_ranked_4 : decode cX7_ranked 4 = .ok (.invokestatic 58, 3) := by decide +kernel
theorem dX7_ranked_7 : decode cX7_ranked 7 = .ok (.ifCond .eq 7, 3) := by decide +kernel
theorem dX7_ranked_10 : decode cX7_ranked 10 = .ok (.iconst 0, 1) := by decide +kernel
theorem dX7_ranked_11 : decode cX7_ranked 11 = .ok (.goto 4, 3) := by decide +kernel
theorem dX7_ranked_14 : decode cX7_ranked 14 = .ok (.iconst 1, 1) := by decide +kernel
theorem dX7_ranked_15 : decode cX7_ranked 15 = .ok (.putfield 36, 3) := by decide +kernel
theorem dX7_ranked_18 : decode cX7_ranked 18 = .ok (.iconst 0, 1) := by decide +kernel
theorem dX7_ranked_19 : decode cX7_ranked 19 = .ok (.istore_n 2, 1) := by decide +kernel
theorem dX7_ranked_20 : decode cX7_ranked 20 = .ok (.iconst 0, 1) := by decide +kernel
theorem dX7_ranked_21 : decode cX7_ranked 21 = .ok (.istore_n 3, 1) := by decide +kernel
theorem dX7_ranked_22 : decode cX7_ranked 22 = .ok (.iload_n 3, 1) := by decide +kernel
theorem dX7_ranked_23 : decode cX7_ranked 23 = .ok (.bipush 6, 2) := by decide +kernel
theorem dX7_ranked_25 : decode cX7_ranked 25 = .ok (.if_icmp .ge 95, 3) := by decide +kernel
theorem dX7_ranked_28 : decode cX7_ranked 28 = .ok (.aload_n 0, 1) := by decide +kernel
theorem dX7_ranked_29 : decode cX7_ranked 29 = .ok (.getfield 36, 3) := by decide +kernel
theorem dX7_ranked_32 : decode cX7_ranked 32 = .ok (.ifCond .ne 88, 3) := by decide +kernel
theorem dX7_ranked_35 : decode cX7_ranked 35 = .ok (.iconst 0, 1) := by decide +kernel
theorem dX7_ranked_36 : decode cX7_ranked 36 = .ok (.istore 4, 2) := by decide +kernel
theorem dX7_ranked_38 : decode cX7_ranked 38 = .ok (.iconst 0, 1) := by decide +kernel
theorem dX7_ranked_39 : decode cX7_ranked 39 = .ok (.istore 5, 2) := by decide +kernel
theorem dX7_ranked_41 : decode cX7_ranked 41 = .ok (.iload 5, 2) := by decide +kernel
theorem dX7_ranked_43 : decode cX7_ranked 43 = .ok (.bipush 6, 2) := by decide +kernel
theorem dX7_ranked_45 : decode cX7_ranked 45 = .ok (.if_icmp .ge 57, 3) := by decide +kernel
theorem dX7_ranked_48 : decode cX7_ranked 48 = .ok (.aload_n 0, 1) := by decide +kernel
theorem dX7_ranked_49 : decode cX7_ranked 49 = .ok (.getfield 9, 3) := by decide +kernel
theorem dX7_ranked_52 : decode cX7_ranked 52 = .ok (.bipush 18, 2) := by decide +kernel
theorem dX7_ranked_54 : decode cX7_ranked 54 = .ok (.iload 5, 2) := by decide +kernel
theorem dX7_ranked_56 : decode cX7_ranked 56 = .ok (.iadd, 1) := by decide +kernel
theorem dX7_ranked_57 : decode cX7_ranked 57 = .ok (.iaload, 1) := by decide +kernel
theorem dX7_ranked_58 : decode cX7_ranked 58 = .ok (.aload_n 0, 1) := by decide +kernel
theorem dX7_ranked_59 : decode cX7_ranked 59 = .ok (.getfield 9, 3) := by decide +kernel
theorem dX7_ranked_62 : decode cX7_ranked 62 = .ok (.bipush 18, 2) := by decide +kernel
theorem dX7_ranked_64 : decode cX7_ranked 64 = .ok (.iload_n 3, 1) := by decide +kernel
theorem dX7_ranked_65 : decode cX7_ranked 65 = .ok (.iadd, 1) := by decide +kernel
theorem dX7_ranked_66 : decode cX7_ranked 66 = .ok (.iaload, 1) := by decide +kernel
theorem dX7_ranked_67 : decode cX7_ranked 67 = .ok (.isub, 1) := by decide +kernel
theorem dX7_ranked_68 : decode cX7_ranked 68 = .ok (.istore 6, 2) := by decide +kernel
theorem dX7_ranked_70 : decode cX7_ranked 70 = .ok (.iload 4, 2) := by decide +kernel
theorem dX7_ranked_72 : decode cX7_ranked 72 = .ok (.iload 6, 2) := by decide +kernel
theorem dX7_ranked_74 : decode cX7_ranked 74 = .ok (.ifCond .gt 14, 3) := by decide +kernel
theorem dX7_ranked_77 : decode cX7_ranked 77 = .ok (.iload 6, 2) := by decide +kernel
theorem dX7_ranked_79 : decode cX7_ranked 79 = .ok (.ifCond .ne 13, 3) := by decide +kernel
theorem dX7_ranked_82 : decode cX7_ranked 82 = .ok (.iload 5, 2) := by decide +kernel
theorem dX7_ranked_84 : decode cX7_ranked 84 = .ok (.iload_n 3, 1) := by decide +kernel
theorem dX7_ranked_85 : decode cX7_ranked 85 = .ok (.if_icmp .ge 7, 3) := by decide +kernel
theorem dX7_ranked_88 : decode cX7_ranked 88 = .ok (.iconst 1, 1) := by decide +kernel
theorem dX7_ranked_89 : decode cX7_ranked 89 = .ok (.goto 4, 3) := by decide +kernel
theorem dX7_ranked_92 : decode cX7_ranked 92 = .ok (.iconst 0, 1) := by decide +kernel
theorem dX7_ranked_93 : decode cX7_ranked 93 = .ok (.iadd, 1) := by decide +kernel
theorem dX7_ranked_94 : decode cX7_ranked 94 = .ok (.istore 4, 2) := by decide +kernel
theorem dX7_ranked_96 : decode cX7_ranked 96 = .ok (.iinc 5 1, 3) := by decide +kernel
theorem dX7_ranked_99 : decode cX7_ranked 99 = .ok (.goto (-58), 3) := by decide +kernel
theorem dX7_ranked_102 : decode cX7_ranked 102 = .ok (.iload 4, 2) := by decide +kernel
theorem dX7_ranked_104 : decode cX7_ranked 104 = .ok (.iload_n 1, 1) := by decide +kernel
theorem dX7_ranked_105 : decode cX7_ranked 105 = .ok (.if_icmp .ne 7, 3) := by decide +kernel
theorem dX7_ranked_108 : decode cX7_ranked 108 = .ok (.iload_n 3, 1) := by decide +kernel
theorem dX7_ranked_109 : decode cX7_ranked 109 = .ok (.goto 4, 3) := by decide +kernel
theorem dX7_ranked_112 : decode cX7_ranked 112 = .ok (.iload_n 2, 1) := by decide +kernel
theorem dX7_ranked_113 : decode cX7_ranked 113 = .ok (.istore_n 2, 1) := by decide +kernel
theorem dX7_ranked_114 : decode cX7_ranked 114 = .ok (.iinc 3 1, 3) := by decide +kernel
theorem dX7_ranked_117 : decode cX7_ranked 117 = .ok (.goto (-95), 3) := by decide +kernel
theorem dX7_ranked_120 : decode cX7_ranked 120 = .ok (.iload_n 2, 1) := by decide +kernel
theorem dX7_ranked_121 : decode cX7_ranked 121 = .ok (.ireturn, 1) := by decide +kernel
theorem dX7_allCoins_0 : decode cX7_allCoins 0 = .ok (.iconst 0, 1) := by decide +kernel
theorem dX7_allCoins_1 : decode cX7_allCoins 1 = .ok (.istore_n 1, 1) := by decide +kernel
theorem dX7_allCoins_2 : decode cX7_allCoins 2 = .ok (.iconst 0, 1) := by decide +kernel
theorem dX7_allCoins_3 : decode cX7_allCoins 3 = .ok (.istore_n 2, 1) := by decide +kernel
theorem dX7_allCoins_4 : decode cX7_allCoins 4 = .ok (.iload_n 2, 1) := by decide +kernel
theorem dX7_allCoins_5 : decode cX7_allCoins 5 = .ok (.bipush 6, 2) := by decide +kernel
theorem dX7_allCoins_7 : decode cX7_allCoins 7 = .ok (.if_icmp .ge 21, 3) := by decide +kernel
theorem dX7_allCoins_10 : decode cX7_allCoins 10 = .ok (.iload_n 1, 1) := by decide +kernel
theorem dX7_allCoins_11 : decode cX7_allCoins 11 = .ok (.aload_n 0, 1) := by decide +kernel
theorem dX7_allCoins_12 : decode cX7_allCoins 12 = .ok (.getfield 9, 3) := by decide +kernel
theorem dX7_allCoins_15 : decode cX7_allCoins 15 = .ok (.bipush 6, 2) := by decide +kernel
theorem dX7_allCoins_17 : decode cX7_allCoins 17 = .ok (.iload_n 2, 1) := by decide +kernel
theorem dX7_allCoins_18 : decode cX7_allCoins 18 = .ok (.iadd, 1) := by decide +kernel
theorem dX7_allCoins_19 : decode cX7_allCoins 19 = .ok (.iaload, 1) := by decide +kernel
theorem dX7_allCoins_20 : decode cX7_allCoins 20 = .ok (.iadd, 1) := by decide +kernel
theorem dX7_allCoins_21 : decode cX7_allCoins 21 = .ok (.istore_n 1, 1) := by decide +kernel
theorem dX7_allCoins_22 : decode cX7_allCoins 22 = .ok (.iinc 2 1, 3) := by decide +kernel
theorem dX7_allCoins_25 : decode cX7_allCoins 25 = .ok (.goto (-21), 3) := by decide +kernel
theorem dX7_allCoins_28 : decode cX7_allCoins 28 = .ok (.iload_n 1, 1) := by decide +kernel
theorem dX7_allCoins_29 : decode cX7_allCoins 29 = .ok (.ireturn, 1) := by decide +kernel
theorem dX7_coins_0 : decode cX7_coins 0 = .ok (.aload_n 0, 1) := by decide +kernel
theorem dX7_coins_1 : decode cX7_coins 1 = .ok (.iconst 0, 1) := by decide +kernel
theorem dX7_coins_2 : decode cX7_coins 2 = .ok (.putfield 36, 3) := by decide +kernel
theorem dX7_coins_5 : decode cX7_coins 5 = .ok (.aload_n 0, 1) := by decide +kernel
theorem dX7_coins_6 : decode cX7_coins 6 = .ok (.invokevirtual 158, 3) := by decide +kernel
theorem dX7_coins_9 : decode cX7_coins 9 = .ok (.ireturn, 1) := by decide +kernel
theorem dX7_says_0 : decode cX7_says 0 = .ok (.aload_n 0, 1) := by decide +kernel
theorem dX7_says_1 : decode cX7_says 1 = .ok (.getfield 22, 3) := by decide +kernel
theorem dX7_says_4 : decode cX7_says 4 = .ok (.aload_n 0, 1) := by decide +kernel
theorem dX7_says_5 : decode cX7_says 5 = .ok (.getfield 161, 3) := by decide +kernel
theorem dX7_says_8 : decode cX7_says 8 = .ok (.iload_n 1, 1) := by decide +kernel
theorem dX7_says_9 : decode cX7_says 9 = .ok (.castore, 1) := by decide +kernel
theorem dX7_says_10 : decode cX7_says 10 = .ok (.aload_n 0, 1) := by decide +kernel
theorem dX7_says_11 : decode cX7_says 11 = .ok (.dup, 1) := by decide +kernel
theorem dX7_says_12 : decode cX7_says 12 = .ok (.getfield 161, 3) := by decide +kernel
theorem dX7_says_15 : decode cX7_says 15 = .ok (.iconst 1, 1) := by decide +kernel
theorem dX7_says_16 : decode cX7_says 16 = .ok (.iadd, 1) := by decide +kernel
theorem dX7_says_17 : decode cX7_says 17 = .ok (.putfield 161, 3) := by decide +kernel
theorem dX7_says_20 : decode cX7_says 20 = .ok (.return_, 1) := by decide +kernel
theorem dX7_saysNumber_0 : decode cX7_saysNumber 0 = .ok (.iload_n 1, 1) := by decide +kernel
theorem dX7_saysNumber_1 : decode cX7_saysNumber 1 = .ok (.bipush 9, 2) := by decide +kernel
theorem dX7_saysNumber_3 : decode cX7_saysNumber 3 = .ok (.if_icmp .le 11, 3) := by decide +kernel
theorem dX7_saysNumber_6 : decode cX7_saysNumber 6 = .ok (.aload_n 0, 1) := by decide +kernel
theorem dX7_saysNumber_7 : decode cX7_saysNumber 7 = .ok (.iload_n 1, 1) := by decide +kernel
theorem dX7_saysNumber_8 : decode cX7_saysNumber 8 = .ok (.bipush 10, 2) := by decide +kernel
theorem dX7_saysNumber_10 : decode cX7_saysNumber 10 = .ok (.idiv, 1) := by decide +kernel
theorem dX7_saysNumber_11 : decode cX7_saysNumber 11 = .ok (.invokevirtual 164, 3) := by decide +kernel
theorem dX7_saysNumber_14 : decode cX7_saysNumber 14 = .ok (.aload_n 0, 1) := by decide +kernel
theorem dX7_saysNumber_15 : decode cX7_saysNumber 15 = .ok (.bipush 48, 2) := by decide +kernel
theorem dX7_saysNumber_17 : decode cX7_saysNumber 17 = .ok (.iload_n 1, 1) := by decide +kernel
theorem dX7_saysNumber_18 : decode cX7_saysNumber 18 = .ok (.bipush 10, 2) := by decide +kernel
theorem dX7_saysNumber_20 : decode cX7_saysNumber 20 = .ok (.irem, 1) := by decide +kernel
theorem dX7_saysNumber_21 : decode cX7_saysNumber 21 = .ok (.iadd, 1) := by decide +kernel
theorem dX7_saysNumber_22 : decode cX7_saysNumber 22 = .ok (.i2c, 1) := by decide +kernel
theorem dX7_saysNumber_23 : decode cX7_saysNumber 23 = .ok (.invokevirtual 168, 3) := by decide +kernel
theorem dX7_saysNumber_26 : decode cX7_saysNumber 26 = .ok (.return_, 1) := by decide +kernel
theorem dX7_line_0 : decode cX7_line 0 = .ok (.aload_n 0, 1) := by decide +kernel
theorem dX7_line_1 : decode cX7_line 1 = .ok (.aload_n 0, 1) := by decide +kernel
theorem dX7_line_2 : decode cX7_line 2 = .ok (.iload_n 1, 1) := by decide +kernel
theorem dX7_line_3 : decode cX7_line 3 = .ok (.invokevirtual 91, 3) := by decide +kernel
theorem dX7_line_6 : decode cX7_line 6 = .ok (.ifCond .eq 7, 3) := by decide +kernel
theorem dX7_line_9 : decode cX7_line 9 = .ok (.iconst 0, 1) := by decide +kernel
theorem dX7_line_10 : decode cX7_line 10 = .ok (.goto 4, 3) := by decide +kernel
theorem dX7_line_13 : decode cX7_line 13 = .ok (.iconst 1, 1) := by decide +kernel
theorem dX7_line_14 : decode cX7_line 14 = .ok (.putfield 36, 3) := by decide +kernel
theorem dX7_line_17 : decode cX7_line 17 = .ok (.aload_n 0, 1) := by decide +kernel
theorem dX7_line_18 : decode cX7_line 18 = .ok (.getfield 36, 3) := by decide +kernel
theorem dX7_line_21 : decode cX7_line 21 = .ok (.ifCond .le 5, 3) := by decide +kernel
theorem dX7_line_24 : decode cX7_line 24 = .ok (.iconst 0, 1) := by decide +kernel
theorem dX7_line_25 : decode cX7_line 25 = .ok (.ireturn, 1) := by decide +kernel
theorem dX7_line_26 : decode cX7_line 26 = .ok (.aload_n 0, 1) := by decide +kernel
theorem dX7_line_27 : decode cX7_line 27 = .ok (.iconst 0, 1) := by decide +kernel
theorem dX7_line_28 : decode cX7_line 28 = .ok (.putfield 161, 3) := by decide +kernel
theorem dX7_line_31 : decode cX7_line 31 = .ok (.aload_n 0, 1) := by decide +kernel
theorem dX7_line_32 : decode cX7_line 32 = .ok (.bipush 35, 2) := by decide +kernel
theorem dX7_line_34 : decode cX7_line 34 = .ok (.invokevirtual 168, 3) := by decide +kernel
theorem dX7_line_37 : decode cX7_line 37 = .ok (.aload_n 0, 1) := by decide +kernel
theorem dX7_line_38 : decode cX7_line 38 = .ok (.iload_n 1, 1) := by decide +kernel
theorem dX7_line_39 : decode cX7_line 39 = .ok (.invokevirtual 164, 3) := by decide +kernel
theorem dX7_line_42 : decode cX7_line 42 = .ok (.aload_n 0, 1) := by decide +kernel
theorem dX7_line_43 : decode cX7_line 43 = .ok (.ldc 172, 2) := by decide +kernel
theorem dX7_line_45 : decode cX7_line 45 = .ok (.aload_n 0, 1) := by decide +kernel
theorem dX7_line_46 : decode cX7_line 46 = .ok (.iload_n 1, 1) := by decide +kernel
theorem dX7_line_47 : decode cX7_line 47 = .ok (.invokevirtual 73, 3) := by decide +kernel
theorem dX7_line_50 : decode cX7_line 50 = .ok (.invokevirtual 174, 3) := by decide +kernel
theorem dX7_line_53 : decode cX7_line 53 = .ok (.invokevirtual 168, 3) := by decide +kernel
theorem dX7_line_56 : decode cX7_line 56 = .ok (.iconst 0, 1) := by decide +kernel
theorem dX7_line_57 : decode cX7_line 57 = .ok (.istore_n 2, 1) := by decide +kernel
theorem dX7_line_58 : decode cX7_line 58 = .ok (.iload_n 2, 1) := by decide +kernel
theorem dX7_line_59 : decode cX7_line 59 = .ok (.bipush 6, 2) := by decide +kernel
theorem dX7_line_61 : decode cX7_line 61 = .ok (.if_icmp .ge 77, 3) := by decide +kernel
theorem dX7_line_64 : decode cX7_line 64 = .ok (.aload_n 0, 1) := by decide +kernel
theorem dX7_line_65 : decode cX7_line 65 = .ok (.iload_n 1, 1) := by decide +kernel
theorem dX7_line_66 : decode cX7_line 66 = .ok (.iload_n 2, 1) := by decide +kernel
theorem dX7_line_67 : decode cX7_line 67 = .ok (.invokevirtual 66, 3) := by decide +kernel
theorem dX7_line_70 : decode cX7_line 70 = .ok (.ifCond .eq 62, 3) := by decide +kernel
theorem dX7_line_73 : decode cX7_line 73 = .ok (.aload_n 0, 1) := by decide +kernel
theorem dX7_line_74 : decode cX7_line 74 = .ok (.bipush 32, 2) := by decide +kernel
theorem dX7_line_76 : decode cX7_line 76 = .ok (.invokevirtual 168, 3) := by decide +kernel
theorem dX7_line_79 : decode cX7_line 79 = .ok (.aload_n 0, 1) := by decide +kernel
theorem dX7_line_80 : decode cX7_line 80 = .ok (.iload_n 2, 1) := by decide +kernel
theorem dX7_line_81 : decode cX7_line 81 = .ok (.invokevirtual 164, 3) := by decide +kernel
theorem dX7_line_84 : decode cX7_line 84 = .ok (.aload_n 0, 1) := by decide +kernel
theorem dX7_line_85 : decode cX7_line 85 = .ok (.aload_n 0, 1) := by decide +kernel
theorem dX7_line_86 : decode cX7_line 86 = .ok (.iload_n 1, 1) := by decide +kernel
theorem dX7_line_87 : decode cX7_line 87 = .ok (.iload_n 2, 1) := by decide +kernel
theorem dX7_line_88 : decode cX7_line 88 = .ok (.invokevirtual 62, 3) := by decide +kernel
theorem dX7_line_91 : decode cX7_line 91 = .ok (.ifCond .le 8, 3) := by decide +kernel
theorem dX7_line_94 : decode cX7_line 94 = .ok (.bipush 43, 2) := by decide +kernel
theorem dX7_line_96 : decode cX7_line 96 = .ok (.goto 5, 3) := by decide +kernel
theorem dX7_line_99 : decode cX7_line 99 = .ok (.bipush 45, 2) := by decide +kernel
theorem dX7_line_101 : decode cX7_line 101 = .ok (.invokevirtual 168, 3) := by decide +kernel
theorem dX7_line_104 : decode cX7_line 104 = .ok (.aload_n 0, 1) := by decide +kernel
theorem dX7_line_105 : decode cX7_line 105 = .ok (.aload_n 0, 1) := by decide +kernel
theorem dX7_line_106 : decode cX7_line 106 = .ok (.iload_n 1, 1) := by decide +kernel
theorem dX7_line_107 : decode cX7_line 107 = .ok (.iload_n 2, 1) := by decide +kernel
theorem dX7_line_108 : decode cX7_line 108 = .ok (.invokevirtual 62, 3) := by decide +kernel
theorem dX7_line_111 : decode cX7_line 111 = .ok (.invokestatic 180, 3) := by decide +kernel
theorem dX7_line_114 : decode cX7_line 114 = .ok (.invokevirtual 164, 3) := by decide +kernel
theorem dX7_line_117 : decode cX7_line 117 = .ok (.aload_n 0, 1) := by decide +kernel
theorem dX7_line_118 : decode cX7_line 118 = .ok (.ldc 185, 2) := by decide +kernel
theorem dX7_line_120 : decode cX7_line 120 = .ok (.aload_n 0, 1) := by decide +kernel
theorem dX7_line_121 : decode cX7_line 121 = .ok (.iload_n 1, 1) := by decide +kernel
theorem dX7_line_122 : decode cX7_line 122 = .ok (.iload_n 2, 1) := by decide +kernel
theorem dX7_line_123 : decode cX7_line 123 = .ok (.invokevirtual 70, 3) := by decide +kernel
theorem dX7_line_126 : decode cX7_line 126 = .ok (.invokevirtual 174, 3) := by decide +kernel
theorem dX7_line_129 : decode cX7_line 129 = .ok (.invokevirtual 168, 3) := by decide +kernel
theorem dX7_line_132 : decode cX7_line 132 = .ok (.iinc 2 1, 3) := by decide +kernel
theorem dX7_line_135 : decode cX7_line 135 = .ok (.goto (-77), 3) := by decide +kernel
theorem dX7_line_138 : decode cX7_line 138 = .ok (.aload_n 0, 1) := by decide +kernel
theorem dX7_line_139 : decode cX7_line 139 = .ok (.getfield 161, 3) := by decide +kernel
theorem dX7_line_142 : decode cX7_line 142 = .ok (.ireturn, 1) := by decide +kernel
theorem dX7_character_0 : decode cX7_character 0 = .ok (.aload_n 0, 1) := by decide +kernel
theorem dX7_character_1 : decode cX7_character 1 = .ok (.iload_n 1, 1) := by decide +kernel
theorem dX7_character_2 : decode cX7_character 2 = .ok (.iconst 0, 1) := by decide +kernel
theorem dX7_character_3 : decode cX7_character 3 = .ok (.aload_n 0, 1) := by decide +kernel
theorem dX7_character_4 : decode cX7_character 4 = .ok (.getfield 161, 3) := by decide +kernel
theorem dX7_character_7 : decode cX7_character 7 = .ok (.iconst 1, 1) := by decide +kernel
theorem dX7_character_8 : decode cX7_character 8 = .ok (.isub, 1) := by decide +kernel
theorem dX7_character_9 : decode cX7_character 9 = .ok (.invokestatic 58, 3) := by decide +kernel
theorem dX7_character_12 : decode cX7_character 12 = .ok (.ifCond .eq 7, 3) := by decide +kernel
theorem dX7_character_15 : decode cX7_character 15 = .ok (.iconst 0, 1) := by decide +kernel
theorem dX7_character_16 : decode cX7_character 16 = .ok (.goto 4, 3) := by decide +kernel
theorem dX7_character_19 : decode cX7_character 19 = .ok (.iconst 1, 1) := by decide +kernel
theorem dX7_character_20 : decode cX7_character 20 = .ok (.putfield 36, 3) := by decide +kernel
theorem dX7_character_23 : decode cX7_character 23 = .ok (.aload_n 0, 1) := by decide +kernel
theorem dX7_character_24 : decode cX7_character 24 = .ok (.getfield 36, 3) := by decide +kernel
theorem dX7_character_27 : decode cX7_character 27 = .ok (.ifCond .le 8, 3) := by decide +kernel
theorem dX7_character_30 : decode cX7_character 30 = .ok (.bipush 32, 2) := by decide +kernel
theorem dX7_character_32 : decode cX7_character 32 = .ok (.goto 9, 3) := by decide +kernel
theorem dX7_character_35 : decode cX7_character 35 = .ok (.aload_n 0, 1) := by decide +kernel
theorem dX7_character_36 : decode cX7_character 36 = .ok (.getfield 22, 3) := by decide +kernel
theorem dX7_character_39 : decode cX7_character 39 = .ok (.iload_n 1, 1) := by decide +kernel
theorem dX7_character_40 : decode cX7_character 40 = .ok (.caload, 1) := by decide +kernel
theorem dX7_character_41 : decode cX7_character 41 = .ok (.ireturn, 1) := by decide +kernel
theorem dX7_append_0 : decode cX7_append 0 = .ok (.aload_n 0, 1) := by decide +kernel
theorem dX7_append_1 : decode cX7_append 1 = .ok (.aload_n 0, 1) := by decide +kernel
theorem dX7_append_2 : decode cX7_append 2 = .ok (.getfield 187, 3) := by decide +kernel
theorem dX7_append_5 : decode cX7_append 5 = .ok (.bipush 60, 2) := by decide +kernel
theorem dX7_append_7 : decode cX7_append 7 = .ok (.if_icmp .ne 7, 3) := by decide +kernel
theorem dX7_append_10 : decode cX7_append 10 = .ok (.iconst 1, 1) := by decide +kernel
theorem dX7_append_11 : decode cX7_append 11 = .ok (.goto 4, 3) := by decide +kernel
theorem dX7_append_14 : decode cX7_append 14 = .ok (.iconst 0, 1) := by decide +kernel
theorem dX7_append_15 : decode cX7_append 15 = .ok (.putfield 36, 3) := by decide +kernel
theorem dX7_append_18 : decode cX7_append 18 = .ok (.aload_n 0, 1) := by decide +kernel
theorem dX7_append_19 : decode cX7_append 19 = .ok (.getfield 36, 3) := by decide +kernel
theorem dX7_append_22 : decode cX7_append 22 = .ok (.ifCond .le 5, 3) := by decide +kernel
theorem dX7_append_25 : decode cX7_append 25 = .ok (.iconst 0, 1) := by decide +kernel
theorem dX7_append_26 : decode cX7_append 26 = .ok (.ireturn, 1) := by decide +kernel
theorem dX7_append_27 : decode cX7_append 27 = .ok (.aload_n 0, 1) := by decide +kernel
theorem dX7_append_28 : decode cX7_append 28 = .ok (.getfield 26, 3) := by decide +kernel
theorem dX7_append_31 : decode cX7_append 31 = .ok (.aload_n 0, 1) := by decide +kernel
theorem dX7_append_32 : decode cX7_append 32 = .ok (.getfield 187, 3) := by decide +kernel
theorem dX7_append_35 : decode cX7_append 35 = .ok (.iload_n 1, 1) := by decide +kernel
theorem dX7_append_36 : decode cX7_append 36 = .ok (.castore, 1) := by decide +kernel
theorem dX7_append_37 : decode cX7_append 37 = .ok (.aload_n 0, 1) := by decide +kernel
theorem dX7_append_38 : decode cX7_append 38 = .ok (.dup, 1) := by decide +kernel
theorem dX7_append_39 : decode cX7_append 39 = .ok (.getfield 187, 3) := by decide +kernel
theorem dX7_append_42 : decode cX7_append 42 = .ok (.iconst 1, 1) := by decide +kernel
theorem dX7_append_43 : decode cX7_append 43 = .ok (.iadd, 1) := by decide +kernel
theorem dX7_append_44 : decode cX7_append 44 = .ok (.putfield 187, 3) := by decide +kernel
theorem dX7_append_47 : decode cX7_append 47 = .ok (.aload_n 0, 1) := by decide +kernel
theorem dX7_append_48 : decode cX7_append 48 = .ok (.getfield 187, 3) := by decide +kernel
theorem dX7_append_51 : decode cX7_append 51 = .ok (.ireturn, 1) := by decide +kernel
theorem dX7_isHere_0 : decode cX7_isHere 0 = .ok (.aload_n 0, 1) := by decide +kernel
theorem dX7_isHere_1 : decode cX7_isHere 1 = .ok (.getfield 190, 3) := by decide +kernel
theorem dX7_isHere_4 : decode cX7_isHere 4 = .ok (.ifCond .ne 35, 3) := by decide +kernel
theorem dX7_isHere_7 : decode cX7_isHere 7 = .ok (.aload_n 0, 1) := by decide +kernel
theorem dX7_isHere_8 : decode cX7_isHere 8 = .ok (.getfield 193, 3) := by decide +kernel
theorem dX7_isHere_11 : decode cX7_isHere 11 = .ok (.aload_n 0, 1) := by decide +kernel
theorem dX7_isHere_12 : decode cX7_isHere 12 = .ok (.getfield 187, 3) := by decide +kernel
theorem dX7_isHere_15 : decode cX7_isHere 15 = .ok (.if_icmp .ge 24, 3) := by decide +kernel
theorem dX7_isHere_18 : decode cX7_isHere 18 = .ok (.aload_n 0, 1) := by decide +kernel
theorem dX7_isHere_19 : decode cX7_isHere 19 = .ok (.getfield 26, 3) := by decide +kernel
theorem dX7_isHere_22 : decode cX7_isHere 22 = .ok (.aload_n 0, 1) := by decide +kernel
theorem dX7_isHere_23 : decode cX7_isHere 23 = .ok (.getfield 193, 3) := by decide +kernel
theorem dX7_isHere_26 : decode cX7_isHere 26 = .ok (.caload, 1) := by decide +kernel
theorem dX7_isHere_27 : decode cX7_isHere 27 = .ok (.iload_n 1, 1) := by decide +kernel
theorem dX7_isHere_28 : decode cX7_isHere 28 = .ok (.iload_n 2, 1) := by decide +kernel
theorem dX7_isHere_29 : decode cX7_isHere 29 = .ok (.invokestatic 58, 3) := by decide +kernel
theorem dX7_isHere_32 : decode cX7_isHere 32 = .ok (.ifCond .eq 7, 3) := by decide +kernel
theorem dX7_isHere_35 : decode cX7_isHere 35 = .ok (.iconst 1, 1) := by decide +kernel
theorem dX7_isHere_36 : decode cX7_isHere 36 = .ok (.goto 4, 3) := by decide +kernel
theorem dX7_isHere_39 : decode cX7_isHere 39 = .ok (.iconst 0, 1) := by decide +kernel
theorem dX7_isHere_40 : decode cX7_isHere 40 = .ok (.ireturn, 1) := by decide +kernel
theorem dX7_sign_0 : decode cX7_sign 0 = .ok (.aload_n 0, 1) := by decide +kernel
theorem dX7_sign_1 : decode cX7_sign 1 = .ok (.aload_n 0, 1) := by decide +kernel
theorem dX7_sign_2 : decode cX7_sign 2 = .ok (.iload_n 1, 1) := by decide +kernel
theorem dX7_sign_3 : decode cX7_sign 3 = .ok (.iload_n 2, 1) := by decide +kernel
theorem dX7_sign_4 : decode cX7_sign 4 = .ok (.invokevirtual 196, 3) := by decide +kernel
theorem dX7_sign_7 : decode cX7_sign 7 = .ok (.ifCond .ne 7, 3) := by decide +kernel
theorem dX7_sign_10 : decode cX7_sign 10 = .ok (.iconst 1, 1) := by decide +kernel
theorem dX7_sign_11 : decode cX7_sign 11 = .ok (.goto 4, 3) := by decide +kernel
theorem dX7_sign_14 : decode cX7_sign 14 = .ok (.iconst 0, 1) := by decide +kernel
theorem dX7_sign_15 : decode cX7_sign 15 = .ok (.putfield 190, 3) := by decide +kernel
theorem dX7_sign_18 : decode cX7_sign 18 = .ok (.aload_n 0, 1) := by decide +kernel
theorem dX7_sign_19 : decode cX7_sign 19 = .ok (.getfield 190, 3) := by decide +kernel
theorem dX7_sign_22 : decode cX7_sign 22 = .ok (.ifCond .eq 5, 3) := by decide +kernel
theorem dX7_sign_25 : decode cX7_sign 25 = .ok (.iconst 0, 1) := by decide +kernel
theorem dX7_sign_26 : decode cX7_sign 26 = .ok (.ireturn, 1) := by decide +kernel
theorem dX7_sign_27 : decode cX7_sign 27 = .ok (.aload_n 0, 1) := by decide +kernel
theorem dX7_sign_28 : decode cX7_sign 28 = .ok (.dup, 1) := by decide +kernel
theorem dX7_sign_29 : decode cX7_sign 29 = .ok (.getfield 193, 3) := by decide +kernel
theorem dX7_sign_32 : decode cX7_sign 32 = .ok (.iconst 1, 1) := by decide +kernel
theorem dX7_sign_33 : decode cX7_sign 33 = .ok (.iadd, 1) := by decide +kernel
theorem dX7_sign_34 : decode cX7_sign 34 = .ok (.putfield 193, 3) := by decide +kernel
theorem dX7_sign_37 : decode cX7_sign 37 = .ok (.aload_n 0, 1) := by decide +kernel
theorem dX7_sign_38 : decode cX7_sign 38 = .ok (.getfield 26, 3) := by decide +kernel
theorem dX7_sign_41 : decode cX7_sign 41 = .ok (.aload_n 0, 1) := by decide +kernel
theorem dX7_sign_42 : decode cX7_sign 42 = .ok (.getfield 193, 3) := by decide +kernel
theorem dX7_sign_45 : decode cX7_sign 45 = .ok (.iconst 1, 1) := by decide +kernel
theorem dX7_sign_46 : decode cX7_sign 46 = .ok (.isub, 1) := by decide +kernel
theorem dX7_sign_47 : decode cX7_sign 47 = .ok (.caload, 1) := by decide +kernel
theorem dX7_sign_48 : decode cX7_sign 48 = .ok (.iload_n 1, 1) := by decide +kernel
theorem dX7_sign_49 : decode cX7_sign 49 = .ok (.isub, 1) := by decide +kernel
theorem dX7_sign_50 : decode cX7_sign 50 = .ok (.ireturn, 1) := by decide +kernel
theorem dX7_digit_0 : decode cX7_digit 0 = .ok (.aload_n 0, 1) := by decide +kernel
theorem dX7_digit_1 : decode cX7_digit 1 = .ok (.getfield 190, 3) := by decide +kernel
theorem dX7_digit_4 : decode cX7_digit 4 = .ok (.ifCond .eq 7, 3) := by decide +kernel
theorem dX7_digit_7 : decode cX7_digit 7 = .ok (.iconst 0, 1) := by decide +kernel
theorem dX7_digit_8 : decode cX7_digit 8 = .ok (.goto 11, 3) := by decide +kernel
theorem dX7_digit_11 : decode cX7_digit 11 = .ok (.aload_n 0, 1) := by decide +kernel
theorem dX7_digit_12 : decode cX7_digit 12 = .ok (.bipush 48, 2) := by decide +kernel
theorem dX7_digit_14 : decode cX7_digit 14 = .ok (.bipush 57, 2) := by decide +kernel
theorem dX7_digit_16 : decode cX7_digit 16 = .ok (.invokevirtual 200, 3) := by decide +kernel
theorem dX7_digit_19 : decode cX7_digit 19 = .ok (.ireturn, 1) := by decide +kernel
theorem dX7_number_0 : decode cX7_number 0 = .ok (.aload_n 0, 1) := by decide +kernel
theorem dX7_number_1 : decode cX7_number 1 = .ok (.invokevirtual 204, 3) := by decide +kernel
theorem dX7_number_4 : decode cX7_number 4 = .ok (.istore_n 1, 1) := by decide +kernel
theorem dX7_number_5 : decode cX7_number 5 = .ok (.aload_n 0, 1) := by decide +kernel
theorem dX7_number_6 : decode cX7_number 6 = .ok (.bipush 48, 2) := by decide +kernel
theorem dX7_number_8 : decode cX7_number 8 = .ok (.bipush 57, 2) := by decide +kernel
theorem dX7_number_10 : decode cX7_number 10 = .ok (.invokevirtual 196, 3) := by decide +kernel
theorem dX7_number_13 : decode cX7_number 13 = .ok (.ifCond .eq 15, 3) := by decide +kernel
theorem dX7_number_16 : decode cX7_number 16 = .ok (.bipush 10, 2) := by decide +kernel
theorem dX7_number_18 : decode cX7_number 18 = .ok (.iload_n 1, 1) := by decide +kernel
theorem dX7_number_19 : decode cX7_number 19 = .ok (.imul, 1) := by decide +kernel
theorem dX7_number_20 : decode cX7_number 20 = .ok (.aload_n 0, 1) := by decide +kernel
theorem dX7_number_21 : decode cX7_number 21 = .ok (.invokevirtual 204, 3) := by decide +kernel
theorem dX7_number_24 : decode cX7_number 24 = .ok (.iadd, 1) := by decide +kernel
theorem dX7_number_25 : decode cX7_number 25 = .ok (.goto 4, 3) := by decide +kernel
theorem dX7_number_28 : decode cX7_number 28 = .ok (.iload_n 1, 1) := by decide +kernel
theorem dX7_number_29 : decode cX7_number 29 = .ok (.ireturn, 1) := by decide +kernel
theorem dX7_behind_0 : decode cX7_behind 0 = .ok (.aload_n 0, 1) := by decide +kernel
theorem dX7_behind_1 : decode cX7_behind 1 = .ok (.getfield 190, 3) := by decide +kernel
theorem dX7_behind_4 : decode cX7_behind 4 = .ok (.ifCond .eq 7, 3) := by decide +kernel
theorem dX7_behind_7 : decode cX7_behind 7 = .ok (.iconst 0, 1) := by decide +kernel
theorem dX7_behind_8 : decode cX7_behind 8 = .ok (.goto 9, 3) := by decide +kernel
theorem dX7_behind_11 : decode cX7_behind 11 = .ok (.aload_n 0, 1) := by decide +kernel
theorem dX7_behind_12 : decode cX7_behind 12 = .ok (.iload_n 1, 1) := by decide +kernel
theorem dX7_behind_13 : decode cX7_behind 13 = .ok (.iload_n 1, 1) := by decide +kernel
theorem dX7_behind_14 : decode cX7_behind 14 = .ok (.invokevirtual 200, 3) := by decide +kernel
theorem dX7_behind_17 : decode cX7_behind 17 = .ok (.istore_n 2, 1) := by decide +kernel
theorem dX7_behind_18 : decode cX7_behind 18 = .ok (.aload_n 0, 1) := by decide +kernel
theorem dX7_behind_19 : decode cX7_behind 19 = .ok (.invokevirtual 204, 3) := by decide +kernel
theorem dX7_behind_22 : decode cX7_behind 22 = .ok (.ireturn, 1) := by decide +kernel
theorem dX7_readOrder_0 : decode cX7_readOrder 0 = .ok (.aload_n 0, 1) := by decide +kernel
theorem dX7_readOrder_1 : decode cX7_readOrder 1 = .ok (.getfield 190, 3) := by decide +kernel
theorem dX7_readOrder_4 : decode cX7_readOrder 4 = .ok (.ifCond .eq 4, 3) := by decide +kernel
theorem dX7_readOrder_7 : decode cX7_readOrder 7 = .ok (.return_, 1) := by decide +kernel
theorem dX7_readOrder_8 : decode cX7_readOrder 8 = .ok (.aload_n 0, 1) := by decide +kernel
theorem dX7_readOrder_9 : decode cX7_readOrder 9 = .ok (.getfield 193, 3) := by decide +kernel
theorem dX7_readOrder_12 : decode cX7_readOrder 12 = .ok (.aload_n 0, 1) := by decide +kernel
theorem dX7_readOrder_13 : decode cX7_readOrder 13 = .ok (.getfield 187, 3) := by decide +kernel
theorem dX7_readOrder_16 : decode cX7_readOrder 16 = .ok (.if_icmp .ge 15, 3) := by decide +kernel
theorem dX7_readOrder_19 : decode cX7_readOrder 19 = .ok (.aload_n 0, 1) := by decide +kernel
theorem dX7_readOrder_20 : decode cX7_readOrder 20 = .ok (.getfield 26, 3) := by decide +kernel
theorem dX7_readOrder_23 : decode cX7_readOrder 23 = .ok (.aload_n 0, 1) := by decide +kernel
theorem dX7_readOrder_24 : decode cX7_readOrder 24 = .ok (.getfield 193, 3) := by decide +kernel
theorem dX7_readOrder_27 : decode cX7_readOrder 27 = .ok (.caload, 1) := by decide +kernel
theorem dX7_readOrder_28 : decode cX7_readOrder 28 = .ok (.goto 4, 3) := by decide +kernel
theorem dX7_readOrder_31 : decode cX7_readOrder 31 = .ok (.iconst 0, 1) := by decide +kernel
theorem dX7_readOrder_32 : decode cX7_readOrder 32 = .ok (.istore_n 1, 1) := by decide +kernel
theorem dX7_readOrder_33 : decode cX7_readOrder 33 = .ok (.iload_n 1, 1) := by decide +kernel
theorem dX7_readOrder_34 : decode cX7_readOrder 34 = .ok (.bipush 110, 2) := by decide +kernel
theorem dX7_readOrder_36 : decode cX7_readOrder 36 = .ok (.if_icmp .eq 63, 3) := by decide +kernel
theorem dX7_readOrder_39 : decode cX7_readOrder 39 = .ok (.iload_n 1, 1) := by decide +kernel
theorem dX7_readOrder_40 : decode cX7_readOrder 40 = .ok (.bipush 97, 2) := by decide +kernel
theorem dX7_readOrder_42 : decode cX7_readOrder 42 = .ok (.if_icmp .eq 57, 3) := by decide +kernel
theorem dX7_readOrder_45 : decode cX7_readOrder 45 = .ok (.iload_n 1, 1) := by decide +kernel
theorem dX7_readOrder_46 : decode cX7_readOrder 46 = .ok (.bipush 113, 2) := by decide +kernel
theorem dX7_readOrder_48 : decode cX7_readOrder 48 = .ok (.if_icmp .eq 51, 3) := by decide +kernel
theorem dX7_readOrder_51 : decode cX7_readOrder 51 = .ok (.iload_n 1, 1) := by decide +kernel
theorem dX7_readOrder_52 : decode cX7_readOrder 52 = .ok (.bipush 100, 2) := by decide +kernel
theorem dX7_readOrder_54 : decode cX7_readOrder 54 = .ok (.if_icmp .eq 45, 3) := by decide +kernel
theorem dX7_readOrder_57 : decode cX7_readOrder 57 = .ok (.iload_n 1, 1) := by decide +kernel
theorem dX7_readOrder_58 : decode cX7_readOrder 58 = .ok (.bipush 116, 2) := by decide +kernel
theorem dX7_readOrder_60 : decode cX7_readOrder 60 = .ok (.if_icmp .eq 39, 3) := by decide +kernel
theorem dX7_readOrder_63 : decode cX7_readOrder 63 = .ok (.iload_n 1, 1) := by decide +kernel
theorem dX7_readOrder_64 : decode cX7_readOrder 64 = .ok (.bipush 102, 2) := by decide +kernel
theorem dX7_readOrder_66 : decode cX7_readOrder 66 = .ok (.if_icmp .eq 33, 3) := by decide +kernel
theorem dX7_readOrder_69 : decode cX7_readOrder 69 = .ok (.iload_n 1, 1) := by decide +kernel
theorem dX7_readOrder_70 : decode cX7_readOrder 70 = .ok (.bipush 119, 2) := by decide +kernel
theorem dX7_readOrder_72 : decode cX7_readOrder 72 = .ok (.if_icmp .eq 27, 3) := by decide +kernel
theorem dX7_readOrder_75 : decode cX7_readOrder 75 = .ok (.iload_n 1, 1) := by decide +kernel
theorem dX7_readOrder_76 : decode cX7_readOrder 76 = .ok (.bipush 115, 2) := by decide +kernel
theorem dX7_readOrder_78 : decode cX7_readOrder 78 = .ok (.if_icmp .eq 21, 3) := by decide +kernel
theorem dX7_readOrder_81 : decode cX7_readOrder 81 = .ok (.iload_n 1, 1) := by decide +kernel
theorem dX7_readOrder_82 : decode cX7_readOrder 82 = .ok (.bipush 114, 2) := by decide +kernel
theorem dX7_readOrder_84 : decode cX7_readOrder 84 = .ok (.if_icmp .eq 15, 3) := by decide +kernel
theorem dX7_readOrder_87 : decode cX7_readOrder 87 = .ok (.iload_n 1, 1) := by decide +kernel
theorem dX7_readOrder_88 : decode cX7_readOrder 88 = .ok (.bipush 105, 2) := by decide +kernel
theorem dX7_readOrder_90 : decode cX7_readOrder 90 = .ok (.if_icmp .eq 9, 3) := by decide +kernel
theorem dX7_readOrder_93 : decode cX7_readOrder 93 = .ok (.iload_n 1, 1) := by decide +kernel
theorem dX7_readOrder_94 : decode cX7_readOrder 94 = .ok (.bipush 104, 2) := by decide +kernel
theorem dX7_readOrder_96 : decode cX7_readOrder 96 = .ok (.if_icmp .ne 7, 3) := by decide +kernel
theorem dX7_readOrder_99 : decode cX7_readOrder 99 = .ok (.iconst 1, 1) := by decide +kernel
theorem dX7_readOrder_100 : decode cX7_readOrder 100 = .ok (.goto 4, 3) := by decide +kernel
theorem dX7_readOrder_103 : decode cX7_readOrder 103 = .ok (.iconst 0, 1) := by decide +kernel
theorem dX7_readOrder_104 : decode cX7_readOrder 104 = .ok (.istore_n 2, 1) := by decide +kernel
theorem dX7_readOrder_105 : decode cX7_readOrder 105 = .ok (.iload_n 2, 1) := by decide +kernel
theorem dX7_readOrder_106 : decode cX7_readOrder 106 = .ok (.ifCond .ne 9, 3) := by decide +kernel
theorem dX7_readOrder_109 : decode cX7_readOrder 109 = .ok (.aload_n 0, 1) := by decide +kernel
theorem dX7_readOrder_110 : decode cX7_readOrder 110 = .ok (.iconst 1, 1) := by decide +kernel
theorem dX7_readOrder_111 : decode cX7_readOrder 111 = .ok (.putfield 190, 3) := by decide +kernel
theorem dX7_readOrder_114 : decode cX7_readOrder 114 = .ok (.return_, 1) := by decide +kernel
theorem dX7_readOrder_115 : decode cX7_readOrder 115 = .ok (.aload_n 0, 1) := by decide +kernel
theorem dX7_readOrder_116 : decode cX7_readOrder 116 = .ok (.dup, 1) := by decide +kernel
theorem dX7_readOrder_117 : decode cX7_readOrder 117 = .ok (.getfield 193, 3) := by decide +kernel
theorem dX7_readOrder_120 : decode cX7_readOrder 120 = .ok (.iconst 1, 1) := by decide +kernel
theorem dX7_readOrder_121 : decode cX7_readOrder 121 = .ok (.iadd, 1) := by decide +kernel
theorem dX7_readOrder_122 : decode cX7_readOrder 122 = .ok (.putfield 193, 3) := by decide +kernel
theorem dX7_readOrder_125 : decode cX7_readOrder 125 = .ok (.iconst 4, 1) := by decide +kernel
theorem dX7_readOrder_126 : decode cX7_readOrder 126 = .ok (.aload_n 0, 1) := by decide +kernel
theorem dX7_readOrder_127 : decode cX7_readOrder 127 = .ok (.getfield 207, 3) := by decide +kernel
theorem dX7_readOrder_130 : decode cX7_readOrder 130 = .ok (.imul, 1) := by decide +kernel
theorem dX7_readOrder_131 : decode cX7_readOrder 131 = .ok (.istore_n 3, 1) := by decide +kernel
theorem dX7_readOrder_132 : decode cX7_readOrder 132 = .ok (.aload_n 0, 1) := by decide +kernel
theorem dX7_readOrder_133 : decode cX7_readOrder 133 = .ok (.getfield 33, 3) := by decide +kernel
theorem dX7_readOrder_136 : decode cX7_readOrder 136 = .ok (.iload_n 3, 1) := by decide +kernel
theorem dX7_readOrder_137 : decode cX7_readOrder 137 = .ok (.iload_n 1, 1) := by decide +kernel
theorem dX7_readOrder_138 : decode cX7_readOrder 138 = .ok (.iastore, 1) := by decide +kernel
theorem dX7_readOrder_139 : decode cX7_readOrder 139 = .ok (.aload_n 0, 1) := by decide +kernel
theorem dX7_readOrder_140 : decode cX7_readOrder 140 = .ok (.dup, 1) := by decide +kernel
theorem dX7_readOrder_141 : decode cX7_readOrder 141 = .ok (.getfield 207, 3) := by decide +kernel
theorem dX7_readOrder_144 : decode cX7_readOrder 144 = .ok (.iconst 1, 1) := by decide +kernel
theorem dX7_readOrder_145 : decode cX7_readOrder 145 = .ok (.iadd, 1) := by decide +kernel
theorem dX7_readOrder_146 : decode cX7_readOrder 146 = .ok (.putfield 207, 3) := by decide +kernel
theorem dX7_readOrder_149 : decode cX7_readOrder 149 = .ok (.iload_n 1, 1) := by decide +kernel
theorem dX7_readOrder_150 : decode cX7_readOrder 150 = .ok (.tableswitch 320 97 116 #[94, 320, 320, 290, 320, 320, 320, 305, 247, 320, 320, 320, 320, 320, 320, 320, 218, 290, 290, 218], 94) := by decide +kernel
theorem dX7_readOrder_244 : decode cX7_readOrder 244 = .ok (.aload_n 0, 1) := by decide +kernel
theorem dX7_readOrder_245 : decode cX7_readOrder 245 = .ok (.getfield 33, 3) := by decide +kernel
theorem dX7_readOrder_248 : decode cX7_readOrder 248 = .ok (.iload_n 3, 1) := by decide +kernel
theorem dX7_readOrder_249 : decode cX7_readOrder 249 = .ok (.iconst 1, 1) := by decide +kernel
theorem dX7_readOrder_250 : decode cX7_readOrder 250 = .ok (.iadd, 1) := by decide +kernel
theorem dX7_readOrder_251 : decode cX7_readOrder 251 = .ok (.aload_n 0, 1) := by decide +kernel
theorem dX7_readOrder_252 : decode cX7_readOrder 252 = .ok (.invokevirtual 204, 3) := by decide +kernel
theorem dX7_readOrder_255 : decode cX7_readOrder 255 = .ok (.iastore, 1) := by decide +kernel
theorem dX7_readOrder_256 : decode cX7_readOrder 256 = .ok (.aload_n 0, 1) := by decide +kernel
theorem dX7_readOrder_257 : decode cX7_readOrder 257 = .ok (.getfield 33, 3) := by decide +kernel
theorem dX7_readOrder_260 : decode cX7_readOrder 260 = .ok (.iload_n 3, 1) := by decide +kernel
theorem dX7_readOrder_261 : decode cX7_readOrder 261 = .ok (.iconst 2, 1) := by decide +kernel
theorem dX7_readOrder_262 : decode cX7_readOrder 262 = .ok (.iadd, 1) := by decide +kernel
theorem dX7_readOrder_263 : decode cX7_readOrder 263 = .ok (.aload_n 0, 1) := by decide +kernel
theorem dX7_readOrder_264 : decode cX7_readOrder 264 = .ok (.bipush 46, 2) := by decide +kernel
theorem dX7_readOrder_266 : decode cX7_readOrder 266 = .ok (.invokevirtual 210, 3) := by decide +kernel
theorem dX7_readOrder_269 : decode cX7_readOrder 269 = .ok (.iastore, 1) := by decide +kernel
theorem dX7_readOrder_270 : decode cX7_readOrder 270 = .ok (.aload_n 0, 1) := by decide +kernel
theorem dX7_readOrder_271 : decode cX7_readOrder 271 = .ok (.getfield 190, 3) := by decide +kernel
theorem dX7_readOrder_274 : decode cX7_readOrder 274 = .ok (.ifCond .eq 7, 3) := by decide +kernel
theorem dX7_readOrder_277 : decode cX7_readOrder 277 = .ok (.iconst 0, 1) := by decide +kernel
theorem dX7_readOrder_278 : decode cX7_readOrder 278 = .ok (.goto 11, 3) := by decide +kernel
theorem dX7_readOrder_281 : decode cX7_readOrder 281 = .ok (.aload_n 0, 1) := by decide +kernel
theorem dX7_readOrder_282 : decode cX7_readOrder 282 = .ok (.bipush 61, 2) := by decide +kernel
theorem dX7_readOrder_284 : decode cX7_readOrder 284 = .ok (.bipush 61, 2) := by decide +kernel
theorem dX7_readOrder_286 : decode cX7_readOrder 286 = .ok (.invokevirtual 200, 3) := by decide +kernel
theorem dX7_readOrder_289 : decode cX7_readOrder 289 = .ok (.istore 4, 2) := by decide +kernel
theorem dX7_readOrder_291 : decode cX7_readOrder 291 = .ok (.aload_n 0, 1) := by decide +kernel
theorem dX7_readOrder_292 : decode cX7_readOrder 292 = .ok (.bipush 45, 2) := by decide +kernel
theorem dX7_readOrder_294 : decode cX7_readOrder 294 = .ok (.bipush 45, 2) := by decide +kernel
theorem dX7_readOrder_296 : decode cX7_readOrder 296 = .ok (.invokevirtual 196, 3) := by decide +kernel
theorem dX7_readOrder_299 : decode cX7_readOrder 299 = .ok (.istore 5, 2) := by decide +kernel
theorem dX7_readOrder_301 : decode cX7_readOrder 301 = .ok (.aload_n 0, 1) := by decide +kernel
theorem dX7_readOrder_302 : decode cX7_readOrder 302 = .ok (.getfield 190, 3) := by decide +kernel
theorem dX7_readOrder_305 : decode cX7_readOrder 305 = .ok (.ifCond .eq 7, 3) := by decide +kernel
theorem dX7_readOrder_308 : decode cX7_readOrder 308 = .ok (.iconst 0, 1) := by decide +kernel
theorem dX7_readOrder_309 : decode cX7_readOrder 309 = .ok (.goto 27, 3) := by decide +kernel
theorem dX7_readOrder_312 : decode cX7_readOrder 312 = .ok (.iload 5, 2) := by decide +kernel
theorem dX7_readOrder_314 : decode cX7_readOrder 314 = .ok (.ifCond .eq 14, 3) := by decide +kernel
theorem dX7_readOrder_317 : decode cX7_readOrder 317 = .ok (.aload_n 0, 1) := by decide +kernel
theorem dX7_readOrder_318 : decode cX7_readOrder 318 = .ok (.bipush 45, 2) := by decide +kernel
theorem dX7_readOrder_320 : decode cX7_readOrder 320 = .ok (.bipush 45, 2) := by decide +kernel
theorem dX7_readOrder_322 : decode cX7_readOrder 322 = .ok (.invokevirtual 200, 3) := by decide +kernel
theorem dX7_readOrder_325 : decode cX7_readOrder 325 = .ok (.goto 11, 3) := by decide +kernel
theorem dX7_readOrder_328 : decode cX7_readOrder 328 = .ok (.aload_n 0, 1) := by decide +kernel
theorem dX7_readOrder_329 : decode cX7_readOrder 329 = .ok (.bipush 43, 2) := by decide +kernel
theorem dX7_readOrder_331 : decode cX7_readOrder 331 = .ok (.bipush 43, 2) := by decide +kernel
theorem dX7_readOrder_333 : decode cX7_readOrder 333 = .ok (.invokevirtual 200, 3) := by decide +kernel
theorem dX7_readOrder_336 : decode cX7_readOrder 336 = .ok (.istore 6, 2) := by decide +kernel
theorem dX7_readOrder_338 : decode cX7_readOrder 338 = .ok (.aload_n 0, 1) := by decide +kernel
theorem dX7_readOrder_339 : decode cX7_readOrder 339 = .ok (.invokevirtual 214, 3) := by decide +kernel
theorem dX7_readOrder_342 : decode cX7_readOrder 342 = .ok (.istore 7, 2) := by decide +kernel
theorem dX7_readOrder_344 : decode cX7_readOrder 344 = .ok (.aload_n 0, 1) := by decide +kernel
theorem dX7_readOrder_345 : decode cX7_readOrder 345 = .ok (.getfield 33, 3) := by decide +kernel
theorem dX7_readOrder_348 : decode cX7_readOrder 348 = .ok (.iload_n 3, 1) := by decide +kernel
theorem dX7_readOrder_349 : decode cX7_readOrder 349 = .ok (.iconst 3, 1) := by decide +kernel
theorem dX7_readOrder_350 : decode cX7_readOrder 350 = .ok (.iadd, 1) := by decide +kernel
theorem dX7_readOrder_351 : decode cX7_readOrder 351 = .ok (.iload 5, 2) := by decide +kernel
theorem dX7_readOrder_353 : decode cX7_readOrder 353 = .ok (.ifCond .eq 9, 3) := by decide +kernel
theorem dX7_readOrder_356 : decode cX7_readOrder 356 = .ok (.iload 7, 2) := by decide +kernel
theorem dX7_readOrder_358 : decode cX7_readOrder 358 = .ok (.ineg, 1) := by decide +kernel
theorem dX7_readOrder_359 : decode cX7_readOrder 359 = .ok (.goto 5, 3) := by decide +kernel
theorem dX7_readOrder_362 : decode cX7_readOrder 362 = .ok (.iload 7, 2) := by decide +kernel
theorem dX7_readOrder_364 : decode cX7_readOrder 364 = .ok (.iastore, 1) := by decide +kernel
theorem dX7_readOrder_365 : decode cX7_readOrder 365 = .ok (.goto 105, 3) := by decide +kernel
theorem dX7_readOrder_368 : decode cX7_readOrder 368 = .ok (.aload_n 0, 1) := by decide +kernel
theorem dX7_readOrder_369 : decode cX7_readOrder 369 = .ok (.getfield 33, 3) := by decide +kernel
theorem dX7_readOrder_372 : decode cX7_readOrder 372 = .ok (.iload_n 3, 1) := by decide +kernel
theorem dX7_readOrder_373 : decode cX7_readOrder 373 = .ok (.iconst 1, 1) := by decide +kernel
theorem dX7_readOrder_374 : decode cX7_readOrder 374 = .ok (.iadd, 1) := by decide +kernel
theorem dX7_readOrder_375 : decode cX7_readOrder 375 = .ok (.aload_n 0, 1) := by decide +kernel
theorem dX7_readOrder_376 : decode cX7_readOrder 376 = .ok (.invokevirtual 204, 3) := by decide +kernel
theorem dX7_readOrder_379 : decode cX7_readOrder 379 = .ok (.iastore, 1) := by decide +kernel
theorem dX7_readOrder_380 : decode cX7_readOrder 380 = .ok (.aload_n 0, 1) := by decide +kernel
theorem dX7_readOrder_381 : decode cX7_readOrder 381 = .ok (.getfield 33, 3) := by decide +kernel
theorem dX7_readOrder_384 : decode cX7_readOrder 384 = .ok (.iload_n 3, 1) := by decide +kernel
theorem dX7_readOrder_385 : decode cX7_readOrder 385 = .ok (.iconst 2, 1) := by decide +kernel
theorem dX7_readOrder_386 : decode cX7_readOrder 386 = .ok (.iadd, 1) := by decide +kernel
theorem dX7_readOrder_387 : decode cX7_readOrder 387 = .ok (.aload_n 0, 1) := by decide +kernel
theorem dX7_readOrder_388 : decode cX7_readOrder 388 = .ok (.bipush 46, 2) := by decide +kernel
theorem dX7_readOrder_390 : decode cX7_readOrder 390 = .ok (.invokevirtual 210, 3) := by decide +kernel
theorem dX7_readOrder_393 : decode cX7_readOrder 393 = .ok (.iastore, 1) := by decide +kernel
theorem dX7_readOrder_394 : decode cX7_readOrder 394 = .ok (.goto 76, 3) := by decide +kernel
theorem dX7_readOrder_397 : decode cX7_readOrder 397 = .ok (.aload_n 0, 1) := by decide +kernel
theorem dX7_readOrder_398 : decode cX7_readOrder 398 = .ok (.getfield 33, 3) := by decide +kernel
theorem dX7_readOrder_401 : decode cX7_readOrder 401 = .ok (.iload_n 3, 1) := by decide +kernel
theorem dX7_readOrder_402 : decode cX7_readOrder 402 = .ok (.iconst 1, 1) := by decide +kernel
theorem dX7_readOrder_403 : decode cX7_readOrder 403 = .ok (.iadd, 1) := by decide +kernel
theorem dX7_readOrder_404 : decode cX7_readOrder 404 = .ok (.aload_n 0, 1) := by decide +kernel
theorem dX7_readOrder_405 : decode cX7_readOrder 405 = .ok (.invokevirtual 204, 3) := by decide +kernel
theorem dX7_readOrder_408 : decode cX7_readOrder 408 = .ok (.iastore, 1) := by decide +kernel
theorem dX7_readOrder_409 : decode cX7_readOrder 409 = .ok (.aload_n 0, 1) := by decide +kernel
theorem dX7_readOrder_410 : decode cX7_readOrder 410 = .ok (.getfield 33, 3) := by decide +kernel
theorem dX7_readOrder_413 : decode cX7_readOrder 413 = .ok (.iload_n 3, 1) := by decide +kernel
theorem dX7_readOrder_414 : decode cX7_readOrder 414 = .ok (.iconst 2, 1) := by decide +kernel
theorem dX7_readOrder_415 : decode cX7_readOrder 415 = .ok (.iadd, 1) := by decide +kernel
theorem dX7_readOrder_416 : decode cX7_readOrder 416 = .ok (.aload_n 0, 1) := by decide +kernel
theorem dX7_readOrder_417 : decode cX7_readOrder 417 = .ok (.bipush 46, 2) := by decide +kernel
theorem dX7_readOrder_419 : decode cX7_readOrder 419 = .ok (.invokevirtual 210, 3) := by decide +kernel
theorem dX7_readOrder_422 : decode cX7_readOrder 422 = .ok (.iastore, 1) := by decide +kernel
theorem dX7_readOrder_423 : decode cX7_readOrder 423 = .ok (.aload_n 0, 1) := by decide +kernel
theorem dX7_readOrder_424 : decode cX7_readOrder 424 = .ok (.getfield 33, 3) := by decide +kernel
theorem dX7_readOrder_427 : decode cX7_readOrder 427 = .ok (.iload_n 3, 1) := by decide +kernel
theorem dX7_readOrder_428 : decode cX7_readOrder 428 = .ok (.iconst 3, 1) := by decide +kernel
theorem dX7_readOrder_429 : decode cX7_readOrder 429 = .ok (.iadd, 1) := by decide +kernel
theorem dX7_readOrder_430 : decode cX7_readOrder 430 = .ok (.aload_n 0, 1) := by decide +kernel
theorem dX7_readOrder_431 : decode cX7_readOrder 431 = .ok (.bipush 60, 2) := by decide +kernel
theorem dX7_readOrder_433 : decode cX7_readOrder 433 = .ok (.invokevirtual 210, 3) := by decide +kernel
theorem dX7_readOrder_436 : decode cX7_readOrder 436 = .ok (.iastore, 1) := by decide +kernel
theorem dX7_readOrder_437 : decode cX7_readOrder 437 = .ok (.goto 33, 3) := by decide +kernel
theorem dX7_readOrder_440 : decode cX7_readOrder 440 = .ok (.aload_n 0, 1) := by decide +kernel
theorem dX7_readOrder_441 : decode cX7_readOrder 441 = .ok (.getfield 33, 3) := by decide +kernel
theorem dX7_readOrder_444 : decode cX7_readOrder 444 = .ok (.iload_n 3, 1) := by decide +kernel
theorem dX7_readOrder_445 : decode cX7_readOrder 445 = .ok (.iconst 1, 1) := by decide +kernel
theorem dX7_readOrder_446 : decode cX7_readOrder 446 = .ok (.iadd, 1) := by decide +kernel
theorem dX7_readOrder_447 : decode cX7_readOrder 447 = .ok (.aload_n 0, 1) := by decide +kernel
theorem dX7_readOrder_448 : decode cX7_readOrder 448 = .ok (.invokevirtual 204, 3) := by decide +kernel
theorem dX7_readOrder_451 : decode cX7_readOrder 451 = .ok (.iastore, 1) := by decide +kernel
theorem dX7_readOrder_452 : decode cX7_readOrder 452 = .ok (.goto 18, 3) := by decide +kernel
theorem dX7_readOrder_455 : decode cX7_readOrder 455 = .ok (.aload_n 0, 1) := by decide +kernel
theorem dX7_readOrder_456 : decode cX7_readOrder 456 = .ok (.getfield 33, 3) := by decide +kernel
theorem dX7_readOrder_459 : decode cX7_readOrder 459 = .ok (.iload_n 3, 1) := by decide +kernel
theorem dX7_readOrder_460 : decode cX7_readOrder 460 = .ok (.iconst 1, 1) := by decide +kernel
theorem dX7_readOrder_461 : decode cX7_readOrder 461 = .ok (.iadd, 1) := by decide +kernel
theorem dX7_readOrder_462 : decode cX7_readOrder 462 = .ok (.aload_n 0, 1) := by decide +kernel
theorem dX7_readOrder_463 : decode cX7_readOrder 463 = .ok (.invokevirtual 214, 3) := by decide +kernel
theorem dX7_readOrder_466 : decode cX7_readOrder 466 = .ok (.iastore, 1) := by decide +kernel
theorem dX7_readOrder_467 : decode cX7_readOrder 467 = .ok (.goto 3, 3) := by decide +kernel
theorem dX7_readOrder_470 : decode cX7_readOrder 470 = .ok (.return_, 1) := by decide +kernel
theorem dX7_does_0 : decode cX7_does 0 = .ok (.aload_n 0, 1) := by decide +kernel
theorem dX7_does_1 : decode cX7_does 1 = .ok (.getfield 33, 3) := by decide +kernel
theorem dX7_does_4 : decode cX7_does 4 = .ok (.iconst 4, 1) := by decide +kernel
theorem dX7_does_5 : decode cX7_does 5 = .ok (.iload_n 1, 1) := by decide +kernel
theorem dX7_does_6 : decode cX7_does 6 = .ok (.imul, 1) := by decide +kernel
theorem dX7_does_7 : decode cX7_does 7 = .ok (.iconst 1, 1) := by decide +kernel
theorem dX7_does_8 : decode cX7_does 8 = .ok (.iadd, 1) := by decide +kernel
theorem dX7_does_9 : decode cX7_does 9 = .ok (.iaload, 1) := by decide +kernel
theorem dX7_does_10 : decode cX7_does 10 = .ok (.istore_n 2, 1) := by decide +kernel
theorem dX7_does_11 : decode cX7_does 11 = .ok (.aload_n 0, 1) := by decide +kernel
theorem dX7_does_12 : decode cX7_does 12 = .ok (.getfield 33, 3) := by decide +kernel
theorem dX7_does_15 : decode cX7_does 15 = .ok (.iconst 4, 1) := by decide +kernel
theorem dX7_does_16 : decode cX7_does 16 = .ok (.iload_n 1, 1) := by decide +kernel
theorem dX7_does_17 : decode cX7_does 17 = .ok (.imul, 1) := by decide +kernel
theorem dX7_does_18 : decode cX7_does 18 = .ok (.iconst 2, 1) := by decide +kernel
theorem dX7_does_19 : decode cX7_does 19 = .ok (.iadd, 1) := by decide +kernel
theorem dX7_does_20 : decode cX7_does 20 = .ok (.iaload, 1) := by decide +kernel
theorem dX7_does_21 : decode cX7_does 21 = .ok (.istore_n 3, 1) := by decide +kernel
theorem dX7_does_22 : decode cX7_does 22 = .ok (.aload_n 0, 1) := by decide +kernel
theorem dX7_does_23 : decode cX7_does 23 = .ok (.getfield 33, 3) := by decide +kernel
theorem dX7_does_26 : decode cX7_does 26 = .ok (.iconst 4, 1) := by decide +kernel
theorem dX7_does_27 : decode cX7_does 27 = .ok (.iload_n 1, 1) := by decide +kernel
theorem dX7_does_28 : decode cX7_does 28 = .ok (.imul, 1) := by decide +kernel
theorem dX7_does_29 : decode cX7_does 29 = .ok (.iconst 3, 1) := by decide +kernel
theorem dX7_does_30 : decode cX7_does 30 = .ok (.iadd, 1) := by decide +kernel
theorem dX7_does_31 : decode cX7_does 31 = .ok (.iaload, 1) := by decide +kernel
theorem dX7_does_32 : decode cX7_does 32 = .ok (.istore 4, 2) := by decide +kernel
theorem dX7_does_34 : decode cX7_does 34 = .ok (.aload_n 0, 1) := by decide +kernel
theorem dX7_does_35 : decode cX7_does 35 = .ok (.getfield 33, 3) := by decide +kernel
theorem dX7_does_38 : decode cX7_does 38 = .ok (.iconst 4, 1) := by decide +kernel
theorem dX7_does_39 : decode cX7_does 39 = .ok (.iload_n 1, 1) := by decide +kernel
theorem dX7_does_40 : decode cX7_does 40 = .ok (.imul, 1) := by decide +kernel
theorem dX7_does_41 : decode cX7_does 41 = .ok (.iaload, 1) := by decide +kernel
theorem dX7_does_42 : decode cX7_does 42 = .ok (.tableswitch 213 97 119 #[115, 213, 213, 139, 213, 160, 213, 213, 200, 213, 213, 213, 213, 106, 213, 213, 128, 189, 178, 149, 213, 213, 169], 106) := by decide +kernel
theorem dX7_does_148 : decode cX7_does 148 = .ok (.aload_n 0, 1) := by decide +kernel
theorem dX7_does_149 : decode cX7_does 149 = .ok (.invokevirtual 84, 3) := by decide +kernel
theorem dX7_does_152 : decode cX7_does 152 = .ok (.istore 5, 2) := by decide +kernel
theorem dX7_does_154 : decode cX7_does 154 = .ok (.goto 108, 3) := by decide +kernel
theorem dX7_does_157 : decode cX7_does 157 = .ok (.aload_n 0, 1) := by decide +kernel
theorem dX7_does_158 : decode cX7_does 158 = .ok (.iload_n 2, 1) := by decide +kernel
theorem dX7_does_159 : decode cX7_does 159 = .ok (.iload_n 3, 1) := by decide +kernel
theorem dX7_does_160 : decode cX7_does 160 = .ok (.iload 4, 2) := by decide +kernel
theorem dX7_does_162 : decode cX7_does 162 = .ok (.invokevirtual 104, 3) := by decide +kernel
theorem dX7_does_165 : decode cX7_does 165 = .ok (.istore 5, 2) := by decide +kernel
theorem dX7_does_167 : decode cX7_does 167 = .ok (.goto 95, 3) := by decide +kernel
theorem dX7_does_170 : decode cX7_does 170 = .ok (.aload_n 0, 1) := by decide +kernel
theorem dX7_does_171 : decode cX7_does 171 = .ok (.iload_n 2, 1) := by decide +kernel
theorem dX7_does_172 : decode cX7_does 172 = .ok (.iload_n 3, 1) := by decide +kernel
theorem dX7_does_173 : decode cX7_does 173 = .ok (.invokevirtual 123, 3) := by decide +kernel
theorem dX7_does_176 : decode cX7_does 176 = .ok (.istore 5, 2) := by decide +kernel
theorem dX7_does_178 : decode cX7_does 178 = .ok (.goto 84, 3) := by decide +kernel
theorem dX7_does_181 : decode cX7_does 181 = .ok (.aload_n 0, 1) := by decide +kernel
theorem dX7_does_182 : decode cX7_does 182 = .ok (.iload_n 2, 1) := by decide +kernel
theorem dX7_does_183 : decode cX7_does 183 = .ok (.invokevirtual 130, 3) := by decide +kernel
theorem dX7_does_186 : decode cX7_does 186 = .ok (.istore 5, 2) := by decide +kernel
theorem dX7_does_188 : decode cX7_does 188 = .ok (.goto 74, 3) := by decide +kernel
theorem dX7_does_191 : decode cX7_does 191 = .ok (.aload_n 0, 1) := by decide +kernel
theorem dX7_does_192 : decode cX7_does 192 = .ok (.iload_n 2, 1) := by decide +kernel
theorem dX7_does_193 : decode cX7_does 193 = .ok (.iload_n 3, 1) := by decide +kernel
theorem dX7_does_194 : decode cX7_does 194 = .ok (.invokevirtual 137, 3) := by decide +kernel
theorem dX7_does_197 : decode cX7_does 197 = .ok (.istore 5, 2) := by decide +kernel
theorem dX7_does_199 : decode cX7_does 199 = .ok (.goto 63, 3) := by decide +kernel
theorem dX7_does_202 : decode cX7_does 202 = .ok (.aload_n 0, 1) := by decide +kernel
theorem dX7_does_203 : decode cX7_does 203 = .ok (.invokevirtual 140, 3) := by decide +kernel
theorem dX7_does_206 : decode cX7_does 206 = .ok (.istore 5, 2) := by decide +kernel
theorem dX7_does_208 : decode cX7_does 208 = .ok (.goto 54, 3) := by decide +kernel
theorem dX7_does_211 : decode cX7_does 211 = .ok (.aload_n 0, 1) := by decide +kernel
theorem dX7_does_212 : decode cX7_does 212 = .ok (.invokevirtual 143, 3) := by decide +kernel
theorem dX7_does_215 : decode cX7_does 215 = .ok (.istore 5, 2) := by decide +kernel
theorem dX7_does_217 : decode cX7_does 217 = .ok (.goto 45, 3) := by decide +kernel
theorem dX7_does_220 : decode cX7_does 220 = .ok (.aload_n 0, 1) := by decide +kernel
theorem dX7_does_221 : decode cX7_does 221 = .ok (.iload_n 2, 1) := by decide +kernel
theorem dX7_does_222 : decode cX7_does 222 = .ok (.iconst 1, 1) := by decide +kernel
theorem dX7_does_223 : decode cX7_does 223 = .ok (.invokevirtual 149, 3) := by decide +kernel
theorem dX7_does_226 : decode cX7_does 226 = .ok (.istore 5, 2) := by decide +kernel
theorem dX7_does_228 : decode cX7_does 228 = .ok (.goto 34, 3) := by decide +kernel
theorem dX7_does_231 : decode cX7_does 231 = .ok (.aload_n 0, 1) := by decide +kernel
theorem dX7_does_232 : decode cX7_does 232 = .ok (.iload_n 2, 1) := by decide +kernel
theorem dX7_does_233 : decode cX7_does 233 = .ok (.iconst 0, 1) := by decide +kernel
theorem dX7_does_234 : decode cX7_does 234 = .ok (.invokevirtual 149, 3) := by decide +kernel
theorem dX7_does_237 : decode cX7_does 237 = .ok (.istore 5, 2) := by decide +kernel
theorem dX7_does_239 : decode cX7_does 239 = .ok (.goto 23, 3) := by decide +kernel
theorem dX7_does_242 : decode cX7_does 242 = .ok (.aload_n 0, 1) := by decide +kernel
theorem dX7_does_243 : decode cX7_does 243 = .ok (.iload_n 2, 1) := by decide +kernel
theorem dX7_does_244 : decode cX7_does 244 = .ok (.iload_n 3, 1) := by decide +kernel
theorem dX7_does_245 : decode cX7_does 245 = .ok (.iload 4, 2) := by decide +kernel
theorem dX7_does_247 : decode cX7_does 247 = .ok (.invokevirtual 152, 3) := by decide +kernel
theorem dX7_does_250 : decode cX7_does 250 = .ok (.istore 5, 2) := by decide +kernel
theorem dX7_does_252 : decode cX7_does 252 = .ok (.goto 10, 3) := by decide +kernel
theorem dX7_does_255 : decode cX7_does 255 = .ok (.aload_n 0, 1) := by decide +kernel
theorem dX7_does_256 : decode cX7_does 256 = .ok (.iload_n 2, 1) := by decide +kernel
theorem dX7_does_257 : decode cX7_does 257 = .ok (.invokevirtual 155, 3) := by decide +kernel
theorem dX7_does_260 : decode cX7_does 260 = .ok (.istore 5, 2) := by decide +kernel
theorem dX7_does_262 : decode cX7_does 262 = .ok (.return_, 1) := by decide +kernel
theorem dX7_run_0 : decode cX7_run 0 = .ok (.aload_n 0, 1) := by decide +kernel
theorem dX7_run_1 : decode cX7_run 1 = .ok (.iconst 0, 1) := by decide +kernel
theorem dX7_run_2 : decode cX7_run 2 = .ok (.putfield 193, 3) := by decide +kernel
theorem dX7_run_5 : decode cX7_run 5 = .ok (.aload_n 0, 1) := by decide +kernel
theorem dX7_run_6 : decode cX7_run 6 = .ok (.iconst 0, 1) := by decide +kernel
theorem dX7_run_7 : decode cX7_run 7 = .ok (.putfield 190, 3) := by decide +kernel
theorem dX7_run_10 : decode cX7_run 10 = .ok (.aload_n 0, 1) := by decide +kernel
theorem dX7_run_11 : decode cX7_run 11 = .ok (.iconst 0, 1) := by decide +kernel
theorem dX7_run_12 : decode cX7_run 12 = .ok (.putfield 207, 3) := by decide +kernel
theorem dX7_run_15 : decode cX7_run 15 = .ok (.aload_n 0, 1) := by decide +kernel
theorem dX7_run_16 : decode cX7_run 16 = .ok (.invokevirtual 217, 3) := by decide +kernel
theorem dX7_run_19 : decode cX7_run 19 = .ok (.aload_n 0, 1) := by decide +kernel
theorem dX7_run_20 : decode cX7_run 20 = .ok (.bipush 59, 2) := by decide +kernel
theorem dX7_run_22 : decode cX7_run 22 = .ok (.bipush 59, 2) := by decide +kernel
theorem dX7_run_24 : decode cX7_run 24 = .ok (.invokevirtual 196, 3) := by decide +kernel
theorem dX7_run_27 : decode cX7_run 27 = .ok (.ifCond .eq 20, 3) := by decide +kernel
theorem dX7_run_30 : decode cX7_run 30 = .ok (.aload_n 0, 1) := by decide +kernel
theorem dX7_run_31 : decode cX7_run 31 = .ok (.dup, 1) := by decide +kernel
theorem dX7_run_32 : decode cX7_run 32 = .ok (.getfield 193, 3) := by decide +kernel
theorem dX7_run_35 : decode cX7_run 35 = .ok (.iconst 1, 1) := by decide +kernel
theorem dX7_run_36 : decode cX7_run 36 = .ok (.iadd, 1) := by decide +kernel
theorem dX7_run_37 : decode cX7_run 37 = .ok (.putfield 193, 3) := by decide +kernel
theorem dX7_run_40 : decode cX7_run 40 = .ok (.aload_n 0, 1) := by decide +kernel
theorem dX7_run_41 : decode cX7_run 41 = .ok (.invokevirtual 217, 3) := by decide +kernel
theorem dX7_run_44 : decode cX7_run 44 = .ok (.goto (-25), 3) := by decide +kernel
theorem dX7_run_47 : decode cX7_run 47 = .ok (.aload_n 0, 1) := by decide +kernel
theorem dX7_run_48 : decode cX7_run 48 = .ok (.aload_n 0, 1) := by decide +kernel
theorem dX7_run_49 : decode cX7_run 49 = .ok (.getfield 190, 3) := by decide +kernel
theorem dX7_run_52 : decode cX7_run 52 = .ok (.ifCond .ne 14, 3) := by decide +kernel
theorem dX7_run_55 : decode cX7_run 55 = .ok (.aload_n 0, 1) := by decide +kernel
theorem dX7_run_56 : decode cX7_run 56 = .ok (.getfield 193, 3) := by decide +kernel
theorem dX7_run_59 : decode cX7_run 59 = .ok (.aload_n 0, 1) := by decide +kernel
theorem dX7_run_60 : decode cX7_run 60 = .ok (.getfield 187, 3) := by decide +kernel
theorem dX7_run_63 : decode cX7_run 63 = .ok (.if_icmp .ge 7, 3) := by decide +kernel
theorem dX7_run_66 : decode cX7_run 66 = .ok (.iconst 1, 1) := by decide +kernel
theorem dX7_run_67 : decode cX7_run 67 = .ok (.goto 4, 3) := by decide +kernel
theorem dX7_run_70 : decode cX7_run 70 = .ok (.iconst 0, 1) := by decide +kernel
theorem dX7_run_71 : decode cX7_run 71 = .ok (.putfield 190, 3) := by decide +kernel
theorem dX7_run_74 : decode cX7_run 74 = .ok (.aload_n 0, 1) := by decide +kernel
theorem dX7_run_75 : decode cX7_run 75 = .ok (.aload_n 0, 1) := by decide +kernel
theorem dX7_run_76 : decode cX7_run 76 = .ok (.getfield 190, 3) := by decide +kernel
theorem dX7_run_79 : decode cX7_run 79 = .ok (.ifCond .eq 10, 3) := by decide +kernel
theorem dX7_run_82 : decode cX7_run 82 = .ok (.aload_n 0, 1) := by decide +kernel
theorem dX7_run_83 : decode cX7_run 83 = .ok (.getfield 193, 3) := by decide +kernel
theorem dX7_run_86 : decode cX7_run 86 = .ok (.goto 4, 3) := by decide +kernel
theorem dX7_run_89 : decode cX7_run 89 = .ok (.iconst (-1), 1) := by decide +kernel
theorem dX7_run_90 : decode cX7_run 90 = .ok (.putfield 29, 3) := by decide +kernel
theorem dX7_run_93 : decode cX7_run 93 = .ok (.aload_n 0, 1) := by decide +kernel
theorem dX7_run_94 : decode cX7_run 94 = .ok (.iconst 0, 1) := by decide +kernel
theorem dX7_run_95 : decode cX7_run 95 = .ok (.putfield 187, 3) := by decide +kernel
theorem dX7_run_98 : decode cX7_run 98 = .ok (.aload_n 0, 1) := by decide +kernel
theorem dX7_run_99 : decode cX7_run 99 = .ok (.getfield 190, 3) := by decide +kernel
theorem dX7_run_102 : decode cX7_run 102 = .ok (.ifCond .eq 9, 3) := by decide +kernel
theorem dX7_run_105 : decode cX7_run 105 = .ok (.aload_n 0, 1) := by decide +kernel
theorem dX7_run_106 : decode cX7_run 106 = .ok (.iconst 1, 1) := by decide +kernel
theorem dX7_run_107 : decode cX7_run 107 = .ok (.invokevirtual 98, 3) := by decide +kernel
theorem dX7_run_110 : decode cX7_run 110 = .ok (.ireturn, 1) := by decide +kernel
theorem dX7_run_111 : decode cX7_run 111 = .ok (.aload_n 0, 1) := by decide +kernel
theorem dX7_run_112 : decode cX7_run 112 = .ok (.invokevirtual 81, 3) := by decide +kernel
theorem dX7_run_115 : decode cX7_run 115 = .ok (.iconst 0, 1) := by decide +kernel
theorem dX7_run_116 : decode cX7_run 116 = .ok (.istore_n 1, 1) := by decide +kernel
theorem dX7_run_117 : decode cX7_run 117 = .ok (.iload_n 1, 1) := by decide +kernel
theorem dX7_run_118 : decode cX7_run 118 = .ok (.aload_n 0, 1) := by decide +kernel
theorem dX7_run_119 : decode cX7_run 119 = .ok (.getfield 207, 3) := by decide +kernel
theorem dX7_run_122 : decode cX7_run 122 = .ok (.if_icmp .ge 48, 3) := by decide +kernel
theorem dX7_run_125 : decode cX7_run 125 = .ok (.aload_n 0, 1) := by decide +kernel
theorem dX7_run_126 : decode cX7_run 126 = .ok (.iconst 0, 1) := by decide +kernel
theorem dX7_run_127 : decode cX7_run 127 = .ok (.putfield 48, 3) := by decide +kernel
theorem dX7_run_130 : decode cX7_run 130 = .ok (.aload_n 0, 1) := by decide +kernel
theorem dX7_run_131 : decode cX7_run 131 = .ok (.iload_n 1, 1) := by decide +kernel
theorem dX7_run_132 : decode cX7_run 132 = .ok (.invokevirtual 220, 3) := by decide +kernel
theorem dX7_run_135 : decode cX7_run 135 = .ok (.aload_n 0, 1) := by decide +kernel
theorem dX7_run_136 : decode cX7_run 136 = .ok (.getfield 36, 3) := by decide +kernel
theorem dX7_run_139 : decode cX7_run 139 = .ok (.ifCond .le 25, 3) := by decide +kernel
theorem dX7_run_142 : decode cX7_run 142 = .ok (.aload_n 0, 1) := by decide +kernel
theorem dX7_run_143 : decode cX7_run 143 = .ok (.aload_n 0, 1) := by decide +kernel
theorem dX7_run_144 : decode cX7_run 144 = .ok (.getfield 48, 3) := by decide +kernel
theorem dX7_run_147 : decode cX7_run 147 = .ok (.ifCond .eq 7, 3) := by decide +kernel
theorem dX7_run_150 : decode cX7_run 150 = .ok (.iconst 2, 1) := by decide +kernel
theorem dX7_run_151 : decode cX7_run 151 = .ok (.goto 4, 3) := by decide +kernel
theorem dX7_run_154 : decode cX7_run 154 = .ok (.iconst 1, 1) := by decide +kernel
theorem dX7_run_155 : decode cX7_run 155 = .ok (.putfield 36, 3) := by decide +kernel
theorem dX7_run_158 : decode cX7_run 158 = .ok (.aload_n 0, 1) := by decide +kernel
theorem dX7_run_159 : decode cX7_run 159 = .ok (.iconst 0, 1) := by decide +kernel
theorem dX7_run_160 : decode cX7_run 160 = .ok (.invokevirtual 88, 3) := by decide +kernel
theorem dX7_run_163 : decode cX7_run 163 = .ok (.ireturn, 1) := by decide +kernel
theorem dX7_run_164 : decode cX7_run 164 = .ok (.iinc 1 1, 3) := by decide +kernel
theorem dX7_run_167 : decode cX7_run 167 = .ok (.goto (-50), 3) := by decide +kernel
theorem dX7_run_170 : decode cX7_run 170 = .ok (.aload_n 0, 1) := by decide +kernel
theorem dX7_run_171 : decode cX7_run 171 = .ok (.aload_n 0, 1) := by decide +kernel
theorem dX7_run_172 : decode cX7_run 172 = .ok (.getfield 207, 3) := by decide +kernel
theorem dX7_run_175 : decode cX7_run 175 = .ok (.invokevirtual 88, 3) := by decide +kernel
theorem dX7_run_178 : decode cX7_run 178 = .ok (.ireturn, 1) := by decide +kernel
theorem dX7_errorPosition_0 : decode cX7_errorPosition 0 = .ok (.aload_n 0, 1) := by decide +kernel
theorem dX7_errorPosition_1 : decode cX7_errorPosition 1 = .ok (.iconst 0, 1) := by decide +kernel
theorem dX7_errorPosition_2 : decode cX7_errorPosition 2 = .ok (.putfield 36, 3) := by decide +kernel
theorem dX7_errorPosition_5 : decode cX7_errorPosition 5 = .ok (.aload_n 0, 1) := by decide +kernel
theorem dX7_errorPosition_6 : decode cX7_errorPosition 6 = .ok (.getfield 29, 3) := by decide +kernel
theorem dX7_errorPosition_9 : decode cX7_errorPosition 9 = .ok (.ireturn, 1) := by decide +kernel
theorem dX7_inDoubt_0 : decode cX7_inDoubt 0 = .ok (.iconst 0, 1) := by decide +kernel
theorem dX7_inDoubt_1 : decode cX7_inDoubt 1 = .ok (.istore_n 1, 1) := by decide +kernel
theorem dX7_inDoubt_2 : decode cX7_inDoubt 2 = .ok (.iconst 0, 1) := by decide +kernel
theorem dX7_inDoubt_3 : decode cX7_inDoubt 3 = .ok (.istore_n 2, 1) := by decide +kernel
theorem dX7_inDoubt_4 : decode cX7_inDoubt 4 = .ok (.iload_n 2, 1) := by decide +kernel
theorem dX7_inDoubt_5 : decode cX7_inDoubt 5 = .ok (.bipush 6, 2) := by decide +kernel
theorem dX7_inDoubt_7 : decode cX7_inDoubt 7 = .ok (.if_icmp .ge 25, 3) := by decide +kernel
theorem dX7_inDoubt_10 : decode cX7_inDoubt 10 = .ok (.iload_n 1, 1) := by decide +kernel
theorem dX7_inDoubt_11 : decode cX7_inDoubt 11 = .ok (.aload_n 0, 1) := by decide +kernel
theorem dX7_inDoubt_12 : decode cX7_inDoubt 12 = .ok (.iload_n 2, 1) := by decide +kernel
theorem dX7_inDoubt_13 : decode cX7_inDoubt 13 = .ok (.invokevirtual 107, 3) := by decide +kernel
theorem dX7_inDoubt_16 : decode cX7_inDoubt 16 = .ok (.ifCond .ge 7, 3) := by decide +kernel
theorem dX7_inDoubt_19 : decode cX7_inDoubt 19 = .ok (.iconst 0, 1) := by decide +kernel
theorem dX7_inDoubt_20 : decode cX7_inDoubt 20 = .ok (.goto 4, 3) := by decide +kernel
theorem dX7_inDoubt_23 : decode cX7_inDoubt 23 = .ok (.iconst 1, 1) := by decide +kernel
theorem dX7_inDoubt_24 : decode cX7_inDoubt 24 = .ok (.iadd, 1) := by decide +kernel
theorem dX7_inDoubt_25 : decode cX7_inDoubt 25 = .ok (.istore_n 1, 1) := by decide +kernel
theorem dX7_inDoubt_26 : decode cX7_inDoubt 26 = .ok (.iinc 2 1, 3) := by decide +kernel
theorem dX7_inDoubt_29 : decode cX7_inDoubt 29 = .ok (.goto (-25), 3) := by decide +kernel
theorem dX7_inDoubt_32 : decode cX7_inDoubt 32 = .ok (.iload_n 1, 1) := by decide +kernel
theorem dX7_inDoubt_33 : decode cX7_inDoubt 33 = .ok (.ireturn, 1) := by decide +kernel
theorem dX7_hoursOfDoubt_0 : decode cX7_hoursOfDoubt 0 = .ok (.iconst 0, 1) := by decide +kernel
theorem dX7_hoursOfDoubt_1 : decode cX7_hoursOfDoubt 1 = .ok (.istore_n 1, 1) := by decide +kernel
theorem dX7_hoursOfDoubt_2 : decode cX7_hoursOfDoubt 2 = .ok (.iconst 0, 1) := by decide +kernel
theorem dX7_hoursOfDoubt_3 : decode cX7_hoursOfDoubt 3 = .ok (.istore_n 2, 1) := by decide +kernel
theorem dX7_hoursOfDoubt_4 : decode cX7_hoursOfDoubt 4 = .ok (.iload_n 2, 1) := by decide +kernel
theorem dX7_hoursOfDoubt_5 : decode cX7_hoursOfDoubt 5 = .ok (.bipush 6, 2) := by decide +kernel
theorem dX7_hoursOfDoubt_7 : decode cX7_hoursOfDoubt 7 = .ok (.if_icmp .ge 21, 3) := by decide +kernel
theorem dX7_hoursOfDoubt_10 : decode cX7_hoursOfDoubt 10 = .ok (.iload_n 1, 1) := by decide +kernel
theorem dX7_hoursOfDoubt_11 : decode cX7_hoursOfDoubt 11 = .ok (.aload_n 0, 1) := by decide +kernel
theorem dX7_hoursOfDoubt_12 : decode cX7_hoursOfDoubt 12 = .ok (.getfield 9, 3) := by decide +kernel
theorem dX7_hoursOfDoubt_15 : decode cX7_hoursOfDoubt 15 = .ok (.bipush 18, 2) := by decide +kernel
theorem dX7_hoursOfDoubt_17 : decode cX7_hoursOfDoubt 17 = .ok (.iload_n 2, 1) := by decide +kernel
theorem dX7_hoursOfDoubt_18 : decode cX7_hoursOfDoubt 18 = .ok (.iadd, 1) := by decide +kernel
theorem dX7_hoursOfDoubt_19 : decode cX7_hoursOfDoubt 19 = .ok (.iaload, 1) := by decide +kernel
theorem dX7_hoursOfDoubt_20 : decode cX7_hoursOfDoubt 20 = .ok (.iadd, 1) := by decide +kernel
theorem dX7_hoursOfDoubt_21 : decode cX7_hoursOfDoubt 21 = .ok (.istore_n 1, 1) := by decide +kernel
theorem dX7_hoursOfDoubt_22 : decode cX7_hoursOfDoubt 22 = .ok (.iinc 2 1, 3) := by decide +kernel
theorem dX7_hoursOfDoubt_25 : decode cX7_hoursOfDoubt 25 = .ok (.goto (-21), 3) := by decide +kernel
theorem dX7_hoursOfDoubt_28 : decode cX7_hoursOfDoubt 28 = .ok (.iload_n 1, 1) := by decide +kernel
theorem dX7_hoursOfDoubt_29 : decode cX7_hoursOfDoubt 29 = .ok (.ireturn, 1) := by decide +kernel
theorem dX7_heard_0 : decode cX7_heard 0 = .ok (.iconst 0, 1) := by decide +kernel
theorem dX7_heard_1 : decode cX7_heard 1 = .ok (.istore_n 1, 1) := by decide +kernel
theorem dX7_heard_2 : decode cX7_heard 2 = .ok (.iconst 0, 1) := by decide +kernel
theorem dX7_heard_3 : decode cX7_heard 3 = .ok (.istore_n 2, 1) := by decide +kernel
theorem dX7_heard_4 : decode cX7_heard 4 = .ok (.iload_n 2, 1) := by decide +kernel
theorem dX7_heard_5 : decode cX7_heard 5 = .ok (.aload_n 0, 1) := by decide +kernel
theorem dX7_heard_6 : decode cX7_heard 6 = .ok (.getfield 9, 3) := by decide +kernel
theorem dX7_heard_9 : decode cX7_heard 9 = .ok (.iconst 0, 1) := by decide +kernel
theorem dX7_heard_10 : decode cX7_heard 10 = .ok (.iaload, 1) := by decide +kernel
theorem dX7_heard_11 : decode cX7_heard 11 = .ok (.if_icmp .ge 40, 3) := by decide +kernel
theorem dX7_heard_14 : decode cX7_heard 14 = .ok (.aload_n 0, 1) := by decide +kernel
theorem dX7_heard_15 : decode cX7_heard 15 = .ok (.iload_n 2, 1) := by decide +kernel
theorem dX7_heard_16 : decode cX7_heard 16 = .ok (.iconst 0, 1) := by decide +kernel
theorem dX7_heard_17 : decode cX7_heard 17 = .ok (.iconst 4, 1) := by decide +kernel
theorem dX7_heard_18 : decode cX7_heard 18 = .ok (.invokevirtual 101, 3) := by decide +kernel
theorem dX7_heard_21 : decode cX7_heard 21 = .ok (.istore_n 3, 1) := by decide +kernel
theorem dX7_heard_22 : decode cX7_heard 22 = .ok (.iload_n 1, 1) := by decide +kernel
theorem dX7_heard_23 : decode cX7_heard 23 = .ok (.iload_n 3, 1) := by decide +kernel
theorem dX7_heard_24 : decode cX7_heard 24 = .ok (.ifCond .le 18, 3) := by decide +kernel
theorem dX7_heard_27 : decode cX7_heard 27 = .ok (.aload_n 0, 1) := by decide +kernel
theorem dX7_heard_28 : decode cX7_heard 28 = .ok (.iload_n 2, 1) := by decide +kernel
theorem dX7_heard_29 : decode cX7_heard 29 = .ok (.iconst 3, 1) := by decide +kernel
theorem dX7_heard_30 : decode cX7_heard 30 = .ok (.iconst 4, 1) := by decide +kernel
theorem dX7_heard_31 : decode cX7_heard 31 = .ok (.invokevirtual 101, 3) := by decide +kernel
theorem dX7_heard_34 : decode cX7_heard 34 = .ok (.iload_n 3, 1) := by decide +kernel
theorem dX7_heard_35 : decode cX7_heard 35 = .ok (.if_icmp .ne 7, 3) := by decide +kernel
theorem dX7_heard_38 : decode cX7_heard 38 = .ok (.iconst 1, 1) := by decide +kernel
theorem dX7_heard_39 : decode cX7_heard 39 = .ok (.goto 4, 3) := by decide +kernel
theorem dX7_heard_42 : decode cX7_heard 42 = .ok (.iconst 0, 1) := by decide +kernel
theorem dX7_heard_43 : decode cX7_heard 43 = .ok (.iadd, 1) := by decide +kernel
theorem dX7_heard_44 : decode cX7_heard 44 = .ok (.istore_n 1, 1) := by decide +kernel
theorem dX7_heard_45 : decode cX7_heard 45 = .ok (.iinc 2 1, 3) := by decide +kernel
theorem dX7_heard_48 : decode cX7_heard 48 = .ok (.goto (-44), 3) := by decide +kernel
theorem dX7_heard_51 : decode cX7_heard 51 = .ok (.iload_n 1, 1) := by decide +kernel
theorem dX7_heard_52 : decode cX7_heard 52 = .ok (.ireturn, 1) := by decide +kernel
theorem dX7_account_0 : decode cX7_account 0 = .ok (.aload_n 0, 1) := by decide +kernel
theorem dX7_account_1 : decode cX7_account 1 = .ok (.iload_n 1, 1) := by decide +kernel
theorem dX7_account_2 : decode cX7_account 2 = .ok (.iconst 0, 1) := by decide +kernel
theorem dX7_account_3 : decode cX7_account 3 = .ok (.bipush 12, 2) := by decide +kernel
theorem dX7_account_5 : decode cX7_account 5 = .ok (.invokestatic 58, 3) := by decide +kernel
theorem dX7_account_8 : decode cX7_account 8 = .ok (.ifCond .eq 7, 3) := by decide +kernel
theorem dX7_account_11 : decode cX7_account 11 = .ok (.iconst 0, 1) := by decide +kernel
theorem dX7_account_12 : decode cX7_account 12 = .ok (.goto 4, 3) := by decide +kernel
theorem dX7_account_15 : decode cX7_account 15 = .ok (.iconst 1, 1) := by decide +kernel
theorem dX7_account_16 : decode cX7_account 16 = .ok (.putfield 36, 3) := by decide +kernel
theorem dX7_account_19 : decode cX7_account 19 = .ok (.aload_n 0, 1) := by decide +kernel
theorem dX7_account_20 : decode cX7_account 20 = .ok (.getfield 36, 3) := by decide +kernel
theorem dX7_account_23 : decode cX7_account 23 = .ok (.ifCond .le 5, 3) := by decide +kernel
theorem dX7_account_26 : decode cX7_account 26 = .ok (.iconst 0, 1) := by decide +kernel
theorem dX7_account_27 : decode cX7_account 27 = .ok (.ireturn, 1) := by decide +kernel
theorem dX7_account_28 : decode cX7_account 28 = .ok (.iload_n 1, 1) := by decide +kernel
theorem dX7_account_29 : decode cX7_account 29 = .ok (.tableswitch 124 0 11 #[63, 70, 70, 70, 78, 83, 88, 95, 100, 107, 114, 119], 63) := by decide +kernel
theorem dX7_account_92 : decode cX7_account 92 = .ok (.aload_n 0, 1) := by decide +kernel
theorem dX7_account_93 : decode cX7_account 93 = .ok (.getfield 9, 3) := by decide +kernel
theorem dX7_account_96 : decode cX7_account 96 = .ok (.iconst 0, 1) := by decide +kernel
theorem dX7_account_97 : decode cX7_account 97 = .ok (.iaload, 1) := by decide +kernel
theorem dX7_account_98 : decode cX7_account 98 = .ok (.ireturn, 1) := by decide +kernel
theorem dX7_account_99 : decode cX7_account 99 = .ok (.aload_n 0, 1) := by decide +kernel
theorem dX7_account_100 : decode cX7_account 100 = .ok (.iload_n 1, 1) := by decide +kernel
theorem dX7_account_101 : decode cX7_account 101 = .ok (.iconst 1, 1) := by decide +kernel
theorem dX7_account_102 : decode cX7_account 102 = .ok (.isub, 1) := by decide +kernel
theorem dX7_account_103 : decode cX7_account 103 = .ok (.invokevirtual 110, 3) := by decide +kernel
theorem dX7_account_106 : decode cX7_account 106 = .ok (.ireturn, 1) := by decide +kernel
theorem dX7_account_107 : decode cX7_account 107 = .ok (.aload_n 0, 1) := by decide +kernel
theorem dX7_account_108 : decode cX7_account 108 = .ok (.invokevirtual 146, 3) := by decide +kernel
theorem dX7_account_111 : decode cX7_account 111 = .ok (.ireturn, 1) := by decide +kernel
theorem dX7_account_112 : decode cX7_account 112 = .ok (.aload_n 0, 1) := by decide +kernel
theorem dX7_account_113 : decode cX7_account 113 = .ok (.invokevirtual 223, 3) := by decide +kernel
theorem dX7_account_116 : decode cX7_account 116 = .ok (.ireturn, 1) := by decide +kernel
theorem dX7_account_117 : decode cX7_account 117 = .ok (.aload_n 0, 1) := by decide +kernel
theorem dX7_account_118 : decode cX7_account 118 = .ok (.getfield 9, 3) := by decide +kernel
theorem dX7_account_121 : decode cX7_account 121 = .ok (.iconst 2, 1) := by decide +kernel
theorem dX7_account_122 : decode cX7_account 122 = .ok (.iaload, 1) := by decide +kernel
theorem dX7_account_123 : decode cX7_account 123 = .ok (.ireturn, 1) := by decide +kernel
theorem dX7_account_124 : decode cX7_account 124 = .ok (.aload_n 0, 1) := by decide +kernel
theorem dX7_account_125 : decode cX7_account 125 = .ok (.invokevirtual 226, 3) := by decide +kernel
theorem dX7_account_128 : decode cX7_account 128 = .ok (.ireturn, 1) := by decide +kernel
theorem dX7_account_129 : decode cX7_account 129 = .ok (.aload_n 0, 1) := by decide +kernel
theorem dX7_account_130 : decode cX7_account 130 = .ok (.getfield 9, 3) := by decide +kernel
theorem dX7_account_133 : decode cX7_account 133 = .ok (.iconst 3, 1) := by decide +kernel
theorem dX7_account_134 : decode cX7_account 134 = .ok (.iaload, 1) := by decide +kernel
theorem dX7_account_135 : decode cX7_account 135 = .ok (.ireturn, 1) := by decide +kernel
theorem dX7_account_136 : decode cX7_account 136 = .ok (.aload_n 0, 1) := by decide +kernel
theorem dX7_account_137 : decode cX7_account 137 = .ok (.getfield 9, 3) := by decide +kernel
theorem dX7_account_140 : decode cX7_account 140 = .ok (.iconst 4, 1) := by decide +kernel
theorem dX7_account_141 : decode cX7_account 141 = .ok (.iaload, 1) := by decide +kernel
theorem dX7_account_142 : decode cX7_account 142 = .ok (.ireturn, 1) := by decide +kernel
theorem dX7_account_143 : decode cX7_account 143 = .ok (.aload_n 0, 1) := by decide +kernel
theorem dX7_account_144 : decode cX7_account 144 = .ok (.invokevirtual 229, 3) := by decide +kernel
theorem dX7_account_147 : decode cX7_account 147 = .ok (.ireturn, 1) := by decide +kernel
theorem dX7_account_148 : decode cX7_account 148 = .ok (.aload_n 0, 1) := by decide +kernel
theorem dX7_account_149 : decode cX7_account 149 = .ok (.getfield 187, 3) := by decide +kernel
theorem dX7_account_152 : decode cX7_account 152 = .ok (.ireturn, 1) := by decide +kernel
theorem dX7_account_153 : decode cX7_account 153 = .ok (.aload_n 0, 1) := by decide +kernel
theorem dX7_account_154 : decode cX7_account 154 = .ok (.getfield 45, 3) := by decide +kernel
theorem dX7_account_157 : decode cX7_account 157 = .ok (.ireturn, 1) := by decide +kernel
theorem dX7_isWell_0 : decode cX7_isWell 0 = .ok (.aload_n 0, 1) := by decide +kernel
theorem dX7_isWell_1 : decode cX7_isWell 1 = .ok (.iconst 0, 1) := by decide +kernel
theorem dX7_isWell_2 : decode cX7_isWell 2 = .ok (.putfield 36, 3) := by decide +kernel
theorem dX7_isWell_5 : decode cX7_isWell 5 = .ok (.bipush 120, 2) := by decide +kernel
theorem dX7_isWell_7 : decode cX7_isWell 7 = .ok (.istore_n 1, 1) := by decide +kernel
theorem dX7_isWell_8 : decode cX7_isWell 8 = .ok (.iconst 1, 1) := by decide +kernel
theorem dX7_isWell_9 : decode cX7_isWell 9 = .ok (.istore_n 2, 1) := by decide +kernel
theorem dX7_isWell_10 : decode cX7_isWell 10 = .ok (.iconst 0, 1) := by decide +kernel
theorem dX7_isWell_11 : decode cX7_isWell 11 = .ok (.istore_n 3, 1) := by decide +kernel
theorem dX7_isWell_12 : decode cX7_isWell 12 = .ok (.iload_n 3, 1) := by decide +kernel
theorem dX7_isWell_13 : decode cX7_isWell 13 = .ok (.aload_n 0, 1) := by decide +kernel
theorem dX7_isWell_14 : decode cX7_isWell 14 = .ok (.getfield 9, 3) := by decide +kernel
theorem dX7_isWell_17 : decode cX7_isWell 17 = .ok (.iconst 0, 1) := by decide +kernel
theorem dX7_isWell_18 : decode cX7_isWell 18 = .ok (.iaload, 1) := by decide +kernel
theorem dX7_isWell_19 : decode cX7_isWell 19 = .ok (.if_icmp .ge 90, 3) := by decide +kernel
theorem dX7_isWell_22 : decode cX7_isWell 22 = .ok (.iload_n 2, 1) := by decide +kernel
theorem dX7_isWell_23 : decode cX7_isWell 23 = .ok (.ifCond .eq 27, 3) := by decide +kernel
theorem dX7_isWell_26 : decode cX7_isWell 26 = .ok (.aload_n 0, 1) := by decide +kernel
theorem dX7_isWell_27 : decode cX7_isWell 27 = .ok (.iload_n 3, 1) := by decide +kernel
theorem dX7_isWell_28 : decode cX7_isWell 28 = .ok (.iconst 3, 1) := by decide +kernel
theorem dX7_isWell_29 : decode cX7_isWell 29 = .ok (.iconst 3, 1) := by decide +kernel
theorem dX7_isWell_30 : decode cX7_isWell 30 = .ok (.invokevirtual 101, 3) := by decide +kernel
theorem dX7_isWell_33 : decode cX7_isWell 33 = .ok (.ifCond .eq 13, 3) := by decide +kernel
theorem dX7_isWell_36 : decode cX7_isWell 36 = .ok (.aload_n 0, 1) := by decide +kernel
theorem dX7_isWell_37 : decode cX7_isWell 37 = .ok (.iload_n 3, 1) := by decide +kernel
theorem dX7_isWell_38 : decode cX7_isWell 38 = .ok (.iconst 4, 1) := by decide +kernel
theorem dX7_isWell_39 : decode cX7_isWell 39 = .ok (.iconst 4, 1) := by decide +kernel
theorem dX7_isWell_40 : decode cX7_isWell 40 = .ok (.invokevirtual 101, 3) := by decide +kernel
theorem dX7_isWell_43 : decode cX7_isWell 43 = .ok (.ifCond .ne 7, 3) := by decide +kernel
theorem dX7_isWell_46 : decode cX7_isWell 46 = .ok (.iconst 1, 1) := by decide +kernel
theorem dX7_isWell_47 : decode cX7_isWell 47 = .ok (.goto 4, 3) := by decide +kernel
theorem dX7_isWell_50 : decode cX7_isWell 50 = .ok (.iconst 0, 1) := by decide +kernel
theorem dX7_isWell_51 : decode cX7_isWell 51 = .ok (.istore_n 2, 1) := by decide +kernel
theorem dX7_isWell_52 : decode cX7_isWell 52 = .ok (.iconst 0, 1) := by decide +kernel
theorem dX7_isWell_53 : decode cX7_isWell 53 = .ok (.istore 4, 2) := by decide +kernel
theorem dX7_isWell_55 : decode cX7_isWell 55 = .ok (.iload 4, 2) := by decide +kernel
theorem dX7_isWell_57 : decode cX7_isWell 57 = .ok (.bipush 6, 2) := by decide +kernel
theorem dX7_isWell_59 : decode cX7_isWell 59 = .ok (.if_icmp .ge 44, 3) := by decide +kernel
theorem dX7_isWell_62 : decode cX7_isWell 62 = .ok (.iload_n 1, 1) := by decide +kernel
theorem dX7_isWell_63 : decode cX7_isWell 63 = .ok (.aload_n 0, 1) := by decide +kernel
theorem dX7_isWell_64 : decode cX7_isWell 64 = .ok (.iload_n 3, 1) := by decide +kernel
theorem dX7_isWell_65 : decode cX7_isWell 65 = .ok (.iload 4, 2) := by decide +kernel
theorem dX7_isWell_67 : decode cX7_isWell 67 = .ok (.invokevirtual 66, 3) := by decide +kernel
theorem dX7_isWell_70 : decode cX7_isWell 70 = .ok (.ifCond .eq 24, 3) := by decide +kernel
theorem dX7_isWell_73 : decode cX7_isWell 73 = .ok (.aload_n 0, 1) := by decide +kernel
theorem dX7_isWell_74 : decode cX7_isWell 74 = .ok (.iload_n 3, 1) := by decide +kernel
theorem dX7_isWell_75 : decode cX7_isWell 75 = .ok (.iload 4, 2) := by decide +kernel
theorem dX7_isWell_77 : decode cX7_isWell 77 = .ok (.invokevirtual 70, 3) := by decide +kernel
theorem dX7_isWell_80 : decode cX7_isWell 80 = .ok (.iconst 3, 1) := by decide +kernel
theorem dX7_isWell_81 : decode cX7_isWell 81 = .ok (.if_icmp .ne 13, 3) := by decide +kernel
theorem dX7_isWell_84 : decode cX7_isWell 84 = .ok (.aload_n 0, 1) := by decide +kernel
theorem dX7_isWell_85 : decode cX7_isWell 85 = .ok (.iload_n 3, 1) := by decide +kernel
theorem dX7_isWell_86 : decode cX7_isWell 86 = .ok (.iload 4, 2) := by decide +kernel
theorem dX7_isWell_88 : decode cX7_isWell 88 = .ok (.invokevirtual 62, 3) := by decide +kernel
theorem dX7_isWell_91 : decode cX7_isWell 91 = .ok (.goto 4, 3) := by decide +kernel
theorem dX7_isWell_94 : decode cX7_isWell 94 = .ok (.iconst 0, 1) := by decide +kernel
theorem dX7_isWell_95 : decode cX7_isWell 95 = .ok (.iadd, 1) := by decide +kernel
theorem dX7_isWell_96 : decode cX7_isWell 96 = .ok (.istore_n 1, 1) := by decide +kernel
theorem dX7_isWell_97 : decode cX7_isWell 97 = .ok (.iinc 4 1, 3) := by decide +kernel
theorem dX7_isWell_100 : decode cX7_isWell 100 = .ok (.goto (-45), 3) := by decide +kernel
theorem dX7_isWell_103 : decode cX7_isWell 103 = .ok (.iinc 3 1, 3) := by decide +kernel
theorem dX7_isWell_106 : decode cX7_isWell 106 = .ok (.goto (-94), 3) := by decide +kernel
theorem dX7_isWell_109 : decode cX7_isWell 109 = .ok (.iload_n 2, 1) := by decide +kernel
theorem dX7_isWell_110 : decode cX7_isWell 110 = .ok (.ifCond .eq 15, 3) := by decide +kernel
theorem dX7_isWell_113 : decode cX7_isWell 113 = .ok (.iload_n 1, 1) := by decide +kernel
theorem dX7_isWell_114 : decode cX7_isWell 114 = .ok (.aload_n 0, 1) := by decide +kernel
theorem dX7_isWell_115 : decode cX7_isWell 115 = .ok (.invokevirtual 158, 3) := by decide +kernel
theorem dX7_isWell_118 : decode cX7_isWell 118 = .ok (.if_icmp .ne 7, 3) := by decide +kernel
theorem dX7_isWell_121 : decode cX7_isWell 121 = .ok (.iconst 1, 1) := by decide +kernel
theorem dX7_isWell_122 : decode cX7_isWell 122 = .ok (.goto 4, 3) := by decide +kernel
theorem dX7_isWell_125 : decode cX7_isWell 125 = .ok (.iconst 0, 1) := by decide +kernel
theorem dX7_isWell_126 : decode cX7_isWell 126 = .ok (.ireturn, 1) := by decide +kernel
theorem dX7_meanDoubt_0 : decode cX7_meanDoubt 0 = .ok (.aload_n 0, 1) := by decide +kernel
theorem dX7_meanDoubt_1 : decode cX7_meanDoubt 1 = .ok (.iconst 0, 1) := by decide +kernel
theorem dX7_meanDoubt_2 : decode cX7_meanDoubt 2 = .ok (.putfield 36, 3) := by decide +kernel
theorem dX7_meanDoubt_5 : decode cX7_meanDoubt 5 = .ok (.aload_n 0, 1) := by decide +kernel
theorem dX7_meanDoubt_6 : decode cX7_meanDoubt 6 = .ok (.invokevirtual 226, 3) := by decide +kernel
theorem dX7_meanDoubt_9 : decode cX7_meanDoubt 9 = .ok (.i2d, 1) := by decide +kernel
theorem dX7_meanDoubt_10 : decode cX7_meanDoubt 10 = .ok (.ldc2_w 232, 3) := by decide +kernel
theorem dX7_meanDoubt_13 : decode cX7_meanDoubt 13 = .ok (.ddiv, 1) := by decide +kernel
theorem dX7_meanDoubt_14 : decode cX7_meanDoubt 14 = .ok (.dreturn, 1) := by decide +kernel
theorem dX7_sealedShare_0 : decode cX7_sealedShare 0 = .ok (.aload_n 0, 1) := by decide +kernel
theorem dX7_sealedShare_1 : decode cX7_sealedShare 1 = .ok (.aload_n 0, 1) := by decide +kernel
theorem dX7_sealedShare_2 : decode cX7_sealedShare 2 = .ok (.getfield 9, 3) := by decide +kernel
theorem dX7_sealedShare_5 : decode cX7_sealedShare 5 = .ok (.iconst 5, 1) := by decide +kernel
theorem dX7_sealedShare_6 : decode cX7_sealedShare 6 = .ok (.iaload, 1) := by decide +kernel
theorem dX7_sealedShare_7 : decode cX7_sealedShare 7 = .ok (.ifCond .ne 7, 3) := by decide +kernel
theorem dX7_sealedShare_10 : decode cX7_sealedShare 10 = .ok (.iconst 1, 1) := by decide +kernel
theorem dX7_sealedShare_11 : decode cX7_sealedShare 11 = .ok (.goto 4, 3) := by decide +kernel
theorem dX7_sealedShare_14 : decode cX7_sealedShare 14 = .ok (.iconst 0, 1) := by decide +kernel
theorem dX7_sealedShare_15 : decode cX7_sealedShare 15 = .ok (.putfield 36, 3) := by decide +kernel
theorem dX7_sealedShare_18 : decode cX7_sealedShare 18 = .ok (.aload_n 0, 1) := by decide +kernel
theorem dX7_sealedShare_19 : decode cX7_sealedShare 19 = .ok (.getfield 36, 3) := by decide +kernel
theorem dX7_sealedShare_22 : decode cX7_sealedShare 22 = .ok (.ifCond .le 7, 3) := by decide +kernel
theorem dX7_sealedShare_25 : decode cX7_sealedShare 25 = .ok (.fconst 0, 1) := by decide +kernel
theorem dX7_sealedShare_26 : decode cX7_sealedShare 26 = .ok (.goto 17, 3) := by decide +kernel
theorem dX7_sealedShare_29 : decode cX7_sealedShare 29 = .ok (.aload_n 0, 1) := by decide +kernel
theorem dX7_sealedShare_30 : decode cX7_sealedShare 30 = .ok (.iconst 1, 1) := by decide +kernel
theorem dX7_sealedShare_31 : decode cX7_sealedShare 31 = .ok (.invokevirtual 110, 3) := by decide +kernel
theorem dX7_sealedShare_34 : decode cX7_sealedShare 34 = .ok (.i2f, 1) := by decide +kernel
theorem dX7_sealedShare_35 : decode cX7_sealedShare 35 = .ok (.aload_n 0, 1) := by decide +kernel
theorem dX7_sealedShare_36 : decode cX7_sealedShare 36 = .ok (.getfield 9, 3) := by decide +kernel
theorem dX7_sealedShare_39 : decode cX7_sealedShare 39 = .ok (.iconst 5, 1) := by decide +kernel
theorem dX7_sealedShare_40 : decode cX7_sealedShare 40 = .ok (.iaload, 1) := by decide +kernel
theorem dX7_sealedShare_41 : decode cX7_sealedShare 41 = .ok (.i2f, 1) := by decide +kernel
theorem dX7_sealedShare_42 : decode cX7_sealedShare 42 = .ok (.fdiv, 1) := by decide +kernel
theorem dX7_sealedShare_43 : decode cX7_sealedShare 43 = .ok (.freturn, 1) := by decide +kernel
theorem dX7_undo_0 : decode cX7_undo 0 = .ok (.aload_n 0, 1) := by decide +kernel
theorem dX7_undo_1 : decode cX7_undo 1 = .ok (.aload_n 0, 1) := by decide +kernel
theorem dX7_undo_2 : decode cX7_undo 2 = .ok (.getfield 45, 3) := by decide +kernel
theorem dX7_undo_5 : decode cX7_undo 5 = .ok (.ifCond .ne 7, 3) := by decide +kernel
theorem dX7_undo_8 : decode cX7_undo 8 = .ok (.iconst 1, 1) := by decide +kernel
theorem dX7_undo_9 : decode cX7_undo 9 = .ok (.goto 4, 3) := by decide +kernel
theorem dX7_undo_12 : decode cX7_undo 12 = .ok (.iconst 0, 1) := by decide +kernel
theorem dX7_undo_13 : decode cX7_undo 13 = .ok (.putfield 36, 3) := by decide +kernel
theorem dX7_undo_16 : decode cX7_undo 16 = .ok (.aload_n 0, 1) := by decide +kernel
theorem dX7_undo_17 : decode cX7_undo 17 = .ok (.getfield 36, 3) := by decide +kernel
theorem dX7_undo_20 : decode cX7_undo 20 = .ok (.ifCond .le 5, 3) := by decide +kernel
theorem dX7_undo_23 : decode cX7_undo 23 = .ok (.iconst 0, 1) := by decide +kernel
theorem dX7_undo_24 : decode cX7_undo 24 = .ok (.ireturn, 1) := by decide +kernel
theorem dX7_undo_25 : decode cX7_undo 25 = .ok (.aload_n 0, 1) := by decide +kernel
theorem dX7_undo_26 : decode cX7_undo 26 = .ok (.dup, 1) := by decide +kernel
theorem dX7_undo_27 : decode cX7_undo 27 = .ok (.getfield 45, 3) := by decide +kernel
theorem dX7_undo_30 : decode cX7_undo 30 = .ok (.iconst 1, 1) := by decide +kernel
theorem dX7_undo_31 : decode cX7_undo 31 = .ok (.isub, 1) := by decide +kernel
theorem dX7_undo_32 : decode cX7_undo 32 = .ok (.putfield 45, 3) := by decide +kernel
theorem dX7_undo_35 : decode cX7_undo 35 = .ok (.aload_n 0, 1) := by decide +kernel
theorem dX7_undo_36 : decode cX7_undo 36 = .ok (.getfield 19, 3) := by decide +kernel
theorem dX7_undo_39 : decode cX7_undo 39 = .ok (.sipush 144, 3) := by decide +kernel
theorem dX7_undo_42 : decode cX7_undo 42 = .ok (.aload_n 0, 1) := by decide +kernel
theorem dX7_undo_43 : decode cX7_undo 43 = .ok (.getfield 45, 3) := by decide +kernel
theorem dX7_undo_46 : decode cX7_undo 46 = .ok (.imul, 1) := by decide +kernel
theorem dX7_undo_47 : decode cX7_undo 47 = .ok (.aload_n 0, 1) := by decide +kernel
theorem dX7_undo_48 : decode cX7_undo 48 = .ok (.getfield 9, 3) := by decide +kernel
theorem dX7_undo_51 : decode cX7_undo 51 = .ok (.iconst 0, 1) := by decide +kernel
theorem dX7_undo_52 : decode cX7_undo 52 = .ok (.sipush 144, 3) := by decide +kernel
theorem dX7_undo_55 : decode cX7_undo 55 = .ok (.invokestatic 39, 3) := by decide +kernel
theorem dX7_undo_58 : decode cX7_undo 58 = .ok (.aload_n 0, 1) := by decide +kernel
theorem dX7_undo_59 : decode cX7_undo 59 = .ok (.getfield 45, 3) := by decide +kernel
theorem dX7_undo_62 : decode cX7_undo 62 = .ok (.ireturn, 1) := by decide +kernel
theorem dX7_save_0 : decode cX7_save 0 = .ok (.aload_n 0, 1) := by decide +kernel
theorem dX7_save_1 : decode cX7_save 1 = .ok (.iconst 0, 1) := by decide +kernel
theorem dX7_save_2 : decode cX7_save 2 = .ok (.putfield 36, 3) := by decide +kernel
theorem dX7_save_5 : decode cX7_save 5 = .ok (.aload_n 0, 1) := by decide +kernel
theorem dX7_save_6 : decode cX7_save 6 = .ok (.getfield 9, 3) := by decide +kernel
theorem dX7_save_9 : decode cX7_save 9 = .ok (.iconst 0, 1) := by decide +kernel
theorem dX7_save_10 : decode cX7_save 10 = .ok (.aload_n 0, 1) := by decide +kernel
theorem dX7_save_11 : decode cX7_save 11 = .ok (.getfield 16, 3) := by decide +kernel
theorem dX7_save_14 : decode cX7_save 14 = .ok (.iconst 0, 1) := by decide +kernel
theorem dX7_save_15 : decode cX7_save 15 = .ok (.sipush 144, 3) := by decide +kernel
theorem dX7_save_18 : decode cX7_save 18 = .ok (.invokestatic 39, 3) := by decide +kernel
theorem dX7_save_21 : decode cX7_save 21 = .ok (.aload_n 0, 1) := by decide +kernel
theorem dX7_save_22 : decode cX7_save 22 = .ok (.iconst 1, 1) := by decide +kernel
theorem dX7_save_23 : decode cX7_save 23 = .ok (.putfield 234, 3) := by decide +kernel
theorem dX7_save_26 : decode cX7_save 26 = .ok (.aload_n 0, 1) := by decide +kernel
theorem dX7_save_27 : decode cX7_save 27 = .ok (.getfield 9, 3) := by decide +kernel
theorem dX7_save_30 : decode cX7_save 30 = .ok (.iconst 0, 1) := by decide +kernel
theorem dX7_save_31 : decode cX7_save 31 = .ok (.iaload, 1) := by decide +kernel
theorem dX7_save_32 : decode cX7_save 32 = .ok (.ireturn, 1) := by decide +kernel
theorem dX7_restore_0 : decode cX7_restore 0 = .ok (.aload_n 0, 1) := by decide +kernel
theorem dX7_restore_1 : decode cX7_restore 1 = .ok (.aload_n 0, 1) := by decide +kernel
theorem dX7_restore_2 : decode cX7_restore 2 = .ok (.getfield 234, 3) := by decide +kernel
theorem dX7_restore_5 : decode cX7_restore 5 = .ok (.ifCond .eq 7, 3) := by decide +kernel
theorem dX7_restore_8 : decode cX7_restore 8 = .ok (.iconst 0, 1) := by decide +kernel
theorem dX7_restore_9 : decode cX7_restore 9 = .ok (.goto 4, 3) := by decide +kernel
theorem dX7_restore_12 : decode cX7_restore 12 = .ok (.iconst 1, 1) := by decide +kernel
theorem dX7_restore_13 : decode cX7_restore 13 = .ok (.putfield 36, 3) := by decide +kernel
theorem dX7_restore_16 : decode cX7_restore 16 = .ok (.aload_n 0, 1) := by decide +kernel
theorem dX7_restore_17 : decode cX7_restore 17 = .ok (.getfield 36, 3) := by decide +kernel
theorem dX7_restore_20 : decode cX7_restore 20 = .ok (.ifCond .le 5, 3) := by decide +kernel
theorem dX7_restore_23 : decode cX7_restore 23 = .ok (.iconst 0, 1) := by decide +kernel
theorem dX7_restore_24 : decode cX7_restore 24 = .ok (.ireturn, 1) := by decide +kernel
theorem dX7_restore_25 : decode cX7_restore 25 = .ok (.aload_n 0, 1) := by decide +kernel
theorem dX7_restore_26 : decode cX7_restore 26 = .ok (.getfield 16, 3) := by decide +kernel
theorem dX7_restore_29 : decode cX7_restore 29 = .ok (.iconst 0, 1) := by decide +kernel
theorem dX7_restore_30 : decode cX7_restore 30 = .ok (.aload_n 0, 1) := by decide +kernel
theorem dX7_restore_31 : decode cX7_restore 31 = .ok (.getfield 9, 3) := by decide +kernel
theorem dX7_restore_34 : decode cX7_restore 34 = .ok (.iconst 0, 1) := by decide +kernel
theorem dX7_restore_35 : decode cX7_restore 35 = .ok (.sipush 144, 3) := by decide +kernel
theorem dX7_restore_38 : decode cX7_restore 38 = .ok (.invokestatic 39, 3) := by decide +kernel
theorem dX7_restore_41 : decode cX7_restore 41 = .ok (.aload_n 0, 1) := by decide +kernel
theorem dX7_restore_42 : decode cX7_restore 42 = .ok (.iconst 0, 1) := by decide +kernel
theorem dX7_restore_43 : decode cX7_restore 43 = .ok (.putfield 45, 3) := by decide +kernel
theorem dX7_restore_46 : decode cX7_restore 46 = .ok (.aload_n 0, 1) := by decide +kernel
theorem dX7_restore_47 : decode cX7_restore 47 = .ok (.getfield 9, 3) := by decide +kernel
theorem dX7_restore_50 : decode cX7_restore 50 = .ok (.iconst 0, 1) := by decide +kernel
theorem dX7_restore_51 : decode cX7_restore 51 = .ok (.iaload, 1) := by decide +kernel
theorem dX7_restore_52 : decode cX7_restore 52 = .ok (.ireturn, 1) := by decide +kernel
theorem dL_matter_0 : decode cL_matter 0 = .ok (.aload_n 1, 1) := by decide +kernel
theorem dL_matter_1 : decode cL_matter 1 = .ok (.iconst 0, 1) := by decide +kernel
theorem dL_matter_2 : decode cL_matter 2 = .ok (.aload_n 0, 1) := by decide +kernel
theorem dL_matter_3 : decode cL_matter 3 = .ok (.invokevirtual 7, 3) := by decide +kernel
theorem dL_matter_6 : decode cL_matter 6 = .ok (.i2l, 1) := by decide +kernel
theorem dL_matter_7 : decode cL_matter 7 = .ok (.lastore, 1) := by decide +kernel
theorem dL_matter_8 : decode cL_matter 8 = .ok (.goto 6, 3) := by decide +kernel
theorem dL_matter_11 : decode cL_matter 11 = .ok (.astore_n 2, 1) := by decide +kernel
theorem dL_matter_12 : decode cL_matter 12 = .ok (.iconst 1, 1) := by decide +kernel
theorem dL_matter_13 : decode cL_matter 13 = .ok (.ireturn, 1) := by decide +kernel
theorem dL_matter_14 : decode cL_matter 14 = .ok (.iconst 0, 1) := by decide +kernel
theorem dL_matter_15 : decode cL_matter 15 = .ok (.ireturn, 1) := by decide +kernel
theorem dL_set_0 : decode cL_set 0 = .ok (.aload 4, 2) := by decide +kernel
theorem dL_set_2 : decode cL_set 2 = .ok (.iconst 0, 1) := by decide +kernel
theorem dL_set_3 : decode cL_set 3 = .ok (.aload_n 0, 1) := by decide +kernel
theorem dL_set_4 : decode cL_set 4 = .ok (.iload_n 1, 1) := by decide +kernel
theorem dL_set_5 : decode cL_set 5 = .ok (.iload_n 2, 1) := by decide +kernel
theorem dL_set_6 : decode cL_set 6 = .ok (.iload_n 3, 1) := by decide +kernel
theorem dL_set_7 : decode cL_set 7 = .ok (.invokevirtual 15, 3) := by decide +kernel
theorem dL_set_10 : decode cL_set 10 = .ok (.i2l, 1) := by decide +kernel
theorem dL_set_11 : decode cL_set 11 = .ok (.lastore, 1) := by decide +kernel
theorem dL_set_12 : decode cL_set 12 = .ok (.goto 15, 3) := by decide +kernel
theorem dL_set_15 : decode cL_set 15 = .ok (.astore 5, 2) := by decide +kernel
theorem dL_set_17 : decode cL_set 17 = .ok (.iconst 1, 1) := by decide +kernel
theorem dL_set_18 : decode cL_set 18 = .ok (.ireturn, 1) := by decide +kernel
theorem dL_set_19 : decode cL_set 19 = .ok (.astore 5, 2) := by decide +kernel
theorem dL_set_21 : decode cL_set 21 = .ok (.iconst 2, 1) := by decide +kernel
theorem dL_set_22 : decode cL_set 22 = .ok (.ireturn, 1) := by decide +kernel
theorem dL_set_23 : decode cL_set 23 = .ok (.astore 5, 2) := by decide +kernel
theorem dL_set_25 : decode cL_set 25 = .ok (.iconst 3, 1) := by decide +kernel
theorem dL_set_26 : decode cL_set 26 = .ok (.ireturn, 1) := by decide +kernel
theorem dL_set_27 : decode cL_set 27 = .ok (.iconst 0, 1) := by decide +kernel
theorem dL_set_28 : decode cL_set 28 = .ok (.ireturn, 1) := by decide +kernel
theorem dL_matterOf_0 : decode cL_matterOf 0 = .ok (.aload_n 3, 1) := by decide +kernel
theorem dL_matterOf_1 : decode cL_matterOf 1 = .ok (.iconst 0, 1) := by decide +kernel
theorem dL_matterOf_2 : decode cL_matterOf 2 = .ok (.aload_n 0, 1) := by decide +kernel
theorem dL_matterOf_3 : decode cL_matterOf 3 = .ok (.iload_n 1, 1) := by decide +kernel
theorem dL_matterOf_4 : decode cL_matterOf 4 = .ok (.iload_n 2, 1) := by decide +kernel
theorem dL_matterOf_5 : decode cL_matterOf 5 = .ok (.invokevirtual 23, 3) := by decide +kernel
theorem dL_matterOf_8 : decode cL_matterOf 8 = .ok (.i2l, 1) := by decide +kernel
theorem dL_matterOf_9 : decode cL_matterOf 9 = .ok (.lastore, 1) := by decide +kernel
theorem dL_matterOf_10 : decode cL_matterOf 10 = .ok (.goto 11, 3) := by decide +kernel
theorem dL_matterOf_13 : decode cL_matterOf 13 = .ok (.astore 4, 2) := by decide +kernel
theorem dL_matterOf_15 : decode cL_matterOf 15 = .ok (.iconst 1, 1) := by decide +kernel
theorem dL_matterOf_16 : decode cL_matterOf 16 = .ok (.ireturn, 1) := by decide +kernel
theorem dL_matterOf_17 : decode cL_matterOf 17 = .ok (.astore 4, 2) := by decide +kernel
theorem dL_matterOf_19 : decode cL_matterOf 19 = .ok (.iconst 2, 1) := by decide +kernel
theorem dL_matterOf_20 : decode cL_matterOf 20 = .ok (.ireturn, 1) := by decide +kernel
theorem dL_matterOf_21 : decode cL_matterOf 21 = .ok (.iconst 0, 1) := by decide +kernel
theorem dL_matterOf_22 : decode cL_matterOf 22 = .ok (.ireturn, 1) := by decide +kernel
theorem dL_answer_0 : decode cL_answer 0 = .ok (.aload_n 3, 1) := by decide +kernel
theorem dL_answer_1 : decode cL_answer 1 = .ok (.iconst 0, 1) := by decide +kernel
theorem dL_answer_2 : decode cL_answer 2 = .ok (.aload_n 0, 1) := by decide +kernel
theorem dL_answer_3 : decode cL_answer 3 = .ok (.iload_n 1, 1) := by decide +kernel
theorem dL_answer_4 : decode cL_answer 4 = .ok (.iload_n 2, 1) := by decide +kernel
theorem dL_answer_5 : decode cL_answer 5 = .ok (.invokevirtual 27, 3) := by decide +kernel
theorem dL_answer_8 : decode cL_answer 8 = .ok (.i2l, 1) := by decide +kernel
theorem dL_answer_9 : decode cL_answer 9 = .ok (.lastore, 1) := by decide +kernel
theorem dL_answer_10 : decode cL_answer 10 = .ok (.goto 11, 3) := by decide +kernel
theorem dL_answer_13 : decode cL_answer 13 = .ok (.astore 4, 2) := by decide +kernel
theorem dL_answer_15 : decode cL_answer 15 = .ok (.iconst 1, 1) := by decide +kernel
theorem dL_answer_16 : decode cL_answer 16 = .ok (.ireturn, 1) := by decide +kernel
theorem dL_answer_17 : decode cL_answer 17 = .ok (.astore 4, 2) := by decide +kernel
theorem dL_answer_19 : decode cL_answer 19 = .ok (.iconst 2, 1) := by decide +kernel
theorem dL_answer_20 : decode cL_answer 20 = .ok (.ireturn, 1) := by decide +kernel
theorem dL_answer_21 : decode cL_answer 21 = .ok (.iconst 0, 1) := by decide +kernel
theorem dL_answer_22 : decode cL_answer 22 = .ok (.ireturn, 1) := by decide +kernel
theorem dL_amount_0 : decode cL_amount 0 = .ok (.aload_n 3, 1) := by decide +kernel
theorem dL_amount_1 : decode cL_amount 1 = .ok (.iconst 0, 1) := by decide +kernel
theorem dL_amount_2 : decode cL_amount 2 = .ok (.aload_n 0, 1) := by decide +kernel
theorem dL_amount_3 : decode cL_amount 3 = .ok (.iload_n 1, 1) := by decide +kernel
theorem dL_amount_4 : decode cL_amount 4 = .ok (.iload_n 2, 1) := by decide +kernel
theorem dL_amount_5 : decode cL_amount 5 = .ok (.invokevirtual 32, 3) := by decide +kernel
theorem dL_amount_8 : decode cL_amount 8 = .ok (.i2l, 1) := by decide +kernel
theorem dL_amount_9 : decode cL_amount 9 = .ok (.lastore, 1) := by decide +kernel
theorem dL_amount_10 : decode cL_amount 10 = .ok (.goto 11, 3) := by decide +kernel
theorem dL_amount_13 : decode cL_amount 13 = .ok (.astore 4, 2) := by decide +kernel
theorem dL_amount_15 : decode cL_amount 15 = .ok (.iconst 1, 1) := by decide +kernel
theorem dL_amount_16 : decode cL_amount 16 = .ok (.ireturn, 1) := by decide +kernel
theorem dL_amount_17 : decode cL_amount 17 = .ok (.astore 4, 2) := by decide +kernel
theorem dL_amount_19 : decode cL_amount 19 = .ok (.iconst 2, 1) := by decide +kernel
theorem dL_amount_20 : decode cL_amount 20 = .ok (.ireturn, 1) := by decide +kernel
theorem dL_amount_21 : decode cL_amount 21 = .ok (.iconst 0, 1) := by decide +kernel
theorem dL_amount_22 : decode cL_amount 22 = .ok (.ireturn, 1) := by decide +kernel
theorem dL_ask_0 : decode cL_ask 0 = .ok (.aload_n 3, 1) := by decide +kernel
theorem dL_ask_1 : decode cL_ask 1 = .ok (.iconst 0, 1) := by decide +kernel
theorem dL_ask_2 : decode cL_ask 2 = .ok (.aload_n 0, 1) := by decide +kernel
theorem dL_ask_3 : decode cL_ask 3 = .ok (.iload_n 1, 1) := by decide +kernel
theorem dL_ask_4 : decode cL_ask 4 = .ok (.iload_n 2, 1) := by decide +kernel
theorem dL_ask_5 : decode cL_ask 5 = .ok (.invokevirtual 35, 3) := by decide +kernel
theorem dL_ask_8 : decode cL_ask 8 = .ok (.i2l, 1) := by decide +kernel
theorem dL_ask_9 : decode cL_ask 9 = .ok (.lastore, 1) := by decide +kernel
theorem dL_ask_10 : decode cL_ask 10 = .ok (.goto 15, 3) := by decide +kernel
theorem dL_ask_13 : decode cL_ask 13 = .ok (.astore 4, 2) := by decide +kernel
theorem dL_ask_15 : decode cL_ask 15 = .ok (.iconst 1, 1) := by decide +kernel
theorem dL_ask_16 : decode cL_ask 16 = .ok (.ireturn, 1) := by decide +kernel
theorem dL_ask_17 : decode cL_ask 17 = .ok (.astore 4, 2) := by decide +kernel
theorem dL_ask_19 : decode cL_ask 19 = .ok (.iconst 2, 1) := by decide +kernel
theorem dL_ask_20 : decode cL_ask 20 = .ok (.ireturn, 1) := by decide +kernel
theorem dL_ask_21 : decode cL_ask 21 = .ok (.astore 4, 2) := by decide +kernel
theorem dL_ask_23 : decode cL_ask 23 = .ok (.iconst 3, 1) := by decide +kernel
theorem dL_ask_24 : decode cL_ask 24 = .ok (.ireturn, 1) := by decide +kernel
theorem dL_ask_25 : decode cL_ask 25 = .ok (.iconst 0, 1) := by decide +kernel
theorem dL_ask_26 : decode cL_ask 26 = .ok (.ireturn, 1) := by decide +kernel
theorem dL_decide_0 : decode cL_decide 0 = .ok (.aload_n 2, 1) := by decide +kernel
theorem dL_decide_1 : decode cL_decide 1 = .ok (.iconst 0, 1) := by decide +kernel
theorem dL_decide_2 : decode cL_decide 2 = .ok (.aload_n 0, 1) := by decide +kernel
theorem dL_decide_3 : decode cL_decide 3 = .ok (.iload_n 1, 1) := by decide +kernel
theorem dL_decide_4 : decode cL_decide 4 = .ok (.invokevirtual 38, 3) := by decide +kernel
theorem dL_decide_7 : decode cL_decide 7 = .ok (.i2l, 1) := by decide +kernel
theorem dL_decide_8 : decode cL_decide 8 = .ok (.lastore, 1) := by decide +kernel
theorem dL_decide_9 : decode cL_decide 9 = .ok (.goto 9, 3) := by decide +kernel
theorem dL_decide_12 : decode cL_decide 12 = .ok (.astore_n 3, 1) := by decide +kernel
theorem dL_decide_13 : decode cL_decide 13 = .ok (.iconst 1, 1) := by decide +kernel
theorem dL_decide_14 : decode cL_decide 14 = .ok (.ireturn, 1) := by decide +kernel
theorem dL_decide_15 : decode cL_decide 15 = .ok (.astore_n 3, 1) := by decide +kernel
theorem dL_decide_16 : decode cL_decide 16 = .ok (.iconst 2, 1) := by decide +kernel
theorem dL_decide_17 : decode cL_decide 17 = .ok (.ireturn, 1) := by decide +kernel
theorem dL_decide_18 : decode cL_decide 18 = .ok (.iconst 0, 1) := by decide +kernel
theorem dL_decide_19 : decode cL_decide 19 = .ok (.ireturn, 1) := by decide +kernel
theorem dL_tell_0 : decode cL_tell 0 = .ok (.aload_n 3, 1) := by decide +kernel
theorem dL_tell_1 : decode cL_tell 1 = .ok (.iconst 0, 1) := by decide +kernel
theorem dL_tell_2 : decode cL_tell 2 = .ok (.aload_n 0, 1) := by decide +kernel
theorem dL_tell_3 : decode cL_tell 3 = .ok (.iload_n 1, 1) := by decide +kernel
theorem dL_tell_4 : decode cL_tell 4 = .ok (.iload_n 2, 1) := by decide +kernel
theorem dL_tell_5 : decode cL_tell 5 = .ok (.invokevirtual 42, 3) := by decide +kernel
theorem dL_tell_8 : decode cL_tell 8 = .ok (.i2l, 1) := by decide +kernel
theorem dL_tell_9 : decode cL_tell 9 = .ok (.lastore, 1) := by decide +kernel
theorem dL_tell_10 : decode cL_tell 10 = .ok (.goto 15, 3) := by decide +kernel
theorem dL_tell_13 : decode cL_tell 13 = .ok (.astore 4, 2) := by decide +kernel
theorem dL_tell_15 : decode cL_tell 15 = .ok (.iconst 1, 1) := by decide +kernel
theorem dL_tell_16 : decode cL_tell 16 = .ok (.ireturn, 1) := by decide +kernel
theorem dL_tell_17 : decode cL_tell 17 = .ok (.astore 4, 2) := by decide +kernel
theorem dL_tell_19 : decode cL_tell 19 = .ok (.iconst 2, 1) := by decide +kernel
theorem dL_tell_20 : decode cL_tell 20 = .ok (.ireturn, 1) := by decide +kernel
theorem dL_tell_21 : decode cL_tell 21 = .ok (.astore 4, 2) := by decide +kernel
theorem dL_tell_23 : decode cL_tell 23 = .ok (.iconst 3, 1) := by decide +kernel
theorem dL_tell_24 : decode cL_tell 24 = .ok (.ireturn, 1) := by decide +kernel
theorem dL_tell_25 : decode cL_tell 25 = .ok (.iconst 0, 1) := by decide +kernel
theorem dL_tell_26 : decode cL_tell 26 = .ok (.ireturn, 1) := by decide +kernel
theorem dL_faint_0 : decode cL_faint 0 = .ok (.aload_n 1, 1) := by decide +kernel
theorem dL_faint_1 : decode cL_faint 1 = .ok (.iconst 0, 1) := by decide +kernel
theorem dL_faint_2 : decode cL_faint 2 = .ok (.aload_n 0, 1) := by decide +kernel
theorem dL_faint_3 : decode cL_faint 3 = .ok (.invokevirtual 45, 3) := by decide +kernel
theorem dL_faint_6 : decode cL_faint 6 = .ok (.i2l, 1) := by decide +kernel
theorem dL_faint_7 : decode cL_faint 7 = .ok (.lastore, 1) := by decide +kernel
theorem dL_faint_8 : decode cL_faint 8 = .ok (.goto 6, 3) := by decide +kernel
theorem dL_faint_11 : decode cL_faint 11 = .ok (.astore_n 2, 1) := by decide +kernel
theorem dL_faint_12 : decode cL_faint 12 = .ok (.iconst 1, 1) := by decide +kernel
theorem dL_faint_13 : decode cL_faint 13 = .ok (.ireturn, 1) := by decide +kernel
theorem dL_faint_14 : decode cL_faint 14 = .ok (.iconst 0, 1) := by decide +kernel
theorem dL_faint_15 : decode cL_faint 15 = .ok (.ireturn, 1) := by decide +kernel
theorem dL_wake_0 : decode cL_wake 0 = .ok (.aload_n 1, 1) := by decide +kernel
theorem dL_wake_1 : decode cL_wake 1 = .ok (.iconst 0, 1) := by decide +kernel
theorem dL_wake_2 : decode cL_wake 2 = .ok (.aload_n 0, 1) := by decide +kernel
theorem dL_wake_3 : decode cL_wake 3 = .ok (.invokevirtual 48, 3) := by decide +kernel
theorem dL_wake_6 : decode cL_wake 6 = .ok (.i2l, 1) := by decide +kernel
theorem dL_wake_7 : decode cL_wake 7 = .ok (.lastore, 1) := by decide +kernel
theorem dL_wake_8 : decode cL_wake 8 = .ok (.goto 6, 3) := by decide +kernel
theorem dL_wake_11 : decode cL_wake 11 = .ok (.astore_n 2, 1) := by decide +kernel
theorem dL_wake_12 : decode cL_wake 12 = .ok (.iconst 1, 1) := by decide +kernel
theorem dL_wake_13 : decode cL_wake 13 = .ok (.ireturn, 1) := by decide +kernel
theorem dL_wake_14 : decode cL_wake 14 = .ok (.iconst 0, 1) := by decide +kernel
theorem dL_wake_15 : decode cL_wake 15 = .ok (.ireturn, 1) := by decide +kernel
theorem dL_book_0 : decode cL_book 0 = .ok (.aload_n 2, 1) := by decide +kernel
theorem dL_book_1 : decode cL_book 1 = .ok (.iconst 0, 1) := by decide +kernel
theorem dL_book_2 : decode cL_book 2 = .ok (.aload_n 0, 1) := by decide +kernel
theorem dL_book_3 : decode cL_book 3 = .ok (.iload_n 1, 1) := by decide +kernel
theorem dL_book_4 : decode cL_book 4 = .ok (.invokevirtual 51, 3) := by decide +kernel
theorem dL_book_7 : decode cL_book 7 = .ok (.i2l, 1) := by decide +kernel
theorem dL_book_8 : decode cL_book 8 = .ok (.lastore, 1) := by decide +kernel
theorem dL_book_9 : decode cL_book 9 = .ok (.goto 6, 3) := by decide +kernel
theorem dL_book_12 : decode cL_book 12 = .ok (.astore_n 3, 1) := by decide +kernel
theorem dL_book_13 : decode cL_book 13 = .ok (.iconst 1, 1) := by decide +kernel
theorem dL_book_14 : decode cL_book 14 = .ok (.ireturn, 1) := by decide +kernel
theorem dL_book_15 : decode cL_book 15 = .ok (.iconst 0, 1) := by decide +kernel
theorem dL_book_16 : decode cL_book 16 = .ok (.ireturn, 1) := by decide +kernel
theorem dL_wouldSeal_0 : decode cL_wouldSeal 0 = .ok (.aload_n 2, 1) := by decide +kernel
theorem dL_wouldSeal_1 : decode cL_wouldSeal 1 = .ok (.iconst 0, 1) := by decide +kernel
theorem dL_wouldSeal_2 : decode cL_wouldSeal 2 = .ok (.aload_n 0, 1) := by decide +kernel
theorem dL_wouldSeal_3 : decode cL_wouldSeal 3 = .ok (.iload_n 1, 1) := by decide +kernel
theorem dL_wouldSeal_4 : decode cL_wouldSeal 4 = .ok (.invokevirtual 54, 3) := by decide +kernel
theorem dL_wouldSeal_7 : decode cL_wouldSeal 7 = .ok (.ifCond .eq 7, 3) := by decide +kernel
theorem dL_wouldSeal_10 : decode cL_wouldSeal 10 = .ok (.lconst 1, 1) := by decide +kernel
theorem dL_wouldSeal_11 : decode cL_wouldSeal 11 = .ok (.goto 4, 3) := by decide +kernel
theorem dL_wouldSeal_14 : decode cL_wouldSeal 14 = .ok (.lconst 0, 1) := by decide +kernel
theorem dL_wouldSeal_15 : decode cL_wouldSeal 15 = .ok (.lastore, 1) := by decide +kernel
theorem dL_wouldSeal_16 : decode cL_wouldSeal 16 = .ok (.goto 9, 3) := by decide +kernel
theorem dL_wouldSeal_19 : decode cL_wouldSeal 19 = .ok (.astore_n 3, 1) := by decide +kernel
theorem dL_wouldSeal_20 : decode cL_wouldSeal 20 = .ok (.iconst 1, 1) := by decide +kernel
theorem dL_wouldSeal_21 : decode cL_wouldSeal 21 = .ok (.ireturn, 1) := by decide +kernel
theorem dL_wouldSeal_22 : decode cL_wouldSeal 22 = .ok (.astore_n 3, 1) := by decide +kernel
theorem dL_wouldSeal_23 : decode cL_wouldSeal 23 = .ok (.iconst 2, 1) := by decide +kernel
theorem dL_wouldSeal_24 : decode cL_wouldSeal 24 = .ok (.ireturn, 1) := by decide +kernel
theorem dL_wouldSeal_25 : decode cL_wouldSeal 25 = .ok (.iconst 0, 1) := by decide +kernel
theorem dL_wouldSeal_26 : decode cL_wouldSeal 26 = .ok (.ireturn, 1) := by decide +kernel
theorem dL_sleep_0 : decode cL_sleep 0 = .ok (.aload_n 2, 1) := by decide +kernel
theorem dL_sleep_1 : decode cL_sleep 1 = .ok (.iconst 0, 1) := by decide +kernel
theorem dL_sleep_2 : decode cL_sleep 2 = .ok (.aload_n 0, 1) := by decide +kernel
theorem dL_sleep_3 : decode cL_sleep 3 = .ok (.iload_n 1, 1) := by decide +kernel
theorem dL_sleep_4 : decode cL_sleep 4 = .ok (.invokevirtual 60, 3) := by decide +kernel
theorem dL_sleep_7 : decode cL_sleep 7 = .ok (.i2l, 1) := by decide +kernel
theorem dL_sleep_8 : decode cL_sleep 8 = .ok (.lastore, 1) := by decide +kernel
theorem dL_sleep_9 : decode cL_sleep 9 = .ok (.goto 9, 3) := by decide +kernel
theorem dL_sleep_12 : decode cL_sleep 12 = .ok (.astore_n 3, 1) := by decide +kernel
theorem dL_sleep_13 : decode cL_sleep 13 = .ok (.iconst 1, 1) := by decide +kernel
theorem dL_sleep_14 : decode cL_sleep 14 = .ok (.ireturn, 1) := by decide +kernel
theorem dL_sleep_15 : decode cL_sleep 15 = .ok (.astore_n 3, 1) := by decide +kernel
theorem dL_sleep_16 : decode cL_sleep 16 = .ok (.iconst 2, 1) := by decide +kernel
theorem dL_sleep_17 : decode cL_sleep 17 = .ok (.ireturn, 1) := by decide +kernel
theorem dL_sleep_18 : decode cL_sleep 18 = .ok (.iconst 0, 1) := by decide +kernel
theorem dL_sleep_19 : decode cL_sleep 19 = .ok (.ireturn, 1) := by decide +kernel
theorem dL_rouse_0 : decode cL_rouse 0 = .ok (.aload_n 2, 1) := by decide +kernel
theorem dL_rouse_1 : decode cL_rouse 1 = .ok (.iconst 0, 1) := by decide +kernel
theorem dL_rouse_2 : decode cL_rouse 2 = .ok (.aload_n 0, 1) := by decide +kernel
theorem dL_rouse_3 : decode cL_rouse 3 = .ok (.iload_n 1, 1) := by decide +kernel
theorem dL_rouse_4 : decode cL_rouse 4 = .ok (.invokevirtual 63, 3) := by decide +kernel
theorem dL_rouse_7 : decode cL_rouse 7 = .ok (.i2l, 1) := by decide +kernel
theorem dL_rouse_8 : decode cL_rouse 8 = .ok (.lastore, 1) := by decide +kernel
theorem dL_rouse_9 : decode cL_rouse 9 = .ok (.goto 9, 3) := by decide +kernel
theorem dL_rouse_12 : decode cL_rouse 12 = .ok (.astore_n 3, 1) := by decide +kernel
theorem dL_rouse_13 : decode cL_rouse 13 = .ok (.iconst 1, 1) := by decide +kernel
theorem dL_rouse_14 : decode cL_rouse 14 = .ok (.ireturn, 1) := by decide +kernel
theorem dL_rouse_15 : decode cL_rouse 15 = .ok (.astore_n 3, 1) := by decide +kernel
theorem dL_rouse_16 : decode cL_rouse 16 = .ok (.iconst 2, 1) := by decide +kernel
theorem dL_rouse_17 : decode cL_rouse 17 = .ok (.ireturn, 1) := by decide +kernel
theorem dL_rouse_18 : decode cL_rouse 18 = .ok (.iconst 0, 1) := by decide +kernel
theorem dL_rouse_19 : decode cL_rouse 19 = .ok (.ireturn, 1) := by decide +kernel
theorem dL_inquire_0 : decode cL_inquire 0 = .ok (.aload 4, 2) := by decide +kernel
theorem dL_inquire_2 : decode cL_inquire 2 = .ok (.iconst 0, 1) := by decide +kernel
theorem dL_inquire_3 : decode cL_inquire 3 = .ok (.aload_n 0, 1) := by decide +kernel
theorem dL_inquire_4 : decode cL_inquire 4 = .ok (.iload_n 1, 1) := by decide +kernel
theorem dL_inquire_5 : decode cL_inquire 5 = .ok (.iload_n 2, 1) := by decide +kernel
theorem dL_inquire_6 : decode cL_inquire 6 = .ok (.iload_n 3, 1) := by decide +kernel
theorem dL_inquire_7 : decode cL_inquire 7 = .ok (.invokevirtual 66, 3) := by decide +kernel
theorem dL_inquire_10 : decode cL_inquire 10 = .ok (.i2l, 1) := by decide +kernel
theorem dL_inquire_11 : decode cL_inquire 11 = .ok (.lastore, 1) := by decide +kernel
theorem dL_inquire_12 : decode cL_inquire 12 = .ok (.goto 15, 3) := by decide +kernel
theorem dL_inquire_15 : decode cL_inquire 15 = .ok (.astore 5, 2) := by decide +kernel
theorem dL_inquire_17 : decode cL_inquire 17 = .ok (.iconst 1, 1) := by decide +kernel
theorem dL_inquire_18 : decode cL_inquire 18 = .ok (.ireturn, 1) := by decide +kernel
theorem dL_inquire_19 : decode cL_inquire 19 = .ok (.astore 5, 2) := by decide +kernel
theorem dL_inquire_21 : decode cL_inquire 21 = .ok (.iconst 2, 1) := by decide +kernel
theorem dL_inquire_22 : decode cL_inquire 22 = .ok (.ireturn, 1) := by decide +kernel
theorem dL_inquire_23 : decode cL_inquire 23 = .ok (.astore 5, 2) := by decide +kernel
theorem dL_inquire_25 : decode cL_inquire 25 = .ok (.iconst 3, 1) := by decide +kernel
theorem dL_inquire_26 : decode cL_inquire 26 = .ok (.ireturn, 1) := by decide +kernel
theorem dL_inquire_27 : decode cL_inquire 27 = .ok (.iconst 0, 1) := by decide +kernel
theorem dL_inquire_28 : decode cL_inquire 28 = .ok (.ireturn, 1) := by decide +kernel
theorem dL_guildOf_0 : decode cL_guildOf 0 = .ok (.aload_n 3, 1) := by decide +kernel
theorem dL_guildOf_1 : decode cL_guildOf 1 = .ok (.iconst 0, 1) := by decide +kernel
theorem dL_guildOf_2 : decode cL_guildOf 2 = .ok (.aload_n 0, 1) := by decide +kernel
theorem dL_guildOf_3 : decode cL_guildOf 3 = .ok (.iload_n 1, 1) := by decide +kernel
theorem dL_guildOf_4 : decode cL_guildOf 4 = .ok (.iload_n 2, 1) := by decide +kernel
theorem dL_guildOf_5 : decode cL_guildOf 5 = .ok (.invokevirtual 69, 3) := by decide +kernel
theorem dL_guildOf_8 : decode cL_guildOf 8 = .ok (.i2l, 1) := by decide +kernel
theorem dL_guildOf_9 : decode cL_guildOf 9 = .ok (.lastore, 1) := by decide +kernel
theorem dL_guildOf_10 : decode cL_guildOf 10 = .ok (.goto 11, 3) := by decide +kernel
theorem dL_guildOf_13 : decode cL_guildOf 13 = .ok (.astore 4, 2) := by decide +kernel
theorem dL_guildOf_15 : decode cL_guildOf 15 = .ok (.iconst 1, 1) := by decide +kernel
theorem dL_guildOf_16 : decode cL_guildOf 16 = .ok (.ireturn, 1) := by decide +kernel
theorem dL_guildOf_17 : decode cL_guildOf 17 = .ok (.astore 4, 2) := by decide +kernel
theorem dL_guildOf_19 : decode cL_guildOf 19 = .ok (.iconst 2, 1) := by decide +kernel
theorem dL_guildOf_20 : decode cL_guildOf 20 = .ok (.ireturn, 1) := by decide +kernel
theorem dL_guildOf_21 : decode cL_guildOf 21 = .ok (.iconst 0, 1) := by decide +kernel
theorem dL_guildOf_22 : decode cL_guildOf 22 = .ok (.ireturn, 1) := by decide +kernel
theorem dL_canLearn_0 : decode cL_canLearn 0 = .ok (.aload_n 3, 1) := by decide +kernel
theorem dL_canLearn_1 : decode cL_canLearn 1 = .ok (.iconst 0, 1) := by decide +kernel
theorem dL_canLearn_2 : decode cL_canLearn 2 = .ok (.aload_n 0, 1) := by decide +kernel
theorem dL_canLearn_3 : decode cL_canLearn 3 = .ok (.iload_n 1, 1) := by decide +kernel
theorem dL_canLearn_4 : decode cL_canLearn 4 = .ok (.iload_n 2, 1) := by decide +kernel
theorem dL_canLearn_5 : decode cL_canLearn 5 = .ok (.invokevirtual 72, 3) := by decide +kernel
theorem dL_canLearn_8 : decode cL_canLearn 8 = .ok (.ifCond .eq 7, 3) := by decide +kernel
theorem dL_canLearn_11 : decode cL_canLearn 11 = .ok (.lconst 1, 1) := by decide +kernel
theorem dL_canLearn_12 : decode cL_canLearn 12 = .ok (.goto 4, 3) := by decide +kernel
theorem dL_canLearn_15 : decode cL_canLearn 15 = .ok (.lconst 0, 1) := by decide +kernel
theorem dL_canLearn_16 : decode cL_canLearn 16 = .ok (.lastore, 1) := by decide +kernel
theorem dL_canLearn_17 : decode cL_canLearn 17 = .ok (.goto 7, 3) := by decide +kernel
theorem dL_canLearn_20 : decode cL_canLearn 20 = .ok (.astore 4, 2) := by decide +kernel
theorem dL_canLearn_22 : decode cL_canLearn 22 = .ok (.iconst 1, 1) := by decide +kernel
theorem dL_canLearn_23 : decode cL_canLearn 23 = .ok (.ireturn, 1) := by decide +kernel
theorem dL_canLearn_24 : decode cL_canLearn 24 = .ok (.iconst 0, 1) := by decide +kernel
theorem dL_canLearn_25 : decode cL_canLearn 25 = .ok (.ireturn, 1) := by decide +kernel
theorem dL_pass_0 : decode cL_pass 0 = .ok (.aload_n 2, 1) := by decide +kernel
theorem dL_pass_1 : decode cL_pass 1 = .ok (.iconst 0, 1) := by decide +kernel
theorem dL_pass_2 : decode cL_pass 2 = .ok (.aload_n 0, 1) := by decide +kernel
theorem dL_pass_3 : decode cL_pass 3 = .ok (.iload_n 1, 1) := by decide +kernel
theorem dL_pass_4 : decode cL_pass 4 = .ok (.invokevirtual 76, 3) := by decide +kernel
theorem dL_pass_7 : decode cL_pass 7 = .ok (.i2l, 1) := by decide +kernel
theorem dL_pass_8 : decode cL_pass 8 = .ok (.lastore, 1) := by decide +kernel
theorem dL_pass_9 : decode cL_pass 9 = .ok (.goto 6, 3) := by decide +kernel
theorem dL_pass_12 : decode cL_pass 12 = .ok (.astore_n 3, 1) := by decide +kernel
theorem dL_pass_13 : decode cL_pass 13 = .ok (.iconst 1, 1) := by decide +kernel
theorem dL_pass_14 : decode cL_pass 14 = .ok (.ireturn, 1) := by decide +kernel
theorem dL_pass_15 : decode cL_pass 15 = .ok (.iconst 0, 1) := by decide +kernel
theorem dL_pass_16 : decode cL_pass 16 = .ok (.ireturn, 1) := by decide +kernel
theorem dL_ranked_0 : decode cL_ranked 0 = .ok (.aload_n 2, 1) := by decide +kernel
theorem dL_ranked_1 : decode cL_ranked 1 = .ok (.iconst 0, 1) := by decide +kernel
theorem dL_ranked_2 : decode cL_ranked 2 = .ok (.aload_n 0, 1) := by decide +kernel
theorem dL_ranked_3 : decode cL_ranked 3 = .ok (.iload_n 1, 1) := by decide +kernel
theorem dL_ranked_4 : decode cL_ranked 4 = .ok (.invokevirtual 79, 3) := by decide +kernel
theorem dL_ranked_7 : decode cL_ranked 7 = .ok (.i2l, 1) := by decide +kernel
theorem dL_ranked_8 : decode cL_ranked 8 = .ok (.lastore, 1) := by decide +kernel
theorem dL_ranked_9 : decode cL_ranked 9 = .ok (.goto 6, 3) := by decide +kernel
theorem dL_ranked_12 : decode cL_ranked 12 = .ok (.astore_n 3, 1) := by decide +kernel
theorem dL_ranked_13 : decode cL_ranked 13 = .ok (.iconst 1, 1) := by decide +kernel
theorem dL_ranked_14 : decode cL_ranked 14 = .ok (.ireturn, 1) := by decide +kernel
theorem dL_ranked_15 : decode cL_ranked 15 = .ok (.iconst 0, 1) := by decide +kernel
theorem dL_ranked_16 : decode cL_ranked 16 = .ok (.ireturn, 1) := by decide +kernel
theorem dL_line_0 : decode cL_line 0 = .ok (.aload_n 2, 1) := by decide +kernel
theorem dL_line_1 : decode cL_line 1 = .ok (.iconst 0, 1) := by decide +kernel
theorem dL_line_2 : decode cL_line 2 = .ok (.aload_n 0, 1) := by decide +kernel
theorem dL_line_3 : decode cL_line 3 = .ok (.iload_n 1, 1) := by decide +kernel
theorem dL_line_4 : decode cL_line 4 = .ok (.invokevirtual 82, 3) := by decide +kernel
theorem dL_line_7 : decode cL_line 7 = .ok (.i2l, 1) := by decide +kernel
theorem dL_line_8 : decode cL_line 8 = .ok (.lastore, 1) := by decide +kernel
theorem dL_line_9 : decode cL_line 9 = .ok (.goto 6, 3) := by decide +kernel
theorem dL_line_12 : decode cL_line 12 = .ok (.astore_n 3, 1) := by decide +kernel
theorem dL_line_13 : decode cL_line 13 = .ok (.iconst 1, 1) := by decide +kernel
theorem dL_line_14 : decode cL_line 14 = .ok (.ireturn, 1) := by decide +kernel
theorem dL_line_15 : decode cL_line 15 = .ok (.iconst 0, 1) := by decide +kernel
theorem dL_line_16 : decode cL_line 16 = .ok (.ireturn, 1) := by decide +kernel
theorem dL_character_0 : decode cL_character 0 = .ok (.aload_n 2, 1) := by decide +kernel
theorem dL_character_1 : decode cL_character 1 = .ok (.iconst 0, 1) := by decide +kernel
theorem dL_character_2 : decode cL_character 2 = .ok (.aload_n 0, 1) := by decide +kernel
theorem dL_character_3 : decode cL_character 3 = .ok (.iload_n 1, 1) := by decide +kernel
theorem dL_character_4 : decode cL_character 4 = .ok (.invokevirtual 85, 3) := by decide +kernel
theorem dL_character_7 : decode cL_character 7 = .ok (.i2l, 1) := by decide +kernel
theorem dL_character_8 : decode cL_character 8 = .ok (.lastore, 1) := by decide +kernel
theorem dL_character_9 : decode cL_character 9 = .ok (.goto 6, 3) := by decide +kernel
theorem dL_character_12 : decode cL_character 12 = .ok (.astore_n 3, 1) := by decide +kernel
theorem dL_character_13 : decode cL_character 13 = .ok (.iconst 1, 1) := by decide +kernel
theorem dL_character_14 : decode cL_character 14 = .ok (.ireturn, 1) := by decide +kernel
theorem dL_character_15 : decode cL_character 15 = .ok (.iconst 0, 1) := by decide +kernel
theorem dL_character_16 : decode cL_character 16 = .ok (.ireturn, 1) := by decide +kernel
theorem dL_append_0 : decode cL_append 0 = .ok (.aload_n 2, 1) := by decide +kernel
theorem dL_append_1 : decode cL_append 1 = .ok (.iconst 0, 1) := by decide +kernel
theorem dL_append_2 : decode cL_append 2 = .ok (.aload_n 0, 1) := by decide +kernel
theorem dL_append_3 : decode cL_append 3 = .ok (.iload_n 1, 1) := by decide +kernel
theorem dL_append_4 : decode cL_append 4 = .ok (.invokevirtual 89, 3) := by decide +kernel
theorem dL_append_7 : decode cL_append 7 = .ok (.i2l, 1) := by decide +kernel
theorem dL_append_8 : decode cL_append 8 = .ok (.lastore, 1) := by decide +kernel
theorem dL_append_9 : decode cL_append 9 = .ok (.goto 6, 3) := by decide +kernel
theorem dL_append_12 : decode cL_append 12 = .ok (.astore_n 3, 1) := by decide +kernel
theorem dL_append_13 : decode cL_append 13 = .ok (.iconst 1, 1) := by decide +kernel
theorem dL_append_14 : decode cL_append 14 = .ok (.ireturn, 1) := by decide +kernel
theorem dL_append_15 : decode cL_append 15 = .ok (.iconst 0, 1) := by decide +kernel
theorem dL_append_16 : decode cL_append 16 = .ok (.ireturn, 1) := by decide +kernel
theorem dL_run_0 : decode cL_run 0 = .ok (.aload_n 1, 1) := by decide +kernel
theorem dL_run_1 : decode cL_run 1 = .ok (.iconst 0, 1) := by decide +kernel
theorem dL_run_2 : decode cL_run 2 = .ok (.aload_n 0, 1) := by decide +kernel
theorem dL_run_3 : decode cL_run 3 = .ok (.invokevirtual 93, 3) := by decide +kernel
theorem dL_run_6 : decode cL_run 6 = .ok (.i2l, 1) := by decide +kernel
theorem dL_run_7 : decode cL_run 7 = .ok (.lastore, 1) := by decide +kernel
theorem dL_run_8 : decode cL_run 8 = .ok (.goto 9, 3) := by decide +kernel
theorem dL_run_11 : decode cL_run 11 = .ok (.astore_n 2, 1) := by decide +kernel
theorem dL_run_12 : decode cL_run 12 = .ok (.iconst 1, 1) := by decide +kernel
theorem dL_run_13 : decode cL_run 13 = .ok (.ireturn, 1) := by decide +kernel
theorem dL_run_14 : decode cL_run 14 = .ok (.astore_n 2, 1) := by decide +kernel
theorem dL_run_15 : decode cL_run 15 = .ok (.iconst 2, 1) := by decide +kernel
theorem dL_run_16 : decode cL_run 16 = .ok (.ireturn, 1) := by decide +kernel
theorem dL_run_17 : decode cL_run 17 = .ok (.iconst 0, 1) := by decide +kernel
theorem dL_run_18 : decode cL_run 18 = .ok (.ireturn, 1) := by decide +kernel
theorem dL_refusal_0 : decode cL_refusal 0 = .ok (.aload_n 2, 1) := by decide +kernel
theorem dL_refusal_1 : decode cL_refusal 1 = .ok (.iconst 0, 1) := by decide +kernel
theorem dL_refusal_2 : decode cL_refusal 2 = .ok (.aload_n 0, 1) := by decide +kernel
theorem dL_refusal_3 : decode cL_refusal 3 = .ok (.iload_n 1, 1) := by decide +kernel
theorem dL_refusal_4 : decode cL_refusal 4 = .ok (.invokevirtual 96, 3) := by decide +kernel
theorem dL_refusal_7 : decode cL_refusal 7 = .ok (.i2l, 1) := by decide +kernel
theorem dL_refusal_8 : decode cL_refusal 8 = .ok (.lastore, 1) := by decide +kernel
theorem dL_refusal_9 : decode cL_refusal 9 = .ok (.goto 6, 3) := by decide +kernel
theorem dL_refusal_12 : decode cL_refusal 12 = .ok (.astore_n 3, 1) := by decide +kernel
theorem dL_refusal_13 : decode cL_refusal 13 = .ok (.iconst 1, 1) := by decide +kernel
theorem dL_refusal_14 : decode cL_refusal 14 = .ok (.ireturn, 1) := by decide +kernel
theorem dL_refusal_15 : decode cL_refusal 15 = .ok (.iconst 0, 1) := by decide +kernel
theorem dL_refusal_16 : decode cL_refusal 16 = .ok (.ireturn, 1) := by decide +kernel
theorem dL_account_0 : decode cL_account 0 = .ok (.aload_n 2, 1) := by decide +kernel
theorem dL_account_1 : decode cL_account 1 = .ok (.iconst 0, 1) := by decide +kernel
theorem dL_account_2 : decode cL_account 2 = .ok (.aload_n 0, 1) := by decide +kernel
theorem dL_account_3 : decode cL_account 3 = .ok (.iload_n 1, 1) := by decide +kernel
theorem dL_account_4 : decode cL_account 4 = .ok (.invokevirtual 100, 3) := by decide +kernel
theorem dL_account_7 : decode cL_account 7 = .ok (.i2l, 1) := by decide +kernel
theorem dL_account_8 : decode cL_account 8 = .ok (.lastore, 1) := by decide +kernel
theorem dL_account_9 : decode cL_account 9 = .ok (.goto 6, 3) := by decide +kernel
theorem dL_account_12 : decode cL_account 12 = .ok (.astore_n 3, 1) := by decide +kernel
theorem dL_account_13 : decode cL_account 13 = .ok (.iconst 1, 1) := by decide +kernel
theorem dL_account_14 : decode cL_account 14 = .ok (.ireturn, 1) := by decide +kernel
theorem dL_account_15 : decode cL_account 15 = .ok (.iconst 0, 1) := by decide +kernel
theorem dL_account_16 : decode cL_account 16 = .ok (.ireturn, 1) := by decide +kernel
theorem dL_sealedShare_0 : decode cL_sealedShare 0 = .ok (.aload_n 1, 1) := by decide +kernel
theorem dL_sealedShare_1 : decode cL_sealedShare 1 = .ok (.iconst 0, 1) := by decide +kernel
theorem dL_sealedShare_2 : decode cL_sealedShare 2 = .ok (.aload_n 0, 1) := by decide +kernel
theorem dL_sealedShare_3 : decode cL_sealedShare 3 = .ok (.invokevirtual 103, 3) := by decide +kernel
theorem dL_sealedShare_6 : decode cL_sealedShare 6 = .ok (.f2d, 1) := by decide +kernel
theorem dL_sealedShare_7 : decode cL_sealedShare 7 = .ok (.dastore, 1) := by decide +kernel
theorem dL_sealedShare_8 : decode cL_sealedShare 8 = .ok (.goto 6, 3) := by decide +kernel
theorem dL_sealedShare_11 : decode cL_sealedShare 11 = .ok (.astore_n 2, 1) := by decide +kernel
theorem dL_sealedShare_12 : decode cL_sealedShare 12 = .ok (.iconst 1, 1) := by decide +kernel
theorem dL_sealedShare_13 : decode cL_sealedShare 13 = .ok (.ireturn, 1) := by decide +kernel
theorem dL_sealedShare_14 : decode cL_sealedShare 14 = .ok (.iconst 0, 1) := by decide +kernel
theorem dL_sealedShare_15 : decode cL_sealedShare 15 = .ok (.ireturn, 1) := by decide +kernel
theorem dL_undo_0 : decode cL_undo 0 = .ok (.aload_n 1, 1) := by decide +kernel
theorem dL_undo_1 : decode cL_undo 1 = .ok (.iconst 0, 1) := by decide +kernel
theorem dL_undo_2 : decode cL_undo 2 = .ok (.aload_n 0, 1) := by decide +kernel
theorem dL_undo_3 : decode cL_undo 3 = .ok (.invokevirtual 109, 3) := by decide +kernel
theorem dL_undo_6 : decode cL_undo 6 = .ok (.i2l, 1) := by decide +kernel
theorem dL_undo_7 : decode cL_undo 7 = .ok (.lastore, 1) := by decide +kernel
theorem dL_undo_8 : decode cL_undo 8 = .ok (.goto 6, 3) := by decide +kernel
theorem dL_undo_11 : decode cL_undo 11 = .ok (.astore_n 2, 1) := by decide +kernel
theorem dL_undo_12 : decode cL_undo 12 = .ok (.iconst 1, 1) := by decide +kernel
theorem dL_undo_13 : decode cL_undo 13 = .ok (.ireturn, 1) := by decide +kernel
theorem dL_undo_14 : decode cL_undo 14 = .ok (.iconst 0, 1) := by decide +kernel
theorem dL_undo_15 : decode cL_undo 15 = .ok (.ireturn, 1) := by decide +kernel
theorem dL_restore_0 : decode cL_restore 0 = .ok (.aload_n 1, 1) := by decide +kernel
theorem dL_restore_1 : decode cL_restore 1 = .ok (.iconst 0, 1) := by decide +kernel
theorem dL_restore_2 : decode cL_restore 2 = .ok (.aload_n 0, 1) := by decide +kernel
theorem dL_restore_3 : decode cL_restore 3 = .ok (.invokevirtual 112, 3) := by decide +kernel
theorem dL_restore_6 : decode cL_restore 6 = .ok (.i2l, 1) := by decide +kernel
theorem dL_restore_7 : decode cL_restore 7 = .ok (.lastore, 1) := by decide +kernel
theorem dL_restore_8 : decode cL_restore 8 = .ok (.goto 6, 3) := by decide +kernel
theorem dL_restore_11 : decode cL_restore 11 = .ok (.astore_n 2, 1) := by decide +kernel
theorem dL_restore_12 : decode cL_restore 12 = .ok (.iconst 1, 1) := by decide +kernel
theorem dL_restore_13 : decode cL_restore 13 = .ok (.ireturn, 1) := by decide +kernel
theorem dL_restore_14 : decode cL_restore 14 = .ok (.iconst 0, 1) := by decide +kernel
theorem dL_restore_15 : decode cL_restore 15 = .ok (.ireturn, 1) := by decide +kernel
theorem dL_law_0 : decode cL_law 0 = .ok (.new 8, 3) := by decide +kernel
theorem dL_law_3 : decode cL_law 3 = .ok (.dup, 1) := by decide +kernel
theorem dL_law_4 : decode cL_law 4 = .ok (.invokespecial 115, 3) := by decide +kernel
theorem dL_law_7 : decode cL_law 7 = .ok (.astore_n 1, 1) := by decide +kernel
theorem dL_law_8 : decode cL_law 8 = .ok (.new 116, 3) := by decide +kernel
theorem dL_law_11 : decode cL_law 11 = .ok (.dup, 1) := by decide +kernel
theorem dL_law_12 : decode cL_law 12 = .ok (.invokespecial 118, 3) := by decide +kernel
theorem dL_law_15 : decode cL_law 15 = .ok (.astore_n 2, 1) := by decide +kernel
theorem dL_law_16 : decode cL_law 16 = .ok (.iconst 1, 1) := by decide +kernel
theorem dL_law_17 : decode cL_law 17 = .ok (.newarray .long, 2) := by decide +kernel
theorem dL_law_19 : decode cL_law 19 = .ok (.astore_n 3, 1) := by decide +kernel
theorem dL_law_20 : decode cL_law 20 = .ok (.iconst 1, 1) := by decide +kernel
theorem dL_law_21 : decode cL_law 21 = .ok (.newarray .double, 2) := by decide +kernel
theorem dL_law_23 : decode cL_law 23 = .ok (.astore 4, 2) := by decide +kernel
theorem dL_law_25 : decode cL_law 25 = .ok (.iconst 0, 1) := by decide +kernel
theorem dL_law_26 : decode cL_law 26 = .ok (.istore 5, 2) := by decide +kernel
theorem dL_law_28 : decode cL_law 28 = .ok (.iload 5, 2) := by decide +kernel
theorem dL_law_30 : decode cL_law 30 = .ok (.aload_n 0, 1) := by decide +kernel
theorem dL_law_31 : decode cL_law 31 = .ok (.arraylength, 1) := by decide +kernel
theorem dL_law_32 : decode cL_law 32 = .ok (.iconst 4, 1) := by decide +kernel
theorem dL_law_33 : decode cL_law 33 = .ok (.isub, 1) := by decide +kernel
theorem dL_law_34 : decode cL_law 34 = .ok (.if_icmp .gt 1988, 3) := by decide +kernel
theorem dL_law_37 : decode cL_law 37 = .ok (.aload_n 0, 1) := by decide +kernel
theorem dL_law_38 : decode cL_law 38 = .ok (.iload 5, 2) := by decide +kernel
theorem dL_law_40 : decode cL_law 40 = .ok (.iaload, 1) := by decide +kernel
theorem dL_law_41 : decode cL_law 41 = .ok (.bipush 63, 2) := by decide +kernel
theorem dL_law_43 : decode cL_law 43 = .ok (.iand, 1) := by decide +kernel
theorem dL_law_44 : decode cL_law 44 = .ok (.tableswitch 1972 0 33 #[152, 196, 276, 344, 412, 480, 548, 604, 672, 716, 760, 773, 829, 892, 948, 1004, 1084, 1152, 1243, 1299, 1355, 1396, 1452, 1508, 1566, 1610, 1623, 1695, 1751, 1764, 1805, 1871, 1915, 1928], 152) := by decide +kernel
theorem dL_law_196 : decode cL_law 196 = .ok (.aload_n 1, 1) := by decide +kernel
theorem dL_law_197 : decode cL_law 197 = .ok (.aload_n 3, 1) := by decide +kernel
theorem dL_law_198 : decode cL_law 198 = .ok (.invokestatic 119, 3) := by decide +kernel
theorem dL_law_201 : decode cL_law 201 = .ok (.istore 6, 2) := by decide +kernel
theorem dL_law_203 : decode cL_law 203 = .ok (.aload_n 2, 1) := by decide +kernel
theorem dL_law_204 : decode cL_law 204 = .ok (.invokevirtual 124, 3) := by decide +kernel
theorem dL_law_207 : decode cL_law 207 = .ok (.istore 7, 2) := by decide +kernel
theorem dL_law_209 : decode cL_law 209 = .ok (.aload_n 2, 1) := by decide +kernel
theorem dL_law_210 : decode cL_law 210 = .ok (.invokevirtual 125, 3) := by decide +kernel
theorem dL_law_213 : decode cL_law 213 = .ok (.iload 6, 2) := by decide +kernel
theorem dL_law_215 : decode cL_law 215 = .ok (.if_icmp .eq 5, 3) := by decide +kernel
theorem dL_law_218 : decode cL_law 218 = .ok (.iconst 0, 1) := by decide +kernel
theorem dL_law_219 : decode cL_law 219 = .ok (.ireturn, 1) := by decide +kernel
theorem dL_law_220 : decode cL_law 220 = .ok (.iload 6, 2) := by decide +kernel
theorem dL_law_222 : decode cL_law 222 = .ok (.ifCond .ne 15, 3) := by decide +kernel
theorem dL_law_225 : decode cL_law 225 = .ok (.aload_n 3, 1) := by decide +kernel
theorem dL_law_226 : decode cL_law 226 = .ok (.iconst 0, 1) := by decide +kernel
theorem dL_law_227 : decode cL_law 227 = .ok (.laload, 1) := by decide +kernel
theorem dL_law_228 : decode cL_law 228 = .ok (.iload 7, 2) := by decide +kernel
theorem dL_law_230 : decode cL_law 230 = .ok (.i2l, 1) := by decide +kernel
theorem dL_law_231 : decode cL_law 231 = .ok (.lcmp, 1) := by decide +kernel
theorem dL_law_232 : decode cL_law 232 = .ok (.ifCond .eq 5, 3) := by decide +kernel
theorem dL_law_235 : decode cL_law 235 = .ok (.iconst 0, 1) := by decide +kernel
theorem dL_law_236 : decode cL_law 236 = .ok (.ireturn, 1) := by decide +kernel
theorem dL_law_237 : decode cL_law 237 = .ok (.goto 1779, 3) := by decide +kernel
theorem dL_law_240 : decode cL_law 240 = .ok (.aload_n 1, 1) := by decide +kernel
theorem dL_law_241 : decode cL_law 241 = .ok (.aload_n 0, 1) := by decide +kernel
theorem dL_law_242 : decode cL_law 242 = .ok (.iload 5, 2) := by decide +kernel
theorem dL_law_244 : decode cL_law 244 = .ok (.iconst 1, 1) := by decide +kernel
theorem dL_law_245 : decode cL_law 245 = .ok (.iadd, 1) := by decide +kernel
theorem dL_law_246 : decode cL_law 246 = .ok (.iaload, 1) := by decide +kernel
theorem dL_law_247 : decode cL_law 247 = .ok (.aload_n 0, 1) := by decide +kernel
theorem dL_law_248 : decode cL_law 248 = .ok (.iload 5, 2) := by decide +kernel
theorem dL_law_250 : decode cL_law 250 = .ok (.iconst 2, 1) := by decide +kernel
theorem dL_law_251 : decode cL_law 251 = .ok (.iadd, 1) := by decide +kernel
theorem dL_law_252 : decode cL_law 252 = .ok (.iaload, 1) := by decide +kernel
theorem dL_law_253 : decode cL_law 253 = .ok (.aload_n 0, 1) := by decide +kernel
theorem dL_law_254 : decode cL_law 254 = .ok (.iload 5, 2) := by decide +kernel
theorem dL_law_256 : decode cL_law 256 = .ok (.iconst 3, 1) := by decide +kernel
theorem dL_law_257 : decode cL_law 257 = .ok (.iadd, 1) := by decide +kernel
theorem dL_law_258 : decode cL_law 258 = .ok (.iaload, 1) := by decide +kernel
theorem dL_law_259 : decode cL_law 259 = .ok (.aload_n 3, 1) := by decide +kernel
theorem dL_law_260 : decode cL_law 260 = .ok (.invokestatic 128, 3) := by decide +kernel
theorem dL_law_263 : decode cL_law 263 = .ok (.istore 6, 2) := by decide +kernel
theorem dL_law_265 : decode cL_law 265 = .ok (.aload_n 2, 1) := by decide +kernel
theorem dL_law_266 : decode cL_law 266 = .ok (.aload_n 0, 1) := by decide +kernel
theorem dL_law_267 : decode cL_law 267 = .ok (.iload 5, 2) := by decide +kernel
theorem dL_law_269 : decode cL_law 269 = .ok (.iconst 1, 1) := by decide +kernel
theorem dL_law_270 : decode cL_law 270 = .ok (.iadd, 1) := by decide +kernel
theorem dL_law_271 : decode cL_law 271 = .ok (.iaload, 1) := by decide +kernel
theorem dL_law_272 : decode cL_law 272 = .ok (.aload_n 0, 1) := by decide +kernel
theorem dL_law_273 : decode cL_law 273 = .ok (.iload 5, 2) := by decide +kernel
theorem dL_law_275 : decode cL_law 275 = .ok (.iconst 2, 1) := by decide +kernel
theorem dL_law_276 : decode cL_law 276 = .ok (.iadd, 1) := by decide +kernel
theorem dL_law_277 : decode cL_law 277 = .ok (.iaload, 1) := by decide +kernel
theorem dL_law_278 : decode cL_law 278 = .ok (.aload_n 0, 1) := by decide +kernel
theorem dL_law_279 : decode cL_law 279 = .ok (.iload 5, 2) := by decide +kernel
theorem dL_law_281 : decode cL_law 281 = .ok (.iconst 3, 1) := by decide +kernel
theorem dL_law_282 : decode cL_law 282 = .ok (.iadd, 1) := by decide +kernel
theorem dL_law_283 : decode cL_law 283 = .ok (.iaload, 1) := by decide +kernel
theorem dL_law_284 : decode cL_law 284 = .ok (.invokevirtual 131, 3) := by decide +kernel
theorem dL_law_287 : decode cL_law 287 = .ok (.istore 7, 2) := by decide +kernel
theorem dL_law_289 : decode cL_law 289 = .ok (.aload_n 2, 1) := by decide +kernel
theorem dL_law_290 : decode cL_law 290 = .ok (.invokevirtual 125, 3) := by decide +kernel
theorem dL_law_293 : decode cL_law 293 = .ok (.iload 6, 2) := by decide +kernel
theorem dL_law_295 : decode cL_law 295 = .ok (.if_icmp .eq 5, 3) := by decide +kernel
theorem dL_law_298 : decode cL_law 298 = .ok (.iconst 0, 1) := by decide +kernel
theorem dL_law_299 : decode cL_law 299 = .ok (.ireturn, 1) := by decide +kernel
theorem dL_law_300 : decode cL_law 300 = .ok (.iload 6, 2) := by decide +kernel
theorem dL_law_302 : decode cL_law 302 = .ok (.ifCond .ne 15, 3) := by decide +kernel
theorem dL_law_305 : decode cL_law 305 = .ok (.aload_n 3, 1) := by decide +kernel
theorem dL_law_306 : decode cL_law 306 = .ok (.iconst 0, 1) := by decide +kernel
theorem dL_law_307 : decode cL_law 307 = .ok (.laload, 1) := by decide +kernel
theorem dL_law_308 : decode cL_law 308 = .ok (.iload 7, 2) := by decide +kernel
theorem dL_law_310 : decode cL_law 310 = .ok (.i2l, 1) := by decide +kernel
theorem dL_law_311 : decode cL_law 311 = .ok (.lcmp, 1) := by decide +kernel
theorem dL_law_312 : decode cL_law 312 = .ok (.ifCond .eq 5, 3) := by decide +kernel
theorem dL_law_315 : decode cL_law 315 = .ok (.iconst 0, 1) := by decide +kernel
theorem dL_law_316 : decode cL_law 316 = .ok (.ireturn, 1) := by decide +kernel
theorem dL_law_317 : decode cL_law 317 = .ok (.goto 1699, 3) := by decide +kernel
theorem dL_law_320 : decode cL_law 320 = .ok (.aload_n 1, 1) := by decide +kernel
theorem dL_law_321 : decode cL_law 321 = .ok (.aload_n 0, 1) := by decide +kernel
theorem dL_law_322 : decode cL_law 322 = .ok (.iload 5, 2) := by decide +kernel
theorem dL_law_324 : decode cL_law 324 = .ok (.iconst 1, 1) := by decide +kernel
theorem dL_law_325 : decode cL_law 325 = .ok (.iadd, 1) := by decide +kernel
theorem dL_law_326 : decode cL_law 326 = .ok (.iaload, 1) := by decide +kernel
theorem dL_law_327 : decode cL_law 327 = .ok (.aload_n 0, 1) := by decide +kernel
theorem dL_law_328 : decode cL_law 328 = .ok (.iload 5, 2) := by decide +kernel
theorem dL_law_330 : decode cL_law 330 = .ok (.iconst 2, 1) := by decide +kernel
theorem dL_law_331 : decode cL_law 331 = .ok (.iadd, 1) := by decide +kernel
theorem dL_law_332 : decode cL_law 332 = .ok (.iaload, 1) := by decide +kernel
theorem dL_law_333 : decode cL_law 333 = .ok (.aload_n 3, 1) := by decide +kernel
theorem dL_law_334 : decode cL_law 334 = .ok (.invokestatic 132, 3) := by decide +kernel
theorem dL_law_337 : decode cL_law 337 = .ok (.istore 6, 2) := by decide +kernel
theorem dL_law_339 : decode cL_law 339 = .ok (.aload_n 2, 1) := by decide +kernel
theorem dL_law_340 : decode cL_law 340 = .ok (.aload_n 0, 1) := by decide +kernel
theorem dL_law_341 : decode cL_law 341 = .ok (.iload 5, 2) := by decide +kernel
theorem dL_law_343 : decode cL_law 343 = .ok (.iconst 1, 1) := by decide +kernel
theorem dL_law_344 : decode cL_law 344 = .ok (.iadd, 1) := by decide +kernel
theorem dL_law_345 : decode cL_law 345 = .ok (.iaload, 1) := by decide +kernel
theorem dL_law_346 : decode cL_law 346 = .ok (.aload_n 0, 1) := by decide +kernel
theorem dL_law_347 : decode cL_law 347 = .ok (.iload 5, 2) := by decide +kernel
theorem dL_law_349 : decode cL_law 349 = .ok (.iconst 2, 1) := by decide +kernel
theorem dL_law_350 : decode cL_law 350 = .ok (.iadd, 1) := by decide +kernel
theorem dL_law_351 : decode cL_law 351 = .ok (.iaload, 1) := by decide +kernel
theorem dL_law_352 : decode cL_law 352 = .ok (.invokevirtual 135, 3) := by decide +kernel
theorem dL_law_355 : decode cL_law 355 = .ok (.istore 7, 2) := by decide +kernel
theorem dL_law_357 : decode cL_law 357 = .ok (.aload_n 2, 1) := by decide +kernel
theorem dL_law_358 : decode cL_law 358 = .ok (.invokevirtual 125, 3) := by decide +kernel
theorem dL_law_361 : decode cL_law 361 = .ok (.iload 6, 2) := by decide +kernel
theorem dL_law_363 : decode cL_law 363 = .ok (.if_icmp .eq 5, 3) := by decide +kernel
theorem dL_law_366 : decode cL_law 366 = .ok (.iconst 0, 1) := by decide +kernel
theorem dL_law_367 : decode cL_law 367 = .ok (.ireturn, 1) := by decide +kernel
theorem dL_law_368 : decode cL_law 368 = .ok (.iload 6, 2) := by decide +kernel
theorem dL_law_370 : decode cL_law 370 = .ok (.ifCond .ne 15, 3) := by decide +kernel
theorem dL_law_373 : decode cL_law 373 = .ok (.aload_n 3, 1) := by decide +kernel
theorem dL_law_374 : decode cL_law 374 = .ok (.iconst 0, 1) := by decide +kernel
theorem dL_law_375 : decode cL_law 375 = .ok (.laload, 1) := by decide +kernel
theorem dL_law_376 : decode cL_law 376 = .ok (.iload 7, 2) := by decide +kernel
theorem dL_law_378 : decode cL_law 378 = .ok (.i2l, 1) := by decide +kernel
theorem dL_law_379 : decode cL_law 379 = .ok (.lcmp, 1) := by decide +kernel
theorem dL_law_380 : decode cL_law 380 = .ok (.ifCond .eq 5, 3) := by decide +kernel
theorem dL_law_383 : decode cL_law 383 = .ok (.iconst 0, 1) := by decide +kernel
theorem dL_law_384 : decode cL_law 384 = .ok (.ireturn, 1) := by decide +kernel
theorem dL_law_385 : decode cL_law 385 = .ok (.goto 1631, 3) := by decide +kernel
theorem dL_law_388 : decode cL_law 388 = .ok (.aload_n 1, 1) := by decide +kernel
theorem dL_law_389 : decode cL_law 389 = .ok (.aload_n 0, 1) := by decide +kernel
theorem dL_law_390 : decode cL_law 390 = .ok (.iload 5, 2) := by decide +kernel
theorem dL_law_392 : decode cL_law 392 = .ok (.iconst 1, 1) := by decide +kernel
theorem dL_law_393 : decode cL_law 393 = .ok (.iadd, 1) := by decide +kernel
theorem dL_law_394 : decode cL_law 394 = .ok (.iaload, 1) := by decide +kernel
theorem dL_law_395 : decode cL_law 395 = .ok (.aload_n 0, 1) := by decide +kernel
theorem dL_law_396 : decode cL_law 396 = .ok (.iload 5, 2) := by decide +kernel
theorem dL_law_398 : decode cL_law 398 = .ok (.iconst 2, 1) := by decide +kernel
theorem dL_law_399 : decode cL_law 399 = .ok (.iadd, 1) := by decide +kernel
theorem dL_law_400 : decode cL_law 400 = .ok (.iaload, 1) := by decide +kernel
theorem dL_law_401 : decode cL_law 401 = .ok (.aload_n 3, 1) := by decide +kernel
theorem dL_law_402 : decode cL_law 402 = .ok (.invokestatic 136, 3) := by decide +kernel
theorem dL_law_405 : decode cL_law 405 = .ok (.istore 6, 2) := by decide +kernel
theorem dL_law_407 : decode cL_law 407 = .ok (.aload_n 2, 1) := by decide +kernel
theorem dL_law_408 : decode cL_law 408 = .ok (.aload_n 0, 1) := by decide +kernel
theorem dL_law_409 : decode cL_law 409 = .ok (.iload 5, 2) := by decide +kernel
theorem dL_law_411 : decode cL_law 411 = .ok (.iconst 1, 1) := by decide +kernel
theorem dL_law_412 : decode cL_law 412 = .ok (.iadd, 1) := by decide +kernel
theorem dL_law_413 : decode cL_law 413 = .ok (.iaload, 1) := by decide +kernel
theorem dL_law_414 : decode cL_law 414 = .ok (.aload_n 0, 1) := by decide +kernel
theorem dL_law_415 : decode cL_law 415 = .ok (.iload 5, 2) := by decide +kernel
theorem dL_law_417 : decode cL_law 417 = .ok (.iconst 2, 1) := by decide +kernel
theorem dL_law_418 : decode cL_law 418 = .ok (.iadd, 1) := by decide +kernel
theorem dL_law_419 : decode cL_law 419 = .ok (.iaload, 1) := by decide +kernel
theorem dL_law_420 : decode cL_law 420 = .ok (.invokevirtual 138, 3) := by decide +kernel
theorem dL_law_423 : decode cL_law 423 = .ok (.istore 7, 2) := by decide +kernel
theorem dL_law_425 : decode cL_law 425 = .ok (.aload_n 2, 1) := by decide +kernel
theorem dL_law_426 : decode cL_law 426 = .ok (.invokevirtual 125, 3) := by decide +kernel
theorem dL_law_429 : decode cL_law 429 = .ok (.iload 6, 2) := by decide +kernel
theorem dL_law_431 : decode cL_law 431 = .ok (.if_icmp .eq 5, 3) := by decide +kernel
theorem dL_law_434 : decode cL_law 434 = .ok (.iconst 0, 1) := by decide +kernel
theorem dL_law_435 : decode cL_law 435 = .ok (.ireturn, 1) := by decide +kernel
theorem dL_law_436 : decode cL_law 436 = .ok (.iload 6, 2) := by decide +kernel
theorem dL_law_438 : decode cL_law 438 = .ok (.ifCond .ne 15, 3) := by decide +kernel
theorem dL_law_441 : decode cL_law 441 = .ok (.aload_n 3, 1) := by decide +kernel
theorem dL_law_442 : decode cL_law 442 = .ok (.iconst 0, 1) := by decide +kernel
theorem dL_law_443 : decode cL_law 443 = .ok (.laload, 1) := by decide +kernel
theorem dL_law_444 : decode cL_law 444 = .ok (.iload 7, 2) := by decide +kernel
theorem dL_law_446 : decode cL_law 446 = .ok (.i2l, 1) := by decide +kernel
theorem dL_law_447 : decode cL_law 447 = .ok (.lcmp, 1) := by decide +kernel
theorem dL_law_448 : decode cL_law 448 = .ok (.ifCond .eq 5, 3) := by decide +kernel
theorem dL_law_451 : decode cL_law 451 = .ok (.iconst 0, 1) := by decide +kernel
theorem dL_law_452 : decode cL_law 452 = .ok (.ireturn, 1) := by decide +kernel
theorem dL_law_453 : decode cL_law 453 = .ok (.goto 1563, 3) := by decide +kernel
theorem dL_law_456 : decode cL_law 456 = .ok (.aload_n 1, 1) := by decide +kernel
theorem dL_law_457 : decode cL_law 457 = .ok (.aload_n 0, 1) := by decide +kernel
theorem dL_law_458 : decode cL_law 458 = .ok (.iload 5, 2) := by decide +kernel
theorem dL_law_460 : decode cL_law 460 = .ok (.iconst 1, 1) := by decide +kernel
theorem dL_law_461 : decode cL_law 461 = .ok (.iadd, 1) := by decide +kernel
theorem dL_law_462 : decode cL_law 462 = .ok (.iaload, 1) := by decide +kernel
theorem dL_law_463 : decode cL_law 463 = .ok (.aload_n 0, 1) := by decide +kernel
theorem dL_law_464 : decode cL_law 464 = .ok (.iload 5, 2) := by decide +kernel
theorem dL_law_466 : decode cL_law 466 = .ok (.iconst 2, 1) := by decide +kernel
theorem dL_law_467 : decode cL_law 467 = .ok (.iadd, 1) := by decide +kernel
theorem dL_law_468 : decode cL_law 468 = .ok (.iaload, 1) := by decide +kernel
theorem dL_law_469 : decode cL_law 469 = .ok (.aload_n 3, 1) := by decide +kernel
theorem dL_law_470 : decode cL_law 470 = .ok (.invokestatic 139, 3) := by decide +kernel
theorem dL_law_473 : decode cL_law 473 = .ok (.istore 6, 2) := by decide +kernel
theorem dL_law_475 : decode cL_law 475 = .ok (.aload_n 2, 1) := by decide +kernel
theorem dL_law_476 : decode cL_law 476 = .ok (.aload_n 0, 1) := by decide +kernel
theorem dL_law_477 : decode cL_law 477 = .ok (.iload 5, 2) := by decide +kernel
theorem dL_law_479 : decode cL_law 479 = .ok (.iconst 1, 1) := by decide +kernel
theorem dL_law_480 : decode cL_law 480 = .ok (.iadd, 1) := by decide +kernel
theorem dL_law_481 : decode cL_law 481 = .ok (.iaload, 1) := by decide +kernel
theorem dL_law_482 : decode cL_law 482 = .ok (.aload_n 0, 1) := by decide +kernel
theorem dL_law_483 : decode cL_law 483 = .ok (.iload 5, 2) := by decide +kernel
theorem dL_law_485 : decode cL_law 485 = .ok (.iconst 2, 1) := by decide +kernel
theorem dL_law_486 : decode cL_law 486 = .ok (.iadd, 1) := by decide +kernel
theorem dL_law_487 : decode cL_law 487 = .ok (.iaload, 1) := by decide +kernel
theorem dL_law_488 : decode cL_law 488 = .ok (.invokevirtual 141, 3) := by decide +kernel
theorem dL_law_491 : decode cL_law 491 = .ok (.istore 7, 2) := by decide +kernel
theorem dL_law_493 : decode cL_law 493 = .ok (.aload_n 2, 1) := by decide +kernel
theorem dL_law_494 : decode cL_law 494 = .ok (.invokevirtual 125, 3) := by decide +kernel
theorem dL_law_497 : decode cL_law 497 = .ok (.iload 6, 2) := by decide +kernel
theorem dL_law_499 : decode cL_law 499 = .ok (.if_icmp .eq 5, 3) := by decide +kernel
theorem dL_law_502 : decode cL_law 502 = .ok (.iconst 0, 1) := by decide +kernel
theorem dL_law_503 : decode cL_law 503 = .ok (.ireturn, 1) := by decide +kernel
theorem dL_law_504 : decode cL_law 504 = .ok (.iload 6, 2) := by decide +kernel
theorem dL_law_506 : decode cL_law 506 = .ok (.ifCond .ne 15, 3) := by decide +kernel
theorem dL_law_509 : decode cL_law 509 = .ok (.aload_n 3, 1) := by decide +kernel
theorem dL_law_510 : decode cL_law 510 = .ok (.iconst 0, 1) := by decide +kernel
theorem dL_law_511 : decode cL_law 511 = .ok (.laload, 1) := by decide +kernel
theorem dL_law_512 : decode cL_law 512 = .ok (.iload 7, 2) := by decide +kernel
theorem dL_law_514 : decode cL_law 514 = .ok (.i2l, 1) := by decide +kernel
theorem dL_law_515 : decode cL_law 515 = .ok (.lcmp, 1) := by decide +kernel
theorem dL_law_516 : decode cL_law 516 = .ok (.ifCond .eq 5, 3) := by decide +kernel
theorem dL_law_519 : decode cL_law 519 = .ok (.iconst 0, 1) := by decide +kernel
theorem dL_law_520 : decode cL_law 520 = .ok (.ireturn, 1) := by decide +kernel
theorem dL_law_521 : decode cL_law 521 = .ok (.goto 1495, 3) := by decide +kernel
theorem dL_law_524 : decode cL_law 524 = .ok (.aload_n 1, 1) := by decide +kernel
theorem dL_law_525 : decode cL_law 525 = .ok (.aload_n 0, 1) := by decide +kernel
theorem dL_law_526 : decode cL_law 526 = .ok (.iload 5, 2) := by decide +kernel
theorem dL_law_528 : decode cL_law 528 = .ok (.iconst 1, 1) := by decide +kernel
theorem dL_law_529 : decode cL_law 529 = .ok (.iadd, 1) := by decide +kernel
theorem dL_law_530 : decode cL_law 530 = .ok (.iaload, 1) := by decide +kernel
theorem dL_law_531 : decode cL_law 531 = .ok (.aload_n 0, 1) := by decide +kernel
theorem dL_law_532 : decode cL_law 532 = .ok (.iload 5, 2) := by decide +kernel
theorem dL_law_534 : decode cL_law 534 = .ok (.iconst 2, 1) := by decide +kernel
theorem dL_law_535 : decode cL_law 535 = .ok (.iadd, 1) := by decide +kernel
theorem dL_law_536 : decode cL_law 536 = .ok (.iaload, 1) := by decide +kernel
theorem dL_law_537 : decode cL_law 537 = .ok (.aload_n 3, 1) := by decide +kernel
theorem dL_law_538 : decode cL_law 538 = .ok (.invokestatic 142, 3) := by decide +kernel
theorem dL_law_541 : decode cL_law 541 = .ok (.istore 6, 2) := by decide +kernel
theorem dL_law_543 : decode cL_law 543 = .ok (.aload_n 2, 1) := by decide +kernel
theorem dL_law_544 : decode cL_law 544 = .ok (.aload_n 0, 1) := by decide +kernel
theorem dL_law_545 : decode cL_law 545 = .ok (.iload 5, 2) := by decide +kernel
theorem dL_law_547 : decode cL_law 547 = .ok (.iconst 1, 1) := by decide +kernel
theorem dL_law_548 : decode cL_law 548 = .ok (.iadd, 1) := by decide +kernel
theorem dL_law_549 : decode cL_law 549 = .ok (.iaload, 1) := by decide +kernel
theorem dL_law_550 : decode cL_law 550 = .ok (.aload_n 0, 1) := by decide +kernel
theorem dL_law_551 : decode cL_law 551 = .ok (.iload 5, 2) := by decide +kernel
theorem dL_law_553 : decode cL_law 553 = .ok (.iconst 2, 1) := by decide +kernel
theorem dL_law_554 : decode cL_law 554 = .ok (.iadd, 1) := by decide +kernel
theorem dL_law_555 : decode cL_law 555 = .ok (.iaload, 1) := by decide +kernel
theorem dL_law_556 : decode cL_law 556 = .ok (.invokevirtual 144, 3) := by decide +kernel
theorem dL_law_559 : decode cL_law 559 = .ok (.istore 7, 2) := by decide +kernel
theorem dL_law_561 : decode cL_law 561 = .ok (.aload_n 2, 1) := by decide +kernel
theorem dL_law_562 : decode cL_law 562 = .ok (.invokevirtual 125, 3) := by decide +kernel
theorem dL_law_565 : decode cL_law 565 = .ok (.iload 6, 2) := by decide +kernel
theorem dL_law_567 : decode cL_law 567 = .ok (.if_icmp .eq 5, 3) := by decide +kernel
theorem dL_law_570 : decode cL_law 570 = .ok (.iconst 0, 1) := by decide +kernel
theorem dL_law_571 : decode cL_law 571 = .ok (.ireturn, 1) := by decide +kernel
theorem dL_law_572 : decode cL_law 572 = .ok (.iload 6, 2) := by decide +kernel
theorem dL_law_574 : decode cL_law 574 = .ok (.ifCond .ne 15, 3) := by decide +kernel
theorem dL_law_577 : decode cL_law 577 = .ok (.aload_n 3, 1) := by decide +kernel
theorem dL_law_578 : decode cL_law 578 = .ok (.iconst 0, 1) := by decide +kernel
theorem dL_law_579 : decode cL_law 579 = .ok (.laload, 1) := by decide +kernel
theorem dL_law_580 : decode cL_law 580 = .ok (.iload 7, 2) := by decide +kernel
theorem dL_law_582 : decode cL_law 582 = .ok (.i2l, 1) := by decide +kernel
theorem dL_law_583 : decode cL_law 583 = .ok (.lcmp, 1) := by decide +kernel
theorem dL_law_584 : decode cL_law 584 = .ok (.ifCond .eq 5, 3) := by decide +kernel
theorem dL_law_587 : decode cL_law 587 = .ok (.iconst 0, 1) := by decide +kernel
theorem dL_law_588 : decode cL_law 588 = .ok (.ireturn, 1) := by decide +kernel
theorem dL_law_589 : decode cL_law 589 = .ok (.goto 1427, 3) := by decide +kernel
theorem dL_law_592 : decode cL_law 592 = .ok (.aload_n 1, 1) := by decide +kernel
theorem dL_law_593 : decode cL_law 593 = .ok (.aload_n 0, 1) := by decide +kernel
theorem dL_law_594 : decode cL_law 594 = .ok (.iload 5, 2) := by decide +kernel
theorem dL_law_596 : decode cL_law 596 = .ok (.iconst 1, 1) := by decide +kernel
theorem dL_law_597 : decode cL_law 597 = .ok (.iadd, 1) := by decide +kernel
theorem dL_law_598 : decode cL_law 598 = .ok (.iaload, 1) := by decide +kernel
theorem dL_law_599 : decode cL_law 599 = .ok (.aload_n 3, 1) := by decide +kernel
theorem dL_law_600 : decode cL_law 600 = .ok (.invokestatic 145, 3) := by decide +kernel
theorem dL_law_603 : decode cL_law 603 = .ok (.istore 6, 2) := by decide +kernel
theorem dL_law_605 : decode cL_law 605 = .ok (.aload_n 2, 1) := by decide +kernel
theorem dL_law_606 : decode cL_law 606 = .ok (.aload_n 0, 1) := by decide +kernel
theorem dL_law_607 : decode cL_law 607 = .ok (.iload 5, 2) := by decide +kernel
theorem dL_law_609 : decode cL_law 609 = .ok (.iconst 1, 1) := by decide +kernel
theorem dL_law_610 : decode cL_law 610 = .ok (.iadd, 1) := by decide +kernel
theorem dL_law_611 : decode cL_law 611 = .ok (.iaload, 1) := by decide +kernel
theorem dL_law_612 : decode cL_law 612 = .ok (.invokevirtual 148, 3) := by decide +kernel
theorem dL_law_615 : decode cL_law 615 = .ok (.istore 7, 2) := by decide +kernel
theorem dL_law_617 : decode cL_law 617 = .ok (.aload_n 2, 1) := by decide +kernel
theorem dL_law_618 : decode cL_law 618 = .ok (.invokevirtual 125, 3) := by decide +kernel
theorem dL_law_621 : decode cL_law 621 = .ok (.iload 6, 2) := by decide +kernel
theorem dL_law_623 : decode cL_law 623 = .ok (.if_icmp .eq 5, 3) := by decide +kernel
theorem dL_law_626 : decode cL_law 626 = .ok (.iconst 0, 1) := by decide +kernel
theorem dL_law_627 : decode cL_law 627 = .ok (.ireturn, 1) := by decide +kernel
theorem dL_law_628 : decode cL_law 628 = .ok (.iload 6, 2) := by decide +kernel
theorem dL_law_630 : decode cL_law 630 = .ok (.ifCond .ne 15, 3) := by decide +kernel
theorem dL_law_633 : decode cL_law 633 = .ok (.aload_n 3, 1) := by decide +kernel
theorem dL_law_634 : decode cL_law 634 = .ok (.iconst 0, 1) := by decide +kernel
theorem dL_law_635 : decode cL_law 635 = .ok (.laload, 1) := by decide +kernel
theorem dL_law_636 : decode cL_law 636 = .ok (.iload 7, 2) := by decide +kernel
theorem dL_law_638 : decode cL_law 638 = .ok (.i2l, 1) := by decide +kernel
theorem dL_law_639 : decode cL_law 639 = .ok (.lcmp, 1) := by decide +kernel
theorem dL_law_640 : decode cL_law 640 = .ok (.ifCond .eq 5, 3) := by decide +kernel
theorem dL_law_643 : decode cL_law 643 = .ok (.iconst 0, 1) := by decide +kernel
theorem dL_law_644 : decode cL_law 644 = .ok (.ireturn, 1) := by decide +kernel
theorem dL_law_645 : decode cL_law 645 = .ok (.goto 1371, 3) := by decide +kernel
theorem dL_law_648 : decode cL_law 648 = .ok (.aload_n 1, 1) := by decide +kernel
theorem dL_law_649 : decode cL_law 649 = .ok (.aload_n 0, 1) := by decide +kernel
theorem dL_law_650 : decode cL_law 650 = .ok (.iload 5, 2) := by decide +kernel
theorem dL_law_652 : decode cL_law 652 = .ok (.iconst 1, 1) := by decide +kernel
theorem dL_law_653 : decode cL_law 653 = .ok (.iadd, 1) := by decide +kernel
theorem dL_law_654 : decode cL_law 654 = .ok (.iaload, 1) := by decide +kernel
theorem dL_law_655 : decode cL_law 655 = .ok (.aload_n 0, 1) := by decide +kernel
theorem dL_law_656 : decode cL_law 656 = .ok (.iload 5, 2) := by decide +kernel
theorem dL_law_658 : decode cL_law 658 = .ok (.iconst 2, 1) := by decide +kernel
theorem dL_law_659 : decode cL_law 659 = .ok (.iadd, 1) := by decide +kernel
theorem dL_law_660 : decode cL_law 660 = .ok (.iaload, 1) := by decide +kernel
theorem dL_law_661 : decode cL_law 661 = .ok (.aload_n 3, 1) := by decide +kernel
theorem dL_law_662 : decode cL_law 662 = .ok (.invokestatic 149, 3) := by decide +kernel
theorem dL_law_665 : decode cL_law 665 = .ok (.istore 6, 2) := by decide +kernel
theorem dL_law_667 : decode cL_law 667 = .ok (.aload_n 2, 1) := by decide +kernel
theorem dL_law_668 : decode cL_law 668 = .ok (.aload_n 0, 1) := by decide +kernel
theorem dL_law_669 : decode cL_law 669 = .ok (.iload 5, 2) := by decide +kernel
theorem dL_law_671 : decode cL_law 671 = .ok (.iconst 1, 1) := by decide +kernel
theorem dL_law_672 : decode cL_law 672 = .ok (.iadd, 1) := by decide +kernel
theorem dL_law_673 : decode cL_law 673 = .ok (.iaload, 1) := by decide +kernel
theorem dL_law_674 : decode cL_law 674 = .ok (.aload_n 0, 1) := by decide +kernel
theorem dL_law_675 : decode cL_law 675 = .ok (.iload 5, 2) := by decide +kernel
theorem dL_law_677 : decode cL_law 677 = .ok (.iconst 2, 1) := by decide +kernel
theorem dL_law_678 : decode cL_law 678 = .ok (.iadd, 1) := by decide +kernel
theorem dL_law_679 : decode cL_law 679 = .ok (.iaload, 1) := by decide +kernel
theorem dL_law_680 : decode cL_law 680 = .ok (.invokevirtual 151, 3) := by decide +kernel
theorem dL_law_683 : decode cL_law 683 = .ok (.istore 7, 2) := by decide +kernel
theorem dL_law_685 : decode cL_law 685 = .ok (.aload_n 2, 1) := by decide +kernel
theorem dL_law_686 : decode cL_law 686 = .ok (.invokevirtual 125, 3) := by decide +kernel
theorem dL_law_689 : decode cL_law 689 = .ok (.iload 6, 2) := by decide +kernel
theorem dL_law_691 : decode cL_law 691 = .ok (.if_icmp .eq 5, 3) := by decide +kernel
theorem dL_law_694 : decode cL_law 694 = .ok (.iconst 0, 1) := by decide +kernel
theorem dL_law_695 : decode cL_law 695 = .ok (.ireturn, 1) := by decide +kernel
theorem dL_law_696 : decode cL_law 696 = .ok (.iload 6, 2) := by decide +kernel
theorem dL_law_698 : decode cL_law 698 = .ok (.ifCond .ne 15, 3) := by decide +kernel
theorem dL_law_701 : decode cL_law 701 = .ok (.aload_n 3, 1) := by decide +kernel
theorem dL_law_702 : decode cL_law 702 = .ok (.iconst 0, 1) := by decide +kernel
theorem dL_law_703 : decode cL_law 703 = .ok (.laload, 1) := by decide +kernel
theorem dL_law_704 : decode cL_law 704 = .ok (.iload 7, 2) := by decide +kernel
theorem dL_law_706 : decode cL_law 706 = .ok (.i2l, 1) := by decide +kernel
theorem dL_law_707 : decode cL_law 707 = .ok (.lcmp, 1) := by decide +kernel
theorem dL_law_708 : decode cL_law 708 = .ok (.ifCond .eq 5, 3) := by decide +kernel
theorem dL_law_711 : decode cL_law 711 = .ok (.iconst 0, 1) := by decide +kernel
theorem dL_law_712 : decode cL_law 712 = .ok (.ireturn, 1) := by decide +kernel
theorem dL_law_713 : decode cL_law 713 = .ok (.goto 1303, 3) := by decide +kernel
theorem dL_law_716 : decode cL_law 716 = .ok (.aload_n 1, 1) := by decide +kernel
theorem dL_law_717 : decode cL_law 717 = .ok (.aload_n 3, 1) := by decide +kernel
theorem dL_law_718 : decode cL_law 718 = .ok (.invokestatic 152, 3) := by decide +kernel
theorem dL_law_721 : decode cL_law 721 = .ok (.istore 6, 2) := by decide +kernel
theorem dL_law_723 : decode cL_law 723 = .ok (.aload_n 2, 1) := by decide +kernel
theorem dL_law_724 : decode cL_law 724 = .ok (.invokevirtual 154, 3) := by decide +kernel
theorem dL_law_727 : decode cL_law 727 = .ok (.istore 7, 2) := by decide +kernel
theorem dL_law_729 : decode cL_law 729 = .ok (.aload_n 2, 1) := by decide +kernel
theorem dL_law_730 : decode cL_law 730 = .ok (.invokevirtual 125, 3) := by decide +kernel
theorem dL_law_733 : decode cL_law 733 = .ok (.iload 6, 2) := by decide +kernel
theorem dL_law_735 : decode cL_law 735 = .ok (.if_icmp .eq 5, 3) := by decide +kernel
theorem dL_law_738 : decode cL_law 738 = .ok (.iconst 0, 1) := by decide +kernel
theorem dL_law_739 : decode cL_law 739 = .ok (.ireturn, 1) := by decide +kernel
theorem dL_law_740 : decode cL_law 740 = .ok (.iload 6, 2) := by decide +kernel
theorem dL_law_742 : decode cL_law 742 = .ok (.ifCond .ne 15, 3) := by decide +kernel
theorem dL_law_745 : decode cL_law 745 = .ok (.aload_n 3, 1) := by decide +kernel
theorem dL_law_746 : decode cL_law 746 = .ok (.iconst 0, 1) := by decide +kernel
theorem dL_law_747 : decode cL_law 747 = .ok (.laload, 1) := by decide +kernel
theorem dL_law_748 : decode cL_law 748 = .ok (.iload 7, 2) := by decide +kernel
theorem dL_law_750 : decode cL_law 750 = .ok (.i2l, 1) := by decide +kernel
theorem dL_law_751 : decode cL_law 751 = .ok (.lcmp, 1) := by decide +kernel
theorem dL_law_752 : decode cL_law 752 = .ok (.ifCond .eq 5, 3) := by decide +kernel
theorem dL_law_755 : decode cL_law 755 = .ok (.iconst 0, 1) := by decide +kernel
theorem dL_law_756 : decode cL_law 756 = .ok (.ireturn, 1) := by decide +kernel
theorem dL_law_757 : decode cL_law 757 = .ok (.goto 1259, 3) := by decide +kernel
theorem dL_law_760 : decode cL_law 760 = .ok (.aload_n 1, 1) := by decide +kernel
theorem dL_law_761 : decode cL_law 761 = .ok (.aload_n 3, 1) := by decide +kernel
theorem dL_law_762 : decode cL_law 762 = .ok (.invokestatic 155, 3) := by decide +kernel
theorem dL_law_765 : decode cL_law 765 = .ok (.istore 6, 2) := by decide +kernel
theorem dL_law_767 : decode cL_law 767 = .ok (.aload_n 2, 1) := by decide +kernel
theorem dL_law_768 : decode cL_law 768 = .ok (.invokevirtual 157, 3) := by decide +kernel
theorem dL_law_771 : decode cL_law 771 = .ok (.istore 7, 2) := by decide +kernel
theorem dL_law_773 : decode cL_law 773 = .ok (.aload_n 2, 1) := by decide +kernel
theorem dL_law_774 : decode cL_law 774 = .ok (.invokevirtual 125, 3) := by decide +kernel
theorem dL_law_777 : decode cL_law 777 = .ok (.iload 6, 2) := by decide +kernel
theorem dL_law_779 : decode cL_law 779 = .ok (.if_icmp .eq 5, 3) := by decide +kernel
theorem dL_law_782 : decode cL_law 782 = .ok (.iconst 0, 1) := by decide +kernel
theorem dL_law_783 : decode cL_law 783 = .ok (.ireturn, 1) := by decide +kernel
theorem dL_law_784 : decode cL_law 784 = .ok (.iload 6, 2) := by decide +kernel
theorem dL_law_786 : decode cL_law 786 = .ok (.ifCond .ne 15, 3) := by decide +kernel
theorem dL_law_789 : decode cL_law 789 = .ok (.aload_n 3, 1) := by decide +kernel
theorem dL_law_790 : decode cL_law 790 = .ok (.iconst 0, 1) := by decide +kernel
theorem dL_law_791 : decode cL_law 791 = .ok (.laload, 1) := by decide +kernel
theorem dL_law_792 : decode cL_law 792 = .ok (.iload 7, 2) := by decide +kernel
theorem dL_law_794 : decode cL_law 794 = .ok (.i2l, 1) := by decide +kernel
theorem dL_law_795 : decode cL_law 795 = .ok (.lcmp, 1) := by decide +kernel
theorem dL_law_796 : decode cL_law 796 = .ok (.ifCond .eq 5, 3) := by decide +kernel
theorem dL_law_799 : decode cL_law 799 = .ok (.iconst 0, 1) := by decide +kernel
theorem dL_law_800 : decode cL_law 800 = .ok (.ireturn, 1) := by decide +kernel
theorem dL_law_801 : decode cL_law 801 = .ok (.goto 1215, 3) := by decide +kernel
theorem dL_law_804 : decode cL_law 804 = .ok (.aload_n 1, 1) := by decide +kernel
theorem dL_law_805 : decode cL_law 805 = .ok (.invokevirtual 158, 3) := by decide +kernel
theorem dL_law_808 : decode cL_law 808 = .ok (.aload_n 2, 1) := by decide +kernel
theorem dL_law_809 : decode cL_law 809 = .ok (.invokevirtual 162, 3) := by decide +kernel
theorem dL_law_812 : decode cL_law 812 = .ok (.if_icmp .eq 1204, 3) := by decide +kernel
theorem dL_law_815 : decode cL_law 815 = .ok (.iconst 0, 1) := by decide +kernel
theorem dL_law_816 : decode cL_law 816 = .ok (.ireturn, 1) := by decide +kernel
theorem dL_law_817 : decode cL_law 817 = .ok (.aload_n 1, 1) := by decide +kernel
theorem dL_law_818 : decode cL_law 818 = .ok (.aload_n 0, 1) := by decide +kernel
theorem dL_law_819 : decode cL_law 819 = .ok (.iload 5, 2) := by decide +kernel
theorem dL_law_821 : decode cL_law 821 = .ok (.iconst 1, 1) := by decide +kernel
theorem dL_law_822 : decode cL_law 822 = .ok (.iadd, 1) := by decide +kernel
theorem dL_law_823 : decode cL_law 823 = .ok (.iaload, 1) := by decide +kernel
theorem dL_law_824 : decode cL_law 824 = .ok (.aload_n 3, 1) := by decide +kernel
theorem dL_law_825 : decode cL_law 825 = .ok (.invokestatic 163, 3) := by decide +kernel
theorem dL_law_828 : decode cL_law 828 = .ok (.istore 6, 2) := by decide +kernel
theorem dL_law_830 : decode cL_law 830 = .ok (.aload_n 2, 1) := by decide +kernel
theorem dL_law_831 : decode cL_law 831 = .ok (.aload_n 0, 1) := by decide +kernel
theorem dL_law_832 : decode cL_law 832 = .ok (.iload 5, 2) := by decide +kernel
theorem dL_law_834 : decode cL_law 834 = .ok (.iconst 1, 1) := by decide +kernel
theorem dL_law_835 : decode cL_law 835 = .ok (.iadd, 1) := by decide +kernel
theorem dL_law_836 : decode cL_law 836 = .ok (.iaload, 1) := by decide +kernel
theorem dL_law_837 : decode cL_law 837 = .ok (.invokevirtual 165, 3) := by decide +kernel
theorem dL_law_840 : decode cL_law 840 = .ok (.istore 7, 2) := by decide +kernel
theorem dL_law_842 : decode cL_law 842 = .ok (.aload_n 2, 1) := by decide +kernel
theorem dL_law_843 : decode cL_law 843 = .ok (.invokevirtual 125, 3) := by decide +kernel
theorem dL_law_846 : decode cL_law 846 = .ok (.iload 6, 2) := by decide +kernel
theorem dL_law_848 : decode cL_law 848 = .ok (.if_icmp .eq 5, 3) := by decide +kernel
theorem dL_law_851 : decode cL_law 851 = .ok (.iconst 0, 1) := by decide +kernel
theorem dL_law_852 : decode cL_law 852 = .ok (.ireturn, 1) := by decide +kernel
theorem dL_law_853 : decode cL_law 853 = .ok (.iload 6, 2) := by decide +kernel
theorem dL_law_855 : decode cL_law 855 = .ok (.ifCond .ne 15, 3) := by decide +kernel
theorem dL_law_858 : decode cL_law 858 = .ok (.aload_n 3, 1) := by decide +kernel
theorem dL_law_859 : decode cL_law 859 = .ok (.iconst 0, 1) := by decide +kernel
theorem dL_law_860 : decode cL_law 860 = .ok (.laload, 1) := by decide +kernel
theorem dL_law_861 : decode cL_law 861 = .ok (.iload 7, 2) := by decide +kernel
theorem dL_law_863 : decode cL_law 863 = .ok (.i2l, 1) := by decide +kernel
theorem dL_law_864 : decode cL_law 864 = .ok (.lcmp, 1) := by decide +kernel
theorem dL_law_865 : decode cL_law 865 = .ok (.ifCond .eq 5, 3) := by decide +kernel
theorem dL_law_868 : decode cL_law 868 = .ok (.iconst 0, 1) := by decide +kernel
theorem dL_law_869 : decode cL_law 869 = .ok (.ireturn, 1) := by decide +kernel
theorem dL_law_870 : decode cL_law 870 = .ok (.goto 1146, 3) := by decide +kernel
theorem dL_law_873 : decode cL_law 873 = .ok (.aload_n 1, 1) := by decide +kernel
theorem dL_law_874 : decode cL_law 874 = .ok (.aload_n 0, 1) := by decide +kernel
theorem dL_law_875 : decode cL_law 875 = .ok (.iload 5, 2) := by decide +kernel
theorem dL_law_877 : decode cL_law 877 = .ok (.iconst 1, 1) := by decide +kernel
theorem dL_law_878 : decode cL_law 878 = .ok (.iadd, 1) := by decide +kernel
theorem dL_law_879 : decode cL_law 879 = .ok (.iaload, 1) := by decide +kernel
theorem dL_law_880 : decode cL_law 880 = .ok (.aload_n 3, 1) := by decide +kernel
theorem dL_law_881 : decode cL_law 881 = .ok (.invokestatic 166, 3) := by decide +kernel
theorem dL_law_884 : decode cL_law 884 = .ok (.istore 6, 2) := by decide +kernel
theorem dL_law_886 : decode cL_law 886 = .ok (.aload_n 2, 1) := by decide +kernel
theorem dL_law_887 : decode cL_law 887 = .ok (.aload_n 0, 1) := by decide +kernel
theorem dL_law_888 : decode cL_law 888 = .ok (.iload 5, 2) := by decide +kernel
theorem dL_law_890 : decode cL_law 890 = .ok (.iconst 1, 1) := by decide +kernel
theorem dL_law_891 : decode cL_law 891 = .ok (.iadd, 1) := by decide +kernel
theorem dL_law_892 : decode cL_law 892 = .ok (.iaload, 1) := by decide +kernel
theorem dL_law_893 : decode cL_law 893 = .ok (.invokevirtual 168, 3) := by decide +kernel
theorem dL_law_896 : decode cL_law 896 = .ok (.istore 7, 2) := by decide +kernel
theorem dL_law_898 : decode cL_law 898 = .ok (.aload_n 2, 1) := by decide +kernel
theorem dL_law_899 : decode cL_law 899 = .ok (.invokevirtual 125, 3) := by decide +kernel
theorem dL_law_902 : decode cL_law 902 = .ok (.iload 6, 2) := by decide +kernel
theorem dL_law_904 : decode cL_law 904 = .ok (.if_icmp .eq 5, 3) := by decide +kernel
theorem dL_law_907 : decode cL_law 907 = .ok (.iconst 0, 1) := by decide +kernel
theorem dL_law_908 : decode cL_law 908 = .ok (.ireturn, 1) := by decide +kernel
theorem dL_law_909 : decode cL_law 909 = .ok (.iload 6, 2) := by decide +kernel
theorem dL_law_911 : decode cL_law 911 = .ok (.ifCond .ne 22, 3) := by decide +kernel
theorem dL_law_914 : decode cL_law 914 = .ok (.aload_n 3, 1) := by decide +kernel
theorem dL_law_915 : decode cL_law 915 = .ok (.iconst 0, 1) := by decide +kernel
theorem dL_law_916 : decode cL_law 916 = .ok (.laload, 1) := by decide +kernel
theorem dL_law_917 : decode cL_law 917 = .ok (.iload 7, 2) := by decide +kernel
theorem dL_law_919 : decode cL_law 919 = .ok (.ifCond .eq 7, 3) := by decide +kernel
theorem dL_law_922 : decode cL_law 922 = .ok (.lconst 1, 1) := by decide +kernel
theorem dL_law_923 : decode cL_law 923 = .ok (.goto 4, 3) := by decide +kernel
theorem dL_law_926 : decode cL_law 926 = .ok (.lconst 0, 1) := by decide +kernel
theorem dL_law_927 : decode cL_law 927 = .ok (.lcmp, 1) := by decide +kernel
theorem dL_law_928 : decode cL_law 928 = .ok (.ifCond .eq 5, 3) := by decide +kernel
theorem dL_law_931 : decode cL_law 931 = .ok (.iconst 0, 1) := by decide +kernel
theorem dL_law_932 : decode cL_law 932 = .ok (.ireturn, 1) := by decide +kernel
theorem dL_law_933 : decode cL_law 933 = .ok (.goto 1083, 3) := by decide +kernel
theorem dL_law_936 : decode cL_law 936 = .ok (.aload_n 1, 1) := by decide +kernel
theorem dL_law_937 : decode cL_law 937 = .ok (.aload_n 0, 1) := by decide +kernel
theorem dL_law_938 : decode cL_law 938 = .ok (.iload 5, 2) := by decide +kernel
theorem dL_law_940 : decode cL_law 940 = .ok (.iconst 1, 1) := by decide +kernel
theorem dL_law_941 : decode cL_law 941 = .ok (.iadd, 1) := by decide +kernel
theorem dL_law_942 : decode cL_law 942 = .ok (.iaload, 1) := by decide +kernel
theorem dL_law_943 : decode cL_law 943 = .ok (.aload_n 3, 1) := by decide +kernel
theorem dL_law_944 : decode cL_law 944 = .ok (.invokestatic 169, 3) := by decide +kernel
theorem dL_law_947 : decode cL_law 947 = .ok (.istore 6, 2) := by decide +kernel
theorem dL_law_949 : decode cL_law 949 = .ok (.aload_n 2, 1) := by decide +kernel
theorem dL_law_950 : decode cL_law 950 = .ok (.aload_n 0, 1) := by decide +kernel
theorem dL_law_951 : decode cL_law 951 = .ok (.iload 5, 2) := by decide +kernel
theorem dL_law_953 : decode cL_law 953 = .ok (.iconst 1, 1) := by decide +kernel
theorem dL_law_954 : decode cL_law 954 = .ok (.iadd, 1) := by decide +kernel
theorem dL_law_955 : decode cL_law 955 = .ok (.iaload, 1) := by decide +kernel
theorem dL_law_956 : decode cL_law 956 = .ok (.invokevirtual 171, 3) := by decide +kernel
theorem dL_law_959 : decode cL_law 959 = .ok (.istore 7, 2) := by decide +kernel
theorem dL_law_961 : decode cL_law 961 = .ok (.aload_n 2, 1) := by decide +kernel
theorem dL_law_962 : decode cL_law 962 = .ok (.invokevirtual 125, 3) := by decide +kernel
theorem dL_law_965 : decode cL_law 965 = .ok (.iload 6, 2) := by decide +kernel
theorem dL_law_967 : decode cL_law 967 = .ok (.if_icmp .eq 5, 3) := by decide +kernel
theorem dL_law_970 : decode cL_law 970 = .ok (.iconst 0, 1) := by decide +kernel
theorem dL_law_971 : decode cL_law 971 = .ok (.ireturn, 1) := by decide +kernel
theorem dL_law_972 : decode cL_law 972 = .ok (.iload 6, 2) := by decide +kernel
theorem dL_law_974 : decode cL_law 974 = .ok (.ifCond .ne 15, 3) := by decide +kernel
theorem dL_law_977 : decode cL_law 977 = .ok (.aload_n 3, 1) := by decide +kernel
theorem dL_law_978 : decode cL_law 978 = .ok (.iconst 0, 1) := by decide +kernel
theorem dL_law_979 : decode cL_law 979 = .ok (.laload, 1) := by decide +kernel
theorem dL_law_980 : decode cL_law 980 = .ok (.iload 7, 2) := by decide +kernel
theorem dL_law_982 : decode cL_law 982 = .ok (.i2l, 1) := by decide +kernel
theorem dL_law_983 : decode cL_law 983 = .ok (.lcmp, 1) := by decide +kernel
theorem dL_law_984 : decode cL_law 984 = .ok (.ifCond .eq 5, 3) := by decide +kernel
theorem dL_law_987 : decode cL_law 987 = .ok (.iconst 0, 1) := by decide +kernel
theorem dL_law_988 : decode cL_law 988 = .ok (.ireturn, 1) := by decide +kernel
theorem dL_law_989 : decode cL_law 989 = .ok (.goto 1027, 3) := by decide +kernel
theorem dL_law_992 : decode cL_law 992 = .ok (.aload_n 1, 1) := by decide +kernel
theorem dL_law_993 : decode cL_law 993 = .ok (.aload_n 0, 1) := by decide +kernel
theorem dL_law_994 : decode cL_law 994 = .ok (.iload 5, 2) := by decide +kernel
theorem dL_law_996 : decode cL_law 996 = .ok (.iconst 1, 1) := by decide +kernel
theorem dL_law_997 : decode cL_law 997 = .ok (.iadd, 1) := by decide +kernel
theorem dL_law_998 : decode cL_law 998 = .ok (.iaload, 1) := by decide +kernel
theorem dL_law_999 : decode cL_law 999 = .ok (.aload_n 3, 1) := by decide +kernel
theorem dL_law_1000 : decode cL_law 1000 = .ok (.invokestatic 172, 3) := by decide +kernel
theorem dL_law_1003 : decode cL_law 1003 = .ok (.istore 6, 2) := by decide +kernel
theorem dL_law_1005 : decode cL_law 1005 = .ok (.aload_n 2, 1) := by decide +kernel
theorem dL_law_1006 : decode cL_law 1006 = .ok (.aload_n 0, 1) := by decide +kernel
theorem dL_law_1007 : decode cL_law 1007 = .ok (.iload 5, 2) := by decide +kernel
theorem dL_law_1009 : decode cL_law 1009 = .ok (.iconst 1, 1) := by decide +kernel
theorem dL_law_1010 : decode cL_law 1010 = .ok (.iadd, 1) := by decide +kernel
theorem dL_law_1011 : decode cL_law 1011 = .ok (.iaload, 1) := by decide +kernel
theorem dL_law_1012 : decode cL_law 1012 = .ok (.invokevirtual 174, 3) := by decide +kernel
theorem dL_law_1015 : decode cL_law 1015 = .ok (.istore 7, 2) := by decide +kernel
theorem dL_law_1017 : decode cL_law 1017 = .ok (.aload_n 2, 1) := by decide +kernel
theorem dL_law_1018 : decode cL_law 1018 = .ok (.invokevirtual 125, 3) := by decide +kernel
theorem dL_law_1021 : decode cL_law 1021 = .ok (.iload 6, 2) := by decide +kernel
theorem dL_law_1023 : decode cL_law 1023 = .ok (.if_icmp .eq 5, 3) := by decide +kernel
theorem dL_law_1026 : decode cL_law 1026 = .ok (.iconst 0, 1) := by decide +kernel
theorem dL_law_1027 : decode cL_law 1027 = .ok (.ireturn, 1) := by decide +kernel
theorem dL_law_1028 : decode cL_law 1028 = .ok (.iload 6, 2) := by decide +kernel
theorem dL_law_1030 : decode cL_law 1030 = .ok (.ifCond .ne 15, 3) := by decide +kernel
theorem dL_law_1033 : decode cL_law 1033 = .ok (.aload_n 3, 1) := by decide +kernel
theorem dL_law_1034 : decode cL_law 1034 = .ok (.iconst 0, 1) := by decide +kernel
theorem dL_law_1035 : decode cL_law 1035 = .ok (.laload, 1) := by decide +kernel
theorem dL_law_1036 : decode cL_law 1036 = .ok (.iload 7, 2) := by decide +kernel
theorem dL_law_1038 : decode cL_law 1038 = .ok (.i2l, 1) := by decide +kernel
theorem dL_law_1039 : decode cL_law 1039 = .ok (.lcmp, 1) := by decide +kernel
theorem dL_law_1040 : decode cL_law 1040 = .ok (.ifCond .eq 5, 3) := by decide +kernel
theorem dL_law_1043 : decode cL_law 1043 = .ok (.iconst 0, 1) := by decide +kernel
theorem dL_law_1044 : decode cL_law 1044 = .ok (.ireturn, 1) := by decide +kernel
theorem dL_law_1045 : decode cL_law 1045 = .ok (.goto 971, 3) := by decide +kernel
theorem dL_law_1048 : decode cL_law 1048 = .ok (.aload_n 1, 1) := by decide +kernel
theorem dL_law_1049 : decode cL_law 1049 = .ok (.aload_n 0, 1) := by decide +kernel
theorem dL_law_1050 : decode cL_law 1050 = .ok (.iload 5, 2) := by decide +kernel
theorem dL_law_1052 : decode cL_law 1052 = .ok (.iconst 1, 1) := by decide +kernel
theorem dL_law_1053 : decode cL_law 1053 = .ok (.iadd, 1) := by decide +kernel
theorem dL_law_1054 : decode cL_law 1054 = .ok (.iaload, 1) := by decide +kernel
theorem dL_law_1055 : decode cL_law 1055 = .ok (.aload_n 0, 1) := by decide +kernel
theorem dL_law_1056 : decode cL_law 1056 = .ok (.iload 5, 2) := by decide +kernel
theorem dL_law_1058 : decode cL_law 1058 = .ok (.iconst 2, 1) := by decide +kernel
theorem dL_law_1059 : decode cL_law 1059 = .ok (.iadd, 1) := by decide +kernel
theorem dL_law_1060 : decode cL_law 1060 = .ok (.iaload, 1) := by decide +kernel
theorem dL_law_1061 : decode cL_law 1061 = .ok (.aload_n 0, 1) := by decide +kernel
theorem dL_law_1062 : decode cL_law 1062 = .ok (.iload 5, 2) := by decide +kernel
theorem dL_law_1064 : decode cL_law 1064 = .ok (.iconst 3, 1) := by decide +kernel
theorem dL_law_1065 : decode cL_law 1065 = .ok (.iadd, 1) := by decide +kernel
theorem dL_law_1066 : decode cL_law 1066 = .ok (.iaload, 1) := by decide +kernel
theorem dL_law_1067 : decode cL_law 1067 = .ok (.aload_n 3, 1) := by decide +kernel
theorem dL_law_1068 : decode cL_law 1068 = .ok (.invokestatic 175, 3) := by decide +kernel
theorem dL_law_1071 : decode cL_law 1071 = .ok (.istore 6, 2) := by decide +kernel
theorem dL_law_1073 : decode cL_law 1073 = .ok (.aload_n 2, 1) := by decide +kernel
theorem dL_law_1074 : decode cL_law 1074 = .ok (.aload_n 0, 1) := by decide +kernel
theorem dL_law_1075 : decode cL_law 1075 = .ok (.iload 5, 2) := by decide +kernel
theorem dL_law_1077 : decode cL_law 1077 = .ok (.iconst 1, 1) := by decide +kernel
theorem dL_law_1078 : decode cL_law 1078 = .ok (.iadd, 1) := by decide +kernel
theorem dL_law_1079 : decode cL_law 1079 = .ok (.iaload, 1) := by decide +kernel
theorem dL_law_1080 : decode cL_law 1080 = .ok (.aload_n 0, 1) := by decide +kernel
theorem dL_law_1081 : decode cL_law 1081 = .ok (.iload 5, 2) := by decide +kernel
theorem dL_law_1083 : decode cL_law 1083 = .ok (.iconst 2, 1) := by decide +kernel
theorem dL_law_1084 : decode cL_law 1084 = .ok (.iadd, 1) := by decide +kernel
theorem dL_law_1085 : decode cL_law 1085 = .ok (.iaload, 1) := by decide +kernel
theorem dL_law_1086 : decode cL_law 1086 = .ok (.aload_n 0, 1) := by decide +kernel
theorem dL_law_1087 : decode cL_law 1087 = .ok (.iload 5, 2) := by decide +kernel
theorem dL_law_1089 : decode cL_law 1089 = .ok (.iconst 3, 1) := by decide +kernel
theorem dL_law_1090 : decode cL_law 1090 = .ok (.iadd, 1) := by decide +kernel
theorem dL_law_1091 : decode cL_law 1091 = .ok (.iaload, 1) := by decide +kernel
theorem dL_law_1092 : decode cL_law 1092 = .ok (.invokevirtual 177, 3) := by decide +kernel
theorem dL_law_1095 : decode cL_law 1095 = .ok (.istore 7, 2) := by decide +kernel
theorem dL_law_1097 : decode cL_law 1097 = .ok (.aload_n 2, 1) := by decide +kernel
theorem dL_law_1098 : decode cL_law 1098 = .ok (.invokevirtual 125, 3) := by decide +kernel
theorem dL_law_1101 : decode cL_law 1101 = .ok (.iload 6, 2) := by decide +kernel
theorem dL_law_1103 : decode cL_law 1103 = .ok (.if_icmp .eq 5, 3) := by decide +kernel
theorem dL_law_1106 : decode cL_law 1106 = .ok (.iconst 0, 1) := by decide +kernel
theorem dL_law_1107 : decode cL_law 1107 = .ok (.ireturn, 1) := by decide +kernel
theorem dL_law_1108 : decode cL_law 1108 = .ok (.iload 6, 2) := by decide +kernel
theorem dL_law_1110 : decode cL_law 1110 = .ok (.ifCond .ne 15, 3) := by decide +kernel
theorem dL_law_1113 : decode cL_law 1113 = .ok (.aload_n 3, 1) := by decide +kernel
theorem dL_law_1114 : decode cL_law 1114 = .ok (.iconst 0, 1) := by decide +kernel
theorem dL_law_1115 : decode cL_law 1115 = .ok (.laload, 1) := by decide +kernel
theorem dL_law_1116 : decode cL_law 1116 = .ok (.iload 7, 2) := by decide +kernel
theorem dL_law_1118 : decode cL_law 1118 = .ok (.i2l, 1) := by decide +kernel
theorem dL_law_1119 : decode cL_law 1119 = .ok (.lcmp, 1) := by decide +kernel
theorem dL_law_1120 : decode cL_law 1120 = .ok (.ifCond .eq 5, 3) := by decide +kernel
theorem dL_law_1123 : decode cL_law 1123 = .ok (.iconst 0, 1) := by decide +kernel
theorem dL_law_1124 : decode cL_law 1124 = .ok (.ireturn, 1) := by decide +kernel
theorem dL_law_1125 : decode cL_law 1125 = .ok (.goto 891, 3) := by decide +kernel
theorem dL_law_1128 : decode cL_law 1128 = .ok (.aload_n 1, 1) := by decide +kernel
theorem dL_law_1129 : decode cL_law 1129 = .ok (.aload_n 0, 1) := by decide +kernel
theorem dL_law_1130 : decode cL_law 1130 = .ok (.iload 5, 2) := by decide +kernel
theorem dL_law_1132 : decode cL_law 1132 = .ok (.iconst 1, 1) := by decide +kernel
theorem dL_law_1133 : decode cL_law 1133 = .ok (.iadd, 1) := by decide +kernel
theorem dL_law_1134 : decode cL_law 1134 = .ok (.iaload, 1) := by decide +kernel
theorem dL_law_1135 : decode cL_law 1135 = .ok (.aload_n 0, 1) := by decide +kernel
theorem dL_law_1136 : decode cL_law 1136 = .ok (.iload 5, 2) := by decide +kernel
theorem dL_law_1138 : decode cL_law 1138 = .ok (.iconst 2, 1) := by decide +kernel
theorem dL_law_1139 : decode cL_law 1139 = .ok (.iadd, 1) := by decide +kernel
theorem dL_law_1140 : decode cL_law 1140 = .ok (.iaload, 1) := by decide +kernel
theorem dL_law_1141 : decode cL_law 1141 = .ok (.aload_n 3, 1) := by decide +kernel
theorem dL_law_1142 : decode cL_law 1142 = .ok (.invokestatic 178, 3) := by decide +kernel
theorem dL_law_1145 : decode cL_law 1145 = .ok (.istore 6, 2) := by decide +kernel
theorem dL_law_1147 : decode cL_law 1147 = .ok (.aload_n 2, 1) := by decide +kernel
theorem dL_law_1148 : decode cL_law 1148 = .ok (.aload_n 0, 1) := by decide +kernel
theorem dL_law_1149 : decode cL_law 1149 = .ok (.iload 5, 2) := by decide +kernel
theorem dL_law_1151 : decode cL_law 1151 = .ok (.iconst 1, 1) := by decide +kernel
theorem dL_law_1152 : decode cL_law 1152 = .ok (.iadd, 1) := by decide +kernel
theorem dL_law_1153 : decode cL_law 1153 = .ok (.iaload, 1) := by decide +kernel
theorem dL_law_1154 : decode cL_law 1154 = .ok (.aload_n 0, 1) := by decide +kernel
theorem dL_law_1155 : decode cL_law 1155 = .ok (.iload 5, 2) := by decide +kernel
theorem dL_law_1157 : decode cL_law 1157 = .ok (.iconst 2, 1) := by decide +kernel
theorem dL_law_1158 : decode cL_law 1158 = .ok (.iadd, 1) := by decide +kernel
theorem dL_law_1159 : decode cL_law 1159 = .ok (.iaload, 1) := by decide +kernel
theorem dL_law_1160 : decode cL_law 1160 = .ok (.invokevirtual 180, 3) := by decide +kernel
theorem dL_law_1163 : decode cL_law 1163 = .ok (.istore 7, 2) := by decide +kernel
theorem dL_law_1165 : decode cL_law 1165 = .ok (.aload_n 2, 1) := by decide +kernel
theorem dL_law_1166 : decode cL_law 1166 = .ok (.invokevirtual 125, 3) := by decide +kernel
theorem dL_law_1169 : decode cL_law 1169 = .ok (.iload 6, 2) := by decide +kernel
theorem dL_law_1171 : decode cL_law 1171 = .ok (.if_icmp .eq 5, 3) := by decide +kernel
theorem dL_law_1174 : decode cL_law 1174 = .ok (.iconst 0, 1) := by decide +kernel
theorem dL_law_1175 : decode cL_law 1175 = .ok (.ireturn, 1) := by decide +kernel
theorem dL_law_1176 : decode cL_law 1176 = .ok (.iload 6, 2) := by decide +kernel
theorem dL_law_1178 : decode cL_law 1178 = .ok (.ifCond .ne 15, 3) := by decide +kernel
theorem dL_law_1181 : decode cL_law 1181 = .ok (.aload_n 3, 1) := by decide +kernel
theorem dL_law_1182 : decode cL_law 1182 = .ok (.iconst 0, 1) := by decide +kernel
theorem dL_law_1183 : decode cL_law 1183 = .ok (.laload, 1) := by decide +kernel
theorem dL_law_1184 : decode cL_law 1184 = .ok (.iload 7, 2) := by decide +kernel
theorem dL_law_1186 : decode cL_law 1186 = .ok (.i2l, 1) := by decide +kernel
theorem dL_law_1187 : decode cL_law 1187 = .ok (.lcmp, 1) := by decide +kernel
theorem dL_law_1188 : decode cL_law 1188 = .ok (.ifCond .eq 5, 3) := by decide +kernel
theorem dL_law_1191 : decode cL_law 1191 = .ok (.iconst 0, 1) := by decide +kernel
theorem dL_law_1192 : decode cL_law 1192 = .ok (.ireturn, 1) := by decide +kernel
theorem dL_law_1193 : decode cL_law 1193 = .ok (.goto 823, 3) := by decide +kernel
theorem dL_law_1196 : decode cL_law 1196 = .ok (.aload_n 1, 1) := by decide +kernel
theorem dL_law_1197 : decode cL_law 1197 = .ok (.aload_n 0, 1) := by decide +kernel
theorem dL_law_1198 : decode cL_law 1198 = .ok (.iload 5, 2) := by decide +kernel
theorem dL_law_1200 : decode cL_law 1200 = .ok (.iconst 1, 1) := by decide +kernel
theorem dL_law_1201 : decode cL_law 1201 = .ok (.iadd, 1) := by decide +kernel
theorem dL_law_1202 : decode cL_law 1202 = .ok (.iaload, 1) := by decide +kernel
theorem dL_law_1203 : decode cL_law 1203 = .ok (.aload_n 0, 1) := by decide +kernel
theorem dL_law_1204 : decode cL_law 1204 = .ok (.iload 5, 2) := by decide +kernel
theorem dL_law_1206 : decode cL_law 1206 = .ok (.iconst 2, 1) := by decide +kernel
theorem dL_law_1207 : decode cL_law 1207 = .ok (.iadd, 1) := by decide +kernel
theorem dL_law_1208 : decode cL_law 1208 = .ok (.iaload, 1) := by decide +kernel
theorem dL_law_1209 : decode cL_law 1209 = .ok (.ifCond .eq 7, 3) := by decide +kernel
theorem dL_law_1212 : decode cL_law 1212 = .ok (.iconst 1, 1) := by decide +kernel
theorem dL_law_1213 : decode cL_law 1213 = .ok (.goto 4, 3) := by decide +kernel
theorem dL_law_1216 : decode cL_law 1216 = .ok (.iconst 0, 1) := by decide +kernel
theorem dL_law_1217 : decode cL_law 1217 = .ok (.aload_n 3, 1) := by decide +kernel
theorem dL_law_1218 : decode cL_law 1218 = .ok (.invokestatic 181, 3) := by decide +kernel
theorem dL_law_1221 : decode cL_law 1221 = .ok (.istore 6, 2) := by decide +kernel
theorem dL_law_1223 : decode cL_law 1223 = .ok (.aload_n 2, 1) := by decide +kernel
theorem dL_law_1224 : decode cL_law 1224 = .ok (.aload_n 0, 1) := by decide +kernel
theorem dL_law_1225 : decode cL_law 1225 = .ok (.iload 5, 2) := by decide +kernel
theorem dL_law_1227 : decode cL_law 1227 = .ok (.iconst 1, 1) := by decide +kernel
theorem dL_law_1228 : decode cL_law 1228 = .ok (.iadd, 1) := by decide +kernel
theorem dL_law_1229 : decode cL_law 1229 = .ok (.iaload, 1) := by decide +kernel
theorem dL_law_1230 : decode cL_law 1230 = .ok (.aload_n 0, 1) := by decide +kernel
theorem dL_law_1231 : decode cL_law 1231 = .ok (.iload 5, 2) := by decide +kernel
theorem dL_law_1233 : decode cL_law 1233 = .ok (.iconst 2, 1) := by decide +kernel
theorem dL_law_1234 : decode cL_law 1234 = .ok (.iadd, 1) := by decide +kernel
theorem dL_law_1235 : decode cL_law 1235 = .ok (.iaload, 1) := by decide +kernel
theorem dL_law_1236 : decode cL_law 1236 = .ok (.ifCond .eq 7, 3) := by decide +kernel
theorem dL_law_1239 : decode cL_law 1239 = .ok (.iconst 1, 1) := by decide +kernel
theorem dL_law_1240 : decode cL_law 1240 = .ok (.goto 4, 3) := by decide +kernel
theorem dL_law_1243 : decode cL_law 1243 = .ok (.iconst 0, 1) := by decide +kernel
theorem dL_law_1244 : decode cL_law 1244 = .ok (.invokevirtual 184, 3) := by decide +kernel
theorem dL_law_1247 : decode cL_law 1247 = .ok (.istore 7, 2) := by decide +kernel
theorem dL_law_1249 : decode cL_law 1249 = .ok (.aload_n 2, 1) := by decide +kernel
theorem dL_law_1250 : decode cL_law 1250 = .ok (.invokevirtual 125, 3) := by decide +kernel
theorem dL_law_1253 : decode cL_law 1253 = .ok (.iload 6, 2) := by decide +kernel
theorem dL_law_1255 : decode cL_law 1255 = .ok (.if_icmp .eq 5, 3) := by decide +kernel
theorem dL_law_1258 : decode cL_law 1258 = .ok (.iconst 0, 1) := by decide +kernel
theorem dL_law_1259 : decode cL_law 1259 = .ok (.ireturn, 1) := by decide +kernel
theorem dL_law_1260 : decode cL_law 1260 = .ok (.iload 6, 2) := by decide +kernel
theorem dL_law_1262 : decode cL_law 1262 = .ok (.ifCond .ne 22, 3) := by decide +kernel
theorem dL_law_1265 : decode cL_law 1265 = .ok (.aload_n 3, 1) := by decide +kernel
theorem dL_law_1266 : decode cL_law 1266 = .ok (.iconst 0, 1) := by decide +kernel
theorem dL_law_1267 : decode cL_law 1267 = .ok (.laload, 1) := by decide +kernel
theorem dL_law_1268 : decode cL_law 1268 = .ok (.iload 7, 2) := by decide +kernel
theorem dL_law_1270 : decode cL_law 1270 = .ok (.ifCond .eq 7, 3) := by decide +kernel
theorem dL_law_1273 : decode cL_law 1273 = .ok (.lconst 1, 1) := by decide +kernel
theorem dL_law_1274 : decode cL_law 1274 = .ok (.goto 4, 3) := by decide +kernel
theorem dL_law_1277 : decode cL_law 1277 = .ok (.lconst 0, 1) := by decide +kernel
theorem dL_law_1278 : decode cL_law 1278 = .ok (.lcmp, 1) := by decide +kernel
theorem dL_law_1279 : decode cL_law 1279 = .ok (.ifCond .eq 5, 3) := by decide +kernel
theorem dL_law_1282 : decode cL_law 1282 = .ok (.iconst 0, 1) := by decide +kernel
theorem dL_law_1283 : decode cL_law 1283 = .ok (.ireturn, 1) := by decide +kernel
theorem dL_law_1284 : decode cL_law 1284 = .ok (.goto 732, 3) := by decide +kernel
theorem dL_law_1287 : decode cL_law 1287 = .ok (.aload_n 1, 1) := by decide +kernel
theorem dL_law_1288 : decode cL_law 1288 = .ok (.aload_n 0, 1) := by decide +kernel
theorem dL_law_1289 : decode cL_law 1289 = .ok (.iload 5, 2) := by decide +kernel
theorem dL_law_1291 : decode cL_law 1291 = .ok (.iconst 1, 1) := by decide +kernel
theorem dL_law_1292 : decode cL_law 1292 = .ok (.iadd, 1) := by decide +kernel
theorem dL_law_1293 : decode cL_law 1293 = .ok (.iaload, 1) := by decide +kernel
theorem dL_law_1294 : decode cL_law 1294 = .ok (.aload_n 3, 1) := by decide +kernel
theorem dL_law_1295 : decode cL_law 1295 = .ok (.invokestatic 185, 3) := by decide +kernel
theorem dL_law_1298 : decode cL_law 1298 = .ok (.istore 6, 2) := by decide +kernel
theorem dL_law_1300 : decode cL_law 1300 = .ok (.aload_n 2, 1) := by decide +kernel
theorem dL_law_1301 : decode cL_law 1301 = .ok (.aload_n 0, 1) := by decide +kernel
theorem dL_law_1302 : decode cL_law 1302 = .ok (.iload 5, 2) := by decide +kernel
theorem dL_law_1304 : decode cL_law 1304 = .ok (.iconst 1, 1) := by decide +kernel
theorem dL_law_1305 : decode cL_law 1305 = .ok (.iadd, 1) := by decide +kernel
theorem dL_law_1306 : decode cL_law 1306 = .ok (.iaload, 1) := by decide +kernel
theorem dL_law_1307 : decode cL_law 1307 = .ok (.invokevirtual 187, 3) := by decide +kernel
theorem dL_law_1310 : decode cL_law 1310 = .ok (.istore 7, 2) := by decide +kernel
theorem dL_law_1312 : decode cL_law 1312 = .ok (.aload_n 2, 1) := by decide +kernel
theorem dL_law_1313 : decode cL_law 1313 = .ok (.invokevirtual 125, 3) := by decide +kernel
theorem dL_law_1316 : decode cL_law 1316 = .ok (.iload 6, 2) := by decide +kernel
theorem dL_law_1318 : decode cL_law 1318 = .ok (.if_icmp .eq 5, 3) := by decide +kernel
theorem dL_law_1321 : decode cL_law 1321 = .ok (.iconst 0, 1) := by decide +kernel
theorem dL_law_1322 : decode cL_law 1322 = .ok (.ireturn, 1) := by decide +kernel
theorem dL_law_1323 : decode cL_law 1323 = .ok (.iload 6, 2) := by decide +kernel
theorem dL_law_1325 : decode cL_law 1325 = .ok (.ifCond .ne 15, 3) := by decide +kernel
theorem dL_law_1328 : decode cL_law 1328 = .ok (.aload_n 3, 1) := by decide +kernel
theorem dL_law_1329 : decode cL_law 1329 = .ok (.iconst 0, 1) := by decide +kernel
theorem dL_law_1330 : decode cL_law 1330 = .ok (.laload, 1) := by decide +kernel
theorem dL_law_1331 : decode cL_law 1331 = .ok (.iload 7, 2) := by decide +kernel
theorem dL_law_1333 : decode cL_law 1333 = .ok (.i2l, 1) := by decide +kernel
theorem dL_law_1334 : decode cL_law 1334 = .ok (.lcmp, 1) := by decide +kernel
theorem dL_law_1335 : decode cL_law 1335 = .ok (.ifCond .eq 5, 3) := by decide +kernel
theorem dL_law_1338 : decode cL_law 1338 = .ok (.iconst 0, 1) := by decide +kernel
theorem dL_law_1339 : decode cL_law 1339 = .ok (.ireturn, 1) := by decide +kernel
theorem dL_law_1340 : decode cL_law 1340 = .ok (.goto 676, 3) := by decide +kernel
theorem dL_law_1343 : decode cL_law 1343 = .ok (.aload_n 1, 1) := by decide +kernel
theorem dL_law_1344 : decode cL_law 1344 = .ok (.aload_n 0, 1) := by decide +kernel
theorem dL_law_1345 : decode cL_law 1345 = .ok (.iload 5, 2) := by decide +kernel
theorem dL_law_1347 : decode cL_law 1347 = .ok (.iconst 1, 1) := by decide +kernel
theorem dL_law_1348 : decode cL_law 1348 = .ok (.iadd, 1) := by decide +kernel
theorem dL_law_1349 : decode cL_law 1349 = .ok (.iaload, 1) := by decide +kernel
theorem dL_law_1350 : decode cL_law 1350 = .ok (.aload_n 3, 1) := by decide +kernel
theorem dL_law_1351 : decode cL_law 1351 = .ok (.invokestatic 188, 3) := by decide +kernel
theorem dL_law_1354 : decode cL_law 1354 = .ok (.istore 6, 2) := by decide +kernel
theorem dL_law_1356 : decode cL_law 1356 = .ok (.aload_n 2, 1) := by decide +kernel
theorem dL_law_1357 : decode cL_law 1357 = .ok (.aload_n 0, 1) := by decide +kernel
theorem dL_law_1358 : decode cL_law 1358 = .ok (.iload 5, 2) := by decide +kernel
theorem dL_law_1360 : decode cL_law 1360 = .ok (.iconst 1, 1) := by decide +kernel
theorem dL_law_1361 : decode cL_law 1361 = .ok (.iadd, 1) := by decide +kernel
theorem dL_law_1362 : decode cL_law 1362 = .ok (.iaload, 1) := by decide +kernel
theorem dL_law_1363 : decode cL_law 1363 = .ok (.invokevirtual 190, 3) := by decide +kernel
theorem dL_law_1366 : decode cL_law 1366 = .ok (.istore 7, 2) := by decide +kernel
theorem dL_law_1368 : decode cL_law 1368 = .ok (.aload_n 2, 1) := by decide +kernel
theorem dL_law_1369 : decode cL_law 1369 = .ok (.invokevirtual 125, 3) := by decide +kernel
theorem dL_law_1372 : decode cL_law 1372 = .ok (.iload 6, 2) := by decide +kernel
theorem dL_law_1374 : decode cL_law 1374 = .ok (.if_icmp .eq 5, 3) := by decide +kernel
theorem dL_law_1377 : decode cL_law 1377 = .ok (.iconst 0, 1) := by decide +kernel
theorem dL_law_1378 : decode cL_law 1378 = .ok (.ireturn, 1) := by decide +kernel
theorem dL_law_1379 : decode cL_law 1379 = .ok (.iload 6, 2) := by decide +kernel
theorem dL_law_1381 : decode cL_law 1381 = .ok (.ifCond .ne 15, 3) := by decide +kernel
theorem dL_law_1384 : decode cL_law 1384 = .ok (.aload_n 3, 1) := by decide +kernel
theorem dL_law_1385 : decode cL_law 1385 = .ok (.iconst 0, 1) := by decide +kernel
theorem dL_law_1386 : decode cL_law 1386 = .ok (.laload, 1) := by decide +kernel
theorem dL_law_1387 : decode cL_law 1387 = .ok (.iload 7, 2) := by decide +kernel
theorem dL_law_1389 : decode cL_law 1389 = .ok (.i2l, 1) := by decide +kernel
theorem dL_law_1390 : decode cL_law 1390 = .ok (.lcmp, 1) := by decide +kernel
theorem dL_law_1391 : decode cL_law 1391 = .ok (.ifCond .eq 5, 3) := by decide +kernel
theorem dL_law_1394 : decode cL_law 1394 = .ok (.iconst 0, 1) := by decide +kernel
theorem dL_law_1395 : decode cL_law 1395 = .ok (.ireturn, 1) := by decide +kernel
theorem dL_law_1396 : decode cL_law 1396 = .ok (.goto 620, 3) := by decide +kernel
theorem dL_law_1399 : decode cL_law 1399 = .ok (.aload_n 1, 1) := by decide +kernel
theorem dL_law_1400 : decode cL_law 1400 = .ok (.aload_n 0, 1) := by decide +kernel
theorem dL_law_1401 : decode cL_law 1401 = .ok (.iload 5, 2) := by decide +kernel
theorem dL_law_1403 : decode cL_law 1403 = .ok (.iconst 1, 1) := by decide +kernel
theorem dL_law_1404 : decode cL_law 1404 = .ok (.iadd, 1) := by decide +kernel
theorem dL_law_1405 : decode cL_law 1405 = .ok (.iaload, 1) := by decide +kernel
theorem dL_law_1406 : decode cL_law 1406 = .ok (.ifCond .eq 7, 3) := by decide +kernel
theorem dL_law_1409 : decode cL_law 1409 = .ok (.iconst 1, 1) := by decide +kernel
theorem dL_law_1410 : decode cL_law 1410 = .ok (.goto 4, 3) := by decide +kernel
theorem dL_law_1413 : decode cL_law 1413 = .ok (.iconst 0, 1) := by decide +kernel
theorem dL_law_1414 : decode cL_law 1414 = .ok (.invokevirtual 191, 3) := by decide +kernel
theorem dL_law_1417 : decode cL_law 1417 = .ok (.aload_n 2, 1) := by decide +kernel
theorem dL_law_1418 : decode cL_law 1418 = .ok (.aload_n 0, 1) := by decide +kernel
theorem dL_law_1419 : decode cL_law 1419 = .ok (.iload 5, 2) := by decide +kernel
theorem dL_law_1421 : decode cL_law 1421 = .ok (.iconst 1, 1) := by decide +kernel
theorem dL_law_1422 : decode cL_law 1422 = .ok (.iadd, 1) := by decide +kernel
theorem dL_law_1423 : decode cL_law 1423 = .ok (.iaload, 1) := by decide +kernel
theorem dL_law_1424 : decode cL_law 1424 = .ok (.ifCond .eq 7, 3) := by decide +kernel
theorem dL_law_1427 : decode cL_law 1427 = .ok (.iconst 1, 1) := by decide +kernel
theorem dL_law_1428 : decode cL_law 1428 = .ok (.goto 4, 3) := by decide +kernel
theorem dL_law_1431 : decode cL_law 1431 = .ok (.iconst 0, 1) := by decide +kernel
theorem dL_law_1432 : decode cL_law 1432 = .ok (.invokevirtual 194, 3) := by decide +kernel
theorem dL_law_1435 : decode cL_law 1435 = .ok (.if_icmp .eq 581, 3) := by decide +kernel
theorem dL_law_1438 : decode cL_law 1438 = .ok (.iconst 0, 1) := by decide +kernel
theorem dL_law_1439 : decode cL_law 1439 = .ok (.ireturn, 1) := by decide +kernel
theorem dL_law_1440 : decode cL_law 1440 = .ok (.aload_n 1, 1) := by decide +kernel
theorem dL_law_1441 : decode cL_law 1441 = .ok (.aload_n 0, 1) := by decide +kernel
theorem dL_law_1442 : decode cL_law 1442 = .ok (.iload 5, 2) := by decide +kernel
theorem dL_law_1444 : decode cL_law 1444 = .ok (.iconst 1, 1) := by decide +kernel
theorem dL_law_1445 : decode cL_law 1445 = .ok (.iadd, 1) := by decide +kernel
theorem dL_law_1446 : decode cL_law 1446 = .ok (.iaload, 1) := by decide +kernel
theorem dL_law_1447 : decode cL_law 1447 = .ok (.aload_n 3, 1) := by decide +kernel
theorem dL_law_1448 : decode cL_law 1448 = .ok (.invokestatic 195, 3) := by decide +kernel
theorem dL_law_1451 : decode cL_law 1451 = .ok (.istore 6, 2) := by decide +kernel
theorem dL_law_1453 : decode cL_law 1453 = .ok (.aload_n 2, 1) := by decide +kernel
theorem dL_law_1454 : decode cL_law 1454 = .ok (.aload_n 0, 1) := by decide +kernel
theorem dL_law_1455 : decode cL_law 1455 = .ok (.iload 5, 2) := by decide +kernel
theorem dL_law_1457 : decode cL_law 1457 = .ok (.iconst 1, 1) := by decide +kernel
theorem dL_law_1458 : decode cL_law 1458 = .ok (.iadd, 1) := by decide +kernel
theorem dL_law_1459 : decode cL_law 1459 = .ok (.iaload, 1) := by decide +kernel
theorem dL_law_1460 : decode cL_law 1460 = .ok (.invokevirtual 197, 3) := by decide +kernel
theorem dL_law_1463 : decode cL_law 1463 = .ok (.istore 7, 2) := by decide +kernel
theorem dL_law_1465 : decode cL_law 1465 = .ok (.aload_n 2, 1) := by decide +kernel
theorem dL_law_1466 : decode cL_law 1466 = .ok (.invokevirtual 125, 3) := by decide +kernel
theorem dL_law_1469 : decode cL_law 1469 = .ok (.iload 6, 2) := by decide +kernel
theorem dL_law_1471 : decode cL_law 1471 = .ok (.if_icmp .eq 5, 3) := by decide +kernel
theorem dL_law_1474 : decode cL_law 1474 = .ok (.iconst 0, 1) := by decide +kernel
theorem dL_law_1475 : decode cL_law 1475 = .ok (.ireturn, 1) := by decide +kernel
theorem dL_law_1476 : decode cL_law 1476 = .ok (.iload 6, 2) := by decide +kernel
theorem dL_law_1478 : decode cL_law 1478 = .ok (.ifCond .ne 15, 3) := by decide +kernel
theorem dL_law_1481 : decode cL_law 1481 = .ok (.aload_n 3, 1) := by decide +kernel
theorem dL_law_1482 : decode cL_law 1482 = .ok (.iconst 0, 1) := by decide +kernel
theorem dL_law_1483 : decode cL_law 1483 = .ok (.laload, 1) := by decide +kernel
theorem dL_law_1484 : decode cL_law 1484 = .ok (.iload 7, 2) := by decide +kernel
theorem dL_law_1486 : decode cL_law 1486 = .ok (.i2l, 1) := by decide +kernel
theorem dL_law_1487 : decode cL_law 1487 = .ok (.lcmp, 1) := by decide +kernel
theorem dL_law_1488 : decode cL_law 1488 = .ok (.ifCond .eq 5, 3) := by decide +kernel
theorem dL_law_1491 : decode cL_law 1491 = .ok (.iconst 0, 1) := by decide +kernel
theorem dL_law_1492 : decode cL_law 1492 = .ok (.ireturn, 1) := by decide +kernel
theorem dL_law_1493 : decode cL_law 1493 = .ok (.goto 523, 3) := by decide +kernel
theorem dL_law_1496 : decode cL_law 1496 = .ok (.aload_n 1, 1) := by decide +kernel
theorem dL_law_1497 : decode cL_law 1497 = .ok (.aload_n 0, 1) := by decide +kernel
theorem dL_law_1498 : decode cL_law 1498 = .ok (.iload 5, 2) := by decide +kernel
theorem dL_law_1500 : decode cL_law 1500 = .ok (.iconst 1, 1) := by decide +kernel
theorem dL_law_1501 : decode cL_law 1501 = .ok (.iadd, 1) := by decide +kernel
theorem dL_law_1502 : decode cL_law 1502 = .ok (.iaload, 1) := by decide +kernel
theorem dL_law_1503 : decode cL_law 1503 = .ok (.aload_n 3, 1) := by decide +kernel
theorem dL_law_1504 : decode cL_law 1504 = .ok (.invokestatic 198, 3) := by decide +kernel
theorem dL_law_1507 : decode cL_law 1507 = .ok (.istore 6, 2) := by decide +kernel
theorem dL_law_1509 : decode cL_law 1509 = .ok (.aload_n 2, 1) := by decide +kernel
theorem dL_law_1510 : decode cL_law 1510 = .ok (.aload_n 0, 1) := by decide +kernel
theorem dL_law_1511 : decode cL_law 1511 = .ok (.iload 5, 2) := by decide +kernel
theorem dL_law_1513 : decode cL_law 1513 = .ok (.iconst 1, 1) := by decide +kernel
theorem dL_law_1514 : decode cL_law 1514 = .ok (.iadd, 1) := by decide +kernel
theorem dL_law_1515 : decode cL_law 1515 = .ok (.iaload, 1) := by decide +kernel
theorem dL_law_1516 : decode cL_law 1516 = .ok (.invokevirtual 200, 3) := by decide +kernel
theorem dL_law_1519 : decode cL_law 1519 = .ok (.istore 7, 2) := by decide +kernel
theorem dL_law_1521 : decode cL_law 1521 = .ok (.aload_n 2, 1) := by decide +kernel
theorem dL_law_1522 : decode cL_law 1522 = .ok (.invokevirtual 125, 3) := by decide +kernel
theorem dL_law_1525 : decode cL_law 1525 = .ok (.iload 6, 2) := by decide +kernel
theorem dL_law_1527 : decode cL_law 1527 = .ok (.if_icmp .eq 5, 3) := by decide +kernel
theorem dL_law_1530 : decode cL_law 1530 = .ok (.iconst 0, 1) := by decide +kernel
theorem dL_law_1531 : decode cL_law 1531 = .ok (.ireturn, 1) := by decide +kernel
theorem dL_law_1532 : decode cL_law 1532 = .ok (.iload 6, 2) := by decide +kernel
theorem dL_law_1534 : decode cL_law 1534 = .ok (.ifCond .ne 15, 3) := by decide +kernel
theorem dL_law_1537 : decode cL_law 1537 = .ok (.aload_n 3, 1) := by decide +kernel
theorem dL_law_1538 : decode cL_law 1538 = .ok (.iconst 0, 1) := by decide +kernel
theorem dL_law_1539 : decode cL_law 1539 = .ok (.laload, 1) := by decide +kernel
theorem dL_law_1540 : decode cL_law 1540 = .ok (.iload 7, 2) := by decide +kernel
theorem dL_law_1542 : decode cL_law 1542 = .ok (.i2l, 1) := by decide +kernel
theorem dL_law_1543 : decode cL_law 1543 = .ok (.lcmp, 1) := by decide +kernel
theorem dL_law_1544 : decode cL_law 1544 = .ok (.ifCond .eq 5, 3) := by decide +kernel
theorem dL_law_1547 : decode cL_law 1547 = .ok (.iconst 0, 1) := by decide +kernel
theorem dL_law_1548 : decode cL_law 1548 = .ok (.ireturn, 1) := by decide +kernel
theorem dL_law_1549 : decode cL_law 1549 = .ok (.goto 467, 3) := by decide +kernel
theorem dL_law_1552 : decode cL_law 1552 = .ok (.aload_n 1, 1) := by decide +kernel
theorem dL_law_1553 : decode cL_law 1553 = .ok (.aload_n 0, 1) := by decide +kernel
theorem dL_law_1554 : decode cL_law 1554 = .ok (.iload 5, 2) := by decide +kernel
theorem dL_law_1556 : decode cL_law 1556 = .ok (.iconst 1, 1) := by decide +kernel
theorem dL_law_1557 : decode cL_law 1557 = .ok (.iadd, 1) := by decide +kernel
theorem dL_law_1558 : decode cL_law 1558 = .ok (.iaload, 1) := by decide +kernel
theorem dL_law_1559 : decode cL_law 1559 = .ok (.i2c, 1) := by decide +kernel
theorem dL_law_1560 : decode cL_law 1560 = .ok (.aload_n 3, 1) := by decide +kernel
theorem dL_law_1561 : decode cL_law 1561 = .ok (.invokestatic 201, 3) := by decide +kernel
theorem dL_law_1564 : decode cL_law 1564 = .ok (.istore 6, 2) := by decide +kernel
theorem dL_law_1566 : decode cL_law 1566 = .ok (.aload_n 2, 1) := by decide +kernel
theorem dL_law_1567 : decode cL_law 1567 = .ok (.aload_n 0, 1) := by decide +kernel
theorem dL_law_1568 : decode cL_law 1568 = .ok (.iload 5, 2) := by decide +kernel
theorem dL_law_1570 : decode cL_law 1570 = .ok (.iconst 1, 1) := by decide +kernel
theorem dL_law_1571 : decode cL_law 1571 = .ok (.iadd, 1) := by decide +kernel
theorem dL_law_1572 : decode cL_law 1572 = .ok (.iaload, 1) := by decide +kernel
theorem dL_law_1573 : decode cL_law 1573 = .ok (.i2c, 1) := by decide +kernel
theorem dL_law_1574 : decode cL_law 1574 = .ok (.invokevirtual 204, 3) := by decide +kernel
theorem dL_law_1577 : decode cL_law 1577 = .ok (.istore 7, 2) := by decide +kernel
theorem dL_law_1579 : decode cL_law 1579 = .ok (.aload_n 2, 1) := by decide +kernel
theorem dL_law_1580 : decode cL_law 1580 = .ok (.invokevirtual 125, 3) := by decide +kernel
theorem dL_law_1583 : decode cL_law 1583 = .ok (.iload 6, 2) := by decide +kernel
theorem dL_law_1585 : decode cL_law 1585 = .ok (.if_icmp .eq 5, 3) := by decide +kernel
theorem dL_law_1588 : decode cL_law 1588 = .ok (.iconst 0, 1) := by decide +kernel
theorem dL_law_1589 : decode cL_law 1589 = .ok (.ireturn, 1) := by decide +kernel
theorem dL_law_1590 : decode cL_law 1590 = .ok (.iload 6, 2) := by decide +kernel
theorem dL_law_1592 : decode cL_law 1592 = .ok (.ifCond .ne 15, 3) := by decide +kernel
theorem dL_law_1595 : decode cL_law 1595 = .ok (.aload_n 3, 1) := by decide +kernel
theorem dL_law_1596 : decode cL_law 1596 = .ok (.iconst 0, 1) := by decide +kernel
theorem dL_law_1597 : decode cL_law 1597 = .ok (.laload, 1) := by decide +kernel
theorem dL_law_1598 : decode cL_law 1598 = .ok (.iload 7, 2) := by decide +kernel
theorem dL_law_1600 : decode cL_law 1600 = .ok (.i2l, 1) := by decide +kernel
theorem dL_law_1601 : decode cL_law 1601 = .ok (.lcmp, 1) := by decide +kernel
theorem dL_law_1602 : decode cL_law 1602 = .ok (.ifCond .eq 5, 3) := by decide +kernel
theorem dL_law_1605 : decode cL_law 1605 = .ok (.iconst 0, 1) := by decide +kernel
theorem dL_law_1606 : decode cL_law 1606 = .ok (.ireturn, 1) := by decide +kernel
theorem dL_law_1607 : decode cL_law 1607 = .ok (.goto 409, 3) := by decide +kernel
theorem dL_law_1610 : decode cL_law 1610 = .ok (.aload_n 1, 1) := by decide +kernel
theorem dL_law_1611 : decode cL_law 1611 = .ok (.aload_n 3, 1) := by decide +kernel
theorem dL_law_1612 : decode cL_law 1612 = .ok (.invokestatic 205, 3) := by decide +kernel
theorem dL_law_1615 : decode cL_law 1615 = .ok (.istore 6, 2) := by decide +kernel
theorem dL_law_1617 : decode cL_law 1617 = .ok (.aload_n 2, 1) := by decide +kernel
theorem dL_law_1618 : decode cL_law 1618 = .ok (.invokevirtual 207, 3) := by decide +kernel
theorem dL_law_1621 : decode cL_law 1621 = .ok (.istore 7, 2) := by decide +kernel
theorem dL_law_1623 : decode cL_law 1623 = .ok (.aload_n 2, 1) := by decide +kernel
theorem dL_law_1624 : decode cL_law 1624 = .ok (.invokevirtual 125, 3) := by decide +kernel
theorem dL_law_1627 : decode cL_law 1627 = .ok (.iload 6, 2) := by decide +kernel
theorem dL_law_1629 : decode cL_law 1629 = .ok (.if_icmp .eq 5, 3) := by decide +kernel
theorem dL_law_1632 : decode cL_law 1632 = .ok (.iconst 0, 1) := by decide +kernel
theorem dL_law_1633 : decode cL_law 1633 = .ok (.ireturn, 1) := by decide +kernel
theorem dL_law_1634 : decode cL_law 1634 = .ok (.iload 6, 2) := by decide +kernel
theorem dL_law_1636 : decode cL_law 1636 = .ok (.ifCond .ne 15, 3) := by decide +kernel
theorem dL_law_1639 : decode cL_law 1639 = .ok (.aload_n 3, 1) := by decide +kernel
theorem dL_law_1640 : decode cL_law 1640 = .ok (.iconst 0, 1) := by decide +kernel
theorem dL_law_1641 : decode cL_law 1641 = .ok (.laload, 1) := by decide +kernel
theorem dL_law_1642 : decode cL_law 1642 = .ok (.iload 7, 2) := by decide +kernel
theorem dL_law_1644 : decode cL_law 1644 = .ok (.i2l, 1) := by decide +kernel
theorem dL_law_1645 : decode cL_law 1645 = .ok (.lcmp, 1) := by decide +kernel
theorem dL_law_1646 : decode cL_law 1646 = .ok (.ifCond .eq 5, 3) := by decide +kernel
theorem dL_law_1649 : decode cL_law 1649 = .ok (.iconst 0, 1) := by decide +kernel
theorem dL_law_1650 : decode cL_law 1650 = .ok (.ireturn, 1) := by decide +kernel
theorem dL_law_1651 : decode cL_law 1651 = .ok (.goto 365, 3) := by decide +kernel
theorem dL_law_1654 : decode cL_law 1654 = .ok (.aload_n 1, 1) := by decide +kernel
theorem dL_law_1655 : decode cL_law 1655 = .ok (.invokevirtual 208, 3) := by decide +kernel
theorem dL_law_1658 : decode cL_law 1658 = .ok (.aload_n 2, 1) := by decide +kernel
theorem dL_law_1659 : decode cL_law 1659 = .ok (.invokevirtual 211, 3) := by decide +kernel
theorem dL_law_1662 : decode cL_law 1662 = .ok (.if_icmp .eq 354, 3) := by decide +kernel
theorem dL_law_1665 : decode cL_law 1665 = .ok (.iconst 0, 1) := by decide +kernel
theorem dL_law_1666 : decode cL_law 1666 = .ok (.ireturn, 1) := by decide +kernel
theorem dL_law_1667 : decode cL_law 1667 = .ok (.aload_n 1, 1) := by decide +kernel
theorem dL_law_1668 : decode cL_law 1668 = .ok (.aload_n 0, 1) := by decide +kernel
theorem dL_law_1669 : decode cL_law 1669 = .ok (.iload 5, 2) := by decide +kernel
theorem dL_law_1671 : decode cL_law 1671 = .ok (.iconst 1, 1) := by decide +kernel
theorem dL_law_1672 : decode cL_law 1672 = .ok (.iadd, 1) := by decide +kernel
theorem dL_law_1673 : decode cL_law 1673 = .ok (.iaload, 1) := by decide +kernel
theorem dL_law_1674 : decode cL_law 1674 = .ok (.ifCond .eq 7, 3) := by decide +kernel
theorem dL_law_1677 : decode cL_law 1677 = .ok (.iconst 1, 1) := by decide +kernel
theorem dL_law_1678 : decode cL_law 1678 = .ok (.goto 4, 3) := by decide +kernel
theorem dL_law_1681 : decode cL_law 1681 = .ok (.iconst 0, 1) := by decide +kernel
theorem dL_law_1682 : decode cL_law 1682 = .ok (.aload_n 3, 1) := by decide +kernel
theorem dL_law_1683 : decode cL_law 1683 = .ok (.invokestatic 212, 3) := by decide +kernel
theorem dL_law_1686 : decode cL_law 1686 = .ok (.istore 6, 2) := by decide +kernel
theorem dL_law_1688 : decode cL_law 1688 = .ok (.aload_n 2, 1) := by decide +kernel
theorem dL_law_1689 : decode cL_law 1689 = .ok (.aload_n 0, 1) := by decide +kernel
theorem dL_law_1690 : decode cL_law 1690 = .ok (.iload 5, 2) := by decide +kernel
theorem dL_law_1692 : decode cL_law 1692 = .ok (.iconst 1, 1) := by decide +kernel
theorem dL_law_1693 : decode cL_law 1693 = .ok (.iadd, 1) := by decide +kernel
theorem dL_law_1694 : decode cL_law 1694 = .ok (.iaload, 1) := by decide +kernel
theorem dL_law_1695 : decode cL_law 1695 = .ok (.ifCond .eq 7, 3) := by decide +kernel
theorem dL_law_1698 : decode cL_law 1698 = .ok (.iconst 1, 1) := by decide +kernel
theorem dL_law_1699 : decode cL_law 1699 = .ok (.goto 4, 3) := by decide +kernel
theorem dL_law_1702 : decode cL_law 1702 = .ok (.iconst 0, 1) := by decide +kernel
theorem dL_law_1703 : decode cL_law 1703 = .ok (.invokevirtual 215, 3) := by decide +kernel
theorem dL_law_1706 : decode cL_law 1706 = .ok (.istore 7, 2) := by decide +kernel
theorem dL_law_1708 : decode cL_law 1708 = .ok (.aload_n 2, 1) := by decide +kernel
theorem dL_law_1709 : decode cL_law 1709 = .ok (.invokevirtual 125, 3) := by decide +kernel
theorem dL_law_1712 : decode cL_law 1712 = .ok (.iload 6, 2) := by decide +kernel
theorem dL_law_1714 : decode cL_law 1714 = .ok (.if_icmp .eq 5, 3) := by decide +kernel
theorem dL_law_1717 : decode cL_law 1717 = .ok (.iconst 0, 1) := by decide +kernel
theorem dL_law_1718 : decode cL_law 1718 = .ok (.ireturn, 1) := by decide +kernel
theorem dL_law_1719 : decode cL_law 1719 = .ok (.iload 6, 2) := by decide +kernel
theorem dL_law_1721 : decode cL_law 1721 = .ok (.ifCond .ne 15, 3) := by decide +kernel
theorem dL_law_1724 : decode cL_law 1724 = .ok (.aload_n 3, 1) := by decide +kernel
theorem dL_law_1725 : decode cL_law 1725 = .ok (.iconst 0, 1) := by decide +kernel
theorem dL_law_1726 : decode cL_law 1726 = .ok (.laload, 1) := by decide +kernel
theorem dL_law_1727 : decode cL_law 1727 = .ok (.iload 7, 2) := by decide +kernel
theorem dL_law_1729 : decode cL_law 1729 = .ok (.i2l, 1) := by decide +kernel
theorem dL_law_1730 : decode cL_law 1730 = .ok (.lcmp, 1) := by decide +kernel
theorem dL_law_1731 : decode cL_law 1731 = .ok (.ifCond .eq 5, 3) := by decide +kernel
theorem dL_law_1734 : decode cL_law 1734 = .ok (.iconst 0, 1) := by decide +kernel
theorem dL_law_1735 : decode cL_law 1735 = .ok (.ireturn, 1) := by decide +kernel
theorem dL_law_1736 : decode cL_law 1736 = .ok (.goto 280, 3) := by decide +kernel
theorem dL_law_1739 : decode cL_law 1739 = .ok (.aload_n 1, 1) := by decide +kernel
theorem dL_law_1740 : decode cL_law 1740 = .ok (.aload_n 0, 1) := by decide +kernel
theorem dL_law_1741 : decode cL_law 1741 = .ok (.iload 5, 2) := by decide +kernel
theorem dL_law_1743 : decode cL_law 1743 = .ok (.iconst 1, 1) := by decide +kernel
theorem dL_law_1744 : decode cL_law 1744 = .ok (.iadd, 1) := by decide +kernel
theorem dL_law_1745 : decode cL_law 1745 = .ok (.iaload, 1) := by decide +kernel
theorem dL_law_1746 : decode cL_law 1746 = .ok (.aload_n 3, 1) := by decide +kernel
theorem dL_law_1747 : decode cL_law 1747 = .ok (.invokestatic 216, 3) := by decide +kernel
theorem dL_law_1750 : decode cL_law 1750 = .ok (.istore 6, 2) := by decide +kernel
theorem dL_law_1752 : decode cL_law 1752 = .ok (.aload_n 2, 1) := by decide +kernel
theorem dL_law_1753 : decode cL_law 1753 = .ok (.aload_n 0, 1) := by decide +kernel
theorem dL_law_1754 : decode cL_law 1754 = .ok (.iload 5, 2) := by decide +kernel
theorem dL_law_1756 : decode cL_law 1756 = .ok (.iconst 1, 1) := by decide +kernel
theorem dL_law_1757 : decode cL_law 1757 = .ok (.iadd, 1) := by decide +kernel
theorem dL_law_1758 : decode cL_law 1758 = .ok (.iaload, 1) := by decide +kernel
theorem dL_law_1759 : decode cL_law 1759 = .ok (.invokevirtual 218, 3) := by decide +kernel
theorem dL_law_1762 : decode cL_law 1762 = .ok (.istore 7, 2) := by decide +kernel
theorem dL_law_1764 : decode cL_law 1764 = .ok (.aload_n 2, 1) := by decide +kernel
theorem dL_law_1765 : decode cL_law 1765 = .ok (.invokevirtual 125, 3) := by decide +kernel
theorem dL_law_1768 : decode cL_law 1768 = .ok (.iload 6, 2) := by decide +kernel
theorem dL_law_1770 : decode cL_law 1770 = .ok (.if_icmp .eq 5, 3) := by decide +kernel
theorem dL_law_1773 : decode cL_law 1773 = .ok (.iconst 0, 1) := by decide +kernel
theorem dL_law_1774 : decode cL_law 1774 = .ok (.ireturn, 1) := by decide +kernel
theorem dL_law_1775 : decode cL_law 1775 = .ok (.iload 6, 2) := by decide +kernel
theorem dL_law_1777 : decode cL_law 1777 = .ok (.ifCond .ne 15, 3) := by decide +kernel
theorem dL_law_1780 : decode cL_law 1780 = .ok (.aload_n 3, 1) := by decide +kernel
theorem dL_law_1781 : decode cL_law 1781 = .ok (.iconst 0, 1) := by decide +kernel
theorem dL_law_1782 : decode cL_law 1782 = .ok (.laload, 1) := by decide +kernel
theorem dL_law_1783 : decode cL_law 1783 = .ok (.iload 7, 2) := by decide +kernel
theorem dL_law_1785 : decode cL_law 1785 = .ok (.i2l, 1) := by decide +kernel
theorem dL_law_1786 : decode cL_law 1786 = .ok (.lcmp, 1) := by decide +kernel
theorem dL_law_1787 : decode cL_law 1787 = .ok (.ifCond .eq 5, 3) := by decide +kernel
theorem dL_law_1790 : decode cL_law 1790 = .ok (.iconst 0, 1) := by decide +kernel
theorem dL_law_1791 : decode cL_law 1791 = .ok (.ireturn, 1) := by decide +kernel
theorem dL_law_1792 : decode cL_law 1792 = .ok (.goto 224, 3) := by decide +kernel
theorem dL_law_1795 : decode cL_law 1795 = .ok (.aload_n 1, 1) := by decide +kernel
theorem dL_law_1796 : decode cL_law 1796 = .ok (.invokevirtual 219, 3) := by decide +kernel
theorem dL_law_1799 : decode cL_law 1799 = .ok (.aload_n 2, 1) := by decide +kernel
theorem dL_law_1800 : decode cL_law 1800 = .ok (.invokevirtual 222, 3) := by decide +kernel
theorem dL_law_1803 : decode cL_law 1803 = .ok (.if_icmp .eq 213, 3) := by decide +kernel
theorem dL_law_1806 : decode cL_law 1806 = .ok (.iconst 0, 1) := by decide +kernel
theorem dL_law_1807 : decode cL_law 1807 = .ok (.ireturn, 1) := by decide +kernel
theorem dL_law_1808 : decode cL_law 1808 = .ok (.aload_n 1, 1) := by decide +kernel
theorem dL_law_1809 : decode cL_law 1809 = .ok (.invokevirtual 223, 3) := by decide +kernel
theorem dL_law_1812 : decode cL_law 1812 = .ok (.dstore 6, 2) := by decide +kernel
theorem dL_law_1814 : decode cL_law 1814 = .ok (.aload_n 2, 1) := by decide +kernel
theorem dL_law_1815 : decode cL_law 1815 = .ok (.invokevirtual 227, 3) := by decide +kernel
theorem dL_law_1818 : decode cL_law 1818 = .ok (.dstore 8, 2) := by decide +kernel
theorem dL_law_1820 : decode cL_law 1820 = .ok (.dload 6, 2) := by decide +kernel
theorem dL_law_1822 : decode cL_law 1822 = .ok (.dload 8, 2) := by decide +kernel
theorem dL_law_1824 : decode cL_law 1824 = .ok (.dcmp .l, 1) := by decide +kernel
theorem dL_law_1825 : decode cL_law 1825 = .ok (.ifCond .eq 21, 3) := by decide +kernel
theorem dL_law_1828 : decode cL_law 1828 = .ok (.dload 6, 2) := by decide +kernel
theorem dL_law_1830 : decode cL_law 1830 = .ok (.dload 6, 2) := by decide +kernel
theorem dL_law_1832 : decode cL_law 1832 = .ok (.dcmp .l, 1) := by decide +kernel
theorem dL_law_1833 : decode cL_law 1833 = .ok (.ifCond .eq 11, 3) := by decide +kernel
theorem dL_law_1836 : decode cL_law 1836 = .ok (.dload 8, 2) := by decide +kernel
theorem dL_law_1838 : decode cL_law 1838 = .ok (.dload 8, 2) := by decide +kernel
theorem dL_law_1840 : decode cL_law 1840 = .ok (.dcmp .l, 1) := by decide +kernel
theorem dL_law_1841 : decode cL_law 1841 = .ok (.ifCond .ne 5, 3) := by decide +kernel
theorem dL_law_1844 : decode cL_law 1844 = .ok (.iconst 0, 1) := by decide +kernel
theorem dL_law_1845 : decode cL_law 1845 = .ok (.ireturn, 1) := by decide +kernel
theorem dL_law_1846 : decode cL_law 1846 = .ok (.goto 170, 3) := by decide +kernel
theorem dL_law_1849 : decode cL_law 1849 = .ok (.aload_n 1, 1) := by decide +kernel
theorem dL_law_1850 : decode cL_law 1850 = .ok (.aload 4, 2) := by decide +kernel
theorem dL_law_1852 : decode cL_law 1852 = .ok (.invokestatic 228, 3) := by decide +kernel
theorem dL_law_1855 : decode cL_law 1855 = .ok (.istore 6, 2) := by decide +kernel
theorem dL_law_1857 : decode cL_law 1857 = .ok (.aload_n 2, 1) := by decide +kernel
theorem dL_law_1858 : decode cL_law 1858 = .ok (.invokevirtual 231, 3) := by decide +kernel
theorem dL_law_1861 : decode cL_law 1861 = .ok (.fstore 7, 2) := by decide +kernel
theorem dL_law_1863 : decode cL_law 1863 = .ok (.aload_n 2, 1) := by decide +kernel
theorem dL_law_1864 : decode cL_law 1864 = .ok (.invokevirtual 125, 3) := by decide +kernel
theorem dL_law_1867 : decode cL_law 1867 = .ok (.iload 6, 2) := by decide +kernel
theorem dL_law_1869 : decode cL_law 1869 = .ok (.if_icmp .eq 5, 3) := by decide +kernel
theorem dL_law_1872 : decode cL_law 1872 = .ok (.iconst 0, 1) := by decide +kernel
theorem dL_law_1873 : decode cL_law 1873 = .ok (.ireturn, 1) := by decide +kernel
theorem dL_law_1874 : decode cL_law 1874 = .ok (.iload 6, 2) := by decide +kernel
theorem dL_law_1876 : decode cL_law 1876 = .ok (.ifCond .ne 36, 3) := by decide +kernel
theorem dL_law_1879 : decode cL_law 1879 = .ok (.aload 4, 2) := by decide +kernel
theorem dL_law_1881 : decode cL_law 1881 = .ok (.iconst 0, 1) := by decide +kernel
theorem dL_law_1882 : decode cL_law 1882 = .ok (.daload, 1) := by decide +kernel
theorem dL_law_1883 : decode cL_law 1883 = .ok (.fload 7, 2) := by decide +kernel
theorem dL_law_1885 : decode cL_law 1885 = .ok (.f2d, 1) := by decide +kernel
theorem dL_law_1886 : decode cL_law 1886 = .ok (.dcmp .l, 1) := by decide +kernel
theorem dL_law_1887 : decode cL_law 1887 = .ok (.ifCond .eq 25, 3) := by decide +kernel
theorem dL_law_1890 : decode cL_law 1890 = .ok (.aload 4, 2) := by decide +kernel
theorem dL_law_1892 : decode cL_law 1892 = .ok (.iconst 0, 1) := by decide +kernel
theorem dL_law_1893 : decode cL_law 1893 = .ok (.daload, 1) := by decide +kernel
theorem dL_law_1894 : decode cL_law 1894 = .ok (.aload 4, 2) := by decide +kernel
theorem dL_law_1896 : decode cL_law 1896 = .ok (.iconst 0, 1) := by decide +kernel
theorem dL_law_1897 : decode cL_law 1897 = .ok (.daload, 1) := by decide +kernel
theorem dL_law_1898 : decode cL_law 1898 = .ok (.dcmp .l, 1) := by decide +kernel
theorem dL_law_1899 : decode cL_law 1899 = .ok (.ifCond .eq 11, 3) := by decide +kernel
theorem dL_law_1902 : decode cL_law 1902 = .ok (.fload 7, 2) := by decide +kernel
theorem dL_law_1904 : decode cL_law 1904 = .ok (.fload 7, 2) := by decide +kernel
theorem dL_law_1906 : decode cL_law 1906 = .ok (.fcmp .l, 1) := by decide +kernel
theorem dL_law_1907 : decode cL_law 1907 = .ok (.ifCond .ne 5, 3) := by decide +kernel
theorem dL_law_1910 : decode cL_law 1910 = .ok (.iconst 0, 1) := by decide +kernel
theorem dL_law_1911 : decode cL_law 1911 = .ok (.ireturn, 1) := by decide +kernel
theorem dL_law_1912 : decode cL_law 1912 = .ok (.goto 104, 3) := by decide +kernel
theorem dL_law_1915 : decode cL_law 1915 = .ok (.aload_n 1, 1) := by decide +kernel
theorem dL_law_1916 : decode cL_law 1916 = .ok (.aload_n 3, 1) := by decide +kernel
theorem dL_law_1917 : decode cL_law 1917 = .ok (.invokestatic 232, 3) := by decide +kernel
theorem dL_law_1920 : decode cL_law 1920 = .ok (.istore 6, 2) := by decide +kernel
theorem dL_law_1922 : decode cL_law 1922 = .ok (.aload_n 2, 1) := by decide +kernel
theorem dL_law_1923 : decode cL_law 1923 = .ok (.invokevirtual 234, 3) := by decide +kernel
theorem dL_law_1926 : decode cL_law 1926 = .ok (.istore 7, 2) := by decide +kernel
theorem dL_law_1928 : decode cL_law 1928 = .ok (.aload_n 2, 1) := by decide +kernel
theorem dL_law_1929 : decode cL_law 1929 = .ok (.invokevirtual 125, 3) := by decide +kernel
theorem dL_law_1932 : decode cL_law 1932 = .ok (.iload 6, 2) := by decide +kernel
theorem dL_law_1934 : decode cL_law 1934 = .ok (.if_icmp .eq 5, 3) := by decide +kernel
theorem dL_law_1937 : decode cL_law 1937 = .ok (.iconst 0, 1) := by decide +kernel
theorem dL_law_1938 : decode cL_law 1938 = .ok (.ireturn, 1) := by decide +kernel
theorem dL_law_1939 : decode cL_law 1939 = .ok (.iload 6, 2) := by decide +kernel
theorem dL_law_1941 : decode cL_law 1941 = .ok (.ifCond .ne 15, 3) := by decide +kernel
theorem dL_law_1944 : decode cL_law 1944 = .ok (.aload_n 3, 1) := by decide +kernel
theorem dL_law_1945 : decode cL_law 1945 = .ok (.iconst 0, 1) := by decide +kernel
theorem dL_law_1946 : decode cL_law 1946 = .ok (.laload, 1) := by decide +kernel
theorem dL_law_1947 : decode cL_law 1947 = .ok (.iload 7, 2) := by decide +kernel
theorem dL_law_1949 : decode cL_law 1949 = .ok (.i2l, 1) := by decide +kernel
theorem dL_law_1950 : decode cL_law 1950 = .ok (.lcmp, 1) := by decide +kernel
theorem dL_law_1951 : decode cL_law 1951 = .ok (.ifCond .eq 5, 3) := by decide +kernel
theorem dL_law_1954 : decode cL_law 1954 = .ok (.iconst 0, 1) := by decide +kernel
theorem dL_law_1955 : decode cL_law 1955 = .ok (.ireturn, 1) := by decide +kernel
theorem dL_law_1956 : decode cL_law 1956 = .ok (.goto 60, 3) := by decide +kernel
theorem dL_law_1959 : decode cL_law 1959 = .ok (.aload_n 1, 1) := by decide +kernel
theorem dL_law_1960 : decode cL_law 1960 = .ok (.invokevirtual 235, 3) := by decide +kernel
theorem dL_law_1963 : decode cL_law 1963 = .ok (.aload_n 2, 1) := by decide +kernel
theorem dL_law_1964 : decode cL_law 1964 = .ok (.invokevirtual 238, 3) := by decide +kernel
theorem dL_law_1967 : decode cL_law 1967 = .ok (.if_icmp .eq 49, 3) := by decide +kernel
theorem dL_law_1970 : decode cL_law 1970 = .ok (.iconst 0, 1) := by decide +kernel
theorem dL_law_1971 : decode cL_law 1971 = .ok (.ireturn, 1) := by decide +kernel
theorem dL_law_1972 : decode cL_law 1972 = .ok (.aload_n 1, 1) := by decide +kernel
theorem dL_law_1973 : decode cL_law 1973 = .ok (.aload_n 3, 1) := by decide +kernel
theorem dL_law_1974 : decode cL_law 1974 = .ok (.invokestatic 239, 3) := by decide +kernel
theorem dL_law_1977 : decode cL_law 1977 = .ok (.istore 6, 2) := by decide +kernel
theorem dL_law_1979 : decode cL_law 1979 = .ok (.aload_n 2, 1) := by decide +kernel
theorem dL_law_1980 : decode cL_law 1980 = .ok (.invokevirtual 241, 3) := by decide +kernel
theorem dL_law_1983 : decode cL_law 1983 = .ok (.istore 7, 2) := by decide +kernel
theorem dL_law_1985 : decode cL_law 1985 = .ok (.aload_n 2, 1) := by decide +kernel
theorem dL_law_1986 : decode cL_law 1986 = .ok (.invokevirtual 125, 3) := by decide +kernel
theorem dL_law_1989 : decode cL_law 1989 = .ok (.iload 6, 2) := by decide +kernel
theorem dL_law_1991 : decode cL_law 1991 = .ok (.if_icmp .eq 5, 3) := by decide +kernel
theorem dL_law_1994 : decode cL_law 1994 = .ok (.iconst 0, 1) := by decide +kernel
theorem dL_law_1995 : decode cL_law 1995 = .ok (.ireturn, 1) := by decide +kernel
theorem dL_law_1996 : decode cL_law 1996 = .ok (.iload 6, 2) := by decide +kernel
theorem dL_law_1998 : decode cL_law 1998 = .ok (.ifCond .ne 15, 3) := by decide +kernel
theorem dL_law_2001 : decode cL_law 2001 = .ok (.aload_n 3, 1) := by decide +kernel
theorem dL_law_2002 : decode cL_law 2002 = .ok (.iconst 0, 1) := by decide +kernel
theorem dL_law_2003 : decode cL_law 2003 = .ok (.laload, 1) := by decide +kernel
theorem dL_law_2004 : decode cL_law 2004 = .ok (.iload 7, 2) := by decide +kernel
theorem dL_law_2006 : decode cL_law 2006 = .ok (.i2l, 1) := by decide +kernel
theorem dL_law_2007 : decode cL_law 2007 = .ok (.lcmp, 1) := by decide +kernel
theorem dL_law_2008 : decode cL_law 2008 = .ok (.ifCond .eq 5, 3) := by decide +kernel
theorem dL_law_2011 : decode cL_law 2011 = .ok (.iconst 0, 1) := by decide +kernel
theorem dL_law_2012 : decode cL_law 2012 = .ok (.ireturn, 1) := by decide +kernel
theorem dL_law_2013 : decode cL_law 2013 = .ok (.goto 3, 3) := by decide +kernel
theorem dL_law_2016 : decode cL_law 2016 = .ok (.iinc 5 4, 3) := by decide +kernel
theorem dL_law_2019 : decode cL_law 2019 = .ok (.goto (-1991), 3) := by decide +kernel
theorem dL_law_2022 : decode cL_law 2022 = .ok (.iconst 1, 1) := by decide +kernel
theorem dL_law_2023 : decode cL_law 2023 = .ok (.ireturn, 1) := by decide +kernel
