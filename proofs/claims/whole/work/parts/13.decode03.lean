/-! decode rows -/
theorem d_M_built_150 : decode (sk_cc m_M_built) 150 = .ok (.getfield 78, 3) := by decide +kernel
theorem d_M_built_153 : decode (sk_cc m_M_built) 153 = .ok (.iconst (-1), 1) := by decide +kernel
theorem d_M_built_154 : decode (sk_cc m_M_built) 154 = .ok (.iastore, 1) := by decide +kernel
theorem d_M_built_155 : decode (sk_cc m_M_built) 155 = .ok (.aload_n 0, 1) := by decide +kernel
theorem d_M_built_156 : decode (sk_cc m_M_built) 156 = .ok (.dup, 1) := by decide +kernel
theorem d_M_built_157 : decode (sk_cc m_M_built) 157 = .ok (.getfield 78, 3) := by decide +kernel
theorem d_M_built_160 : decode (sk_cc m_M_built) 160 = .ok (.iconst 1, 1) := by decide +kernel
theorem d_M_built_161 : decode (sk_cc m_M_built) 161 = .ok (.iadd, 1) := by decide +kernel
theorem d_M_built_162 : decode (sk_cc m_M_built) 162 = .ok (.putfield 78, 3) := by decide +kernel
theorem d_M_built_165 : decode (sk_cc m_M_built) 165 = .ok (.iinc 1 1, 3) := by decide +kernel
theorem d_M_built_168 : decode (sk_cc m_M_built) 168 = .ok (.goto (-41), 3) := by decide +kernel
theorem d_M_built_171 : decode (sk_cc m_M_built) 171 = .ok (.iconst 0, 1) := by decide +kernel
theorem d_M_built_172 : decode (sk_cc m_M_built) 172 = .ok (.istore_n 1, 1) := by decide +kernel
theorem d_M_built_173 : decode (sk_cc m_M_built) 173 = .ok (.iload_n 1, 1) := by decide +kernel
theorem d_M_built_174 : decode (sk_cc m_M_built) 174 = .ok (.aload_n 0, 1) := by decide +kernel
theorem d_M_built_175 : decode (sk_cc m_M_built) 175 = .ok (.getfield 72, 3) := by decide +kernel
theorem d_M_built_178 : decode (sk_cc m_M_built) 178 = .ok (.if_icmp .ge 57, 3) := by decide +kernel
theorem d_M_built_181 : decode (sk_cc m_M_built) 181 = .ok (.iconst 0, 1) := by decide +kernel
theorem d_M_built_182 : decode (sk_cc m_M_built) 182 = .ok (.istore_n 2, 1) := by decide +kernel
theorem d_M_built_183 : decode (sk_cc m_M_built) 183 = .ok (.iload_n 2, 1) := by decide +kernel
theorem d_M_built_184 : decode (sk_cc m_M_built) 184 = .ok (.aload_n 0, 1) := by decide +kernel
theorem d_M_built_185 : decode (sk_cc m_M_built) 185 = .ok (.getfield 19, 3) := by decide +kernel
theorem d_M_built_188 : decode (sk_cc m_M_built) 188 = .ok (.iload_n 1, 1) := by decide +kernel
theorem d_M_built_189 : decode (sk_cc m_M_built) 189 = .ok (.iaload, 1) := by decide +kernel
theorem d_M_built_190 : decode (sk_cc m_M_built) 190 = .ok (.if_icmp .ge 39, 3) := by decide +kernel
theorem d_M_built_193 : decode (sk_cc m_M_built) 193 = .ok (.aload_n 0, 1) := by decide +kernel
theorem d_M_built_194 : decode (sk_cc m_M_built) 194 = .ok (.getfield 38, 3) := by decide +kernel
theorem d_M_built_197 : decode (sk_cc m_M_built) 197 = .ok (.aload_n 0, 1) := by decide +kernel
theorem d_M_built_198 : decode (sk_cc m_M_built) 198 = .ok (.getfield 78, 3) := by decide +kernel
theorem d_M_built_201 : decode (sk_cc m_M_built) 201 = .ok (.iload_n 1, 1) := by decide +kernel
theorem d_M_built_202 : decode (sk_cc m_M_built) 202 = .ok (.iastore, 1) := by decide +kernel
theorem d_M_built_203 : decode (sk_cc m_M_built) 203 = .ok (.aload_n 0, 1) := by decide +kernel
theorem d_M_built_204 : decode (sk_cc m_M_built) 204 = .ok (.getfield 41, 3) := by decide +kernel
theorem d_M_built_207 : decode (sk_cc m_M_built) 207 = .ok (.aload_n 0, 1) := by decide +kernel
theorem d_M_built_208 : decode (sk_cc m_M_built) 208 = .ok (.getfield 78, 3) := by decide +kernel
theorem d_M_built_211 : decode (sk_cc m_M_built) 211 = .ok (.iload_n 2, 1) := by decide +kernel
theorem d_M_built_212 : decode (sk_cc m_M_built) 212 = .ok (.iastore, 1) := by decide +kernel
theorem d_M_built_213 : decode (sk_cc m_M_built) 213 = .ok (.aload_n 0, 1) := by decide +kernel
theorem d_M_built_214 : decode (sk_cc m_M_built) 214 = .ok (.dup, 1) := by decide +kernel
theorem d_M_built_215 : decode (sk_cc m_M_built) 215 = .ok (.getfield 78, 3) := by decide +kernel
theorem d_M_built_218 : decode (sk_cc m_M_built) 218 = .ok (.iconst 1, 1) := by decide +kernel
theorem d_M_built_219 : decode (sk_cc m_M_built) 219 = .ok (.iadd, 1) := by decide +kernel
theorem d_M_built_220 : decode (sk_cc m_M_built) 220 = .ok (.putfield 78, 3) := by decide +kernel
theorem d_M_built_223 : decode (sk_cc m_M_built) 223 = .ok (.iinc 2 1, 3) := by decide +kernel
theorem d_M_built_226 : decode (sk_cc m_M_built) 226 = .ok (.goto (-43), 3) := by decide +kernel
theorem d_M_built_229 : decode (sk_cc m_M_built) 229 = .ok (.iinc 1 1, 3) := by decide +kernel
theorem d_M_built_232 : decode (sk_cc m_M_built) 232 = .ok (.goto (-59), 3) := by decide +kernel
theorem d_M_built_235 : decode (sk_cc m_M_built) 235 = .ok (.return_, 1) := by decide +kernel
theorem d_M_source_0 : decode (sk_cc m_M_source) 0 = .ok (.aload_n 0, 1) := by decide +kernel
theorem d_M_source_1 : decode (sk_cc m_M_source) 1 = .ok (.aload_n 0, 1) := by decide +kernel
theorem d_M_source_2 : decode (sk_cc m_M_source) 2 = .ok (.getfield 75, 3) := by decide +kernel
theorem d_M_source_5 : decode (sk_cc m_M_source) 5 = .ok (.bipush 6, 2) := by decide +kernel
theorem d_M_source_7 : decode (sk_cc m_M_source) 7 = .ok (.if_icmp .eq 12, 3) := by decide +kernel
theorem d_M_source_10 : decode (sk_cc m_M_source) 10 = .ok (.aload_n 0, 1) := by decide +kernel
theorem d_M_source_11 : decode (sk_cc m_M_source) 11 = .ok (.getfield 72, 3) := by decide +kernel
theorem d_M_source_14 : decode (sk_cc m_M_source) 14 = .ok (.bipush 26, 2) := by decide +kernel
theorem d_M_source_16 : decode (sk_cc m_M_source) 16 = .ok (.if_icmp .ne 7, 3) := by decide +kernel
theorem d_M_source_19 : decode (sk_cc m_M_source) 19 = .ok (.iconst 1, 1) := by decide +kernel
theorem d_M_source_20 : decode (sk_cc m_M_source) 20 = .ok (.goto 4, 3) := by decide +kernel
theorem d_M_source_23 : decode (sk_cc m_M_source) 23 = .ok (.iconst 0, 1) := by decide +kernel
theorem d_M_source_24 : decode (sk_cc m_M_source) 24 = .ok (.putfield 68, 3) := by decide +kernel
theorem d_M_source_27 : decode (sk_cc m_M_source) 27 = .ok (.aload_n 0, 1) := by decide +kernel
theorem d_M_source_28 : decode (sk_cc m_M_source) 28 = .ok (.getfield 68, 3) := by decide +kernel
theorem d_M_source_31 : decode (sk_cc m_M_source) 31 = .ok (.ifCond .le 5, 3) := by decide +kernel
theorem d_M_source_34 : decode (sk_cc m_M_source) 34 = .ok (.iconst 0, 1) := by decide +kernel
theorem d_M_source_35 : decode (sk_cc m_M_source) 35 = .ok (.ireturn, 1) := by decide +kernel
theorem d_M_source_36 : decode (sk_cc m_M_source) 36 = .ok (.aload_n 0, 1) := by decide +kernel
theorem d_M_source_37 : decode (sk_cc m_M_source) 37 = .ok (.getfield 7, 3) := by decide +kernel
theorem d_M_source_40 : decode (sk_cc m_M_source) 40 = .ok (.aload_n 0, 1) := by decide +kernel
theorem d_M_source_41 : decode (sk_cc m_M_source) 41 = .ok (.getfield 72, 3) := by decide +kernel
theorem d_M_source_44 : decode (sk_cc m_M_source) 44 = .ok (.aload_n 0, 1) := by decide +kernel
theorem d_M_source_45 : decode (sk_cc m_M_source) 45 = .ok (.getfield 75, 3) := by decide +kernel
theorem d_M_source_48 : decode (sk_cc m_M_source) 48 = .ok (.iastore, 1) := by decide +kernel
theorem d_M_source_49 : decode (sk_cc m_M_source) 49 = .ok (.aload_n 0, 1) := by decide +kernel
theorem d_M_source_50 : decode (sk_cc m_M_source) 50 = .ok (.getfield 19, 3) := by decide +kernel
theorem d_M_source_53 : decode (sk_cc m_M_source) 53 = .ok (.aload_n 0, 1) := by decide +kernel
theorem d_M_source_54 : decode (sk_cc m_M_source) 54 = .ok (.getfield 72, 3) := by decide +kernel
theorem d_M_source_57 : decode (sk_cc m_M_source) 57 = .ok (.iconst 0, 1) := by decide +kernel
theorem d_M_source_58 : decode (sk_cc m_M_source) 58 = .ok (.iastore, 1) := by decide +kernel
theorem d_M_source_59 : decode (sk_cc m_M_source) 59 = .ok (.aload_n 0, 1) := by decide +kernel
theorem d_M_source_60 : decode (sk_cc m_M_source) 60 = .ok (.getfield 22, 3) := by decide +kernel
theorem d_M_source_63 : decode (sk_cc m_M_source) 63 = .ok (.aload_n 0, 1) := by decide +kernel
theorem d_M_source_64 : decode (sk_cc m_M_source) 64 = .ok (.getfield 75, 3) := by decide +kernel
theorem d_M_source_67 : decode (sk_cc m_M_source) 67 = .ok (.aload_n 0, 1) := by decide +kernel
theorem d_M_source_68 : decode (sk_cc m_M_source) 68 = .ok (.getfield 72, 3) := by decide +kernel
theorem d_M_source_71 : decode (sk_cc m_M_source) 71 = .ok (.iastore, 1) := by decide +kernel
theorem d_M_source_72 : decode (sk_cc m_M_source) 72 = .ok (.aload_n 0, 1) := by decide +kernel
theorem d_M_source_73 : decode (sk_cc m_M_source) 73 = .ok (.getfield 25, 3) := by decide +kernel
theorem d_M_source_76 : decode (sk_cc m_M_source) 76 = .ok (.aload_n 0, 1) := by decide +kernel
theorem d_M_source_77 : decode (sk_cc m_M_source) 77 = .ok (.getfield 75, 3) := by decide +kernel
theorem d_M_source_80 : decode (sk_cc m_M_source) 80 = .ok (.iload_n 1, 1) := by decide +kernel
theorem d_M_source_81 : decode (sk_cc m_M_source) 81 = .ok (.bastore, 1) := by decide +kernel
theorem d_M_source_82 : decode (sk_cc m_M_source) 82 = .ok (.aload_n 0, 1) := by decide +kernel
theorem d_M_source_83 : decode (sk_cc m_M_source) 83 = .ok (.getfield 29, 3) := by decide +kernel
theorem d_M_source_86 : decode (sk_cc m_M_source) 86 = .ok (.aload_n 0, 1) := by decide +kernel
theorem d_M_source_87 : decode (sk_cc m_M_source) 87 = .ok (.getfield 75, 3) := by decide +kernel
theorem d_M_source_90 : decode (sk_cc m_M_source) 90 = .ok (.iconst (-1), 1) := by decide +kernel
theorem d_M_source_91 : decode (sk_cc m_M_source) 91 = .ok (.iastore, 1) := by decide +kernel
theorem d_M_source_92 : decode (sk_cc m_M_source) 92 = .ok (.aload_n 0, 1) := by decide +kernel
theorem d_M_source_93 : decode (sk_cc m_M_source) 93 = .ok (.dup, 1) := by decide +kernel
theorem d_M_source_94 : decode (sk_cc m_M_source) 94 = .ok (.getfield 75, 3) := by decide +kernel
theorem d_M_source_97 : decode (sk_cc m_M_source) 97 = .ok (.iconst 1, 1) := by decide +kernel
theorem d_M_source_98 : decode (sk_cc m_M_source) 98 = .ok (.iadd, 1) := by decide +kernel
theorem d_M_source_99 : decode (sk_cc m_M_source) 99 = .ok (.putfield 75, 3) := by decide +kernel
theorem d_M_source_102 : decode (sk_cc m_M_source) 102 = .ok (.aload_n 0, 1) := by decide +kernel
theorem d_M_source_103 : decode (sk_cc m_M_source) 103 = .ok (.dup, 1) := by decide +kernel
theorem d_M_source_104 : decode (sk_cc m_M_source) 104 = .ok (.getfield 72, 3) := by decide +kernel
theorem d_M_source_107 : decode (sk_cc m_M_source) 107 = .ok (.iconst 1, 1) := by decide +kernel
theorem d_M_source_108 : decode (sk_cc m_M_source) 108 = .ok (.iadd, 1) := by decide +kernel
theorem d_M_source_109 : decode (sk_cc m_M_source) 109 = .ok (.putfield 72, 3) := by decide +kernel
theorem d_M_source_112 : decode (sk_cc m_M_source) 112 = .ok (.aload_n 0, 1) := by decide +kernel
theorem d_M_source_113 : decode (sk_cc m_M_source) 113 = .ok (.invokevirtual 97, 3) := by decide +kernel
theorem d_M_source_116 : decode (sk_cc m_M_source) 116 = .ok (.aload_n 0, 1) := by decide +kernel
theorem d_M_source_117 : decode (sk_cc m_M_source) 117 = .ok (.getfield 72, 3) := by decide +kernel
theorem d_M_source_120 : decode (sk_cc m_M_source) 120 = .ok (.iconst 1, 1) := by decide +kernel
theorem d_M_source_121 : decode (sk_cc m_M_source) 121 = .ok (.isub, 1) := by decide +kernel
theorem d_M_source_122 : decode (sk_cc m_M_source) 122 = .ok (.ireturn, 1) := by decide +kernel
theorem d_M_gate_0 : decode (sk_cc m_M_gate) 0 = .ok (.iload_n 1, 1) := by decide +kernel
theorem d_M_gate_1 : decode (sk_cc m_M_gate) 1 = .ok (.ifCond .lt 24, 3) := by decide +kernel
theorem d_M_gate_4 : decode (sk_cc m_M_gate) 4 = .ok (.iload_n 1, 1) := by decide +kernel
theorem d_M_gate_5 : decode (sk_cc m_M_gate) 5 = .ok (.iconst 5, 1) := by decide +kernel
theorem d_M_gate_6 : decode (sk_cc m_M_gate) 6 = .ok (.if_icmp .gt 19, 3) := by decide +kernel
theorem d_M_gate_9 : decode (sk_cc m_M_gate) 9 = .ok (.iload_n 2, 1) := by decide +kernel
theorem d_M_gate_10 : decode (sk_cc m_M_gate) 10 = .ok (.iconst (-1), 1) := by decide +kernel
theorem d_M_gate_11 : decode (sk_cc m_M_gate) 11 = .ok (.if_icmp .eq 14, 3) := by decide +kernel
theorem d_M_gate_14 : decode (sk_cc m_M_gate) 14 = .ok (.iload_n 3, 1) := by decide +kernel
theorem d_M_gate_15 : decode (sk_cc m_M_gate) 15 = .ok (.iconst (-1), 1) := by decide +kernel
theorem d_M_gate_16 : decode (sk_cc m_M_gate) 16 = .ok (.if_icmp .ne 13, 3) := by decide +kernel
theorem d_M_gate_19 : decode (sk_cc m_M_gate) 19 = .ok (.iload 4, 2) := by decide +kernel
theorem d_M_gate_21 : decode (sk_cc m_M_gate) 21 = .ok (.iconst (-1), 1) := by decide +kernel
theorem d_M_gate_22 : decode (sk_cc m_M_gate) 22 = .ok (.if_icmp .eq 7, 3) := by decide +kernel
theorem d_M_gate_25 : decode (sk_cc m_M_gate) 25 = .ok (.iconst 1, 1) := by decide +kernel
theorem d_M_gate_26 : decode (sk_cc m_M_gate) 26 = .ok (.goto 4, 3) := by decide +kernel
theorem d_M_gate_29 : decode (sk_cc m_M_gate) 29 = .ok (.iconst 0, 1) := by decide +kernel
theorem d_M_gate_30 : decode (sk_cc m_M_gate) 30 = .ok (.istore 5, 2) := by decide +kernel
theorem d_M_gate_32 : decode (sk_cc m_M_gate) 32 = .ok (.aload_n 0, 1) := by decide +kernel
theorem d_M_gate_33 : decode (sk_cc m_M_gate) 33 = .ok (.iload_n 2, 1) := by decide +kernel
theorem d_M_gate_34 : decode (sk_cc m_M_gate) 34 = .ok (.invokevirtual 100, 3) := by decide +kernel
theorem d_M_gate_37 : decode (sk_cc m_M_gate) 37 = .ok (.ifCond .ne 31, 3) := by decide +kernel
theorem d_M_gate_40 : decode (sk_cc m_M_gate) 40 = .ok (.iload_n 3, 1) := by decide +kernel
theorem d_M_gate_41 : decode (sk_cc m_M_gate) 41 = .ok (.iconst (-1), 1) := by decide +kernel
theorem d_M_gate_42 : decode (sk_cc m_M_gate) 42 = .ok (.if_icmp .eq 11, 3) := by decide +kernel
theorem d_M_gate_45 : decode (sk_cc m_M_gate) 45 = .ok (.aload_n 0, 1) := by decide +kernel
theorem d_M_gate_46 : decode (sk_cc m_M_gate) 46 = .ok (.iload_n 3, 1) := by decide +kernel
theorem d_M_gate_47 : decode (sk_cc m_M_gate) 47 = .ok (.invokevirtual 100, 3) := by decide +kernel
theorem d_M_gate_50 : decode (sk_cc m_M_gate) 50 = .ok (.ifCond .ne 18, 3) := by decide +kernel
theorem d_M_gate_53 : decode (sk_cc m_M_gate) 53 = .ok (.iload 4, 2) := by decide +kernel
theorem d_M_gate_55 : decode (sk_cc m_M_gate) 55 = .ok (.iconst (-1), 1) := by decide +kernel
theorem d_M_gate_56 : decode (sk_cc m_M_gate) 56 = .ok (.if_icmp .eq 16, 3) := by decide +kernel
theorem d_M_gate_59 : decode (sk_cc m_M_gate) 59 = .ok (.aload_n 0, 1) := by decide +kernel
theorem d_M_gate_60 : decode (sk_cc m_M_gate) 60 = .ok (.iload 4, 2) := by decide +kernel
theorem d_M_gate_62 : decode (sk_cc m_M_gate) 62 = .ok (.invokevirtual 100, 3) := by decide +kernel
theorem d_M_gate_65 : decode (sk_cc m_M_gate) 65 = .ok (.ifCond .eq 7, 3) := by decide +kernel
theorem d_M_gate_68 : decode (sk_cc m_M_gate) 68 = .ok (.iconst 1, 1) := by decide +kernel
theorem d_M_gate_69 : decode (sk_cc m_M_gate) 69 = .ok (.goto 4, 3) := by decide +kernel
theorem d_M_gate_72 : decode (sk_cc m_M_gate) 72 = .ok (.iconst 0, 1) := by decide +kernel
theorem d_M_gate_73 : decode (sk_cc m_M_gate) 73 = .ok (.istore 6, 2) := by decide +kernel
theorem d_M_gate_75 : decode (sk_cc m_M_gate) 75 = .ok (.aload_n 0, 1) := by decide +kernel
theorem d_M_gate_76 : decode (sk_cc m_M_gate) 76 = .ok (.iload 5, 2) := by decide +kernel
theorem d_M_gate_78 : decode (sk_cc m_M_gate) 78 = .ok (.ifCond .eq 7, 3) := by decide +kernel
theorem d_M_gate_81 : decode (sk_cc m_M_gate) 81 = .ok (.iconst 1, 1) := by decide +kernel
theorem d_M_gate_82 : decode (sk_cc m_M_gate) 82 = .ok (.goto 26, 3) := by decide +kernel
theorem d_M_gate_85 : decode (sk_cc m_M_gate) 85 = .ok (.iload 6, 2) := by decide +kernel
theorem d_M_gate_87 : decode (sk_cc m_M_gate) 87 = .ok (.ifCond .eq 7, 3) := by decide +kernel
theorem d_M_gate_90 : decode (sk_cc m_M_gate) 90 = .ok (.iconst 2, 1) := by decide +kernel
theorem d_M_gate_91 : decode (sk_cc m_M_gate) 91 = .ok (.goto 17, 3) := by decide +kernel
theorem d_M_gate_94 : decode (sk_cc m_M_gate) 94 = .ok (.aload_n 0, 1) := by decide +kernel
theorem d_M_gate_95 : decode (sk_cc m_M_gate) 95 = .ok (.getfield 72, 3) := by decide +kernel
theorem d_M_gate_98 : decode (sk_cc m_M_gate) 98 = .ok (.bipush 26, 2) := by decide +kernel
theorem d_M_gate_100 : decode (sk_cc m_M_gate) 100 = .ok (.if_icmp .ne 7, 3) := by decide +kernel
theorem d_M_gate_103 : decode (sk_cc m_M_gate) 103 = .ok (.iconst 3, 1) := by decide +kernel
theorem d_M_gate_104 : decode (sk_cc m_M_gate) 104 = .ok (.goto 4, 3) := by decide +kernel
theorem d_M_gate_107 : decode (sk_cc m_M_gate) 107 = .ok (.iconst 0, 1) := by decide +kernel
theorem d_M_gate_108 : decode (sk_cc m_M_gate) 108 = .ok (.putfield 68, 3) := by decide +kernel
theorem d_M_gate_111 : decode (sk_cc m_M_gate) 111 = .ok (.aload_n 0, 1) := by decide +kernel
theorem d_M_gate_112 : decode (sk_cc m_M_gate) 112 = .ok (.getfield 68, 3) := by decide +kernel
theorem d_M_gate_115 : decode (sk_cc m_M_gate) 115 = .ok (.ifCond .le 5, 3) := by decide +kernel
theorem d_M_gate_118 : decode (sk_cc m_M_gate) 118 = .ok (.iconst 0, 1) := by decide +kernel
theorem d_M_gate_119 : decode (sk_cc m_M_gate) 119 = .ok (.ireturn, 1) := by decide +kernel
theorem d_M_gate_120 : decode (sk_cc m_M_gate) 120 = .ok (.aload_n 0, 1) := by decide +kernel
theorem d_M_gate_121 : decode (sk_cc m_M_gate) 121 = .ok (.getfield 7, 3) := by decide +kernel
theorem d_M_gate_124 : decode (sk_cc m_M_gate) 124 = .ok (.aload_n 0, 1) := by decide +kernel
theorem d_M_gate_125 : decode (sk_cc m_M_gate) 125 = .ok (.getfield 72, 3) := by decide +kernel
theorem d_M_gate_128 : decode (sk_cc m_M_gate) 128 = .ok (.iconst (-1), 1) := by decide +kernel
theorem d_M_gate_129 : decode (sk_cc m_M_gate) 129 = .ok (.iastore, 1) := by decide +kernel
theorem d_M_gate_130 : decode (sk_cc m_M_gate) 130 = .ok (.aload_n 0, 1) := by decide +kernel
theorem d_M_gate_131 : decode (sk_cc m_M_gate) 131 = .ok (.getfield 13, 3) := by decide +kernel
theorem d_M_gate_134 : decode (sk_cc m_M_gate) 134 = .ok (.aload_n 0, 1) := by decide +kernel
theorem d_M_gate_135 : decode (sk_cc m_M_gate) 135 = .ok (.getfield 72, 3) := by decide +kernel
theorem d_M_gate_138 : decode (sk_cc m_M_gate) 138 = .ok (.iload_n 1, 1) := by decide +kernel
theorem d_M_gate_139 : decode (sk_cc m_M_gate) 139 = .ok (.iastore, 1) := by decide +kernel
theorem d_M_gate_140 : decode (sk_cc m_M_gate) 140 = .ok (.aload_n 0, 1) := by decide +kernel
theorem d_M_gate_141 : decode (sk_cc m_M_gate) 141 = .ok (.getfield 16, 3) := by decide +kernel
theorem d_M_gate_144 : decode (sk_cc m_M_gate) 144 = .ok (.iconst 3, 1) := by decide +kernel
theorem d_M_gate_145 : decode (sk_cc m_M_gate) 145 = .ok (.aload_n 0, 1) := by decide +kernel
theorem d_M_gate_146 : decode (sk_cc m_M_gate) 146 = .ok (.getfield 72, 3) := by decide +kernel
theorem d_M_gate_149 : decode (sk_cc m_M_gate) 149 = .ok (.imul, 1) := by decide +kernel
theorem d_M_gate_150 : decode (sk_cc m_M_gate) 150 = .ok (.iload_n 2, 1) := by decide +kernel
theorem d_M_gate_151 : decode (sk_cc m_M_gate) 151 = .ok (.iastore, 1) := by decide +kernel
theorem d_M_gate_152 : decode (sk_cc m_M_gate) 152 = .ok (.aload_n 0, 1) := by decide +kernel
theorem d_M_gate_153 : decode (sk_cc m_M_gate) 153 = .ok (.getfield 16, 3) := by decide +kernel
theorem d_M_gate_156 : decode (sk_cc m_M_gate) 156 = .ok (.iconst 3, 1) := by decide +kernel
theorem d_M_gate_157 : decode (sk_cc m_M_gate) 157 = .ok (.aload_n 0, 1) := by decide +kernel
theorem d_M_gate_158 : decode (sk_cc m_M_gate) 158 = .ok (.getfield 72, 3) := by decide +kernel
theorem d_M_gate_161 : decode (sk_cc m_M_gate) 161 = .ok (.imul, 1) := by decide +kernel
theorem d_M_gate_162 : decode (sk_cc m_M_gate) 162 = .ok (.iconst 1, 1) := by decide +kernel
theorem d_M_gate_163 : decode (sk_cc m_M_gate) 163 = .ok (.iadd, 1) := by decide +kernel
theorem d_M_gate_164 : decode (sk_cc m_M_gate) 164 = .ok (.iload_n 3, 1) := by decide +kernel
theorem d_M_gate_165 : decode (sk_cc m_M_gate) 165 = .ok (.iastore, 1) := by decide +kernel
theorem d_M_gate_166 : decode (sk_cc m_M_gate) 166 = .ok (.aload_n 0, 1) := by decide +kernel
theorem d_M_gate_167 : decode (sk_cc m_M_gate) 167 = .ok (.getfield 16, 3) := by decide +kernel
theorem d_M_gate_170 : decode (sk_cc m_M_gate) 170 = .ok (.iconst 3, 1) := by decide +kernel
theorem d_M_gate_171 : decode (sk_cc m_M_gate) 171 = .ok (.aload_n 0, 1) := by decide +kernel
theorem d_M_gate_172 : decode (sk_cc m_M_gate) 172 = .ok (.getfield 72, 3) := by decide +kernel
theorem d_M_gate_175 : decode (sk_cc m_M_gate) 175 = .ok (.imul, 1) := by decide +kernel
theorem d_M_gate_176 : decode (sk_cc m_M_gate) 176 = .ok (.iconst 2, 1) := by decide +kernel
theorem d_M_gate_177 : decode (sk_cc m_M_gate) 177 = .ok (.iadd, 1) := by decide +kernel
theorem d_M_gate_178 : decode (sk_cc m_M_gate) 178 = .ok (.iload 4, 2) := by decide +kernel
theorem d_M_gate_180 : decode (sk_cc m_M_gate) 180 = .ok (.iastore, 1) := by decide +kernel
theorem d_M_gate_181 : decode (sk_cc m_M_gate) 181 = .ok (.aload_n 0, 1) := by decide +kernel
theorem d_M_gate_182 : decode (sk_cc m_M_gate) 182 = .ok (.getfield 19, 3) := by decide +kernel
theorem d_M_gate_185 : decode (sk_cc m_M_gate) 185 = .ok (.aload_n 0, 1) := by decide +kernel
theorem d_M_gate_186 : decode (sk_cc m_M_gate) 186 = .ok (.getfield 72, 3) := by decide +kernel
theorem d_M_gate_189 : decode (sk_cc m_M_gate) 189 = .ok (.iload_n 3, 1) := by decide +kernel
theorem d_M_gate_190 : decode (sk_cc m_M_gate) 190 = .ok (.iconst (-1), 1) := by decide +kernel
theorem d_M_gate_191 : decode (sk_cc m_M_gate) 191 = .ok (.if_icmp .ne 7, 3) := by decide +kernel
theorem d_M_gate_194 : decode (sk_cc m_M_gate) 194 = .ok (.iconst 1, 1) := by decide +kernel
theorem d_M_gate_195 : decode (sk_cc m_M_gate) 195 = .ok (.goto 14, 3) := by decide +kernel
theorem d_M_gate_198 : decode (sk_cc m_M_gate) 198 = .ok (.iload 4, 2) := by decide +kernel
theorem d_M_gate_200 : decode (sk_cc m_M_gate) 200 = .ok (.iconst (-1), 1) := by decide +kernel
theorem d_M_gate_201 : decode (sk_cc m_M_gate) 201 = .ok (.if_icmp .ne 7, 3) := by decide +kernel
theorem d_M_gate_204 : decode (sk_cc m_M_gate) 204 = .ok (.iconst 2, 1) := by decide +kernel
theorem d_M_gate_205 : decode (sk_cc m_M_gate) 205 = .ok (.goto 4, 3) := by decide +kernel
theorem d_M_gate_208 : decode (sk_cc m_M_gate) 208 = .ok (.iconst 3, 1) := by decide +kernel
theorem d_M_gate_209 : decode (sk_cc m_M_gate) 209 = .ok (.iastore, 1) := by decide +kernel
theorem d_M_gate_210 : decode (sk_cc m_M_gate) 210 = .ok (.aload_n 0, 1) := by decide +kernel
theorem d_M_gate_211 : decode (sk_cc m_M_gate) 211 = .ok (.dup, 1) := by decide +kernel
theorem d_M_gate_212 : decode (sk_cc m_M_gate) 212 = .ok (.getfield 72, 3) := by decide +kernel
theorem d_M_gate_215 : decode (sk_cc m_M_gate) 215 = .ok (.iconst 1, 1) := by decide +kernel
theorem d_M_gate_216 : decode (sk_cc m_M_gate) 216 = .ok (.iadd, 1) := by decide +kernel
theorem d_M_gate_217 : decode (sk_cc m_M_gate) 217 = .ok (.putfield 72, 3) := by decide +kernel
theorem d_M_gate_220 : decode (sk_cc m_M_gate) 220 = .ok (.aload_n 0, 1) := by decide +kernel
theorem d_M_gate_221 : decode (sk_cc m_M_gate) 221 = .ok (.invokevirtual 97, 3) := by decide +kernel
theorem d_M_gate_224 : decode (sk_cc m_M_gate) 224 = .ok (.aload_n 0, 1) := by decide +kernel
theorem d_M_gate_225 : decode (sk_cc m_M_gate) 225 = .ok (.getfield 72, 3) := by decide +kernel
theorem d_M_gate_228 : decode (sk_cc m_M_gate) 228 = .ok (.iconst 1, 1) := by decide +kernel
theorem d_M_gate_229 : decode (sk_cc m_M_gate) 229 = .ok (.isub, 1) := by decide +kernel
theorem d_M_gate_230 : decode (sk_cc m_M_gate) 230 = .ok (.ireturn, 1) := by decide +kernel
theorem d_M_noLine_0 : decode (sk_cc m_M_noLine) 0 = .ok (.iload_n 1, 1) := by decide +kernel
theorem d_M_noLine_1 : decode (sk_cc m_M_noLine) 1 = .ok (.ifCond .lt 11, 3) := by decide +kernel
theorem d_M_noLine_4 : decode (sk_cc m_M_noLine) 4 = .ok (.iload_n 1, 1) := by decide +kernel
theorem d_M_noLine_5 : decode (sk_cc m_M_noLine) 5 = .ok (.aload_n 0, 1) := by decide +kernel
theorem d_M_noLine_6 : decode (sk_cc m_M_noLine) 6 = .ok (.getfield 72, 3) := by decide +kernel
theorem d_M_noLine_9 : decode (sk_cc m_M_noLine) 9 = .ok (.if_icmp .lt 7, 3) := by decide +kernel
theorem d_M_noLine_12 : decode (sk_cc m_M_noLine) 12 = .ok (.iconst 1, 1) := by decide +kernel
theorem d_M_noLine_13 : decode (sk_cc m_M_noLine) 13 = .ok (.goto 4, 3) := by decide +kernel
theorem d_M_noLine_16 : decode (sk_cc m_M_noLine) 16 = .ok (.iconst 0, 1) := by decide +kernel
theorem d_M_noLine_17 : decode (sk_cc m_M_noLine) 17 = .ok (.ireturn, 1) := by decide +kernel
theorem d_M_output_0 : decode (sk_cc m_M_output) 0 = .ok (.iconst 0, 1) := by decide +kernel
theorem d_M_output_1 : decode (sk_cc m_M_output) 1 = .ok (.istore_n 2, 1) := by decide +kernel
theorem d_M_output_2 : decode (sk_cc m_M_output) 2 = .ok (.iconst 0, 1) := by decide +kernel
theorem d_M_output_3 : decode (sk_cc m_M_output) 3 = .ok (.istore_n 3, 1) := by decide +kernel
theorem d_M_output_4 : decode (sk_cc m_M_output) 4 = .ok (.iload_n 3, 1) := by decide +kernel
theorem d_M_output_5 : decode (sk_cc m_M_output) 5 = .ok (.aload_n 0, 1) := by decide +kernel
theorem d_M_output_6 : decode (sk_cc m_M_output) 6 = .ok (.getfield 94, 3) := by decide +kernel
theorem d_M_output_9 : decode (sk_cc m_M_output) 9 = .ok (.if_icmp .ge 29, 3) := by decide +kernel
theorem d_M_output_12 : decode (sk_cc m_M_output) 12 = .ok (.iload_n 2, 1) := by decide +kernel
theorem d_M_output_13 : decode (sk_cc m_M_output) 13 = .ok (.ifCond .ne 13, 3) := by decide +kernel
theorem d_M_output_16 : decode (sk_cc m_M_output) 16 = .ok (.aload_n 0, 1) := by decide +kernel
theorem d_M_output_17 : decode (sk_cc m_M_output) 17 = .ok (.getfield 32, 3) := by decide +kernel
theorem d_M_output_20 : decode (sk_cc m_M_output) 20 = .ok (.iload_n 3, 1) := by decide +kernel
theorem d_M_output_21 : decode (sk_cc m_M_output) 21 = .ok (.iaload, 1) := by decide +kernel
theorem d_M_output_22 : decode (sk_cc m_M_output) 22 = .ok (.iload_n 1, 1) := by decide +kernel
theorem d_M_output_23 : decode (sk_cc m_M_output) 23 = .ok (.if_icmp .ne 7, 3) := by decide +kernel
theorem d_M_output_26 : decode (sk_cc m_M_output) 26 = .ok (.iconst 1, 1) := by decide +kernel
theorem d_M_output_27 : decode (sk_cc m_M_output) 27 = .ok (.goto 4, 3) := by decide +kernel
theorem d_M_output_30 : decode (sk_cc m_M_output) 30 = .ok (.iconst 0, 1) := by decide +kernel
theorem d_M_output_31 : decode (sk_cc m_M_output) 31 = .ok (.istore_n 2, 1) := by decide +kernel
theorem d_M_output_32 : decode (sk_cc m_M_output) 32 = .ok (.iinc 3 1, 3) := by decide +kernel
theorem d_M_output_35 : decode (sk_cc m_M_output) 35 = .ok (.goto (-31), 3) := by decide +kernel
theorem d_M_output_38 : decode (sk_cc m_M_output) 38 = .ok (.aload_n 0, 1) := by decide +kernel
theorem d_M_output_39 : decode (sk_cc m_M_output) 39 = .ok (.aload_n 0, 1) := by decide +kernel
theorem d_M_output_40 : decode (sk_cc m_M_output) 40 = .ok (.iload_n 1, 1) := by decide +kernel
theorem d_M_output_41 : decode (sk_cc m_M_output) 41 = .ok (.invokevirtual 100, 3) := by decide +kernel
theorem d_M_output_44 : decode (sk_cc m_M_output) 44 = .ok (.ifCond .eq 7, 3) := by decide +kernel
theorem d_M_output_47 : decode (sk_cc m_M_output) 47 = .ok (.iconst 1, 1) := by decide +kernel
theorem d_M_output_48 : decode (sk_cc m_M_output) 48 = .ok (.goto 21, 3) := by decide +kernel
theorem d_M_output_51 : decode (sk_cc m_M_output) 51 = .ok (.iload_n 2, 1) := by decide +kernel
theorem d_M_output_52 : decode (sk_cc m_M_output) 52 = .ok (.ifCond .ne 12, 3) := by decide +kernel
theorem d_M_output_55 : decode (sk_cc m_M_output) 55 = .ok (.aload_n 0, 1) := by decide +kernel
theorem d_M_output_56 : decode (sk_cc m_M_output) 56 = .ok (.getfield 94, 3) := by decide +kernel
theorem d_M_output_59 : decode (sk_cc m_M_output) 59 = .ok (.bipush 6, 2) := by decide +kernel
theorem d_M_output_61 : decode (sk_cc m_M_output) 61 = .ok (.if_icmp .ne 7, 3) := by decide +kernel
theorem d_M_output_64 : decode (sk_cc m_M_output) 64 = .ok (.iconst 2, 1) := by decide +kernel
theorem d_M_output_65 : decode (sk_cc m_M_output) 65 = .ok (.goto 4, 3) := by decide +kernel
theorem d_M_output_68 : decode (sk_cc m_M_output) 68 = .ok (.iconst 0, 1) := by decide +kernel
theorem d_M_output_69 : decode (sk_cc m_M_output) 69 = .ok (.putfield 68, 3) := by decide +kernel
theorem d_M_output_72 : decode (sk_cc m_M_output) 72 = .ok (.aload_n 0, 1) := by decide +kernel
theorem d_M_output_73 : decode (sk_cc m_M_output) 73 = .ok (.getfield 68, 3) := by decide +kernel
theorem d_M_output_76 : decode (sk_cc m_M_output) 76 = .ok (.ifCond .le 5, 3) := by decide +kernel
theorem d_M_output_79 : decode (sk_cc m_M_output) 79 = .ok (.iconst 0, 1) := by decide +kernel
theorem d_M_output_80 : decode (sk_cc m_M_output) 80 = .ok (.ireturn, 1) := by decide +kernel
theorem d_M_output_81 : decode (sk_cc m_M_output) 81 = .ok (.aload_n 0, 1) := by decide +kernel
theorem d_M_output_82 : decode (sk_cc m_M_output) 82 = .ok (.getfield 32, 3) := by decide +kernel
theorem d_M_output_85 : decode (sk_cc m_M_output) 85 = .ok (.aload_n 0, 1) := by decide +kernel
theorem d_M_output_86 : decode (sk_cc m_M_output) 86 = .ok (.getfield 94, 3) := by decide +kernel
theorem d_M_output_89 : decode (sk_cc m_M_output) 89 = .ok (.iload_n 1, 1) := by decide +kernel
theorem d_M_output_90 : decode (sk_cc m_M_output) 90 = .ok (.iastore, 1) := by decide +kernel
theorem d_M_output_91 : decode (sk_cc m_M_output) 91 = .ok (.aload_n 0, 1) := by decide +kernel
theorem d_M_output_92 : decode (sk_cc m_M_output) 92 = .ok (.dup, 1) := by decide +kernel
theorem d_M_output_93 : decode (sk_cc m_M_output) 93 = .ok (.getfield 94, 3) := by decide +kernel
theorem d_M_output_96 : decode (sk_cc m_M_output) 96 = .ok (.iconst 1, 1) := by decide +kernel
theorem d_M_output_97 : decode (sk_cc m_M_output) 97 = .ok (.iadd, 1) := by decide +kernel
theorem d_M_output_98 : decode (sk_cc m_M_output) 98 = .ok (.putfield 94, 3) := by decide +kernel
theorem d_M_output_101 : decode (sk_cc m_M_output) 101 = .ok (.aload_n 0, 1) := by decide +kernel
theorem d_M_output_102 : decode (sk_cc m_M_output) 102 = .ok (.invokevirtual 97, 3) := by decide +kernel
theorem d_M_output_105 : decode (sk_cc m_M_output) 105 = .ok (.aload_n 0, 1) := by decide +kernel
theorem d_M_output_106 : decode (sk_cc m_M_output) 106 = .ok (.getfield 94, 3) := by decide +kernel
theorem d_M_output_109 : decode (sk_cc m_M_output) 109 = .ok (.ireturn, 1) := by decide +kernel
theorem d_M_data_0 : decode (sk_cc m_M_data) 0 = .ok (.aload_n 0, 1) := by decide +kernel
theorem d_M_data_1 : decode (sk_cc m_M_data) 1 = .ok (.aload_n 0, 1) := by decide +kernel
theorem d_M_data_2 : decode (sk_cc m_M_data) 2 = .ok (.iload_n 1, 1) := by decide +kernel
theorem d_M_data_3 : decode (sk_cc m_M_data) 3 = .ok (.invokevirtual 100, 3) := by decide +kernel
theorem d_M_data_6 : decode (sk_cc m_M_data) 6 = .ok (.ifCond .ne 11, 3) := by decide +kernel
theorem d_M_data_9 : decode (sk_cc m_M_data) 9 = .ok (.aload_n 0, 1) := by decide +kernel
theorem d_M_data_10 : decode (sk_cc m_M_data) 10 = .ok (.iload_n 2, 1) := by decide +kernel
theorem d_M_data_11 : decode (sk_cc m_M_data) 11 = .ok (.invokevirtual 100, 3) := by decide +kernel
theorem d_M_data_14 : decode (sk_cc m_M_data) 14 = .ok (.ifCond .eq 7, 3) := by decide +kernel
theorem d_M_data_17 : decode (sk_cc m_M_data) 17 = .ok (.iconst 1, 1) := by decide +kernel
theorem d_M_data_18 : decode (sk_cc m_M_data) 18 = .ok (.goto 4, 3) := by decide +kernel
theorem d_M_data_21 : decode (sk_cc m_M_data) 21 = .ok (.iconst 0, 1) := by decide +kernel
theorem d_M_data_22 : decode (sk_cc m_M_data) 22 = .ok (.putfield 68, 3) := by decide +kernel
theorem d_M_data_25 : decode (sk_cc m_M_data) 25 = .ok (.aload_n 0, 1) := by decide +kernel
theorem d_M_data_26 : decode (sk_cc m_M_data) 26 = .ok (.getfield 68, 3) := by decide +kernel
theorem d_M_data_29 : decode (sk_cc m_M_data) 29 = .ok (.ifCond .le 4, 3) := by decide +kernel
theorem d_M_data_32 : decode (sk_cc m_M_data) 32 = .ok (.return_, 1) := by decide +kernel
theorem d_M_data_33 : decode (sk_cc m_M_data) 33 = .ok (.aload_n 0, 1) := by decide +kernel
theorem d_M_data_34 : decode (sk_cc m_M_data) 34 = .ok (.getfield 7, 3) := by decide +kernel
theorem d_M_data_37 : decode (sk_cc m_M_data) 37 = .ok (.iload_n 1, 1) := by decide +kernel
theorem d_M_data_38 : decode (sk_cc m_M_data) 38 = .ok (.iaload, 1) := by decide +kernel
theorem d_M_data_39 : decode (sk_cc m_M_data) 39 = .ok (.istore_n 3, 1) := by decide +kernel
theorem d_M_data_40 : decode (sk_cc m_M_data) 40 = .ok (.aload_n 0, 1) := by decide +kernel
theorem d_M_data_41 : decode (sk_cc m_M_data) 41 = .ok (.iload_n 3, 1) := by decide +kernel
theorem d_M_data_42 : decode (sk_cc m_M_data) 42 = .ok (.ifCond .lt 20, 3) := by decide +kernel
theorem d_M_data_45 : decode (sk_cc m_M_data) 45 = .ok (.aload_n 0, 1) := by decide +kernel
theorem d_M_data_46 : decode (sk_cc m_M_data) 46 = .ok (.getfield 25, 3) := by decide +kernel
theorem d_M_data_49 : decode (sk_cc m_M_data) 49 = .ok (.iload_n 3, 1) := by decide +kernel
theorem d_M_data_50 : decode (sk_cc m_M_data) 50 = .ok (.ifCond .le 7, 3) := by decide +kernel
theorem d_M_data_53 : decode (sk_cc m_M_data) 53 = .ok (.iload_n 3, 1) := by decide +kernel
theorem d_M_data_54 : decode (sk_cc m_M_data) 54 = .ok (.goto 4, 3) := by decide +kernel
theorem d_M_data_57 : decode (sk_cc m_M_data) 57 = .ok (.iconst 0, 1) := by decide +kernel
theorem d_M_data_58 : decode (sk_cc m_M_data) 58 = .ok (.baload, 1) := by decide +kernel
theorem d_M_data_59 : decode (sk_cc m_M_data) 59 = .ok (.ifCond .ne 7, 3) := by decide +kernel
theorem d_M_data_62 : decode (sk_cc m_M_data) 62 = .ok (.iconst 2, 1) := by decide +kernel
theorem d_M_data_63 : decode (sk_cc m_M_data) 63 = .ok (.goto 4, 3) := by decide +kernel
theorem d_M_data_66 : decode (sk_cc m_M_data) 66 = .ok (.iconst 0, 1) := by decide +kernel
theorem d_M_data_67 : decode (sk_cc m_M_data) 67 = .ok (.putfield 68, 3) := by decide +kernel
theorem d_M_data_70 : decode (sk_cc m_M_data) 70 = .ok (.aload_n 0, 1) := by decide +kernel
theorem d_M_data_71 : decode (sk_cc m_M_data) 71 = .ok (.getfield 68, 3) := by decide +kernel
theorem d_M_data_74 : decode (sk_cc m_M_data) 74 = .ok (.ifCond .le 4, 3) := by decide +kernel
theorem d_M_data_77 : decode (sk_cc m_M_data) 77 = .ok (.return_, 1) := by decide +kernel
theorem d_M_data_78 : decode (sk_cc m_M_data) 78 = .ok (.aload_n 0, 1) := by decide +kernel
theorem d_M_data_79 : decode (sk_cc m_M_data) 79 = .ok (.getfield 29, 3) := by decide +kernel
theorem d_M_data_82 : decode (sk_cc m_M_data) 82 = .ok (.iload_n 3, 1) := by decide +kernel
theorem d_M_data_83 : decode (sk_cc m_M_data) 83 = .ok (.iload_n 2, 1) := by decide +kernel
theorem d_M_data_84 : decode (sk_cc m_M_data) 84 = .ok (.iastore, 1) := by decide +kernel
theorem d_M_data_85 : decode (sk_cc m_M_data) 85 = .ok (.aload_n 0, 1) := by decide +kernel
theorem d_M_data_86 : decode (sk_cc m_M_data) 86 = .ok (.invokevirtual 97, 3) := by decide +kernel
theorem d_M_data_89 : decode (sk_cc m_M_data) 89 = .ok (.return_, 1) := by decide +kernel
theorem d_M_count_0 : decode (sk_cc m_M_count) 0 = .ok (.aload_n 0, 1) := by decide +kernel
theorem d_M_count_1 : decode (sk_cc m_M_count) 1 = .ok (.iload_n 1, 1) := by decide +kernel
theorem d_M_count_2 : decode (sk_cc m_M_count) 2 = .ok (.ifCond .lt 8, 3) := by decide +kernel
theorem d_M_count_5 : decode (sk_cc m_M_count) 5 = .ok (.iload_n 1, 1) := by decide +kernel
theorem d_M_count_6 : decode (sk_cc m_M_count) 6 = .ok (.iconst 5, 1) := by decide +kernel
theorem d_M_count_7 : decode (sk_cc m_M_count) 7 = .ok (.if_icmp .le 7, 3) := by decide +kernel
theorem d_M_count_10 : decode (sk_cc m_M_count) 10 = .ok (.iconst 1, 1) := by decide +kernel
theorem d_M_count_11 : decode (sk_cc m_M_count) 11 = .ok (.goto 4, 3) := by decide +kernel
theorem d_M_count_14 : decode (sk_cc m_M_count) 14 = .ok (.iconst 0, 1) := by decide +kernel
theorem d_M_count_15 : decode (sk_cc m_M_count) 15 = .ok (.putfield 68, 3) := by decide +kernel
theorem d_M_count_18 : decode (sk_cc m_M_count) 18 = .ok (.aload_n 0, 1) := by decide +kernel
theorem d_M_count_19 : decode (sk_cc m_M_count) 19 = .ok (.getfield 68, 3) := by decide +kernel
theorem d_M_count_22 : decode (sk_cc m_M_count) 22 = .ok (.ifCond .le 5, 3) := by decide +kernel
theorem d_M_count_25 : decode (sk_cc m_M_count) 25 = .ok (.iconst 0, 1) := by decide +kernel
theorem d_M_count_26 : decode (sk_cc m_M_count) 26 = .ok (.ireturn, 1) := by decide +kernel
theorem d_M_count_27 : decode (sk_cc m_M_count) 27 = .ok (.iload_n 1, 1) := by decide +kernel
theorem d_M_count_28 : decode (sk_cc m_M_count) 28 = .ok (.iconst 4, 1) := by decide +kernel
theorem d_M_count_29 : decode (sk_cc m_M_count) 29 = .ok (.if_icmp .ge 45, 3) := by decide +kernel
theorem d_M_count_32 : decode (sk_cc m_M_count) 32 = .ok (.iload_n 1, 1) := by decide +kernel
theorem d_M_count_33 : decode (sk_cc m_M_count) 33 = .ok (.ifCond .ne 10, 3) := by decide +kernel
theorem d_M_count_36 : decode (sk_cc m_M_count) 36 = .ok (.aload_n 0, 1) := by decide +kernel
theorem d_M_count_37 : decode (sk_cc m_M_count) 37 = .ok (.getfield 72, 3) := by decide +kernel
theorem d_M_count_40 : decode (sk_cc m_M_count) 40 = .ok (.goto 33, 3) := by decide +kernel
theorem d_M_count_43 : decode (sk_cc m_M_count) 43 = .ok (.iload_n 1, 1) := by decide +kernel
theorem d_M_count_44 : decode (sk_cc m_M_count) 44 = .ok (.iconst 1, 1) := by decide +kernel
theorem d_M_count_45 : decode (sk_cc m_M_count) 45 = .ok (.if_icmp .ne 10, 3) := by decide +kernel
theorem d_M_count_48 : decode (sk_cc m_M_count) 48 = .ok (.aload_n 0, 1) := by decide +kernel
theorem d_M_count_49 : decode (sk_cc m_M_count) 49 = .ok (.getfield 75, 3) := by decide +kernel
theorem d_M_count_52 : decode (sk_cc m_M_count) 52 = .ok (.goto 21, 3) := by decide +kernel
theorem d_M_count_55 : decode (sk_cc m_M_count) 55 = .ok (.iload_n 1, 1) := by decide +kernel
theorem d_M_count_56 : decode (sk_cc m_M_count) 56 = .ok (.iconst 2, 1) := by decide +kernel
theorem d_M_count_57 : decode (sk_cc m_M_count) 57 = .ok (.if_icmp .ne 10, 3) := by decide +kernel
theorem d_M_count_60 : decode (sk_cc m_M_count) 60 = .ok (.aload_n 0, 1) := by decide +kernel
theorem d_M_count_61 : decode (sk_cc m_M_count) 61 = .ok (.getfield 91, 3) := by decide +kernel
theorem d_M_count_64 : decode (sk_cc m_M_count) 64 = .ok (.goto 9, 3) := by decide +kernel
theorem d_M_count_67 : decode (sk_cc m_M_count) 67 = .ok (.iconst 2, 1) := by decide +kernel
theorem d_M_count_68 : decode (sk_cc m_M_count) 68 = .ok (.aload_n 0, 1) := by decide +kernel
theorem d_M_count_69 : decode (sk_cc m_M_count) 69 = .ok (.getfield 78, 3) := by decide +kernel
theorem d_M_count_72 : decode (sk_cc m_M_count) 72 = .ok (.imul, 1) := by decide +kernel
theorem d_M_count_73 : decode (sk_cc m_M_count) 73 = .ok (.ireturn, 1) := by decide +kernel
theorem d_M_count_74 : decode (sk_cc m_M_count) 74 = .ok (.aload_n 0, 1) := by decide +kernel
theorem d_M_count_75 : decode (sk_cc m_M_count) 75 = .ok (.invokevirtual 119, 3) := by decide +kernel
theorem d_M_count_78 : decode (sk_cc m_M_count) 78 = .ok (.iconst 0, 1) := by decide +kernel
theorem d_M_count_79 : decode (sk_cc m_M_count) 79 = .ok (.istore_n 2, 1) := by decide +kernel
theorem d_M_count_80 : decode (sk_cc m_M_count) 80 = .ok (.iconst 0, 1) := by decide +kernel
theorem d_M_count_81 : decode (sk_cc m_M_count) 81 = .ok (.istore_n 3, 1) := by decide +kernel
theorem d_M_count_82 : decode (sk_cc m_M_count) 82 = .ok (.iload_n 3, 1) := by decide +kernel
theorem d_M_count_83 : decode (sk_cc m_M_count) 83 = .ok (.iconst 2, 1) := by decide +kernel
theorem d_M_count_84 : decode (sk_cc m_M_count) 84 = .ok (.aload_n 0, 1) := by decide +kernel
theorem d_M_count_85 : decode (sk_cc m_M_count) 85 = .ok (.getfield 78, 3) := by decide +kernel
theorem d_M_count_88 : decode (sk_cc m_M_count) 88 = .ok (.imul, 1) := by decide +kernel
theorem d_M_count_89 : decode (sk_cc m_M_count) 89 = .ok (.if_icmp .ge 59, 3) := by decide +kernel
theorem d_M_count_92 : decode (sk_cc m_M_count) 92 = .ok (.iload_n 1, 1) := by decide +kernel
theorem d_M_count_93 : decode (sk_cc m_M_count) 93 = .ok (.iconst 4, 1) := by decide +kernel
theorem d_M_count_94 : decode (sk_cc m_M_count) 94 = .ok (.if_icmp .ne 19, 3) := by decide +kernel
theorem d_M_count_97 : decode (sk_cc m_M_count) 97 = .ok (.aload_n 0, 1) := by decide +kernel
theorem d_M_count_98 : decode (sk_cc m_M_count) 98 = .ok (.iload_n 3, 1) := by decide +kernel
theorem d_M_count_99 : decode (sk_cc m_M_count) 99 = .ok (.invokevirtual 122, 3) := by decide +kernel
theorem d_M_count_102 : decode (sk_cc m_M_count) 102 = .ok (.ifCond .lt 7, 3) := by decide +kernel
theorem d_M_count_105 : decode (sk_cc m_M_count) 105 = .ok (.iconst 1, 1) := by decide +kernel
theorem d_M_count_106 : decode (sk_cc m_M_count) 106 = .ok (.goto 21, 3) := by decide +kernel
theorem d_M_count_109 : decode (sk_cc m_M_count) 109 = .ok (.iconst 0, 1) := by decide +kernel
theorem d_M_count_110 : decode (sk_cc m_M_count) 110 = .ok (.goto 17, 3) := by decide +kernel
theorem d_M_count_113 : decode (sk_cc m_M_count) 113 = .ok (.aload_n 0, 1) := by decide +kernel
theorem d_M_count_114 : decode (sk_cc m_M_count) 114 = .ok (.iload_n 3, 1) := by decide +kernel
theorem d_M_count_115 : decode (sk_cc m_M_count) 115 = .ok (.invokevirtual 126, 3) := by decide +kernel
theorem d_M_count_118 : decode (sk_cc m_M_count) 118 = .ok (.iload_n 3, 1) := by decide +kernel
theorem d_M_count_119 : decode (sk_cc m_M_count) 119 = .ok (.if_icmp .ne 7, 3) := by decide +kernel
theorem d_M_count_122 : decode (sk_cc m_M_count) 122 = .ok (.iconst 1, 1) := by decide +kernel
theorem d_M_count_123 : decode (sk_cc m_M_count) 123 = .ok (.goto 4, 3) := by decide +kernel
theorem d_M_count_126 : decode (sk_cc m_M_count) 126 = .ok (.iconst 0, 1) := by decide +kernel
theorem d_M_count_127 : decode (sk_cc m_M_count) 127 = .ok (.istore 4, 2) := by decide +kernel
theorem d_M_count_129 : decode (sk_cc m_M_count) 129 = .ok (.iload 4, 2) := by decide +kernel
theorem d_M_count_131 : decode (sk_cc m_M_count) 131 = .ok (.ifCond .eq 9, 3) := by decide +kernel
theorem d_M_count_134 : decode (sk_cc m_M_count) 134 = .ok (.iload_n 2, 1) := by decide +kernel
theorem d_M_count_135 : decode (sk_cc m_M_count) 135 = .ok (.iconst 1, 1) := by decide +kernel
theorem d_M_count_136 : decode (sk_cc m_M_count) 136 = .ok (.iadd, 1) := by decide +kernel
theorem d_M_count_137 : decode (sk_cc m_M_count) 137 = .ok (.goto 4, 3) := by decide +kernel
theorem d_M_count_140 : decode (sk_cc m_M_count) 140 = .ok (.iload_n 2, 1) := by decide +kernel
theorem d_M_count_141 : decode (sk_cc m_M_count) 141 = .ok (.istore_n 2, 1) := by decide +kernel
theorem d_M_count_142 : decode (sk_cc m_M_count) 142 = .ok (.iinc 3 1, 3) := by decide +kernel
theorem d_M_count_145 : decode (sk_cc m_M_count) 145 = .ok (.goto (-63), 3) := by decide +kernel
theorem d_M_count_148 : decode (sk_cc m_M_count) 148 = .ok (.iload_n 2, 1) := by decide +kernel
theorem d_M_count_149 : decode (sk_cc m_M_count) 149 = .ok (.ireturn, 1) := by decide +kernel
theorem d_M_learn_0 : decode (sk_cc m_M_learn) 0 = .ok (.aload_n 0, 1) := by decide +kernel
theorem d_M_learn_1 : decode (sk_cc m_M_learn) 1 = .ok (.getfield 81, 3) := by decide +kernel
theorem d_M_learn_4 : decode (sk_cc m_M_learn) 4 = .ok (.ifCond .eq 4, 3) := by decide +kernel
theorem d_M_learn_7 : decode (sk_cc m_M_learn) 7 = .ok (.return_, 1) := by decide +kernel
theorem d_M_learn_8 : decode (sk_cc m_M_learn) 8 = .ok (.aload_n 0, 1) := by decide +kernel
theorem d_M_learn_9 : decode (sk_cc m_M_learn) 9 = .ok (.iconst 1, 1) := by decide +kernel
theorem d_M_learn_10 : decode (sk_cc m_M_learn) 10 = .ok (.putfield 81, 3) := by decide +kernel
theorem d_M_learn_13 : decode (sk_cc m_M_learn) 13 = .ok (.iconst 0, 1) := by decide +kernel
theorem d_M_learn_14 : decode (sk_cc m_M_learn) 14 = .ok (.istore_n 1, 1) := by decide +kernel
theorem d_M_learn_15 : decode (sk_cc m_M_learn) 15 = .ok (.iload_n 1, 1) := by decide +kernel
theorem d_M_learn_16 : decode (sk_cc m_M_learn) 16 = .ok (.aload_n 0, 1) := by decide +kernel
theorem d_M_learn_17 : decode (sk_cc m_M_learn) 17 = .ok (.invokevirtual 108, 3) := by decide +kernel
theorem d_M_learn_20 : decode (sk_cc m_M_learn) 20 = .ok (.if_icmp .ge 66, 3) := by decide +kernel
theorem d_M_learn_23 : decode (sk_cc m_M_learn) 23 = .ok (.aload_n 0, 1) := by decide +kernel
theorem d_M_learn_24 : decode (sk_cc m_M_learn) 24 = .ok (.iconst 0, 1) := by decide +kernel
theorem d_M_learn_25 : decode (sk_cc m_M_learn) 25 = .ok (.iload_n 1, 1) := by decide +kernel
theorem d_M_learn_26 : decode (sk_cc m_M_learn) 26 = .ok (.iconst (-1), 1) := by decide +kernel
theorem d_M_learn_27 : decode (sk_cc m_M_learn) 27 = .ok (.invokevirtual 112, 3) := by decide +kernel
theorem d_M_learn_30 : decode (sk_cc m_M_learn) 30 = .ok (.aload_n 0, 1) := by decide +kernel
theorem d_M_learn_31 : decode (sk_cc m_M_learn) 31 = .ok (.getfield 53, 3) := by decide +kernel
theorem d_M_learn_34 : decode (sk_cc m_M_learn) 34 = .ok (.iload_n 1, 1) := by decide +kernel
theorem d_M_learn_35 : decode (sk_cc m_M_learn) 35 = .ok (.aload_n 0, 1) := by decide +kernel
theorem d_M_learn_36 : decode (sk_cc m_M_learn) 36 = .ok (.invokevirtual 116, 3) := by decide +kernel
theorem d_M_learn_39 : decode (sk_cc m_M_learn) 39 = .ok (.iastore, 1) := by decide +kernel
theorem d_M_learn_40 : decode (sk_cc m_M_learn) 40 = .ok (.iconst 0, 1) := by decide +kernel
theorem d_M_learn_41 : decode (sk_cc m_M_learn) 41 = .ok (.istore_n 2, 1) := by decide +kernel
theorem d_M_learn_42 : decode (sk_cc m_M_learn) 42 = .ok (.iload_n 2, 1) := by decide +kernel
theorem d_M_learn_43 : decode (sk_cc m_M_learn) 43 = .ok (.iconst 2, 1) := by decide +kernel
theorem d_M_learn_44 : decode (sk_cc m_M_learn) 44 = .ok (.aload_n 0, 1) := by decide +kernel
theorem d_M_learn_45 : decode (sk_cc m_M_learn) 45 = .ok (.getfield 78, 3) := by decide +kernel
theorem d_M_learn_48 : decode (sk_cc m_M_learn) 48 = .ok (.imul, 1) := by decide +kernel
theorem d_M_learn_49 : decode (sk_cc m_M_learn) 49 = .ok (.if_icmp .ge 31, 3) := by decide +kernel
theorem d_M_learn_52 : decode (sk_cc m_M_learn) 52 = .ok (.aload_n 0, 1) := by decide +kernel
theorem d_M_learn_53 : decode (sk_cc m_M_learn) 53 = .ok (.iconst 0, 1) := by decide +kernel
theorem d_M_learn_54 : decode (sk_cc m_M_learn) 54 = .ok (.iload_n 1, 1) := by decide +kernel
theorem d_M_learn_55 : decode (sk_cc m_M_learn) 55 = .ok (.iload_n 2, 1) := by decide +kernel
theorem d_M_learn_56 : decode (sk_cc m_M_learn) 56 = .ok (.invokevirtual 112, 3) := by decide +kernel
theorem d_M_learn_59 : decode (sk_cc m_M_learn) 59 = .ok (.aload_n 0, 1) := by decide +kernel
theorem d_M_learn_60 : decode (sk_cc m_M_learn) 60 = .ok (.getfield 50, 3) := by decide +kernel
theorem d_M_learn_63 : decode (sk_cc m_M_learn) 63 = .ok (.bipush 64, 2) := by decide +kernel
theorem d_M_learn_65 : decode (sk_cc m_M_learn) 65 = .ok (.iload_n 2, 1) := by decide +kernel
theorem d_M_learn_66 : decode (sk_cc m_M_learn) 66 = .ok (.imul, 1) := by decide +kernel
theorem d_M_learn_67 : decode (sk_cc m_M_learn) 67 = .ok (.iload_n 1, 1) := by decide +kernel
theorem d_M_learn_68 : decode (sk_cc m_M_learn) 68 = .ok (.iadd, 1) := by decide +kernel
theorem d_M_learn_69 : decode (sk_cc m_M_learn) 69 = .ok (.aload_n 0, 1) := by decide +kernel
theorem d_M_learn_70 : decode (sk_cc m_M_learn) 70 = .ok (.invokevirtual 116, 3) := by decide +kernel
theorem d_M_learn_73 : decode (sk_cc m_M_learn) 73 = .ok (.iastore, 1) := by decide +kernel
theorem d_M_learn_74 : decode (sk_cc m_M_learn) 74 = .ok (.iinc 2 1, 3) := by decide +kernel
theorem d_M_learn_77 : decode (sk_cc m_M_learn) 77 = .ok (.goto (-35), 3) := by decide +kernel
theorem d_M_learn_80 : decode (sk_cc m_M_learn) 80 = .ok (.iinc 1 1, 3) := by decide +kernel
theorem d_M_learn_83 : decode (sk_cc m_M_learn) 83 = .ok (.goto (-68), 3) := by decide +kernel
theorem d_M_learn_86 : decode (sk_cc m_M_learn) 86 = .ok (.return_, 1) := by decide +kernel
theorem d_M_vectors_0 : decode (sk_cc m_M_vectors) 0 = .ok (.iconst 1, 1) := by decide +kernel
theorem d_M_vectors_1 : decode (sk_cc m_M_vectors) 1 = .ok (.aload_n 0, 1) := by decide +kernel
theorem d_M_vectors_2 : decode (sk_cc m_M_vectors) 2 = .ok (.getfield 75, 3) := by decide +kernel
theorem d_M_vectors_5 : decode (sk_cc m_M_vectors) 5 = .ok (.ishl, 1) := by decide +kernel
theorem d_M_vectors_6 : decode (sk_cc m_M_vectors) 6 = .ok (.ireturn, 1) := by decide +kernel
theorem d_M_make_0 : decode (sk_cc m_M_make) 0 = .ok (.iload_n 3, 1) := by decide +kernel
theorem d_M_make_1 : decode (sk_cc m_M_make) 1 = .ok (.ifCond .ge 7, 3) := by decide +kernel
theorem d_M_make_4 : decode (sk_cc m_M_make) 4 = .ok (.iconst (-1), 1) := by decide +kernel
theorem d_M_make_5 : decode (sk_cc m_M_make) 5 = .ok (.goto 11, 3) := by decide +kernel
theorem d_M_make_8 : decode (sk_cc m_M_make) 8 = .ok (.aload_n 0, 1) := by decide +kernel
theorem d_M_make_9 : decode (sk_cc m_M_make) 9 = .ok (.getfield 38, 3) := by decide +kernel
theorem d_M_make_12 : decode (sk_cc m_M_make) 12 = .ok (.iload_n 3, 1) := by decide +kernel
theorem d_M_make_13 : decode (sk_cc m_M_make) 13 = .ok (.iconst 2, 1) := by decide +kernel
theorem d_M_make_14 : decode (sk_cc m_M_make) 14 = .ok (.idiv, 1) := by decide +kernel
theorem d_M_make_15 : decode (sk_cc m_M_make) 15 = .ok (.iaload, 1) := by decide +kernel
theorem d_M_make_16 : decode (sk_cc m_M_make) 16 = .ok (.istore 4, 2) := by decide +kernel
theorem d_M_make_18 : decode (sk_cc m_M_make) 18 = .ok (.iload_n 3, 1) := by decide +kernel
theorem d_M_make_19 : decode (sk_cc m_M_make) 19 = .ok (.ifCond .ge 7, 3) := by decide +kernel
theorem d_M_make_22 : decode (sk_cc m_M_make) 22 = .ok (.iconst (-1), 1) := by decide +kernel
theorem d_M_make_23 : decode (sk_cc m_M_make) 23 = .ok (.goto 11, 3) := by decide +kernel
theorem d_M_make_26 : decode (sk_cc m_M_make) 26 = .ok (.aload_n 0, 1) := by decide +kernel
theorem d_M_make_27 : decode (sk_cc m_M_make) 27 = .ok (.getfield 41, 3) := by decide +kernel
theorem d_M_make_30 : decode (sk_cc m_M_make) 30 = .ok (.iload_n 3, 1) := by decide +kernel
theorem d_M_make_31 : decode (sk_cc m_M_make) 31 = .ok (.iconst 2, 1) := by decide +kernel
theorem d_M_make_32 : decode (sk_cc m_M_make) 32 = .ok (.idiv, 1) := by decide +kernel
theorem d_M_make_33 : decode (sk_cc m_M_make) 33 = .ok (.iaload, 1) := by decide +kernel
theorem d_M_make_34 : decode (sk_cc m_M_make) 34 = .ok (.istore 5, 2) := by decide +kernel
theorem d_M_make_36 : decode (sk_cc m_M_make) 36 = .ok (.iload_n 3, 1) := by decide +kernel
theorem d_M_make_37 : decode (sk_cc m_M_make) 37 = .ok (.ifCond .ge 7, 3) := by decide +kernel
theorem d_M_make_40 : decode (sk_cc m_M_make) 40 = .ok (.iconst 0, 1) := by decide +kernel
theorem d_M_make_41 : decode (sk_cc m_M_make) 41 = .ok (.goto 6, 3) := by decide +kernel
theorem d_M_make_44 : decode (sk_cc m_M_make) 44 = .ok (.iload_n 3, 1) := by decide +kernel
theorem d_M_make_45 : decode (sk_cc m_M_make) 45 = .ok (.iconst 2, 1) := by decide +kernel
theorem d_M_make_46 : decode (sk_cc m_M_make) 46 = .ok (.irem, 1) := by decide +kernel
theorem d_M_make_47 : decode (sk_cc m_M_make) 47 = .ok (.istore 6, 2) := by decide +kernel
theorem d_M_make_49 : decode (sk_cc m_M_make) 49 = .ok (.iconst 0, 1) := by decide +kernel
theorem d_M_make_50 : decode (sk_cc m_M_make) 50 = .ok (.istore 7, 2) := by decide +kernel
theorem d_M_make_52 : decode (sk_cc m_M_make) 52 = .ok (.iload 7, 2) := by decide +kernel
theorem d_M_make_54 : decode (sk_cc m_M_make) 54 = .ok (.aload_n 0, 1) := by decide +kernel
theorem d_M_make_55 : decode (sk_cc m_M_make) 55 = .ok (.getfield 72, 3) := by decide +kernel
theorem d_M_make_58 : decode (sk_cc m_M_make) 58 = .ok (.if_icmp .ge 226, 3) := by decide +kernel
theorem d_M_make_61 : decode (sk_cc m_M_make) 61 = .ok (.aload_n 0, 1) := by decide +kernel
theorem d_M_make_62 : decode (sk_cc m_M_make) 62 = .ok (.getfield 7, 3) := by decide +kernel
theorem d_M_make_65 : decode (sk_cc m_M_make) 65 = .ok (.iload 7, 2) := by decide +kernel
theorem d_M_make_67 : decode (sk_cc m_M_make) 67 = .ok (.iaload, 1) := by decide +kernel
theorem d_M_make_68 : decode (sk_cc m_M_make) 68 = .ok (.istore 8, 2) := by decide +kernel
theorem d_M_make_70 : decode (sk_cc m_M_make) 70 = .ok (.iload 8, 2) := by decide +kernel
theorem d_M_make_72 : decode (sk_cc m_M_make) 72 = .ok (.ifCond .lt 33, 3) := by decide +kernel
theorem d_M_make_75 : decode (sk_cc m_M_make) 75 = .ok (.aload_n 0, 1) := by decide +kernel
theorem d_M_make_76 : decode (sk_cc m_M_make) 76 = .ok (.getfield 44, 3) := by decide +kernel
theorem d_M_make_79 : decode (sk_cc m_M_make) 79 = .ok (.iload 7, 2) := by decide +kernel
theorem d_M_make_81 : decode (sk_cc m_M_make) 81 = .ok (.iload_n 1, 1) := by decide +kernel
theorem d_M_make_82 : decode (sk_cc m_M_make) 82 = .ok (.iload 8, 2) := by decide +kernel
theorem d_M_make_84 : decode (sk_cc m_M_make) 84 = .ok (.ishr, 1) := by decide +kernel
theorem d_M_make_85 : decode (sk_cc m_M_make) 85 = .ok (.iconst 1, 1) := by decide +kernel
theorem d_M_make_86 : decode (sk_cc m_M_make) 86 = .ok (.iand, 1) := by decide +kernel
theorem d_M_make_87 : decode (sk_cc m_M_make) 87 = .ok (.iconst 1, 1) := by decide +kernel
theorem d_M_make_88 : decode (sk_cc m_M_make) 88 = .ok (.if_icmp .ne 7, 3) := by decide +kernel
theorem d_M_make_91 : decode (sk_cc m_M_make) 91 = .ok (.iconst 2, 1) := by decide +kernel
theorem d_M_make_92 : decode (sk_cc m_M_make) 92 = .ok (.goto 9, 3) := by decide +kernel
theorem d_M_make_95 : decode (sk_cc m_M_make) 95 = .ok (.iload_n 2, 1) := by decide +kernel
theorem d_M_make_96 : decode (sk_cc m_M_make) 96 = .ok (.iload 8, 2) := by decide +kernel
theorem d_M_make_98 : decode (sk_cc m_M_make) 98 = .ok (.ishr, 1) := by decide +kernel
theorem d_M_make_99 : decode (sk_cc m_M_make) 99 = .ok (.iconst 1, 1) := by decide +kernel
theorem d_M_make_100 : decode (sk_cc m_M_make) 100 = .ok (.iand, 1) := by decide +kernel
theorem d_M_make_101 : decode (sk_cc m_M_make) 101 = .ok (.iastore, 1) := by decide +kernel
theorem d_M_make_102 : decode (sk_cc m_M_make) 102 = .ok (.goto 144, 3) := by decide +kernel
theorem d_M_make_105 : decode (sk_cc m_M_make) 105 = .ok (.iconst 0, 1) := by decide +kernel
theorem d_M_make_106 : decode (sk_cc m_M_make) 106 = .ok (.istore 9, 2) := by decide +kernel
theorem d_M_make_108 : decode (sk_cc m_M_make) 108 = .ok (.iconst 0, 1) := by decide +kernel
theorem d_M_make_109 : decode (sk_cc m_M_make) 109 = .ok (.istore 10, 2) := by decide +kernel
theorem d_M_make_111 : decode (sk_cc m_M_make) 111 = .ok (.iconst 0, 1) := by decide +kernel
theorem d_M_make_112 : decode (sk_cc m_M_make) 112 = .ok (.istore 11, 2) := by decide +kernel
theorem d_M_make_114 : decode (sk_cc m_M_make) 114 = .ok (.iconst 0, 1) := by decide +kernel
theorem d_M_make_115 : decode (sk_cc m_M_make) 115 = .ok (.istore 12, 2) := by decide +kernel
theorem d_M_make_117 : decode (sk_cc m_M_make) 117 = .ok (.iload 12, 2) := by decide +kernel
theorem d_M_make_119 : decode (sk_cc m_M_make) 119 = .ok (.aload_n 0, 1) := by decide +kernel
theorem d_M_make_120 : decode (sk_cc m_M_make) 120 = .ok (.getfield 19, 3) := by decide +kernel
theorem d_M_make_123 : decode (sk_cc m_M_make) 123 = .ok (.iload 7, 2) := by decide +kernel
theorem d_M_make_125 : decode (sk_cc m_M_make) 125 = .ok (.iaload, 1) := by decide +kernel
theorem d_M_make_126 : decode (sk_cc m_M_make) 126 = .ok (.if_icmp .ge 97, 3) := by decide +kernel
theorem d_M_make_129 : decode (sk_cc m_M_make) 129 = .ok (.iload 7, 2) := by decide +kernel
theorem d_M_make_131 : decode (sk_cc m_M_make) 131 = .ok (.iload 4, 2) := by decide +kernel
theorem d_M_make_133 : decode (sk_cc m_M_make) 133 = .ok (.if_icmp .ne 15, 3) := by decide +kernel
theorem d_M_make_136 : decode (sk_cc m_M_make) 136 = .ok (.iload 12, 2) := by decide +kernel
theorem d_M_make_138 : decode (sk_cc m_M_make) 138 = .ok (.iload 5, 2) := by decide +kernel
theorem d_M_make_140 : decode (sk_cc m_M_make) 140 = .ok (.if_icmp .ne 8, 3) := by decide +kernel
theorem d_M_make_143 : decode (sk_cc m_M_make) 143 = .ok (.iload 6, 2) := by decide +kernel
theorem d_M_make_145 : decode (sk_cc m_M_make) 145 = .ok (.goto 20, 3) := by decide +kernel
theorem d_M_make_148 : decode (sk_cc m_M_make) 148 = .ok (.aload_n 0, 1) := by decide +kernel
theorem d_M_make_149 : decode (sk_cc m_M_make) 149 = .ok (.getfield 44, 3) := by decide +kernel
theorem d_M_make_152 : decode (sk_cc m_M_make) 152 = .ok (.aload_n 0, 1) := by decide +kernel
theorem d_M_make_153 : decode (sk_cc m_M_make) 153 = .ok (.getfield 16, 3) := by decide +kernel
theorem d_M_make_156 : decode (sk_cc m_M_make) 156 = .ok (.iconst 3, 1) := by decide +kernel
theorem d_M_make_157 : decode (sk_cc m_M_make) 157 = .ok (.iload 7, 2) := by decide +kernel
theorem d_M_make_159 : decode (sk_cc m_M_make) 159 = .ok (.imul, 1) := by decide +kernel
theorem d_M_make_160 : decode (sk_cc m_M_make) 160 = .ok (.iload 12, 2) := by decide +kernel
theorem d_M_make_162 : decode (sk_cc m_M_make) 162 = .ok (.iadd, 1) := by decide +kernel
theorem d_M_make_163 : decode (sk_cc m_M_make) 163 = .ok (.iaload, 1) := by decide +kernel
theorem d_M_make_164 : decode (sk_cc m_M_make) 164 = .ok (.iaload, 1) := by decide +kernel
theorem d_M_make_165 : decode (sk_cc m_M_make) 165 = .ok (.istore 13, 2) := by decide +kernel
theorem d_M_make_167 : decode (sk_cc m_M_make) 167 = .ok (.iload 13, 2) := by decide +kernel
theorem d_M_make_169 : decode (sk_cc m_M_make) 169 = .ok (.ifCond .ne 10, 3) := by decide +kernel
theorem d_M_make_172 : decode (sk_cc m_M_make) 172 = .ok (.iload 9, 2) := by decide +kernel
theorem d_M_make_174 : decode (sk_cc m_M_make) 174 = .ok (.iconst 1, 1) := by decide +kernel
theorem d_M_make_175 : decode (sk_cc m_M_make) 175 = .ok (.iadd, 1) := by decide +kernel
theorem d_M_make_176 : decode (sk_cc m_M_make) 176 = .ok (.goto 5, 3) := by decide +kernel
theorem d_M_make_179 : decode (sk_cc m_M_make) 179 = .ok (.iload 9, 2) := by decide +kernel
theorem d_M_make_181 : decode (sk_cc m_M_make) 181 = .ok (.istore 9, 2) := by decide +kernel
theorem d_M_make_183 : decode (sk_cc m_M_make) 183 = .ok (.iload 13, 2) := by decide +kernel
theorem d_M_make_185 : decode (sk_cc m_M_make) 185 = .ok (.iconst 1, 1) := by decide +kernel
theorem d_M_make_186 : decode (sk_cc m_M_make) 186 = .ok (.if_icmp .ne 10, 3) := by decide +kernel
theorem d_M_make_189 : decode (sk_cc m_M_make) 189 = .ok (.iload 10, 2) := by decide +kernel
theorem d_M_make_191 : decode (sk_cc m_M_make) 191 = .ok (.iconst 1, 1) := by decide +kernel
theorem d_M_make_192 : decode (sk_cc m_M_make) 192 = .ok (.iadd, 1) := by decide +kernel
theorem d_M_make_193 : decode (sk_cc m_M_make) 193 = .ok (.goto 5, 3) := by decide +kernel
theorem d_M_make_196 : decode (sk_cc m_M_make) 196 = .ok (.iload 10, 2) := by decide +kernel
theorem d_M_make_198 : decode (sk_cc m_M_make) 198 = .ok (.istore 10, 2) := by decide +kernel
theorem d_M_make_200 : decode (sk_cc m_M_make) 200 = .ok (.iload 13, 2) := by decide +kernel
theorem d_M_make_202 : decode (sk_cc m_M_make) 202 = .ok (.iconst 2, 1) := by decide +kernel
theorem d_M_make_203 : decode (sk_cc m_M_make) 203 = .ok (.if_icmp .ne 10, 3) := by decide +kernel
theorem d_M_make_206 : decode (sk_cc m_M_make) 206 = .ok (.iload 11, 2) := by decide +kernel
theorem d_M_make_208 : decode (sk_cc m_M_make) 208 = .ok (.iconst 1, 1) := by decide +kernel
theorem d_M_make_209 : decode (sk_cc m_M_make) 209 = .ok (.iadd, 1) := by decide +kernel
theorem d_M_make_210 : decode (sk_cc m_M_make) 210 = .ok (.goto 5, 3) := by decide +kernel
theorem d_M_make_213 : decode (sk_cc m_M_make) 213 = .ok (.iload 11, 2) := by decide +kernel
theorem d_M_make_215 : decode (sk_cc m_M_make) 215 = .ok (.istore 11, 2) := by decide +kernel
theorem d_M_make_217 : decode (sk_cc m_M_make) 217 = .ok (.iinc 12 1, 3) := by decide +kernel
theorem d_M_make_220 : decode (sk_cc m_M_make) 220 = .ok (.goto (-103), 3) := by decide +kernel
theorem d_M_make_223 : decode (sk_cc m_M_make) 223 = .ok (.aload_n 0, 1) := by decide +kernel
theorem d_M_make_224 : decode (sk_cc m_M_make) 224 = .ok (.getfield 44, 3) := by decide +kernel
theorem d_M_make_227 : decode (sk_cc m_M_make) 227 = .ok (.iload 7, 2) := by decide +kernel
theorem d_M_make_229 : decode (sk_cc m_M_make) 229 = .ok (.aload_n 0, 1) := by decide +kernel
theorem d_M_make_230 : decode (sk_cc m_M_make) 230 = .ok (.getfield 13, 3) := by decide +kernel
theorem d_M_make_233 : decode (sk_cc m_M_make) 233 = .ok (.iload 7, 2) := by decide +kernel
theorem d_M_make_235 : decode (sk_cc m_M_make) 235 = .ok (.iaload, 1) := by decide +kernel
theorem d_M_make_236 : decode (sk_cc m_M_make) 236 = .ok (.iload 9, 2) := by decide +kernel
theorem d_M_make_238 : decode (sk_cc m_M_make) 238 = .ok (.iload 10, 2) := by decide +kernel
theorem d_M_make_240 : decode (sk_cc m_M_make) 240 = .ok (.iload 11, 2) := by decide +kernel
theorem d_M_make_242 : decode (sk_cc m_M_make) 242 = .ok (.invokestatic 104, 3) := by decide +kernel
theorem d_M_make_245 : decode (sk_cc m_M_make) 245 = .ok (.iastore, 1) := by decide +kernel
theorem d_M_make_246 : decode (sk_cc m_M_make) 246 = .ok (.aload_n 0, 1) := by decide +kernel
theorem d_M_make_247 : decode (sk_cc m_M_make) 247 = .ok (.getfield 44, 3) := by decide +kernel
theorem d_M_make_250 : decode (sk_cc m_M_make) 250 = .ok (.iload 7, 2) := by decide +kernel
theorem d_M_make_252 : decode (sk_cc m_M_make) 252 = .ok (.iload 7, 2) := by decide +kernel
theorem d_M_make_254 : decode (sk_cc m_M_make) 254 = .ok (.iload 4, 2) := by decide +kernel
theorem d_M_make_256 : decode (sk_cc m_M_make) 256 = .ok (.if_icmp .ne 14, 3) := by decide +kernel
theorem d_M_make_259 : decode (sk_cc m_M_make) 259 = .ok (.iload 5, 2) := by decide +kernel
theorem d_M_make_261 : decode (sk_cc m_M_make) 261 = .ok (.iconst (-1), 1) := by decide +kernel
theorem d_M_make_262 : decode (sk_cc m_M_make) 262 = .ok (.if_icmp .ne 8, 3) := by decide +kernel
theorem d_M_make_265 : decode (sk_cc m_M_make) 265 = .ok (.iload 6, 2) := by decide +kernel
theorem d_M_make_267 : decode (sk_cc m_M_make) 267 = .ok (.goto 10, 3) := by decide +kernel
theorem d_M_make_270 : decode (sk_cc m_M_make) 270 = .ok (.aload_n 0, 1) := by decide +kernel
theorem d_M_make_271 : decode (sk_cc m_M_make) 271 = .ok (.getfield 44, 3) := by decide +kernel
theorem d_M_make_274 : decode (sk_cc m_M_make) 274 = .ok (.iload 7, 2) := by decide +kernel
theorem d_M_make_276 : decode (sk_cc m_M_make) 276 = .ok (.iaload, 1) := by decide +kernel
theorem d_M_make_277 : decode (sk_cc m_M_make) 277 = .ok (.iastore, 1) := by decide +kernel
theorem d_M_make_278 : decode (sk_cc m_M_make) 278 = .ok (.iinc 7 1, 3) := by decide +kernel
theorem d_M_make_281 : decode (sk_cc m_M_make) 281 = .ok (.goto (-229), 3) := by decide +kernel
theorem d_M_make_284 : decode (sk_cc m_M_make) 284 = .ok (.return_, 1) := by decide +kernel
theorem d_M_madeOf_0 : decode (sk_cc m_M_madeOf) 0 = .ok (.iload_n 0, 1) := by decide +kernel
theorem d_M_madeOf_1 : decode (sk_cc m_M_madeOf) 1 = .ok (.iconst 2, 1) := by decide +kernel
theorem d_M_madeOf_2 : decode (sk_cc m_M_madeOf) 2 = .ok (.if_icmp .ge 25, 3) := by decide +kernel
theorem d_M_madeOf_5 : decode (sk_cc m_M_madeOf) 5 = .ok (.iload_n 1, 1) := by decide +kernel
theorem d_M_madeOf_6 : decode (sk_cc m_M_madeOf) 6 = .ok (.ifCond .le 7, 3) := by decide +kernel
theorem d_M_madeOf_9 : decode (sk_cc m_M_madeOf) 9 = .ok (.iconst 0, 1) := by decide +kernel
theorem d_M_madeOf_10 : decode (sk_cc m_M_madeOf) 10 = .ok (.goto 12, 3) := by decide +kernel
theorem d_M_madeOf_13 : decode (sk_cc m_M_madeOf) 13 = .ok (.iload_n 3, 1) := by decide +kernel
theorem d_M_madeOf_14 : decode (sk_cc m_M_madeOf) 14 = .ok (.ifCond .le 7, 3) := by decide +kernel
theorem d_M_madeOf_17 : decode (sk_cc m_M_madeOf) 17 = .ok (.iconst 2, 1) := by decide +kernel
theorem d_M_madeOf_18 : decode (sk_cc m_M_madeOf) 18 = .ok (.goto 4, 3) := by decide +kernel
theorem d_M_madeOf_21 : decode (sk_cc m_M_madeOf) 21 = .ok (.iconst 1, 1) := by decide +kernel
theorem d_M_madeOf_22 : decode (sk_cc m_M_madeOf) 22 = .ok (.istore 4, 2) := by decide +kernel
theorem d_M_madeOf_24 : decode (sk_cc m_M_madeOf) 24 = .ok (.goto 43, 3) := by decide +kernel
theorem d_M_madeOf_27 : decode (sk_cc m_M_madeOf) 27 = .ok (.iload_n 0, 1) := by decide +kernel
theorem d_M_madeOf_28 : decode (sk_cc m_M_madeOf) 28 = .ok (.iconst 4, 1) := by decide +kernel
theorem d_M_madeOf_29 : decode (sk_cc m_M_madeOf) 29 = .ok (.if_icmp .ge 25, 3) := by decide +kernel
theorem d_M_madeOf_32 : decode (sk_cc m_M_madeOf) 32 = .ok (.iload_n 2, 1) := by decide +kernel
theorem d_M_madeOf_33 : decode (sk_cc m_M_madeOf) 33 = .ok (.ifCond .le 7, 3) := by decide +kernel
theorem d_M_madeOf_36 : decode (sk_cc m_M_madeOf) 36 = .ok (.iconst 1, 1) := by decide +kernel
theorem d_M_madeOf_37 : decode (sk_cc m_M_madeOf) 37 = .ok (.goto 12, 3) := by decide +kernel
theorem d_M_madeOf_40 : decode (sk_cc m_M_madeOf) 40 = .ok (.iload_n 3, 1) := by decide +kernel
theorem d_M_madeOf_41 : decode (sk_cc m_M_madeOf) 41 = .ok (.ifCond .le 7, 3) := by decide +kernel
theorem d_M_madeOf_44 : decode (sk_cc m_M_madeOf) 44 = .ok (.iconst 2, 1) := by decide +kernel
theorem d_M_madeOf_45 : decode (sk_cc m_M_madeOf) 45 = .ok (.goto 4, 3) := by decide +kernel
theorem d_M_madeOf_48 : decode (sk_cc m_M_madeOf) 48 = .ok (.iconst 0, 1) := by decide +kernel
theorem d_M_madeOf_49 : decode (sk_cc m_M_madeOf) 49 = .ok (.istore 4, 2) := by decide +kernel
theorem d_M_madeOf_51 : decode (sk_cc m_M_madeOf) 51 = .ok (.goto 16, 3) := by decide +kernel
theorem d_M_madeOf_54 : decode (sk_cc m_M_madeOf) 54 = .ok (.iload_n 3, 1) := by decide +kernel
theorem d_M_madeOf_55 : decode (sk_cc m_M_madeOf) 55 = .ok (.ifCond .le 7, 3) := by decide +kernel
theorem d_M_madeOf_58 : decode (sk_cc m_M_madeOf) 58 = .ok (.iconst 2, 1) := by decide +kernel
theorem d_M_madeOf_59 : decode (sk_cc m_M_madeOf) 59 = .ok (.goto 6, 3) := by decide +kernel
theorem d_M_madeOf_62 : decode (sk_cc m_M_madeOf) 62 = .ok (.iload_n 2, 1) := by decide +kernel
theorem d_M_madeOf_63 : decode (sk_cc m_M_madeOf) 63 = .ok (.iconst 2, 1) := by decide +kernel
theorem d_M_madeOf_64 : decode (sk_cc m_M_madeOf) 64 = .ok (.irem, 1) := by decide +kernel
theorem d_M_madeOf_65 : decode (sk_cc m_M_madeOf) 65 = .ok (.istore 4, 2) := by decide +kernel
theorem d_M_madeOf_67 : decode (sk_cc m_M_madeOf) 67 = .ok (.iload 4, 2) := by decide +kernel
theorem d_M_madeOf_69 : decode (sk_cc m_M_madeOf) 69 = .ok (.iconst 2, 1) := by decide +kernel
theorem d_M_madeOf_70 : decode (sk_cc m_M_madeOf) 70 = .ok (.if_icmp .eq 9, 3) := by decide +kernel
theorem d_M_madeOf_73 : decode (sk_cc m_M_madeOf) 73 = .ok (.iload_n 0, 1) := by decide +kernel
theorem d_M_madeOf_74 : decode (sk_cc m_M_madeOf) 74 = .ok (.iconst 2, 1) := by decide +kernel
theorem d_M_madeOf_75 : decode (sk_cc m_M_madeOf) 75 = .ok (.irem, 1) := by decide +kernel
theorem d_M_madeOf_76 : decode (sk_cc m_M_madeOf) 76 = .ok (.ifCond .ne 8, 3) := by decide +kernel
theorem d_M_madeOf_79 : decode (sk_cc m_M_madeOf) 79 = .ok (.iload 4, 2) := by decide +kernel
theorem d_M_madeOf_81 : decode (sk_cc m_M_madeOf) 81 = .ok (.goto 7, 3) := by decide +kernel
theorem d_M_madeOf_84 : decode (sk_cc m_M_madeOf) 84 = .ok (.iconst 1, 1) := by decide +kernel
theorem d_M_madeOf_85 : decode (sk_cc m_M_madeOf) 85 = .ok (.iload 4, 2) := by decide +kernel
theorem d_M_madeOf_87 : decode (sk_cc m_M_madeOf) 87 = .ok (.isub, 1) := by decide +kernel
theorem d_M_madeOf_88 : decode (sk_cc m_M_madeOf) 88 = .ok (.ireturn, 1) := by decide +kernel
theorem d_M_answered_0 : decode (sk_cc m_M_answered) 0 = .ok (.iconst 0, 1) := by decide +kernel
theorem d_M_answered_1 : decode (sk_cc m_M_answered) 1 = .ok (.istore_n 1, 1) := by decide +kernel
theorem d_M_answered_2 : decode (sk_cc m_M_answered) 2 = .ok (.iconst 0, 1) := by decide +kernel
theorem d_M_answered_3 : decode (sk_cc m_M_answered) 3 = .ok (.istore_n 2, 1) := by decide +kernel
theorem d_M_answered_4 : decode (sk_cc m_M_answered) 4 = .ok (.iload_n 2, 1) := by decide +kernel
theorem d_M_answered_5 : decode (sk_cc m_M_answered) 5 = .ok (.aload_n 0, 1) := by decide +kernel
theorem d_M_answered_6 : decode (sk_cc m_M_answered) 6 = .ok (.getfield 91, 3) := by decide +kernel
theorem d_M_answered_9 : decode (sk_cc m_M_answered) 9 = .ok (.if_icmp .ge 25, 3) := by decide +kernel
theorem d_M_answered_12 : decode (sk_cc m_M_answered) 12 = .ok (.iload_n 1, 1) := by decide +kernel
theorem d_M_answered_13 : decode (sk_cc m_M_answered) 13 = .ok (.aload_n 0, 1) := by decide +kernel
theorem d_M_answered_14 : decode (sk_cc m_M_answered) 14 = .ok (.getfield 44, 3) := by decide +kernel
theorem d_M_answered_17 : decode (sk_cc m_M_answered) 17 = .ok (.aload_n 0, 1) := by decide +kernel
theorem d_M_answered_18 : decode (sk_cc m_M_answered) 18 = .ok (.getfield 35, 3) := by decide +kernel
theorem d_M_answered_21 : decode (sk_cc m_M_answered) 21 = .ok (.iload_n 2, 1) := by decide +kernel
theorem d_M_answered_22 : decode (sk_cc m_M_answered) 22 = .ok (.iaload, 1) := by decide +kernel
theorem d_M_answered_23 : decode (sk_cc m_M_answered) 23 = .ok (.iaload, 1) := by decide +kernel
theorem d_M_answered_24 : decode (sk_cc m_M_answered) 24 = .ok (.iload_n 2, 1) := by decide +kernel
theorem d_M_answered_25 : decode (sk_cc m_M_answered) 25 = .ok (.ishl, 1) := by decide +kernel
theorem d_M_answered_26 : decode (sk_cc m_M_answered) 26 = .ok (.iadd, 1) := by decide +kernel
theorem d_M_answered_27 : decode (sk_cc m_M_answered) 27 = .ok (.istore_n 1, 1) := by decide +kernel
theorem d_M_answered_28 : decode (sk_cc m_M_answered) 28 = .ok (.iinc 2 1, 3) := by decide +kernel
theorem d_M_answered_31 : decode (sk_cc m_M_answered) 31 = .ok (.goto (-27), 3) := by decide +kernel
theorem d_M_answered_34 : decode (sk_cc m_M_answered) 34 = .ok (.iload_n 1, 1) := by decide +kernel
theorem d_M_answered_35 : decode (sk_cc m_M_answered) 35 = .ok (.ireturn, 1) := by decide +kernel
theorem d_M_leastOf_0 : decode (sk_cc m_M_leastOf) 0 = .ok (.iconst 0, 1) := by decide +kernel
theorem d_M_leastOf_1 : decode (sk_cc m_M_leastOf) 1 = .ok (.istore_n 2, 1) := by decide +kernel
theorem d_M_leastOf_2 : decode (sk_cc m_M_leastOf) 2 = .ok (.iload_n 2, 1) := by decide +kernel
theorem d_M_leastOf_3 : decode (sk_cc m_M_leastOf) 3 = .ok (.aload_n 0, 1) := by decide +kernel
theorem d_M_leastOf_4 : decode (sk_cc m_M_leastOf) 4 = .ok (.invokevirtual 108, 3) := by decide +kernel
theorem d_M_leastOf_7 : decode (sk_cc m_M_leastOf) 7 = .ok (.if_icmp .ge 31, 3) := by decide +kernel
theorem d_M_leastOf_10 : decode (sk_cc m_M_leastOf) 10 = .ok (.aload_n 0, 1) := by decide +kernel
theorem d_M_leastOf_11 : decode (sk_cc m_M_leastOf) 11 = .ok (.getfield 50, 3) := by decide +kernel
theorem d_M_leastOf_14 : decode (sk_cc m_M_leastOf) 14 = .ok (.bipush 64, 2) := by decide +kernel
theorem d_M_leastOf_16 : decode (sk_cc m_M_leastOf) 16 = .ok (.iload_n 1, 1) := by decide +kernel
theorem d_M_leastOf_17 : decode (sk_cc m_M_leastOf) 17 = .ok (.imul, 1) := by decide +kernel
theorem d_M_leastOf_18 : decode (sk_cc m_M_leastOf) 18 = .ok (.iload_n 2, 1) := by decide +kernel
theorem d_M_leastOf_19 : decode (sk_cc m_M_leastOf) 19 = .ok (.iadd, 1) := by decide +kernel
theorem d_M_leastOf_20 : decode (sk_cc m_M_leastOf) 20 = .ok (.iaload, 1) := by decide +kernel
theorem d_M_leastOf_21 : decode (sk_cc m_M_leastOf) 21 = .ok (.aload_n 0, 1) := by decide +kernel
theorem d_M_leastOf_22 : decode (sk_cc m_M_leastOf) 22 = .ok (.getfield 53, 3) := by decide +kernel
theorem d_M_leastOf_25 : decode (sk_cc m_M_leastOf) 25 = .ok (.iload_n 2, 1) := by decide +kernel
theorem d_M_leastOf_26 : decode (sk_cc m_M_leastOf) 26 = .ok (.iaload, 1) := by decide +kernel
theorem d_M_leastOf_27 : decode (sk_cc m_M_leastOf) 27 = .ok (.if_icmp .eq 5, 3) := by decide +kernel
theorem d_M_leastOf_30 : decode (sk_cc m_M_leastOf) 30 = .ok (.iload_n 2, 1) := by decide +kernel
theorem d_M_leastOf_31 : decode (sk_cc m_M_leastOf) 31 = .ok (.ireturn, 1) := by decide +kernel
theorem d_M_leastOf_32 : decode (sk_cc m_M_leastOf) 32 = .ok (.iinc 2 1, 3) := by decide +kernel
theorem d_M_leastOf_35 : decode (sk_cc m_M_leastOf) 35 = .ok (.goto (-33), 3) := by decide +kernel
theorem d_M_leastOf_38 : decode (sk_cc m_M_leastOf) 38 = .ok (.iconst (-1), 1) := by decide +kernel
theorem d_M_leastOf_39 : decode (sk_cc m_M_leastOf) 39 = .ok (.ireturn, 1) := by decide +kernel
theorem d_M_firstAlike_0 : decode (sk_cc m_M_firstAlike) 0 = .ok (.iconst 0, 1) := by decide +kernel
theorem d_M_firstAlike_1 : decode (sk_cc m_M_firstAlike) 1 = .ok (.istore_n 2, 1) := by decide +kernel
theorem d_M_firstAlike_2 : decode (sk_cc m_M_firstAlike) 2 = .ok (.iload_n 2, 1) := by decide +kernel
theorem d_M_firstAlike_3 : decode (sk_cc m_M_firstAlike) 3 = .ok (.iload_n 1, 1) := by decide +kernel
theorem d_M_firstAlike_4 : decode (sk_cc m_M_firstAlike) 4 = .ok (.if_icmp .ge 72, 3) := by decide +kernel
theorem d_M_firstAlike_7 : decode (sk_cc m_M_firstAlike) 7 = .ok (.iconst 1, 1) := by decide +kernel
theorem d_M_firstAlike_8 : decode (sk_cc m_M_firstAlike) 8 = .ok (.istore_n 3, 1) := by decide +kernel
theorem d_M_firstAlike_9 : decode (sk_cc m_M_firstAlike) 9 = .ok (.iconst 0, 1) := by decide +kernel
theorem d_M_firstAlike_10 : decode (sk_cc m_M_firstAlike) 10 = .ok (.istore 4, 2) := by decide +kernel
theorem d_M_firstAlike_12 : decode (sk_cc m_M_firstAlike) 12 = .ok (.iload 4, 2) := by decide +kernel
theorem d_M_firstAlike_14 : decode (sk_cc m_M_firstAlike) 14 = .ok (.aload_n 0, 1) := by decide +kernel
theorem d_M_firstAlike_15 : decode (sk_cc m_M_firstAlike) 15 = .ok (.invokevirtual 108, 3) := by decide +kernel
theorem d_M_firstAlike_18 : decode (sk_cc m_M_firstAlike) 18 = .ok (.if_icmp .ge 46, 3) := by decide +kernel
theorem d_M_firstAlike_21 : decode (sk_cc m_M_firstAlike) 21 = .ok (.iload_n 3, 1) := by decide +kernel
theorem d_M_firstAlike_22 : decode (sk_cc m_M_firstAlike) 22 = .ok (.ifCond .eq 42, 3) := by decide +kernel
theorem d_M_firstAlike_25 : decode (sk_cc m_M_firstAlike) 25 = .ok (.aload_n 0, 1) := by decide +kernel
theorem d_M_firstAlike_26 : decode (sk_cc m_M_firstAlike) 26 = .ok (.getfield 50, 3) := by decide +kernel
theorem d_M_firstAlike_29 : decode (sk_cc m_M_firstAlike) 29 = .ok (.bipush 64, 2) := by decide +kernel
theorem d_M_firstAlike_31 : decode (sk_cc m_M_firstAlike) 31 = .ok (.iload_n 1, 1) := by decide +kernel
theorem d_M_firstAlike_32 : decode (sk_cc m_M_firstAlike) 32 = .ok (.imul, 1) := by decide +kernel
theorem d_M_firstAlike_33 : decode (sk_cc m_M_firstAlike) 33 = .ok (.iload 4, 2) := by decide +kernel
theorem d_M_firstAlike_35 : decode (sk_cc m_M_firstAlike) 35 = .ok (.iadd, 1) := by decide +kernel
theorem d_M_firstAlike_36 : decode (sk_cc m_M_firstAlike) 36 = .ok (.iaload, 1) := by decide +kernel
theorem d_M_firstAlike_37 : decode (sk_cc m_M_firstAlike) 37 = .ok (.aload_n 0, 1) := by decide +kernel
theorem d_M_firstAlike_38 : decode (sk_cc m_M_firstAlike) 38 = .ok (.getfield 50, 3) := by decide +kernel
theorem d_M_firstAlike_41 : decode (sk_cc m_M_firstAlike) 41 = .ok (.bipush 64, 2) := by decide +kernel
theorem d_M_firstAlike_43 : decode (sk_cc m_M_firstAlike) 43 = .ok (.iload_n 2, 1) := by decide +kernel
theorem d_M_firstAlike_44 : decode (sk_cc m_M_firstAlike) 44 = .ok (.imul, 1) := by decide +kernel
theorem d_M_firstAlike_45 : decode (sk_cc m_M_firstAlike) 45 = .ok (.iload 4, 2) := by decide +kernel
theorem d_M_firstAlike_47 : decode (sk_cc m_M_firstAlike) 47 = .ok (.iadd, 1) := by decide +kernel
theorem d_M_firstAlike_48 : decode (sk_cc m_M_firstAlike) 48 = .ok (.iaload, 1) := by decide +kernel
theorem d_M_firstAlike_49 : decode (sk_cc m_M_firstAlike) 49 = .ok (.if_icmp .ne 7, 3) := by decide +kernel
theorem d_M_firstAlike_52 : decode (sk_cc m_M_firstAlike) 52 = .ok (.iconst 1, 1) := by decide +kernel
theorem d_M_firstAlike_53 : decode (sk_cc m_M_firstAlike) 53 = .ok (.goto 4, 3) := by decide +kernel
theorem d_M_firstAlike_56 : decode (sk_cc m_M_firstAlike) 56 = .ok (.iconst 0, 1) := by decide +kernel
theorem d_M_firstAlike_57 : decode (sk_cc m_M_firstAlike) 57 = .ok (.istore_n 3, 1) := by decide +kernel
theorem d_M_firstAlike_58 : decode (sk_cc m_M_firstAlike) 58 = .ok (.iinc 4 1, 3) := by decide +kernel
