theorem dX12_rents_8 : decode cX12_rents 8 = .ok (.aload_n 0, 1) := by decide +kernel
theorem dX12_rents_9 : decode cX12_rents 9 = .ok (.iload_n 2, 1) := by decide +kernel
theorem dX12_rents_10 : decode cX12_rents 10 = .ok (.invokevirtual 110, 3) := by decide +kernel
theorem dX12_rents_13 : decode cX12_rents 13 = .ok (.ifCond .ne 6, 3) := by decide +kernel
theorem dX12_rents_16 : decode cX12_rents 16 = .ok (.ldc 57, 2) := by decide +kernel
theorem dX12_rents_18 : decode cX12_rents 18 = .ok (.ireturn, 1) := by decide +kernel
theorem dX12_rents_19 : decode cX12_rents 19 = .ok (.aload_n 0, 1) := by decide +kernel
theorem dX12_rents_20 : decode cX12_rents 20 = .ok (.iload_n 1, 1) := by decide +kernel
theorem dX12_rents_21 : decode cX12_rents 21 = .ok (.invokevirtual 72, 3) := by decide +kernel
theorem dX12_rents_24 : decode cX12_rents 24 = .ok (.iconst 0, 1) := by decide +kernel
theorem dX12_rents_25 : decode cX12_rents 25 = .ok (.istore_n 3, 1) := by decide +kernel
theorem dX12_rents_26 : decode cX12_rents 26 = .ok (.iconst 0, 1) := by decide +kernel
theorem dX12_rents_27 : decode cX12_rents 27 = .ok (.istore 4, 2) := by decide +kernel
theorem dX12_rents_29 : decode cX12_rents 29 = .ok (.iload 4, 2) := by decide +kernel
theorem dX12_rents_31 : decode cX12_rents 31 = .ok (.aload_n 0, 1) := by decide +kernel
theorem dX12_rents_32 : decode cX12_rents 32 = .ok (.getfield 9, 3) := by decide +kernel
theorem dX12_rents_35 : decode cX12_rents 35 = .ok (.iconst 2, 1) := by decide +kernel
theorem dX12_rents_36 : decode cX12_rents 36 = .ok (.iaload, 1) := by decide +kernel
theorem dX12_rents_37 : decode cX12_rents 37 = .ok (.if_icmp .ge 20, 3) := by decide +kernel
theorem dX12_rents_40 : decode cX12_rents 40 = .ok (.iload_n 3, 1) := by decide +kernel
theorem dX12_rents_41 : decode cX12_rents 41 = .ok (.aload_n 0, 1) := by decide +kernel
theorem dX12_rents_42 : decode cX12_rents 42 = .ok (.iload 4, 2) := by decide +kernel
theorem dX12_rents_44 : decode cX12_rents 44 = .ok (.iload_n 1, 1) := by decide +kernel
theorem dX12_rents_45 : decode cX12_rents 45 = .ok (.iload_n 2, 1) := by decide +kernel
theorem dX12_rents_46 : decode cX12_rents 46 = .ok (.invokevirtual 242, 3) := by decide +kernel
theorem dX12_rents_49 : decode cX12_rents 49 = .ok (.iadd, 1) := by decide +kernel
theorem dX12_rents_50 : decode cX12_rents 50 = .ok (.istore_n 3, 1) := by decide +kernel
theorem dX12_rents_51 : decode cX12_rents 51 = .ok (.iinc 4 1, 3) := by decide +kernel
theorem dX12_rents_54 : decode cX12_rents 54 = .ok (.goto (-25), 3) := by decide +kernel
theorem dX12_rents_57 : decode cX12_rents 57 = .ok (.iload_n 3, 1) := by decide +kernel
theorem dX12_rents_58 : decode cX12_rents 58 = .ok (.ireturn, 1) := by decide +kernel
theorem dX12_pays_0 : decode cX12_pays 0 = .ok (.aload_n 0, 1) := by decide +kernel
theorem dX12_pays_1 : decode cX12_pays 1 = .ok (.getfield 28, 3) := by decide +kernel
theorem dX12_pays_4 : decode cX12_pays 4 = .ok (.iload_n 1, 1) := by decide +kernel
theorem dX12_pays_5 : decode cX12_pays 5 = .ok (.iaload, 1) := by decide +kernel
theorem dX12_pays_6 : decode cX12_pays 6 = .ok (.ifCond .lt 21, 3) := by decide +kernel
theorem dX12_pays_9 : decode cX12_pays 9 = .ok (.aload_n 0, 1) := by decide +kernel
theorem dX12_pays_10 : decode cX12_pays 10 = .ok (.getfield 9, 3) := by decide +kernel
theorem dX12_pays_13 : decode cX12_pays 13 = .ok (.iload_n 1, 1) := by decide +kernel
theorem dX12_pays_14 : decode cX12_pays 14 = .ok (.iconst 0, 1) := by decide +kernel
theorem dX12_pays_15 : decode cX12_pays 15 = .ok (.invokestatic 61, 3) := by decide +kernel
theorem dX12_pays_18 : decode cX12_pays 18 = .ok (.iaload, 1) := by decide +kernel
theorem dX12_pays_19 : decode cX12_pays 19 = .ok (.iconst 3, 1) := by decide +kernel
theorem dX12_pays_20 : decode cX12_pays 20 = .ok (.if_icmp .eq 7, 3) := by decide +kernel
theorem dX12_pays_23 : decode cX12_pays 23 = .ok (.iconst 1, 1) := by decide +kernel
theorem dX12_pays_24 : decode cX12_pays 24 = .ok (.goto 4, 3) := by decide +kernel
theorem dX12_pays_27 : decode cX12_pays 27 = .ok (.iconst 0, 1) := by decide +kernel
theorem dX12_pays_28 : decode cX12_pays 28 = .ok (.ireturn, 1) := by decide +kernel
theorem dX12_charge_0 : decode cX12_charge 0 = .ok (.aload_n 0, 1) := by decide +kernel
theorem dX12_charge_1 : decode cX12_charge 1 = .ok (.iload_n 1, 1) := by decide +kernel
theorem dX12_charge_2 : decode cX12_charge 2 = .ok (.invokevirtual 65, 3) := by decide +kernel
theorem dX12_charge_5 : decode cX12_charge 5 = .ok (.ifCond .eq 21, 3) := by decide +kernel
theorem dX12_charge_8 : decode cX12_charge 8 = .ok (.aload_n 0, 1) := by decide +kernel
theorem dX12_charge_9 : decode cX12_charge 9 = .ok (.iload_n 2, 1) := by decide +kernel
theorem dX12_charge_10 : decode cX12_charge 10 = .ok (.invokevirtual 110, 3) := by decide +kernel
theorem dX12_charge_13 : decode cX12_charge 13 = .ok (.ifCond .eq 13, 3) := by decide +kernel
theorem dX12_charge_16 : decode cX12_charge 16 = .ok (.iload_n 3, 1) := by decide +kernel
theorem dX12_charge_17 : decode cX12_charge 17 = .ok (.iconst 0, 1) := by decide +kernel
theorem dX12_charge_18 : decode cX12_charge 18 = .ok (.ldc 245, 2) := by decide +kernel
theorem dX12_charge_20 : decode cX12_charge 20 = .ok (.invokestatic 49, 3) := by decide +kernel
theorem dX12_charge_23 : decode cX12_charge 23 = .ok (.ifCond .ne 6, 3) := by decide +kernel
theorem dX12_charge_26 : decode cX12_charge 26 = .ok (.ldc 57, 2) := by decide +kernel
theorem dX12_charge_28 : decode cX12_charge 28 = .ok (.ireturn, 1) := by decide +kernel
theorem dX12_charge_29 : decode cX12_charge 29 = .ok (.aload_n 0, 1) := by decide +kernel
theorem dX12_charge_30 : decode cX12_charge 30 = .ok (.iload_n 2, 1) := by decide +kernel
theorem dX12_charge_31 : decode cX12_charge 31 = .ok (.invokevirtual 72, 3) := by decide +kernel
theorem dX12_charge_34 : decode cX12_charge 34 = .ok (.aload_n 0, 1) := by decide +kernel
theorem dX12_charge_35 : decode cX12_charge 35 = .ok (.iload_n 1, 1) := by decide +kernel
theorem dX12_charge_36 : decode cX12_charge 36 = .ok (.invokevirtual 246, 3) := by decide +kernel
theorem dX12_charge_39 : decode cX12_charge 39 = .ok (.ifCond .ne 5, 3) := by decide +kernel
theorem dX12_charge_42 : decode cX12_charge 42 = .ok (.iconst 0, 1) := by decide +kernel
theorem dX12_charge_43 : decode cX12_charge 43 = .ok (.ireturn, 1) := by decide +kernel
theorem dX12_charge_44 : decode cX12_charge 44 = .ok (.iconst 0, 1) := by decide +kernel
theorem dX12_charge_45 : decode cX12_charge 45 = .ok (.istore 4, 2) := by decide +kernel
theorem dX12_charge_47 : decode cX12_charge 47 = .ok (.iconst 0, 1) := by decide +kernel
theorem dX12_charge_48 : decode cX12_charge 48 = .ok (.istore 5, 2) := by decide +kernel
theorem dX12_charge_50 : decode cX12_charge 50 = .ok (.iload 5, 2) := by decide +kernel
theorem dX12_charge_52 : decode cX12_charge 52 = .ok (.bipush 12, 2) := by decide +kernel
theorem dX12_charge_54 : decode cX12_charge 54 = .ok (.if_icmp .ge 42, 3) := by decide +kernel
theorem dX12_charge_57 : decode cX12_charge 57 = .ok (.iload 4, 2) := by decide +kernel
theorem dX12_charge_59 : decode cX12_charge 59 = .ok (.aload_n 0, 1) := by decide +kernel
theorem dX12_charge_60 : decode cX12_charge 60 = .ok (.iload 5, 2) := by decide +kernel
theorem dX12_charge_62 : decode cX12_charge 62 = .ok (.invokevirtual 246, 3) := by decide +kernel
theorem dX12_charge_65 : decode cX12_charge 65 = .ok (.ifCond .eq 21, 3) := by decide +kernel
theorem dX12_charge_68 : decode cX12_charge 68 = .ok (.aload_n 0, 1) := by decide +kernel
theorem dX12_charge_69 : decode cX12_charge 69 = .ok (.getfield 9, 3) := by decide +kernel
theorem dX12_charge_72 : decode cX12_charge 72 = .ok (.bipush 10, 2) := by decide +kernel
theorem dX12_charge_74 : decode cX12_charge 74 = .ok (.aload_n 0, 1) := by decide +kernel
theorem dX12_charge_75 : decode cX12_charge 75 = .ok (.getfield 28, 3) := by decide +kernel
theorem dX12_charge_78 : decode cX12_charge 78 = .ok (.iload 5, 2) := by decide +kernel
theorem dX12_charge_80 : decode cX12_charge 80 = .ok (.iaload, 1) := by decide +kernel
theorem dX12_charge_81 : decode cX12_charge 81 = .ok (.iadd, 1) := by decide +kernel
theorem dX12_charge_82 : decode cX12_charge 82 = .ok (.iaload, 1) := by decide +kernel
theorem dX12_charge_83 : decode cX12_charge 83 = .ok (.goto 4, 3) := by decide +kernel
theorem dX12_charge_86 : decode cX12_charge 86 = .ok (.iconst 0, 1) := by decide +kernel
theorem dX12_charge_87 : decode cX12_charge 87 = .ok (.iadd, 1) := by decide +kernel
theorem dX12_charge_88 : decode cX12_charge 88 = .ok (.istore 4, 2) := by decide +kernel
theorem dX12_charge_90 : decode cX12_charge 90 = .ok (.iinc 5 1, 3) := by decide +kernel
theorem dX12_charge_93 : decode cX12_charge 93 = .ok (.goto (-43), 3) := by decide +kernel
theorem dX12_charge_96 : decode cX12_charge 96 = .ok (.iload_n 3, 1) := by decide +kernel
theorem dX12_charge_97 : decode cX12_charge 97 = .ok (.istore 5, 2) := by decide +kernel
theorem dX12_charge_99 : decode cX12_charge 99 = .ok (.iconst 0, 1) := by decide +kernel
theorem dX12_charge_100 : decode cX12_charge 100 = .ok (.istore 6, 2) := by decide +kernel
theorem dX12_charge_102 : decode cX12_charge 102 = .ok (.iconst 0, 1) := by decide +kernel
theorem dX12_charge_103 : decode cX12_charge 103 = .ok (.istore 7, 2) := by decide +kernel
theorem dX12_charge_105 : decode cX12_charge 105 = .ok (.iload 7, 2) := by decide +kernel
theorem dX12_charge_107 : decode cX12_charge 107 = .ok (.bipush 12, 2) := by decide +kernel
theorem dX12_charge_109 : decode cX12_charge 109 = .ok (.if_icmp .ge 82, 3) := by decide +kernel
theorem dX12_charge_112 : decode cX12_charge 112 = .ok (.iload 5, 2) := by decide +kernel
theorem dX12_charge_114 : decode cX12_charge 114 = .ok (.aload_n 0, 1) := by decide +kernel
theorem dX12_charge_115 : decode cX12_charge 115 = .ok (.iload 7, 2) := by decide +kernel
theorem dX12_charge_117 : decode cX12_charge 117 = .ok (.invokevirtual 246, 3) := by decide +kernel
theorem dX12_charge_120 : decode cX12_charge 120 = .ok (.ifCond .eq 26, 3) := by decide +kernel
theorem dX12_charge_123 : decode cX12_charge 123 = .ok (.iload_n 3, 1) := by decide +kernel
theorem dX12_charge_124 : decode cX12_charge 124 = .ok (.aload_n 0, 1) := by decide +kernel
theorem dX12_charge_125 : decode cX12_charge 125 = .ok (.getfield 9, 3) := by decide +kernel
theorem dX12_charge_128 : decode cX12_charge 128 = .ok (.bipush 10, 2) := by decide +kernel
theorem dX12_charge_130 : decode cX12_charge 130 = .ok (.aload_n 0, 1) := by decide +kernel
theorem dX12_charge_131 : decode cX12_charge 131 = .ok (.getfield 28, 3) := by decide +kernel
theorem dX12_charge_134 : decode cX12_charge 134 = .ok (.iload 7, 2) := by decide +kernel
theorem dX12_charge_136 : decode cX12_charge 136 = .ok (.iaload, 1) := by decide +kernel
theorem dX12_charge_137 : decode cX12_charge 137 = .ok (.iadd, 1) := by decide +kernel
theorem dX12_charge_138 : decode cX12_charge 138 = .ok (.iaload, 1) := by decide +kernel
theorem dX12_charge_139 : decode cX12_charge 139 = .ok (.imul, 1) := by decide +kernel
theorem dX12_charge_140 : decode cX12_charge 140 = .ok (.iload 4, 2) := by decide +kernel
theorem dX12_charge_142 : decode cX12_charge 142 = .ok (.idiv, 1) := by decide +kernel
theorem dX12_charge_143 : decode cX12_charge 143 = .ok (.goto 4, 3) := by decide +kernel
theorem dX12_charge_146 : decode cX12_charge 146 = .ok (.iconst 0, 1) := by decide +kernel
theorem dX12_charge_147 : decode cX12_charge 147 = .ok (.isub, 1) := by decide +kernel
theorem dX12_charge_148 : decode cX12_charge 148 = .ok (.istore 5, 2) := by decide +kernel
theorem dX12_charge_150 : decode cX12_charge 150 = .ok (.iload 6, 2) := by decide +kernel
theorem dX12_charge_152 : decode cX12_charge 152 = .ok (.aload_n 0, 1) := by decide +kernel
theorem dX12_charge_153 : decode cX12_charge 153 = .ok (.iload 7, 2) := by decide +kernel
theorem dX12_charge_155 : decode cX12_charge 155 = .ok (.invokevirtual 246, 3) := by decide +kernel
theorem dX12_charge_158 : decode cX12_charge 158 = .ok (.ifCond .eq 23, 3) := by decide +kernel
theorem dX12_charge_161 : decode cX12_charge 161 = .ok (.aload_n 0, 1) := by decide +kernel
theorem dX12_charge_162 : decode cX12_charge 162 = .ok (.getfield 28, 3) := by decide +kernel
theorem dX12_charge_165 : decode cX12_charge 165 = .ok (.iload 7, 2) := by decide +kernel
theorem dX12_charge_167 : decode cX12_charge 167 = .ok (.iaload, 1) := by decide +kernel
theorem dX12_charge_168 : decode cX12_charge 168 = .ok (.aload_n 0, 1) := by decide +kernel
theorem dX12_charge_169 : decode cX12_charge 169 = .ok (.getfield 28, 3) := by decide +kernel
theorem dX12_charge_172 : decode cX12_charge 172 = .ok (.iload_n 1, 1) := by decide +kernel
theorem dX12_charge_173 : decode cX12_charge 173 = .ok (.iaload, 1) := by decide +kernel
theorem dX12_charge_174 : decode cX12_charge 174 = .ok (.if_icmp .ge 7, 3) := by decide +kernel
theorem dX12_charge_177 : decode cX12_charge 177 = .ok (.iconst 1, 1) := by decide +kernel
theorem dX12_charge_178 : decode cX12_charge 178 = .ok (.goto 4, 3) := by decide +kernel
theorem dX12_charge_181 : decode cX12_charge 181 = .ok (.iconst 0, 1) := by decide +kernel
theorem dX12_charge_182 : decode cX12_charge 182 = .ok (.iadd, 1) := by decide +kernel
theorem dX12_charge_183 : decode cX12_charge 183 = .ok (.istore 6, 2) := by decide +kernel
theorem dX12_charge_185 : decode cX12_charge 185 = .ok (.iinc 7 1, 3) := by decide +kernel
theorem dX12_charge_188 : decode cX12_charge 188 = .ok (.goto (-83), 3) := by decide +kernel
theorem dX12_charge_191 : decode cX12_charge 191 = .ok (.iload_n 3, 1) := by decide +kernel
theorem dX12_charge_192 : decode cX12_charge 192 = .ok (.aload_n 0, 1) := by decide +kernel
theorem dX12_charge_193 : decode cX12_charge 193 = .ok (.getfield 9, 3) := by decide +kernel
theorem dX12_charge_196 : decode cX12_charge 196 = .ok (.bipush 10, 2) := by decide +kernel
theorem dX12_charge_198 : decode cX12_charge 198 = .ok (.aload_n 0, 1) := by decide +kernel
theorem dX12_charge_199 : decode cX12_charge 199 = .ok (.getfield 28, 3) := by decide +kernel
theorem dX12_charge_202 : decode cX12_charge 202 = .ok (.iload_n 1, 1) := by decide +kernel
theorem dX12_charge_203 : decode cX12_charge 203 = .ok (.iaload, 1) := by decide +kernel
theorem dX12_charge_204 : decode cX12_charge 204 = .ok (.iadd, 1) := by decide +kernel
theorem dX12_charge_205 : decode cX12_charge 205 = .ok (.iaload, 1) := by decide +kernel
theorem dX12_charge_206 : decode cX12_charge 206 = .ok (.imul, 1) := by decide +kernel
theorem dX12_charge_207 : decode cX12_charge 207 = .ok (.iload 4, 2) := by decide +kernel
theorem dX12_charge_209 : decode cX12_charge 209 = .ok (.idiv, 1) := by decide +kernel
theorem dX12_charge_210 : decode cX12_charge 210 = .ok (.iload 6, 2) := by decide +kernel
theorem dX12_charge_212 : decode cX12_charge 212 = .ok (.iload 5, 2) := by decide +kernel
theorem dX12_charge_214 : decode cX12_charge 214 = .ok (.if_icmp .ge 7, 3) := by decide +kernel
theorem dX12_charge_217 : decode cX12_charge 217 = .ok (.iconst 1, 1) := by decide +kernel
theorem dX12_charge_218 : decode cX12_charge 218 = .ok (.goto 4, 3) := by decide +kernel
theorem dX12_charge_221 : decode cX12_charge 221 = .ok (.iconst 0, 1) := by decide +kernel
theorem dX12_charge_222 : decode cX12_charge 222 = .ok (.iadd, 1) := by decide +kernel
theorem dX12_charge_223 : decode cX12_charge 223 = .ok (.ireturn, 1) := by decide +kernel
theorem dX12_findFall_0 : decode cX12_findFall 0 = .ok (.iconst 0, 1) := by decide +kernel
theorem dX12_findFall_1 : decode cX12_findFall 1 = .ok (.istore_n 1, 1) := by decide +kernel
theorem dX12_findFall_2 : decode cX12_findFall 2 = .ok (.iconst 0, 1) := by decide +kernel
theorem dX12_findFall_3 : decode cX12_findFall 3 = .ok (.istore_n 2, 1) := by decide +kernel
theorem dX12_findFall_4 : decode cX12_findFall 4 = .ok (.iload_n 2, 1) := by decide +kernel
theorem dX12_findFall_5 : decode cX12_findFall 5 = .ok (.aload_n 0, 1) := by decide +kernel
theorem dX12_findFall_6 : decode cX12_findFall 6 = .ok (.getfield 9, 3) := by decide +kernel
theorem dX12_findFall_9 : decode cX12_findFall 9 = .ok (.iconst 2, 1) := by decide +kernel
theorem dX12_findFall_10 : decode cX12_findFall 10 = .ok (.iaload, 1) := by decide +kernel
theorem dX12_findFall_11 : decode cX12_findFall 11 = .ok (.if_icmp .ge 79, 3) := by decide +kernel
theorem dX12_findFall_14 : decode cX12_findFall 14 = .ok (.aload_n 0, 1) := by decide +kernel
theorem dX12_findFall_15 : decode cX12_findFall 15 = .ok (.getfield 28, 3) := by decide +kernel
theorem dX12_findFall_18 : decode cX12_findFall 18 = .ok (.iload_n 2, 1) := by decide +kernel
theorem dX12_findFall_19 : decode cX12_findFall 19 = .ok (.iaload, 1) := by decide +kernel
theorem dX12_findFall_20 : decode cX12_findFall 20 = .ok (.ifCond .lt 36, 3) := by decide +kernel
theorem dX12_findFall_23 : decode cX12_findFall 23 = .ok (.aload_n 0, 1) := by decide +kernel
theorem dX12_findFall_24 : decode cX12_findFall 24 = .ok (.iload_n 2, 1) := by decide +kernel
theorem dX12_findFall_25 : decode cX12_findFall 25 = .ok (.invokevirtual 236, 3) := by decide +kernel
theorem dX12_findFall_28 : decode cX12_findFall 28 = .ok (.ifCond .eq 28, 3) := by decide +kernel
theorem dX12_findFall_31 : decode cX12_findFall 31 = .ok (.aload_n 0, 1) := by decide +kernel
theorem dX12_findFall_32 : decode cX12_findFall 32 = .ok (.iload_n 2, 1) := by decide +kernel
theorem dX12_findFall_33 : decode cX12_findFall 33 = .ok (.iconst 2, 1) := by decide +kernel
theorem dX12_findFall_34 : decode cX12_findFall 34 = .ok (.aload_n 0, 1) := by decide +kernel
theorem dX12_findFall_35 : decode cX12_findFall 35 = .ok (.getfield 9, 3) := by decide +kernel
theorem dX12_findFall_38 : decode cX12_findFall 38 = .ok (.iconst 0, 1) := by decide +kernel
theorem dX12_findFall_39 : decode cX12_findFall 39 = .ok (.iaload, 1) := by decide +kernel
theorem dX12_findFall_40 : decode cX12_findFall 40 = .ok (.aload_n 0, 1) := by decide +kernel
theorem dX12_findFall_41 : decode cX12_findFall 41 = .ok (.getfield 9, 3) := by decide +kernel
theorem dX12_findFall_44 : decode cX12_findFall 44 = .ok (.iconst 0, 1) := by decide +kernel
theorem dX12_findFall_45 : decode cX12_findFall 45 = .ok (.iaload, 1) := by decide +kernel
theorem dX12_findFall_46 : decode cX12_findFall 46 = .ok (.invokevirtual 239, 3) := by decide +kernel
theorem dX12_findFall_49 : decode cX12_findFall 49 = .ok (.ifCond .eq 7, 3) := by decide +kernel
theorem dX12_findFall_52 : decode cX12_findFall 52 = .ok (.iconst 1, 1) := by decide +kernel
theorem dX12_findFall_53 : decode cX12_findFall 53 = .ok (.goto 4, 3) := by decide +kernel
theorem dX12_findFall_56 : decode cX12_findFall 56 = .ok (.iconst 0, 1) := by decide +kernel
theorem dX12_findFall_57 : decode cX12_findFall 57 = .ok (.istore_n 3, 1) := by decide +kernel
theorem dX12_findFall_58 : decode cX12_findFall 58 = .ok (.iload_n 3, 1) := by decide +kernel
theorem dX12_findFall_59 : decode cX12_findFall 59 = .ok (.ifCond .eq 25, 3) := by decide +kernel
theorem dX12_findFall_62 : decode cX12_findFall 62 = .ok (.aload_n 0, 1) := by decide +kernel
theorem dX12_findFall_63 : decode cX12_findFall 63 = .ok (.getfield 37, 3) := by decide +kernel
theorem dX12_findFall_66 : decode cX12_findFall 66 = .ok (.iload_n 1, 1) := by decide +kernel
theorem dX12_findFall_67 : decode cX12_findFall 67 = .ok (.iload_n 2, 1) := by decide +kernel
theorem dX12_findFall_68 : decode cX12_findFall 68 = .ok (.iastore, 1) := by decide +kernel
theorem dX12_findFall_69 : decode cX12_findFall 69 = .ok (.iinc 1 1, 3) := by decide +kernel
theorem dX12_findFall_72 : decode cX12_findFall 72 = .ok (.aload_n 0, 1) := by decide +kernel
theorem dX12_findFall_73 : decode cX12_findFall 73 = .ok (.getfield 28, 3) := by decide +kernel
theorem dX12_findFall_76 : decode cX12_findFall 76 = .ok (.iload_n 2, 1) := by decide +kernel
theorem dX12_findFall_77 : decode cX12_findFall 77 = .ok (.iconst (-1), 1) := by decide +kernel
theorem dX12_findFall_78 : decode cX12_findFall 78 = .ok (.iastore, 1) := by decide +kernel
theorem dX12_findFall_79 : decode cX12_findFall 79 = .ok (.iconst 0, 1) := by decide +kernel
theorem dX12_findFall_80 : decode cX12_findFall 80 = .ok (.istore_n 2, 1) := by decide +kernel
theorem dX12_findFall_81 : decode cX12_findFall 81 = .ok (.goto 6, 3) := by decide +kernel
theorem dX12_findFall_84 : decode cX12_findFall 84 = .ok (.iinc 2 1, 3) := by decide +kernel
theorem dX12_findFall_87 : decode cX12_findFall 87 = .ok (.goto (-83), 3) := by decide +kernel
theorem dX12_findFall_90 : decode cX12_findFall 90 = .ok (.iload_n 1, 1) := by decide +kernel
theorem dX12_findFall_91 : decode cX12_findFall 91 = .ok (.ireturn, 1) := by decide +kernel
theorem dX12_fall_0 : decode cX12_fall 0 = .ok (.aload_n 0, 1) := by decide +kernel
theorem dX12_fall_1 : decode cX12_fall 1 = .ok (.aload_n 0, 1) := by decide +kernel
theorem dX12_fall_2 : decode cX12_fall 2 = .ok (.getfield 9, 3) := by decide +kernel
theorem dX12_fall_5 : decode cX12_fall 5 = .ok (.iconst 0, 1) := by decide +kernel
theorem dX12_fall_6 : decode cX12_fall 6 = .ok (.iaload, 1) := by decide +kernel
theorem dX12_fall_7 : decode cX12_fall 7 = .ok (.invokevirtual 72, 3) := by decide +kernel
theorem dX12_fall_10 : decode cX12_fall 10 = .ok (.aload_n 0, 1) := by decide +kernel
theorem dX12_fall_11 : decode cX12_fall 11 = .ok (.invokevirtual 249, 3) := by decide +kernel
theorem dX12_fall_14 : decode cX12_fall 14 = .ok (.istore_n 1, 1) := by decide +kernel
theorem dX12_fall_15 : decode cX12_fall 15 = .ok (.aload_n 0, 1) := by decide +kernel
theorem dX12_fall_16 : decode cX12_fall 16 = .ok (.getfield 9, 3) := by decide +kernel
theorem dX12_fall_19 : decode cX12_fall 19 = .ok (.iconst 3, 1) := by decide +kernel
theorem dX12_fall_20 : decode cX12_fall 20 = .ok (.iaload, 1) := by decide +kernel
theorem dX12_fall_21 : decode cX12_fall 21 = .ok (.iload_n 1, 1) := by decide +kernel
theorem dX12_fall_22 : decode cX12_fall 22 = .ok (.iadd, 1) := by decide +kernel
theorem dX12_fall_23 : decode cX12_fall 23 = .ok (.sipush 200, 3) := by decide +kernel
theorem dX12_fall_26 : decode cX12_fall 26 = .ok (.if_icmp .le 6, 3) := by decide +kernel
theorem dX12_fall_29 : decode cX12_fall 29 = .ok (.ldc 59, 2) := by decide +kernel
theorem dX12_fall_31 : decode cX12_fall 31 = .ok (.ireturn, 1) := by decide +kernel
theorem dX12_fall_32 : decode cX12_fall 32 = .ok (.iconst 0, 1) := by decide +kernel
theorem dX12_fall_33 : decode cX12_fall 33 = .ok (.istore_n 2, 1) := by decide +kernel
theorem dX12_fall_34 : decode cX12_fall 34 = .ok (.iload_n 2, 1) := by decide +kernel
theorem dX12_fall_35 : decode cX12_fall 35 = .ok (.iload_n 1, 1) := by decide +kernel
theorem dX12_fall_36 : decode cX12_fall 36 = .ok (.if_icmp .ge 35, 3) := by decide +kernel
theorem dX12_fall_39 : decode cX12_fall 39 = .ok (.aload_n 0, 1) := by decide +kernel
theorem dX12_fall_40 : decode cX12_fall 40 = .ok (.aload_n 0, 1) := by decide +kernel
theorem dX12_fall_41 : decode cX12_fall 41 = .ok (.getfield 37, 3) := by decide +kernel
theorem dX12_fall_44 : decode cX12_fall 44 = .ok (.iload_n 2, 1) := by decide +kernel
theorem dX12_fall_45 : decode cX12_fall 45 = .ok (.iaload, 1) := by decide +kernel
theorem dX12_fall_46 : decode cX12_fall 46 = .ok (.iconst (-1), 1) := by decide +kernel
theorem dX12_fall_47 : decode cX12_fall 47 = .ok (.invokevirtual 81, 3) := by decide +kernel
theorem dX12_fall_50 : decode cX12_fall 50 = .ok (.aload_n 0, 1) := by decide +kernel
theorem dX12_fall_51 : decode cX12_fall 51 = .ok (.getfield 9, 3) := by decide +kernel
theorem dX12_fall_54 : decode cX12_fall 54 = .ok (.bipush 126, 2) := by decide +kernel
theorem dX12_fall_56 : decode cX12_fall 56 = .ok (.iload_n 2, 1) := by decide +kernel
theorem dX12_fall_57 : decode cX12_fall 57 = .ok (.iadd, 1) := by decide +kernel
theorem dX12_fall_58 : decode cX12_fall 58 = .ok (.aload_n 0, 1) := by decide +kernel
theorem dX12_fall_59 : decode cX12_fall 59 = .ok (.getfield 37, 3) := by decide +kernel
theorem dX12_fall_62 : decode cX12_fall 62 = .ok (.iload_n 2, 1) := by decide +kernel
theorem dX12_fall_63 : decode cX12_fall 63 = .ok (.iaload, 1) := by decide +kernel
theorem dX12_fall_64 : decode cX12_fall 64 = .ok (.iastore, 1) := by decide +kernel
theorem dX12_fall_65 : decode cX12_fall 65 = .ok (.iinc 2 1, 3) := by decide +kernel
theorem dX12_fall_68 : decode cX12_fall 68 = .ok (.goto (-34), 3) := by decide +kernel
theorem dX12_fall_71 : decode cX12_fall 71 = .ok (.aload_n 0, 1) := by decide +kernel
theorem dX12_fall_72 : decode cX12_fall 72 = .ok (.getfield 9, 3) := by decide +kernel
theorem dX12_fall_75 : decode cX12_fall 75 = .ok (.bipush 7, 2) := by decide +kernel
theorem dX12_fall_77 : decode cX12_fall 77 = .ok (.iload_n 1, 1) := by decide +kernel
theorem dX12_fall_78 : decode cX12_fall 78 = .ok (.iastore, 1) := by decide +kernel
theorem dX12_fall_79 : decode cX12_fall 79 = .ok (.iload_n 1, 1) := by decide +kernel
theorem dX12_fall_80 : decode cX12_fall 80 = .ok (.ireturn, 1) := by decide +kernel
theorem dX12_fallen_0 : decode cX12_fallen 0 = .ok (.iload_n 1, 1) := by decide +kernel
theorem dX12_fallen_1 : decode cX12_fallen 1 = .ok (.ifCond .ge 8, 3) := by decide +kernel
theorem dX12_fallen_4 : decode cX12_fallen 4 = .ok (.ldc 57, 2) := by decide +kernel
theorem dX12_fallen_6 : decode cX12_fallen 6 = .ok (.goto 28, 3) := by decide +kernel
theorem dX12_fallen_9 : decode cX12_fallen 9 = .ok (.iload_n 1, 1) := by decide +kernel
theorem dX12_fallen_10 : decode cX12_fallen 10 = .ok (.aload_n 0, 1) := by decide +kernel
theorem dX12_fallen_11 : decode cX12_fallen 11 = .ok (.getfield 9, 3) := by decide +kernel
theorem dX12_fallen_14 : decode cX12_fallen 14 = .ok (.bipush 7, 2) := by decide +kernel
theorem dX12_fallen_16 : decode cX12_fallen 16 = .ok (.iaload, 1) := by decide +kernel
theorem dX12_fallen_17 : decode cX12_fallen 17 = .ok (.if_icmp .ge 15, 3) := by decide +kernel
theorem dX12_fallen_20 : decode cX12_fallen 20 = .ok (.aload_n 0, 1) := by decide +kernel
theorem dX12_fallen_21 : decode cX12_fallen 21 = .ok (.getfield 9, 3) := by decide +kernel
theorem dX12_fallen_24 : decode cX12_fallen 24 = .ok (.bipush 126, 2) := by decide +kernel
theorem dX12_fallen_26 : decode cX12_fallen 26 = .ok (.iload_n 1, 1) := by decide +kernel
theorem dX12_fallen_27 : decode cX12_fallen 27 = .ok (.iadd, 1) := by decide +kernel
theorem dX12_fallen_28 : decode cX12_fallen 28 = .ok (.iaload, 1) := by decide +kernel
theorem dX12_fallen_29 : decode cX12_fallen 29 = .ok (.goto 5, 3) := by decide +kernel
theorem dX12_fallen_32 : decode cX12_fallen 32 = .ok (.ldc 71, 2) := by decide +kernel
theorem dX12_fallen_34 : decode cX12_fallen 34 = .ok (.ireturn, 1) := by decide +kernel
theorem dX12_without_0 : decode cX12_without 0 = .ok (.aload_n 0, 1) := by decide +kernel
theorem dX12_without_1 : decode cX12_without 1 = .ok (.iload_n 1, 1) := by decide +kernel
theorem dX12_without_2 : decode cX12_without 2 = .ok (.invokevirtual 65, 3) := by decide +kernel
theorem dX12_without_5 : decode cX12_without 5 = .ok (.ifCond .ne 6, 3) := by decide +kernel
theorem dX12_without_8 : decode cX12_without 8 = .ok (.ldc 57, 2) := by decide +kernel
theorem dX12_without_10 : decode cX12_without 10 = .ok (.ireturn, 1) := by decide +kernel
theorem dX12_without_11 : decode cX12_without 11 = .ok (.aload_n 0, 1) := by decide +kernel
theorem dX12_without_12 : decode cX12_without 12 = .ok (.aload_n 0, 1) := by decide +kernel
theorem dX12_without_13 : decode cX12_without 13 = .ok (.getfield 9, 3) := by decide +kernel
theorem dX12_without_16 : decode cX12_without 16 = .ok (.iconst 0, 1) := by decide +kernel
theorem dX12_without_17 : decode cX12_without 17 = .ok (.iaload, 1) := by decide +kernel
theorem dX12_without_18 : decode cX12_without 18 = .ok (.invokevirtual 72, 3) := by decide +kernel
theorem dX12_without_21 : decode cX12_without 21 = .ok (.aload_n 0, 1) := by decide +kernel
theorem dX12_without_22 : decode cX12_without 22 = .ok (.getfield 28, 3) := by decide +kernel
theorem dX12_without_25 : decode cX12_without 25 = .ok (.iload_n 1, 1) := by decide +kernel
theorem dX12_without_26 : decode cX12_without 26 = .ok (.iaload, 1) := by decide +kernel
theorem dX12_without_27 : decode cX12_without 27 = .ok (.ifCond .ge 6, 3) := by decide +kernel
theorem dX12_without_30 : decode cX12_without 30 = .ok (.ldc 80, 2) := by decide +kernel
theorem dX12_without_32 : decode cX12_without 32 = .ok (.ireturn, 1) := by decide +kernel
theorem dX12_without_33 : decode cX12_without 33 = .ok (.aload_n 0, 1) := by decide +kernel
theorem dX12_without_34 : decode cX12_without 34 = .ok (.getfield 28, 3) := by decide +kernel
theorem dX12_without_37 : decode cX12_without 37 = .ok (.iload_n 1, 1) := by decide +kernel
theorem dX12_without_38 : decode cX12_without 38 = .ok (.iconst (-1), 1) := by decide +kernel
theorem dX12_without_39 : decode cX12_without 39 = .ok (.iastore, 1) := by decide +kernel
theorem dX12_without_40 : decode cX12_without 40 = .ok (.aload_n 0, 1) := by decide +kernel
theorem dX12_without_41 : decode cX12_without 41 = .ok (.invokevirtual 249, 3) := by decide +kernel
theorem dX12_without_44 : decode cX12_without 44 = .ok (.ireturn, 1) := by decide +kernel
theorem dX12_breaks_0 : decode cX12_breaks 0 = .ok (.aload_n 0, 1) := by decide +kernel
theorem dX12_breaks_1 : decode cX12_breaks 1 = .ok (.getfield 9, 3) := by decide +kernel
theorem dX12_breaks_4 : decode cX12_breaks 4 = .ok (.iload_n 1, 1) := by decide +kernel
theorem dX12_breaks_5 : decode cX12_breaks 5 = .ok (.iconst 5, 1) := by decide +kernel
theorem dX12_breaks_6 : decode cX12_breaks 6 = .ok (.invokestatic 61, 3) := by decide +kernel
theorem dX12_breaks_9 : decode cX12_breaks 9 = .ok (.iaload, 1) := by decide +kernel
theorem dX12_breaks_10 : decode cX12_breaks 10 = .ok (.aload_n 0, 1) := by decide +kernel
theorem dX12_breaks_11 : decode cX12_breaks 11 = .ok (.getfield 9, 3) := by decide +kernel
theorem dX12_breaks_14 : decode cX12_breaks 14 = .ok (.iload_n 3, 1) := by decide +kernel
theorem dX12_breaks_15 : decode cX12_breaks 15 = .ok (.iconst 5, 1) := by decide +kernel
theorem dX12_breaks_16 : decode cX12_breaks 16 = .ok (.invokestatic 61, 3) := by decide +kernel
theorem dX12_breaks_19 : decode cX12_breaks 19 = .ok (.iaload, 1) := by decide +kernel
theorem dX12_breaks_20 : decode cX12_breaks 20 = .ok (.invokestatic 98, 3) := by decide +kernel
theorem dX12_breaks_23 : decode cX12_breaks 23 = .ok (.istore 5, 2) := by decide +kernel
theorem dX12_breaks_25 : decode cX12_breaks 25 = .ok (.aload_n 0, 1) := by decide +kernel
theorem dX12_breaks_26 : decode cX12_breaks 26 = .ok (.getfield 9, 3) := by decide +kernel
theorem dX12_breaks_29 : decode cX12_breaks 29 = .ok (.iload_n 1, 1) := by decide +kernel
theorem dX12_breaks_30 : decode cX12_breaks 30 = .ok (.iconst 1, 1) := by decide +kernel
theorem dX12_breaks_31 : decode cX12_breaks 31 = .ok (.invokestatic 61, 3) := by decide +kernel
theorem dX12_breaks_34 : decode cX12_breaks 34 = .ok (.iaload, 1) := by decide +kernel
theorem dX12_breaks_35 : decode cX12_breaks 35 = .ok (.aload_n 0, 1) := by decide +kernel
theorem dX12_breaks_36 : decode cX12_breaks 36 = .ok (.getfield 9, 3) := by decide +kernel
theorem dX12_breaks_39 : decode cX12_breaks 39 = .ok (.iload_n 3, 1) := by decide +kernel
theorem dX12_breaks_40 : decode cX12_breaks 40 = .ok (.iconst 1, 1) := by decide +kernel
theorem dX12_breaks_41 : decode cX12_breaks 41 = .ok (.invokestatic 61, 3) := by decide +kernel
theorem dX12_breaks_44 : decode cX12_breaks 44 = .ok (.iaload, 1) := by decide +kernel
theorem dX12_breaks_45 : decode cX12_breaks 45 = .ok (.if_icmp .ne 19, 3) := by decide +kernel
theorem dX12_breaks_48 : decode cX12_breaks 48 = .ok (.iload_n 2, 1) := by decide +kernel
theorem dX12_breaks_49 : decode cX12_breaks 49 = .ok (.iload 4, 2) := by decide +kernel
theorem dX12_breaks_51 : decode cX12_breaks 51 = .ok (.isub, 1) := by decide +kernel
theorem dX12_breaks_52 : decode cX12_breaks 52 = .ok (.invokestatic 107, 3) := by decide +kernel
theorem dX12_breaks_55 : decode cX12_breaks 55 = .ok (.iload 5, 2) := by decide +kernel
theorem dX12_breaks_57 : decode cX12_breaks 57 = .ok (.if_icmp .gt 7, 3) := by decide +kernel
theorem dX12_breaks_60 : decode cX12_breaks 60 = .ok (.iconst 1, 1) := by decide +kernel
theorem dX12_breaks_61 : decode cX12_breaks 61 = .ok (.goto 4, 3) := by decide +kernel
theorem dX12_breaks_64 : decode cX12_breaks 64 = .ok (.iconst 0, 1) := by decide +kernel
theorem dX12_breaks_65 : decode cX12_breaks 65 = .ok (.ireturn, 1) := by decide +kernel
theorem dX12_broken_0 : decode cX12_broken 0 = .ok (.aload_n 0, 1) := by decide +kernel
theorem dX12_broken_1 : decode cX12_broken 1 = .ok (.aload_n 0, 1) := by decide +kernel
theorem dX12_broken_2 : decode cX12_broken 2 = .ok (.getfield 9, 3) := by decide +kernel
theorem dX12_broken_5 : decode cX12_broken 5 = .ok (.iconst 0, 1) := by decide +kernel
theorem dX12_broken_6 : decode cX12_broken 6 = .ok (.iaload, 1) := by decide +kernel
theorem dX12_broken_7 : decode cX12_broken 7 = .ok (.invokevirtual 72, 3) := by decide +kernel
theorem dX12_broken_10 : decode cX12_broken 10 = .ok (.iconst 0, 1) := by decide +kernel
theorem dX12_broken_11 : decode cX12_broken 11 = .ok (.istore_n 1, 1) := by decide +kernel
theorem dX12_broken_12 : decode cX12_broken 12 = .ok (.iconst 0, 1) := by decide +kernel
theorem dX12_broken_13 : decode cX12_broken 13 = .ok (.istore_n 2, 1) := by decide +kernel
theorem dX12_broken_14 : decode cX12_broken 14 = .ok (.iload_n 2, 1) := by decide +kernel
theorem dX12_broken_15 : decode cX12_broken 15 = .ok (.bipush 12, 2) := by decide +kernel
theorem dX12_broken_17 : decode cX12_broken 17 = .ok (.if_icmp .ge 72, 3) := by decide +kernel
theorem dX12_broken_20 : decode cX12_broken 20 = .ok (.iload_n 2, 1) := by decide +kernel
theorem dX12_broken_21 : decode cX12_broken 21 = .ok (.iconst 1, 1) := by decide +kernel
theorem dX12_broken_22 : decode cX12_broken 22 = .ok (.iadd, 1) := by decide +kernel
theorem dX12_broken_23 : decode cX12_broken 23 = .ok (.istore_n 3, 1) := by decide +kernel
theorem dX12_broken_24 : decode cX12_broken 24 = .ok (.iload_n 3, 1) := by decide +kernel
theorem dX12_broken_25 : decode cX12_broken 25 = .ok (.bipush 12, 2) := by decide +kernel
theorem dX12_broken_27 : decode cX12_broken 27 = .ok (.if_icmp .ge 56, 3) := by decide +kernel
theorem dX12_broken_30 : decode cX12_broken 30 = .ok (.iload_n 1, 1) := by decide +kernel
theorem dX12_broken_31 : decode cX12_broken 31 = .ok (.aload_n 0, 1) := by decide +kernel
theorem dX12_broken_32 : decode cX12_broken 32 = .ok (.getfield 28, 3) := by decide +kernel
theorem dX12_broken_35 : decode cX12_broken 35 = .ok (.iload_n 2, 1) := by decide +kernel
theorem dX12_broken_36 : decode cX12_broken 36 = .ok (.iaload, 1) := by decide +kernel
theorem dX12_broken_37 : decode cX12_broken 37 = .ok (.ifCond .lt 37, 3) := by decide +kernel
theorem dX12_broken_40 : decode cX12_broken 40 = .ok (.aload_n 0, 1) := by decide +kernel
theorem dX12_broken_41 : decode cX12_broken 41 = .ok (.getfield 28, 3) := by decide +kernel
theorem dX12_broken_44 : decode cX12_broken 44 = .ok (.iload_n 3, 1) := by decide +kernel
theorem dX12_broken_45 : decode cX12_broken 45 = .ok (.iaload, 1) := by decide +kernel
theorem dX12_broken_46 : decode cX12_broken 46 = .ok (.ifCond .lt 28, 3) := by decide +kernel
theorem dX12_broken_49 : decode cX12_broken 49 = .ok (.aload_n 0, 1) := by decide +kernel
theorem dX12_broken_50 : decode cX12_broken 50 = .ok (.iload_n 2, 1) := by decide +kernel
theorem dX12_broken_51 : decode cX12_broken 51 = .ok (.aload_n 0, 1) := by decide +kernel
theorem dX12_broken_52 : decode cX12_broken 52 = .ok (.getfield 28, 3) := by decide +kernel
theorem dX12_broken_55 : decode cX12_broken 55 = .ok (.iload_n 2, 1) := by decide +kernel
theorem dX12_broken_56 : decode cX12_broken 56 = .ok (.iaload, 1) := by decide +kernel
theorem dX12_broken_57 : decode cX12_broken 57 = .ok (.iload_n 3, 1) := by decide +kernel
theorem dX12_broken_58 : decode cX12_broken 58 = .ok (.aload_n 0, 1) := by decide +kernel
theorem dX12_broken_59 : decode cX12_broken 59 = .ok (.getfield 28, 3) := by decide +kernel
theorem dX12_broken_62 : decode cX12_broken 62 = .ok (.iload_n 3, 1) := by decide +kernel
theorem dX12_broken_63 : decode cX12_broken 63 = .ok (.iaload, 1) := by decide +kernel
theorem dX12_broken_64 : decode cX12_broken 64 = .ok (.invokevirtual 252, 3) := by decide +kernel
theorem dX12_broken_67 : decode cX12_broken 67 = .ok (.ifCond .eq 7, 3) := by decide +kernel
theorem dX12_broken_70 : decode cX12_broken 70 = .ok (.iconst 1, 1) := by decide +kernel
theorem dX12_broken_71 : decode cX12_broken 71 = .ok (.goto 4, 3) := by decide +kernel
theorem dX12_broken_74 : decode cX12_broken 74 = .ok (.iconst 0, 1) := by decide +kernel
theorem dX12_broken_75 : decode cX12_broken 75 = .ok (.iadd, 1) := by decide +kernel
theorem dX12_broken_76 : decode cX12_broken 76 = .ok (.istore_n 1, 1) := by decide +kernel
theorem dX12_broken_77 : decode cX12_broken 77 = .ok (.iinc 3 1, 3) := by decide +kernel
theorem dX12_broken_80 : decode cX12_broken 80 = .ok (.goto (-56), 3) := by decide +kernel
theorem dX12_broken_83 : decode cX12_broken 83 = .ok (.iinc 2 1, 3) := by decide +kernel
theorem dX12_broken_86 : decode cX12_broken 86 = .ok (.goto (-72), 3) := by decide +kernel
theorem dX12_broken_89 : decode cX12_broken 89 = .ok (.iload_n 1, 1) := by decide +kernel
theorem dX12_broken_90 : decode cX12_broken 90 = .ok (.ireturn, 1) := by decide +kernel
theorem dX12_mayPut_0 : decode cX12_mayPut 0 = .ok (.iload_n 1, 1) := by decide +kernel
theorem dX12_mayPut_1 : decode cX12_mayPut 1 = .ok (.aload_n 0, 1) := by decide +kernel
theorem dX12_mayPut_2 : decode cX12_mayPut 2 = .ok (.getfield 9, 3) := by decide +kernel
theorem dX12_mayPut_5 : decode cX12_mayPut 5 = .ok (.iconst 2, 1) := by decide +kernel
theorem dX12_mayPut_6 : decode cX12_mayPut 6 = .ok (.iaload, 1) := by decide +kernel
theorem dX12_mayPut_7 : decode cX12_mayPut 7 = .ok (.if_icmp .ge 16, 3) := by decide +kernel
theorem dX12_mayPut_10 : decode cX12_mayPut 10 = .ok (.aload_n 0, 1) := by decide +kernel
theorem dX12_mayPut_11 : decode cX12_mayPut 11 = .ok (.getfield 28, 3) := by decide +kernel
theorem dX12_mayPut_14 : decode cX12_mayPut 14 = .ok (.iload_n 1, 1) := by decide +kernel
theorem dX12_mayPut_15 : decode cX12_mayPut 15 = .ok (.iaload, 1) := by decide +kernel
theorem dX12_mayPut_16 : decode cX12_mayPut 16 = .ok (.ifCond .ge 7, 3) := by decide +kernel
theorem dX12_mayPut_19 : decode cX12_mayPut 19 = .ok (.iconst 1, 1) := by decide +kernel
theorem dX12_mayPut_20 : decode cX12_mayPut 20 = .ok (.goto 4, 3) := by decide +kernel
theorem dX12_mayPut_23 : decode cX12_mayPut 23 = .ok (.iconst 0, 1) := by decide +kernel
theorem dX12_mayPut_24 : decode cX12_mayPut 24 = .ok (.istore_n 3, 1) := by decide +kernel
theorem dX12_mayPut_25 : decode cX12_mayPut 25 = .ok (.iconst 0, 1) := by decide +kernel
theorem dX12_mayPut_26 : decode cX12_mayPut 26 = .ok (.istore 4, 2) := by decide +kernel
theorem dX12_mayPut_28 : decode cX12_mayPut 28 = .ok (.iload 4, 2) := by decide +kernel
theorem dX12_mayPut_30 : decode cX12_mayPut 30 = .ok (.bipush 12, 2) := by decide +kernel
theorem dX12_mayPut_32 : decode cX12_mayPut 32 = .ok (.if_icmp .ge 53, 3) := by decide +kernel
theorem dX12_mayPut_35 : decode cX12_mayPut 35 = .ok (.iload_n 3, 1) := by decide +kernel
theorem dX12_mayPut_36 : decode cX12_mayPut 36 = .ok (.ifCond .eq 49, 3) := by decide +kernel
theorem dX12_mayPut_39 : decode cX12_mayPut 39 = .ok (.iload 4, 2) := by decide +kernel
theorem dX12_mayPut_41 : decode cX12_mayPut 41 = .ok (.iload_n 1, 1) := by decide +kernel
theorem dX12_mayPut_42 : decode cX12_mayPut 42 = .ok (.if_icmp .eq 31, 3) := by decide +kernel
theorem dX12_mayPut_45 : decode cX12_mayPut 45 = .ok (.aload_n 0, 1) := by decide +kernel
theorem dX12_mayPut_46 : decode cX12_mayPut 46 = .ok (.getfield 28, 3) := by decide +kernel
theorem dX12_mayPut_49 : decode cX12_mayPut 49 = .ok (.iload 4, 2) := by decide +kernel
theorem dX12_mayPut_51 : decode cX12_mayPut 51 = .ok (.iaload, 1) := by decide +kernel
theorem dX12_mayPut_52 : decode cX12_mayPut 52 = .ok (.ifCond .lt 21, 3) := by decide +kernel
theorem dX12_mayPut_55 : decode cX12_mayPut 55 = .ok (.aload_n 0, 1) := by decide +kernel
theorem dX12_mayPut_56 : decode cX12_mayPut 56 = .ok (.iload_n 1, 1) := by decide +kernel
theorem dX12_mayPut_57 : decode cX12_mayPut 57 = .ok (.iload_n 2, 1) := by decide +kernel
theorem dX12_mayPut_58 : decode cX12_mayPut 58 = .ok (.iload 4, 2) := by decide +kernel
theorem dX12_mayPut_60 : decode cX12_mayPut 60 = .ok (.aload_n 0, 1) := by decide +kernel
theorem dX12_mayPut_61 : decode cX12_mayPut 61 = .ok (.getfield 28, 3) := by decide +kernel
theorem dX12_mayPut_64 : decode cX12_mayPut 64 = .ok (.iload 4, 2) := by decide +kernel
theorem dX12_mayPut_66 : decode cX12_mayPut 66 = .ok (.iaload, 1) := by decide +kernel
theorem dX12_mayPut_67 : decode cX12_mayPut 67 = .ok (.invokevirtual 252, 3) := by decide +kernel
theorem dX12_mayPut_70 : decode cX12_mayPut 70 = .ok (.ifCond .ne 7, 3) := by decide +kernel
theorem dX12_mayPut_73 : decode cX12_mayPut 73 = .ok (.iconst 1, 1) := by decide +kernel
theorem dX12_mayPut_74 : decode cX12_mayPut 74 = .ok (.goto 4, 3) := by decide +kernel
theorem dX12_mayPut_77 : decode cX12_mayPut 77 = .ok (.iconst 0, 1) := by decide +kernel
theorem dX12_mayPut_78 : decode cX12_mayPut 78 = .ok (.istore_n 3, 1) := by decide +kernel
theorem dX12_mayPut_79 : decode cX12_mayPut 79 = .ok (.iinc 4 1, 3) := by decide +kernel
theorem dX12_mayPut_82 : decode cX12_mayPut 82 = .ok (.goto (-54), 3) := by decide +kernel
theorem dX12_mayPut_85 : decode cX12_mayPut 85 = .ok (.iload_n 3, 1) := by decide +kernel
theorem dX12_mayPut_86 : decode cX12_mayPut 86 = .ok (.ireturn, 1) := by decide +kernel
theorem dX12_putFrom_0 : decode cX12_putFrom 0 = .ok (.iload_n 1, 1) := by decide +kernel
theorem dX12_putFrom_1 : decode cX12_putFrom 1 = .ok (.bipush 12, 2) := by decide +kernel
theorem dX12_putFrom_3 : decode cX12_putFrom 3 = .ok (.if_icmp .ne 68, 3) := by decide +kernel
theorem dX12_putFrom_6 : decode cX12_putFrom 6 = .ok (.iload_n 2, 1) := by decide +kernel
theorem dX12_putFrom_7 : decode cX12_putFrom 7 = .ok (.aload_n 0, 1) := by decide +kernel
theorem dX12_putFrom_8 : decode cX12_putFrom 8 = .ok (.getfield 256, 3) := by decide +kernel
theorem dX12_putFrom_11 : decode cX12_putFrom 11 = .ok (.if_icmp .gt 19, 3) := by decide +kernel
theorem dX12_putFrom_14 : decode cX12_putFrom 14 = .ok (.iload_n 2, 1) := by decide +kernel
theorem dX12_putFrom_15 : decode cX12_putFrom 15 = .ok (.aload_n 0, 1) := by decide +kernel
theorem dX12_putFrom_16 : decode cX12_putFrom 16 = .ok (.getfield 256, 3) := by decide +kernel
theorem dX12_putFrom_19 : decode cX12_putFrom 19 = .ok (.if_icmp .ne 51, 3) := by decide +kernel
theorem dX12_putFrom_22 : decode cX12_putFrom 22 = .ok (.iload_n 3, 1) := by decide +kernel
theorem dX12_putFrom_23 : decode cX12_putFrom 23 = .ok (.aload_n 0, 1) := by decide +kernel
theorem dX12_putFrom_24 : decode cX12_putFrom 24 = .ok (.getfield 259, 3) := by decide +kernel
theorem dX12_putFrom_27 : decode cX12_putFrom 27 = .ok (.if_icmp .ge 43, 3) := by decide +kernel
theorem dX12_putFrom_30 : decode cX12_putFrom 30 = .ok (.aload_n 0, 1) := by decide +kernel
theorem dX12_putFrom_31 : decode cX12_putFrom 31 = .ok (.iload_n 2, 1) := by decide +kernel
theorem dX12_putFrom_32 : decode cX12_putFrom 32 = .ok (.putfield 256, 3) := by decide +kernel
theorem dX12_putFrom_35 : decode cX12_putFrom 35 = .ok (.aload_n 0, 1) := by decide +kernel
theorem dX12_putFrom_36 : decode cX12_putFrom 36 = .ok (.iload_n 3, 1) := by decide +kernel
theorem dX12_putFrom_37 : decode cX12_putFrom 37 = .ok (.putfield 259, 3) := by decide +kernel
theorem dX12_putFrom_40 : decode cX12_putFrom 40 = .ok (.iconst 0, 1) := by decide +kernel
theorem dX12_putFrom_41 : decode cX12_putFrom 41 = .ok (.istore 4, 2) := by decide +kernel
theorem dX12_putFrom_43 : decode cX12_putFrom 43 = .ok (.iload 4, 2) := by decide +kernel
theorem dX12_putFrom_45 : decode cX12_putFrom 45 = .ok (.bipush 12, 2) := by decide +kernel
theorem dX12_putFrom_47 : decode cX12_putFrom 47 = .ok (.if_icmp .ge 23, 3) := by decide +kernel
theorem dX12_putFrom_50 : decode cX12_putFrom 50 = .ok (.aload_n 0, 1) := by decide +kernel
theorem dX12_putFrom_51 : decode cX12_putFrom 51 = .ok (.getfield 43, 3) := by decide +kernel
theorem dX12_putFrom_54 : decode cX12_putFrom 54 = .ok (.iload 4, 2) := by decide +kernel
theorem dX12_putFrom_56 : decode cX12_putFrom 56 = .ok (.aload_n 0, 1) := by decide +kernel
theorem dX12_putFrom_57 : decode cX12_putFrom 57 = .ok (.getfield 40, 3) := by decide +kernel
theorem dX12_putFrom_60 : decode cX12_putFrom 60 = .ok (.iload 4, 2) := by decide +kernel
theorem dX12_putFrom_62 : decode cX12_putFrom 62 = .ok (.iaload, 1) := by decide +kernel
theorem dX12_putFrom_63 : decode cX12_putFrom 63 = .ok (.iastore, 1) := by decide +kernel
theorem dX12_putFrom_64 : decode cX12_putFrom 64 = .ok (.iinc 4 1, 3) := by decide +kernel
theorem dX12_putFrom_67 : decode cX12_putFrom 67 = .ok (.goto (-24), 3) := by decide +kernel
theorem dX12_putFrom_70 : decode cX12_putFrom 70 = .ok (.return_, 1) := by decide +kernel
theorem dX12_putFrom_71 : decode cX12_putFrom 71 = .ok (.aload_n 0, 1) := by decide +kernel
theorem dX12_putFrom_72 : decode cX12_putFrom 72 = .ok (.iload_n 1, 1) := by decide +kernel
theorem dX12_putFrom_73 : decode cX12_putFrom 73 = .ok (.iconst 1, 1) := by decide +kernel
theorem dX12_putFrom_74 : decode cX12_putFrom 74 = .ok (.iadd, 1) := by decide +kernel
theorem dX12_putFrom_75 : decode cX12_putFrom 75 = .ok (.iload_n 2, 1) := by decide +kernel
theorem dX12_putFrom_76 : decode cX12_putFrom 76 = .ok (.iload_n 3, 1) := by decide +kernel
theorem dX12_putFrom_77 : decode cX12_putFrom 77 = .ok (.invokevirtual 262, 3) := by decide +kernel
theorem dX12_putFrom_80 : decode cX12_putFrom 80 = .ok (.iconst 0, 1) := by decide +kernel
theorem dX12_putFrom_81 : decode cX12_putFrom 81 = .ok (.istore 4, 2) := by decide +kernel
theorem dX12_putFrom_83 : decode cX12_putFrom 83 = .ok (.iload 4, 2) := by decide +kernel
theorem dX12_putFrom_85 : decode cX12_putFrom 85 = .ok (.bipush 12, 2) := by decide +kernel
theorem dX12_putFrom_87 : decode cX12_putFrom 87 = .ok (.if_icmp .ge 128, 3) := by decide +kernel
theorem dX12_putFrom_90 : decode cX12_putFrom 90 = .ok (.aload_n 0, 1) := by decide +kernel
theorem dX12_putFrom_91 : decode cX12_putFrom 91 = .ok (.iload_n 1, 1) := by decide +kernel
theorem dX12_putFrom_92 : decode cX12_putFrom 92 = .ok (.invokevirtual 266, 3) := by decide +kernel
theorem dX12_putFrom_95 : decode cX12_putFrom 95 = .ok (.ifCond .ne 120, 3) := by decide +kernel
theorem dX12_putFrom_98 : decode cX12_putFrom 98 = .ok (.aload_n 0, 1) := by decide +kernel
theorem dX12_putFrom_99 : decode cX12_putFrom 99 = .ok (.getfield 269, 3) := by decide +kernel
theorem dX12_putFrom_102 : decode cX12_putFrom 102 = .ok (.ifCond .ne 113, 3) := by decide +kernel
theorem dX12_putFrom_105 : decode cX12_putFrom 105 = .ok (.aload_n 0, 1) := by decide +kernel
theorem dX12_putFrom_106 : decode cX12_putFrom 106 = .ok (.iload 4, 2) := by decide +kernel
theorem dX12_putFrom_108 : decode cX12_putFrom 108 = .ok (.iload_n 1, 1) := by decide +kernel
theorem dX12_putFrom_109 : decode cX12_putFrom 109 = .ok (.invokevirtual 272, 3) := by decide +kernel
theorem dX12_putFrom_112 : decode cX12_putFrom 112 = .ok (.ifCond .ne 6, 3) := by decide +kernel
theorem dX12_putFrom_115 : decode cX12_putFrom 115 = .ok (.goto 94, 3) := by decide +kernel
theorem dX12_putFrom_118 : decode cX12_putFrom 118 = .ok (.aload_n 0, 1) := by decide +kernel
theorem dX12_putFrom_119 : decode cX12_putFrom 119 = .ok (.getfield 276, 3) := by decide +kernel
theorem dX12_putFrom_122 : decode cX12_putFrom 122 = .ok (.ifCond .ne 9, 3) := by decide +kernel
theorem dX12_putFrom_125 : decode cX12_putFrom 125 = .ok (.aload_n 0, 1) := by decide +kernel
theorem dX12_putFrom_126 : decode cX12_putFrom 126 = .ok (.iconst 1, 1) := by decide +kernel
theorem dX12_putFrom_127 : decode cX12_putFrom 127 = .ok (.putfield 269, 3) := by decide +kernel
theorem dX12_putFrom_130 : decode cX12_putFrom 130 = .ok (.return_, 1) := by decide +kernel
theorem dX12_putFrom_131 : decode cX12_putFrom 131 = .ok (.aload_n 0, 1) := by decide +kernel
theorem dX12_putFrom_132 : decode cX12_putFrom 132 = .ok (.dup, 1) := by decide +kernel
theorem dX12_putFrom_133 : decode cX12_putFrom 133 = .ok (.getfield 276, 3) := by decide +kernel
theorem dX12_putFrom_136 : decode cX12_putFrom 136 = .ok (.iconst 1, 1) := by decide +kernel
theorem dX12_putFrom_137 : decode cX12_putFrom 137 = .ok (.isub, 1) := by decide +kernel
theorem dX12_putFrom_138 : decode cX12_putFrom 138 = .ok (.putfield 276, 3) := by decide +kernel
theorem dX12_putFrom_141 : decode cX12_putFrom 141 = .ok (.aload_n 0, 1) := by decide +kernel
theorem dX12_putFrom_142 : decode cX12_putFrom 142 = .ok (.getfield 28, 3) := by decide +kernel
theorem dX12_putFrom_145 : decode cX12_putFrom 145 = .ok (.iload 4, 2) := by decide +kernel
theorem dX12_putFrom_147 : decode cX12_putFrom 147 = .ok (.iload_n 1, 1) := by decide +kernel
theorem dX12_putFrom_148 : decode cX12_putFrom 148 = .ok (.iastore, 1) := by decide +kernel
theorem dX12_putFrom_149 : decode cX12_putFrom 149 = .ok (.aload_n 0, 1) := by decide +kernel
theorem dX12_putFrom_150 : decode cX12_putFrom 150 = .ok (.getfield 40, 3) := by decide +kernel
theorem dX12_putFrom_153 : decode cX12_putFrom 153 = .ok (.iload_n 1, 1) := by decide +kernel
theorem dX12_putFrom_154 : decode cX12_putFrom 154 = .ok (.iload 4, 2) := by decide +kernel
theorem dX12_putFrom_156 : decode cX12_putFrom 156 = .ok (.iastore, 1) := by decide +kernel
theorem dX12_putFrom_157 : decode cX12_putFrom 157 = .ok (.aload_n 0, 1) := by decide +kernel
theorem dX12_putFrom_158 : decode cX12_putFrom 158 = .ok (.iload_n 1, 1) := by decide +kernel
theorem dX12_putFrom_159 : decode cX12_putFrom 159 = .ok (.iconst 1, 1) := by decide +kernel
theorem dX12_putFrom_160 : decode cX12_putFrom 160 = .ok (.iadd, 1) := by decide +kernel
theorem dX12_putFrom_161 : decode cX12_putFrom 161 = .ok (.iload_n 2, 1) := by decide +kernel
theorem dX12_putFrom_162 : decode cX12_putFrom 162 = .ok (.aload_n 0, 1) := by decide +kernel
theorem dX12_putFrom_163 : decode cX12_putFrom 163 = .ok (.getfield 9, 3) := by decide +kernel
theorem dX12_putFrom_166 : decode cX12_putFrom 166 = .ok (.iload 4, 2) := by decide +kernel
theorem dX12_putFrom_168 : decode cX12_putFrom 168 = .ok (.bipush 6, 2) := by decide +kernel
theorem dX12_putFrom_170 : decode cX12_putFrom 170 = .ok (.invokestatic 61, 3) := by decide +kernel
theorem dX12_putFrom_173 : decode cX12_putFrom 173 = .ok (.iaload, 1) := by decide +kernel
theorem dX12_putFrom_174 : decode cX12_putFrom 174 = .ok (.aload_n 0, 1) := by decide +kernel
theorem dX12_putFrom_175 : decode cX12_putFrom 175 = .ok (.getfield 9, 3) := by decide +kernel
theorem dX12_putFrom_178 : decode cX12_putFrom 178 = .ok (.bipush 10, 2) := by decide +kernel
theorem dX12_putFrom_180 : decode cX12_putFrom 180 = .ok (.iload_n 1, 1) := by decide +kernel
theorem dX12_putFrom_181 : decode cX12_putFrom 181 = .ok (.iadd, 1) := by decide +kernel
theorem dX12_putFrom_182 : decode cX12_putFrom 182 = .ok (.iaload, 1) := by decide +kernel
theorem dX12_putFrom_183 : decode cX12_putFrom 183 = .ok (.imul, 1) := by decide +kernel
theorem dX12_putFrom_184 : decode cX12_putFrom 184 = .ok (.bipush 100, 2) := by decide +kernel
theorem dX12_putFrom_186 : decode cX12_putFrom 186 = .ok (.idiv, 1) := by decide +kernel
theorem dX12_putFrom_187 : decode cX12_putFrom 187 = .ok (.iadd, 1) := by decide +kernel
theorem dX12_putFrom_188 : decode cX12_putFrom 188 = .ok (.iload_n 3, 1) := by decide +kernel
theorem dX12_putFrom_189 : decode cX12_putFrom 189 = .ok (.iconst 1, 1) := by decide +kernel
theorem dX12_putFrom_190 : decode cX12_putFrom 190 = .ok (.iadd, 1) := by decide +kernel
theorem dX12_putFrom_191 : decode cX12_putFrom 191 = .ok (.invokevirtual 262, 3) := by decide +kernel
theorem dX12_putFrom_194 : decode cX12_putFrom 194 = .ok (.aload_n 0, 1) := by decide +kernel
theorem dX12_putFrom_195 : decode cX12_putFrom 195 = .ok (.getfield 40, 3) := by decide +kernel
theorem dX12_putFrom_198 : decode cX12_putFrom 198 = .ok (.iload_n 1, 1) := by decide +kernel
theorem dX12_putFrom_199 : decode cX12_putFrom 199 = .ok (.iconst (-1), 1) := by decide +kernel
theorem dX12_putFrom_200 : decode cX12_putFrom 200 = .ok (.iastore, 1) := by decide +kernel
theorem dX12_putFrom_201 : decode cX12_putFrom 201 = .ok (.aload_n 0, 1) := by decide +kernel
theorem dX12_putFrom_202 : decode cX12_putFrom 202 = .ok (.getfield 28, 3) := by decide +kernel
theorem dX12_putFrom_205 : decode cX12_putFrom 205 = .ok (.iload 4, 2) := by decide +kernel
theorem dX12_putFrom_207 : decode cX12_putFrom 207 = .ok (.iconst (-1), 1) := by decide +kernel
theorem dX12_putFrom_208 : decode cX12_putFrom 208 = .ok (.iastore, 1) := by decide +kernel
theorem dX12_putFrom_209 : decode cX12_putFrom 209 = .ok (.iinc 4 1, 3) := by decide +kernel
theorem dX12_putFrom_212 : decode cX12_putFrom 212 = .ok (.goto (-129), 3) := by decide +kernel
theorem dX12_putFrom_215 : decode cX12_putFrom 215 = .ok (.return_, 1) := by decide +kernel
theorem dX12_isTaken_0 : decode cX12_isTaken 0 = .ok (.aload_n 0, 1) := by decide +kernel
theorem dX12_isTaken_1 : decode cX12_isTaken 1 = .ok (.iload_n 1, 1) := by decide +kernel
theorem dX12_isTaken_2 : decode cX12_isTaken 2 = .ok (.invokevirtual 76, 3) := by decide +kernel
theorem dX12_isTaken_5 : decode cX12_isTaken 5 = .ok (.ifCond .lt 7, 3) := by decide +kernel
theorem dX12_isTaken_8 : decode cX12_isTaken 8 = .ok (.iconst 1, 1) := by decide +kernel
theorem dX12_isTaken_9 : decode cX12_isTaken 9 = .ok (.goto 4, 3) := by decide +kernel
theorem dX12_isTaken_12 : decode cX12_isTaken 12 = .ok (.iconst 0, 1) := by decide +kernel
theorem dX12_isTaken_13 : decode cX12_isTaken 13 = .ok (.ireturn, 1) := by decide +kernel
theorem dX12_findMix_0 : decode cX12_findMix 0 = .ok (.aload_n 0, 1) := by decide +kernel
theorem dX12_findMix_1 : decode cX12_findMix 1 = .ok (.aload_n 0, 1) := by decide +kernel
theorem dX12_findMix_2 : decode cX12_findMix 2 = .ok (.getfield 9, 3) := by decide +kernel
theorem dX12_findMix_5 : decode cX12_findMix 5 = .ok (.iconst 0, 1) := by decide +kernel
theorem dX12_findMix_6 : decode cX12_findMix 6 = .ok (.iaload, 1) := by decide +kernel
theorem dX12_findMix_7 : decode cX12_findMix 7 = .ok (.invokevirtual 72, 3) := by decide +kernel
theorem dX12_findMix_10 : decode cX12_findMix 10 = .ok (.iconst 0, 1) := by decide +kernel
theorem dX12_findMix_11 : decode cX12_findMix 11 = .ok (.istore_n 2, 1) := by decide +kernel
theorem dX12_findMix_12 : decode cX12_findMix 12 = .ok (.iload_n 2, 1) := by decide +kernel
theorem dX12_findMix_13 : decode cX12_findMix 13 = .ok (.bipush 12, 2) := by decide +kernel
theorem dX12_findMix_15 : decode cX12_findMix 15 = .ok (.if_icmp .ge 16, 3) := by decide +kernel
theorem dX12_findMix_18 : decode cX12_findMix 18 = .ok (.aload_n 0, 1) := by decide +kernel
theorem dX12_findMix_19 : decode cX12_findMix 19 = .ok (.getfield 40, 3) := by decide +kernel
theorem dX12_findMix_22 : decode cX12_findMix 22 = .ok (.iload_n 2, 1) := by decide +kernel
theorem dX12_findMix_23 : decode cX12_findMix 23 = .ok (.iconst (-1), 1) := by decide +kernel
theorem dX12_findMix_24 : decode cX12_findMix 24 = .ok (.iastore, 1) := by decide +kernel
theorem dX12_findMix_25 : decode cX12_findMix 25 = .ok (.iinc 2 1, 3) := by decide +kernel
theorem dX12_findMix_28 : decode cX12_findMix 28 = .ok (.goto (-16), 3) := by decide +kernel
theorem dX12_findMix_31 : decode cX12_findMix 31 = .ok (.aload_n 0, 1) := by decide +kernel
theorem dX12_findMix_32 : decode cX12_findMix 32 = .ok (.iconst (-1), 1) := by decide +kernel
theorem dX12_findMix_33 : decode cX12_findMix 33 = .ok (.putfield 256, 3) := by decide +kernel
theorem dX12_findMix_36 : decode cX12_findMix 36 = .ok (.aload_n 0, 1) := by decide +kernel
theorem dX12_findMix_37 : decode cX12_findMix 37 = .ok (.iconst 0, 1) := by decide +kernel
theorem dX12_findMix_38 : decode cX12_findMix 38 = .ok (.putfield 259, 3) := by decide +kernel
theorem dX12_findMix_41 : decode cX12_findMix 41 = .ok (.aload_n 0, 1) := by decide +kernel
theorem dX12_findMix_42 : decode cX12_findMix 42 = .ok (.iload_n 1, 1) := by decide +kernel
theorem dX12_findMix_43 : decode cX12_findMix 43 = .ok (.putfield 276, 3) := by decide +kernel
theorem dX12_findMix_46 : decode cX12_findMix 46 = .ok (.aload_n 0, 1) := by decide +kernel
theorem dX12_findMix_47 : decode cX12_findMix 47 = .ok (.iconst 0, 1) := by decide +kernel
theorem dX12_findMix_48 : decode cX12_findMix 48 = .ok (.putfield 269, 3) := by decide +kernel
theorem dX12_findMix_51 : decode cX12_findMix 51 = .ok (.aload_n 0, 1) := by decide +kernel
theorem dX12_findMix_52 : decode cX12_findMix 52 = .ok (.iconst 0, 1) := by decide +kernel
theorem dX12_findMix_53 : decode cX12_findMix 53 = .ok (.iconst 0, 1) := by decide +kernel
theorem dX12_findMix_54 : decode cX12_findMix 54 = .ok (.iconst 0, 1) := by decide +kernel
theorem dX12_findMix_55 : decode cX12_findMix 55 = .ok (.invokevirtual 262, 3) := by decide +kernel
theorem dX12_findMix_58 : decode cX12_findMix 58 = .ok (.aload_n 0, 1) := by decide +kernel
theorem dX12_findMix_59 : decode cX12_findMix 59 = .ok (.getfield 269, 3) := by decide +kernel
theorem dX12_findMix_62 : decode cX12_findMix 62 = .ok (.ifCond .eq 9, 3) := by decide +kernel
theorem dX12_findMix_65 : decode cX12_findMix 65 = .ok (.ldc_w 279, 3) := by decide +kernel
theorem dX12_findMix_68 : decode cX12_findMix 68 = .ok (.goto 4, 3) := by decide +kernel
theorem dX12_findMix_71 : decode cX12_findMix 71 = .ok (.iconst 0, 1) := by decide +kernel
theorem dX12_findMix_72 : decode cX12_findMix 72 = .ok (.ireturn, 1) := by decide +kernel
theorem dX12_mix_0 : decode cX12_mix 0 = .ok (.iload_n 1, 1) := by decide +kernel
theorem dX12_mix_1 : decode cX12_mix 1 = .ok (.iconst 1, 1) := by decide +kernel
theorem dX12_mix_2 : decode cX12_mix 2 = .ok (.ldc_w 280, 3) := by decide +kernel
theorem dX12_mix_5 : decode cX12_mix 5 = .ok (.invokestatic 49, 3) := by decide +kernel
theorem dX12_mix_8 : decode cX12_mix 8 = .ok (.ifCond .ne 6, 3) := by decide +kernel
theorem dX12_mix_11 : decode cX12_mix 11 = .ok (.ldc 57, 2) := by decide +kernel
theorem dX12_mix_13 : decode cX12_mix 13 = .ok (.ireturn, 1) := by decide +kernel
theorem dX12_mix_14 : decode cX12_mix 14 = .ok (.aload_n 0, 1) := by decide +kernel
theorem dX12_mix_15 : decode cX12_mix 15 = .ok (.iload_n 1, 1) := by decide +kernel
theorem dX12_mix_16 : decode cX12_mix 16 = .ok (.invokevirtual 281, 3) := by decide +kernel
theorem dX12_mix_19 : decode cX12_mix 19 = .ok (.istore_n 2, 1) := by decide +kernel
theorem dX12_mix_20 : decode cX12_mix 20 = .ok (.iload_n 2, 1) := by decide +kernel
theorem dX12_mix_21 : decode cX12_mix 21 = .ok (.ifCond .eq 7, 3) := by decide +kernel
theorem dX12_mix_24 : decode cX12_mix 24 = .ok (.iload_n 2, 1) := by decide +kernel
theorem dX12_mix_25 : decode cX12_mix 25 = .ok (.goto 7, 3) := by decide +kernel
theorem dX12_mix_28 : decode cX12_mix 28 = .ok (.aload_n 0, 1) := by decide +kernel
theorem dX12_mix_29 : decode cX12_mix 29 = .ok (.getfield 256, 3) := by decide +kernel
theorem dX12_mix_32 : decode cX12_mix 32 = .ok (.ireturn, 1) := by decide +kernel
theorem dX12_mixed_0 : decode cX12_mixed 0 = .ok (.iload_n 1, 1) := by decide +kernel
theorem dX12_mixed_1 : decode cX12_mixed 1 = .ok (.iconst 1, 1) := by decide +kernel
theorem dX12_mixed_2 : decode cX12_mixed 2 = .ok (.ldc_w 280, 3) := by decide +kernel
theorem dX12_mixed_5 : decode cX12_mixed 5 = .ok (.invokestatic 49, 3) := by decide +kernel
theorem dX12_mixed_8 : decode cX12_mixed 8 = .ok (.ifCond .eq 10, 3) := by decide +kernel
theorem dX12_mixed_11 : decode cX12_mixed 11 = .ok (.iload_n 2, 1) := by decide +kernel
theorem dX12_mixed_12 : decode cX12_mixed 12 = .ok (.invokestatic 53, 3) := by decide +kernel
theorem dX12_mixed_15 : decode cX12_mixed 15 = .ok (.ifCond .ne 6, 3) := by decide +kernel
theorem dX12_mixed_18 : decode cX12_mixed 18 = .ok (.ldc 57, 2) := by decide +kernel
theorem dX12_mixed_20 : decode cX12_mixed 20 = .ok (.ireturn, 1) := by decide +kernel
theorem dX12_mixed_21 : decode cX12_mixed 21 = .ok (.aload_n 0, 1) := by decide +kernel
theorem dX12_mixed_22 : decode cX12_mixed 22 = .ok (.iload_n 1, 1) := by decide +kernel
theorem dX12_mixed_23 : decode cX12_mixed 23 = .ok (.invokevirtual 281, 3) := by decide +kernel
theorem dX12_mixed_26 : decode cX12_mixed 26 = .ok (.istore_n 3, 1) := by decide +kernel
theorem dX12_mixed_27 : decode cX12_mixed 27 = .ok (.iload_n 3, 1) := by decide +kernel
theorem dX12_mixed_28 : decode cX12_mixed 28 = .ok (.ifCond .eq 7, 3) := by decide +kernel
theorem dX12_mixed_31 : decode cX12_mixed 31 = .ok (.iload_n 3, 1) := by decide +kernel
theorem dX12_mixed_32 : decode cX12_mixed 32 = .ok (.goto 23, 3) := by decide +kernel
theorem dX12_mixed_35 : decode cX12_mixed 35 = .ok (.aload_n 0, 1) := by decide +kernel
theorem dX12_mixed_36 : decode cX12_mixed 36 = .ok (.getfield 43, 3) := by decide +kernel
theorem dX12_mixed_39 : decode cX12_mixed 39 = .ok (.iload_n 2, 1) := by decide +kernel
theorem dX12_mixed_40 : decode cX12_mixed 40 = .ok (.iaload, 1) := by decide +kernel
theorem dX12_mixed_41 : decode cX12_mixed 41 = .ok (.ifCond .ge 8, 3) := by decide +kernel
theorem dX12_mixed_44 : decode cX12_mixed 44 = .ok (.ldc 71, 2) := by decide +kernel
theorem dX12_mixed_46 : decode cX12_mixed 46 = .ok (.goto 9, 3) := by decide +kernel
theorem dX12_mixed_49 : decode cX12_mixed 49 = .ok (.aload_n 0, 1) := by decide +kernel
theorem dX12_mixed_50 : decode cX12_mixed 50 = .ok (.getfield 43, 3) := by decide +kernel
theorem dX12_mixed_53 : decode cX12_mixed 53 = .ok (.iload_n 2, 1) := by decide +kernel
theorem dX12_mixed_54 : decode cX12_mixed 54 = .ok (.iaload, 1) := by decide +kernel
theorem dX12_mixed_55 : decode cX12_mixed 55 = .ok (.ireturn, 1) := by decide +kernel
theorem dX12_tell_0 : decode cX12_tell 0 = .ok (.aload_n 0, 1) := by decide +kernel
theorem dX12_tell_1 : decode cX12_tell 1 = .ok (.getfield 284, 3) := by decide +kernel
theorem dX12_tell_4 : decode cX12_tell 4 = .ok (.bipush 24, 2) := by decide +kernel
theorem dX12_tell_6 : decode cX12_tell 6 = .ok (.if_icmp .ne 6, 3) := by decide +kernel
theorem dX12_tell_9 : decode cX12_tell 9 = .ok (.ldc 59, 2) := by decide +kernel
theorem dX12_tell_11 : decode cX12_tell 11 = .ok (.ireturn, 1) := by decide +kernel
theorem dX12_tell_12 : decode cX12_tell 12 = .ok (.aload_n 0, 1) := by decide +kernel
theorem dX12_tell_13 : decode cX12_tell 13 = .ok (.getfield 19, 3) := by decide +kernel
theorem dX12_tell_16 : decode cX12_tell 16 = .ok (.aload_n 0, 1) := by decide +kernel
theorem dX12_tell_17 : decode cX12_tell 17 = .ok (.getfield 284, 3) := by decide +kernel
theorem dX12_tell_20 : decode cX12_tell 20 = .ok (.iload_n 1, 1) := by decide +kernel
theorem dX12_tell_21 : decode cX12_tell 21 = .ok (.iastore, 1) := by decide +kernel
theorem dX12_tell_22 : decode cX12_tell 22 = .ok (.aload_n 0, 1) := by decide +kernel
theorem dX12_tell_23 : decode cX12_tell 23 = .ok (.dup, 1) := by decide +kernel
theorem dX12_tell_24 : decode cX12_tell 24 = .ok (.getfield 284, 3) := by decide +kernel
theorem dX12_tell_27 : decode cX12_tell 27 = .ok (.iconst 1, 1) := by decide +kernel
theorem dX12_tell_28 : decode cX12_tell 28 = .ok (.iadd, 1) := by decide +kernel
theorem dX12_tell_29 : decode cX12_tell 29 = .ok (.putfield 284, 3) := by decide +kernel
theorem dX12_tell_32 : decode cX12_tell 32 = .ok (.aload_n 0, 1) := by decide +kernel
theorem dX12_tell_33 : decode cX12_tell 33 = .ok (.getfield 284, 3) := by decide +kernel
theorem dX12_tell_36 : decode cX12_tell 36 = .ok (.ireturn, 1) := by decide +kernel
theorem dX12_check_0 : decode cX12_check 0 = .ok (.aload_n 0, 1) := by decide +kernel
theorem dX12_check_1 : decode cX12_check 1 = .ok (.getfield 284, 3) := by decide +kernel
theorem dX12_check_4 : decode cX12_check 4 = .ok (.istore_n 1, 1) := by decide +kernel
theorem dX12_check_5 : decode cX12_check 5 = .ok (.aload_n 0, 1) := by decide +kernel
theorem dX12_check_6 : decode cX12_check 6 = .ok (.iconst 0, 1) := by decide +kernel
theorem dX12_check_7 : decode cX12_check 7 = .ok (.putfield 284, 3) := by decide +kernel
theorem dX12_check_10 : decode cX12_check 10 = .ok (.aload_n 0, 1) := by decide +kernel
theorem dX12_check_11 : decode cX12_check 11 = .ok (.ldc_w 280, 3) := by decide +kernel
theorem dX12_check_14 : decode cX12_check 14 = .ok (.invokevirtual 281, 3) := by decide +kernel
theorem dX12_check_17 : decode cX12_check 17 = .ok (.istore_n 2, 1) := by decide +kernel
theorem dX12_check_18 : decode cX12_check 18 = .ok (.iload_n 2, 1) := by decide +kernel
theorem dX12_check_19 : decode cX12_check 19 = .ok (.ifCond .eq 5, 3) := by decide +kernel
theorem dX12_check_22 : decode cX12_check 22 = .ok (.iload_n 2, 1) := by decide +kernel
theorem dX12_check_23 : decode cX12_check 23 = .ok (.ireturn, 1) := by decide +kernel
theorem dX12_check_24 : decode cX12_check 24 = .ok (.iconst 0, 1) := by decide +kernel
theorem dX12_check_25 : decode cX12_check 25 = .ok (.istore_n 3, 1) := by decide +kernel
theorem dX12_check_26 : decode cX12_check 26 = .ok (.iconst 0, 1) := by decide +kernel
theorem dX12_check_27 : decode cX12_check 27 = .ok (.istore 4, 2) := by decide +kernel
theorem dX12_check_29 : decode cX12_check 29 = .ok (.iload 4, 2) := by decide +kernel
theorem dX12_check_31 : decode cX12_check 31 = .ok (.bipush 12, 2) := by decide +kernel
theorem dX12_check_33 : decode cX12_check 33 = .ok (.if_icmp .ge 72, 3) := by decide +kernel
theorem dX12_check_36 : decode cX12_check 36 = .ok (.iconst 0, 1) := by decide +kernel
theorem dX12_check_37 : decode cX12_check 37 = .ok (.istore 5, 2) := by decide +kernel
theorem dX12_check_39 : decode cX12_check 39 = .ok (.iload 5, 2) := by decide +kernel
theorem dX12_check_41 : decode cX12_check 41 = .ok (.iconst 2, 1) := by decide +kernel
theorem dX12_check_42 : decode cX12_check 42 = .ok (.if_icmp .ge 57, 3) := by decide +kernel
theorem dX12_check_45 : decode cX12_check 45 = .ok (.aload_n 0, 1) := by decide +kernel
theorem dX12_check_46 : decode cX12_check 46 = .ok (.getfield 43, 3) := by decide +kernel
theorem dX12_check_49 : decode cX12_check 49 = .ok (.iload 4, 2) := by decide +kernel
theorem dX12_check_51 : decode cX12_check 51 = .ok (.iaload, 1) := by decide +kernel
theorem dX12_check_52 : decode cX12_check 52 = .ok (.ifCond .lt 47, 3) := by decide +kernel
theorem dX12_check_55 : decode cX12_check 55 = .ok (.iload_n 3, 1) := by decide +kernel
theorem dX12_check_56 : decode cX12_check 56 = .ok (.iload_n 1, 1) := by decide +kernel
theorem dX12_check_57 : decode cX12_check 57 = .ok (.if_icmp .eq 29, 3) := by decide +kernel
theorem dX12_check_60 : decode cX12_check 60 = .ok (.aload_n 0, 1) := by decide +kernel
theorem dX12_check_61 : decode cX12_check 61 = .ok (.getfield 19, 3) := by decide +kernel
theorem dX12_check_64 : decode cX12_check 64 = .ok (.iload_n 3, 1) := by decide +kernel
theorem dX12_check_65 : decode cX12_check 65 = .ok (.iaload, 1) := by decide +kernel
theorem dX12_check_66 : decode cX12_check 66 = .ok (.iload 5, 2) := by decide +kernel
theorem dX12_check_68 : decode cX12_check 68 = .ok (.ifCond .ne 8, 3) := by decide +kernel
theorem dX12_check_71 : decode cX12_check 71 = .ok (.iload 4, 2) := by decide +kernel
theorem dX12_check_73 : decode cX12_check 73 = .ok (.goto 10, 3) := by decide +kernel
theorem dX12_check_76 : decode cX12_check 76 = .ok (.aload_n 0, 1) := by decide +kernel
theorem dX12_check_77 : decode cX12_check 77 = .ok (.getfield 43, 3) := by decide +kernel
theorem dX12_check_80 : decode cX12_check 80 = .ok (.iload 4, 2) := by decide +kernel
theorem dX12_check_82 : decode cX12_check 82 = .ok (.iaload, 1) := by decide +kernel
theorem dX12_check_83 : decode cX12_check 83 = .ok (.if_icmp .eq 7, 3) := by decide +kernel
theorem dX12_check_86 : decode cX12_check 86 = .ok (.iconst 1, 1) := by decide +kernel
theorem dX12_check_87 : decode cX12_check 87 = .ok (.iload_n 3, 1) := by decide +kernel
theorem dX12_check_88 : decode cX12_check 88 = .ok (.iadd, 1) := by decide +kernel
theorem dX12_check_89 : decode cX12_check 89 = .ok (.ireturn, 1) := by decide +kernel
theorem dX12_check_90 : decode cX12_check 90 = .ok (.iinc 3 1, 3) := by decide +kernel
theorem dX12_check_93 : decode cX12_check 93 = .ok (.iinc 5 1, 3) := by decide +kernel
theorem dX12_check_96 : decode cX12_check 96 = .ok (.goto (-57), 3) := by decide +kernel
theorem dX12_check_99 : decode cX12_check 99 = .ok (.iinc 4 1, 3) := by decide +kernel
theorem dX12_check_102 : decode cX12_check 102 = .ok (.goto (-73), 3) := by decide +kernel
theorem dX12_check_105 : decode cX12_check 105 = .ok (.iload_n 3, 1) := by decide +kernel
theorem dX12_check_106 : decode cX12_check 106 = .ok (.iload_n 1, 1) := by decide +kernel
theorem dX12_check_107 : decode cX12_check 107 = .ok (.if_icmp .ge 9, 3) := by decide +kernel
theorem dX12_check_110 : decode cX12_check 110 = .ok (.iconst 1, 1) := by decide +kernel
theorem dX12_check_111 : decode cX12_check 111 = .ok (.iload_n 3, 1) := by decide +kernel
theorem dX12_check_112 : decode cX12_check 112 = .ok (.iadd, 1) := by decide +kernel
theorem dX12_check_113 : decode cX12_check 113 = .ok (.goto 4, 3) := by decide +kernel
theorem dX12_check_116 : decode cX12_check 116 = .ok (.iconst 0, 1) := by decide +kernel
theorem dX12_check_117 : decode cX12_check 117 = .ok (.ireturn, 1) := by decide +kernel
theorem dX12_keep_0 : decode cX12_keep 0 = .ok (.iconst 0, 1) := by decide +kernel
theorem dX12_keep_1 : decode cX12_keep 1 = .ok (.istore_n 1, 1) := by decide +kernel
theorem dX12_keep_2 : decode cX12_keep 2 = .ok (.iload_n 1, 1) := by decide +kernel
theorem dX12_keep_3 : decode cX12_keep 3 = .ok (.sipush 2220, 3) := by decide +kernel
theorem dX12_keep_6 : decode cX12_keep 6 = .ok (.if_icmp .ge 21, 3) := by decide +kernel
theorem dX12_keep_9 : decode cX12_keep 9 = .ok (.aload_n 0, 1) := by decide +kernel
theorem dX12_keep_10 : decode cX12_keep 10 = .ok (.getfield 13, 3) := by decide +kernel
theorem dX12_keep_13 : decode cX12_keep 13 = .ok (.iload_n 1, 1) := by decide +kernel
theorem dX12_keep_14 : decode cX12_keep 14 = .ok (.aload_n 0, 1) := by decide +kernel
theorem dX12_keep_15 : decode cX12_keep 15 = .ok (.getfield 9, 3) := by decide +kernel
theorem dX12_keep_18 : decode cX12_keep 18 = .ok (.iload_n 1, 1) := by decide +kernel
theorem dX12_keep_19 : decode cX12_keep 19 = .ok (.iaload, 1) := by decide +kernel
theorem dX12_keep_20 : decode cX12_keep 20 = .ok (.iastore, 1) := by decide +kernel
theorem dX12_keep_21 : decode cX12_keep 21 = .ok (.iinc 1 1, 3) := by decide +kernel
theorem dX12_keep_24 : decode cX12_keep 24 = .ok (.goto (-22), 3) := by decide +kernel
theorem dX12_keep_27 : decode cX12_keep 27 = .ok (.aload_n 0, 1) := by decide +kernel
theorem dX12_keep_28 : decode cX12_keep 28 = .ok (.iconst 1, 1) := by decide +kernel
theorem dX12_keep_29 : decode cX12_keep 29 = .ok (.putfield 287, 3) := by decide +kernel
theorem dX12_keep_32 : decode cX12_keep 32 = .ok (.aload_n 0, 1) := by decide +kernel
theorem dX12_keep_33 : decode cX12_keep 33 = .ok (.getfield 9, 3) := by decide +kernel
theorem dX12_keep_36 : decode cX12_keep 36 = .ok (.iconst 0, 1) := by decide +kernel
theorem dX12_keep_37 : decode cX12_keep 37 = .ok (.iaload, 1) := by decide +kernel
theorem dX12_keep_38 : decode cX12_keep 38 = .ok (.ireturn, 1) := by decide +kernel
theorem dX12_back_0 : decode cX12_back 0 = .ok (.aload_n 0, 1) := by decide +kernel
theorem dX12_back_1 : decode cX12_back 1 = .ok (.getfield 287, 3) := by decide +kernel
theorem dX12_back_4 : decode cX12_back 4 = .ok (.ifCond .ne 6, 3) := by decide +kernel
theorem dX12_back_7 : decode cX12_back 7 = .ok (.ldc 80, 2) := by decide +kernel
theorem dX12_back_9 : decode cX12_back 9 = .ok (.ireturn, 1) := by decide +kernel
theorem dX12_back_10 : decode cX12_back 10 = .ok (.iconst 0, 1) := by decide +kernel
theorem dX12_back_11 : decode cX12_back 11 = .ok (.istore_n 1, 1) := by decide +kernel
theorem dX12_back_12 : decode cX12_back 12 = .ok (.iload_n 1, 1) := by decide +kernel
theorem dX12_back_13 : decode cX12_back 13 = .ok (.sipush 2220, 3) := by decide +kernel
theorem dX12_back_16 : decode cX12_back 16 = .ok (.if_icmp .ge 21, 3) := by decide +kernel
theorem dX12_back_19 : decode cX12_back 19 = .ok (.aload_n 0, 1) := by decide +kernel
theorem dX12_back_20 : decode cX12_back 20 = .ok (.getfield 9, 3) := by decide +kernel
theorem dX12_back_23 : decode cX12_back 23 = .ok (.iload_n 1, 1) := by decide +kernel
theorem dX12_back_24 : decode cX12_back 24 = .ok (.aload_n 0, 1) := by decide +kernel
theorem dX12_back_25 : decode cX12_back 25 = .ok (.getfield 13, 3) := by decide +kernel
theorem dX12_back_28 : decode cX12_back 28 = .ok (.iload_n 1, 1) := by decide +kernel
theorem dX12_back_29 : decode cX12_back 29 = .ok (.iaload, 1) := by decide +kernel
theorem dX12_back_30 : decode cX12_back 30 = .ok (.iastore, 1) := by decide +kernel
theorem dX12_back_31 : decode cX12_back 31 = .ok (.iinc 1 1, 3) := by decide +kernel
theorem dX12_back_34 : decode cX12_back 34 = .ok (.goto (-22), 3) := by decide +kernel
theorem dX12_back_37 : decode cX12_back 37 = .ok (.aload_n 0, 1) := by decide +kernel
theorem dX12_back_38 : decode cX12_back 38 = .ok (.getfield 9, 3) := by decide +kernel
theorem dX12_back_41 : decode cX12_back 41 = .ok (.iconst 0, 1) := by decide +kernel
theorem dX12_back_42 : decode cX12_back 42 = .ok (.iaload, 1) := by decide +kernel
theorem dX12_back_43 : decode cX12_back 43 = .ok (.ireturn, 1) := by decide +kernel
theorem dX12_sheet_0 : decode cX12_sheet 0 = .ok (.iload_n 1, 1) := by decide +kernel
theorem dX12_sheet_1 : decode cX12_sheet 1 = .ok (.iconst 0, 1) := by decide +kernel
theorem dX12_sheet_2 : decode cX12_sheet 2 = .ok (.iconst 1, 1) := by decide +kernel
theorem dX12_sheet_3 : decode cX12_sheet 3 = .ok (.invokestatic 49, 3) := by decide +kernel
theorem dX12_sheet_6 : decode cX12_sheet 6 = .ok (.ifCond .eq 9, 3) := by decide +kernel
theorem dX12_sheet_9 : decode cX12_sheet 9 = .ok (.iload_n 2, 1) := by decide +kernel
theorem dX12_sheet_10 : decode cX12_sheet 10 = .ok (.bipush 16, 2) := by decide +kernel
theorem dX12_sheet_12 : decode cX12_sheet 12 = .ok (.if_icmp .le 6, 3) := by decide +kernel
theorem dX12_sheet_15 : decode cX12_sheet 15 = .ok (.ldc 57, 2) := by decide +kernel
theorem dX12_sheet_17 : decode cX12_sheet 17 = .ok (.ireturn, 1) := by decide +kernel
theorem dX12_sheet_18 : decode cX12_sheet 18 = .ok (.iload_n 2, 1) := by decide +kernel
theorem dX12_sheet_19 : decode cX12_sheet 19 = .ok (.ifCond .ge 7, 3) := by decide +kernel
theorem dX12_sheet_22 : decode cX12_sheet 22 = .ok (.ldc_w 290, 3) := by decide +kernel
theorem dX12_sheet_25 : decode cX12_sheet 25 = .ok (.ireturn, 1) := by decide +kernel
theorem dX12_sheet_26 : decode cX12_sheet 26 = .ok (.aload_n 0, 1) := by decide +kernel
theorem dX12_sheet_27 : decode cX12_sheet 27 = .ok (.getfield 22, 3) := by decide +kernel
theorem dX12_sheet_30 : decode cX12_sheet 30 = .ok (.iload_n 1, 1) := by decide +kernel
theorem dX12_sheet_31 : decode cX12_sheet 31 = .ok (.iload_n 2, 1) := by decide +kernel
theorem dX12_sheet_32 : decode cX12_sheet 32 = .ok (.iastore, 1) := by decide +kernel
theorem dX12_sheet_33 : decode cX12_sheet 33 = .ok (.iconst 0, 1) := by decide +kernel
theorem dX12_sheet_34 : decode cX12_sheet 34 = .ok (.istore_n 3, 1) := by decide +kernel
theorem dX12_sheet_35 : decode cX12_sheet 35 = .ok (.iload_n 3, 1) := by decide +kernel
theorem dX12_sheet_36 : decode cX12_sheet 36 = .ok (.bipush 16, 2) := by decide +kernel
theorem dX12_sheet_38 : decode cX12_sheet 38 = .ok (.if_icmp .ge 21, 3) := by decide +kernel
theorem dX12_sheet_41 : decode cX12_sheet 41 = .ok (.aload_n 0, 1) := by decide +kernel
theorem dX12_sheet_42 : decode cX12_sheet 42 = .ok (.getfield 25, 3) := by decide +kernel
theorem dX12_sheet_45 : decode cX12_sheet 45 = .ok (.bipush 16, 2) := by decide +kernel
theorem dX12_sheet_47 : decode cX12_sheet 47 = .ok (.iload_n 1, 1) := by decide +kernel
theorem dX12_sheet_48 : decode cX12_sheet 48 = .ok (.imul, 1) := by decide +kernel
theorem dX12_sheet_49 : decode cX12_sheet 49 = .ok (.iload_n 3, 1) := by decide +kernel
theorem dX12_sheet_50 : decode cX12_sheet 50 = .ok (.iadd, 1) := by decide +kernel
theorem dX12_sheet_51 : decode cX12_sheet 51 = .ok (.iconst 0, 1) := by decide +kernel
theorem dX12_sheet_52 : decode cX12_sheet 52 = .ok (.iastore, 1) := by decide +kernel
theorem dX12_sheet_53 : decode cX12_sheet 53 = .ok (.iinc 3 1, 3) := by decide +kernel
theorem dX12_sheet_56 : decode cX12_sheet 56 = .ok (.goto (-21), 3) := by decide +kernel
theorem dX12_sheet_59 : decode cX12_sheet 59 = .ok (.iload_n 2, 1) := by decide +kernel
theorem dX12_sheet_60 : decode cX12_sheet 60 = .ok (.ireturn, 1) := by decide +kernel
theorem dX12_mark_0 : decode cX12_mark 0 = .ok (.iload_n 1, 1) := by decide +kernel
theorem dX12_mark_1 : decode cX12_mark 1 = .ok (.iconst 0, 1) := by decide +kernel
theorem dX12_mark_2 : decode cX12_mark 2 = .ok (.iconst 1, 1) := by decide +kernel
theorem dX12_mark_3 : decode cX12_mark 3 = .ok (.invokestatic 49, 3) := by decide +kernel
theorem dX12_mark_6 : decode cX12_mark 6 = .ok (.ifCond .ne 6, 3) := by decide +kernel
theorem dX12_mark_9 : decode cX12_mark 9 = .ok (.ldc 57, 2) := by decide +kernel
theorem dX12_mark_11 : decode cX12_mark 11 = .ok (.ireturn, 1) := by decide +kernel
theorem dX12_mark_12 : decode cX12_mark 12 = .ok (.aload_n 0, 1) := by decide +kernel
theorem dX12_mark_13 : decode cX12_mark 13 = .ok (.getfield 22, 3) := by decide +kernel
theorem dX12_mark_16 : decode cX12_mark 16 = .ok (.iload_n 1, 1) := by decide +kernel
theorem dX12_mark_17 : decode cX12_mark 17 = .ok (.iaload, 1) := by decide +kernel
theorem dX12_mark_18 : decode cX12_mark 18 = .ok (.ifCond .ge 6, 3) := by decide +kernel
theorem dX12_mark_21 : decode cX12_mark 21 = .ok (.ldc 58, 2) := by decide +kernel
theorem dX12_mark_23 : decode cX12_mark 23 = .ok (.ireturn, 1) := by decide +kernel
theorem dX12_mark_24 : decode cX12_mark 24 = .ok (.iload_n 2, 1) := by decide +kernel
theorem dX12_mark_25 : decode cX12_mark 25 = .ok (.iconst 0, 1) := by decide +kernel
theorem dX12_mark_26 : decode cX12_mark 26 = .ok (.aload_n 0, 1) := by decide +kernel
theorem dX12_mark_27 : decode cX12_mark 27 = .ok (.getfield 22, 3) := by decide +kernel
theorem dX12_mark_30 : decode cX12_mark 30 = .ok (.iload_n 1, 1) := by decide +kernel
theorem dX12_mark_31 : decode cX12_mark 31 = .ok (.iaload, 1) := by decide +kernel
theorem dX12_mark_32 : decode cX12_mark 32 = .ok (.iconst 1, 1) := by decide +kernel
theorem dX12_mark_33 : decode cX12_mark 33 = .ok (.isub, 1) := by decide +kernel
theorem dX12_mark_34 : decode cX12_mark 34 = .ok (.invokestatic 49, 3) := by decide +kernel
theorem dX12_mark_37 : decode cX12_mark 37 = .ok (.ifCond .ne 7, 3) := by decide +kernel
theorem dX12_mark_40 : decode cX12_mark 40 = .ok (.ldc_w 291, 3) := by decide +kernel
theorem dX12_mark_43 : decode cX12_mark 43 = .ok (.ireturn, 1) := by decide +kernel
theorem dX12_mark_44 : decode cX12_mark 44 = .ok (.aload_n 0, 1) := by decide +kernel
theorem dX12_mark_45 : decode cX12_mark 45 = .ok (.getfield 25, 3) := by decide +kernel
theorem dX12_mark_48 : decode cX12_mark 48 = .ok (.bipush 16, 2) := by decide +kernel
theorem dX12_mark_50 : decode cX12_mark 50 = .ok (.iload_n 1, 1) := by decide +kernel
theorem dX12_mark_51 : decode cX12_mark 51 = .ok (.imul, 1) := by decide +kernel
theorem dX12_mark_52 : decode cX12_mark 52 = .ok (.iload_n 2, 1) := by decide +kernel
theorem dX12_mark_53 : decode cX12_mark 53 = .ok (.iadd, 1) := by decide +kernel
theorem dX12_mark_54 : decode cX12_mark 54 = .ok (.iaload, 1) := by decide +kernel
theorem dX12_mark_55 : decode cX12_mark 55 = .ok (.istore 4, 2) := by decide +kernel
theorem dX12_mark_57 : decode cX12_mark 57 = .ok (.aload_n 0, 1) := by decide +kernel
theorem dX12_mark_58 : decode cX12_mark 58 = .ok (.getfield 25, 3) := by decide +kernel
theorem dX12_mark_61 : decode cX12_mark 61 = .ok (.bipush 16, 2) := by decide +kernel
theorem dX12_mark_63 : decode cX12_mark 63 = .ok (.iload_n 1, 1) := by decide +kernel
theorem dX12_mark_64 : decode cX12_mark 64 = .ok (.imul, 1) := by decide +kernel
theorem dX12_mark_65 : decode cX12_mark 65 = .ok (.iload_n 2, 1) := by decide +kernel
theorem dX12_mark_66 : decode cX12_mark 66 = .ok (.iadd, 1) := by decide +kernel
theorem dX12_mark_67 : decode cX12_mark 67 = .ok (.iload_n 3, 1) := by decide +kernel
theorem dX12_mark_68 : decode cX12_mark 68 = .ok (.i2s, 1) := by decide +kernel
theorem dX12_mark_69 : decode cX12_mark 69 = .ok (.iastore, 1) := by decide +kernel
theorem dX12_mark_70 : decode cX12_mark 70 = .ok (.iload 4, 2) := by decide +kernel
theorem dX12_mark_72 : decode cX12_mark 72 = .ok (.ireturn, 1) := by decide +kernel
theorem dX12_copy_0 : decode cX12_copy 0 = .ok (.iload_n 1, 1) := by decide +kernel
theorem dX12_copy_1 : decode cX12_copy 1 = .ok (.iconst 0, 1) := by decide +kernel
theorem dX12_copy_2 : decode cX12_copy 2 = .ok (.iconst 1, 1) := by decide +kernel
theorem dX12_copy_3 : decode cX12_copy 3 = .ok (.invokestatic 49, 3) := by decide +kernel
theorem dX12_copy_6 : decode cX12_copy 6 = .ok (.ifCond .eq 12, 3) := by decide +kernel
theorem dX12_copy_9 : decode cX12_copy 9 = .ok (.iload_n 3, 1) := by decide +kernel
theorem dX12_copy_10 : decode cX12_copy 10 = .ok (.iconst 0, 1) := by decide +kernel
theorem dX12_copy_11 : decode cX12_copy 11 = .ok (.iconst 1, 1) := by decide +kernel
theorem dX12_copy_12 : decode cX12_copy 12 = .ok (.invokestatic 49, 3) := by decide +kernel
theorem dX12_copy_15 : decode cX12_copy 15 = .ok (.ifCond .ne 6, 3) := by decide +kernel
theorem dX12_copy_18 : decode cX12_copy 18 = .ok (.ldc 57, 2) := by decide +kernel
theorem dX12_copy_20 : decode cX12_copy 20 = .ok (.ireturn, 1) := by decide +kernel
theorem dX12_copy_21 : decode cX12_copy 21 = .ok (.aload_n 0, 1) := by decide +kernel
theorem dX12_copy_22 : decode cX12_copy 22 = .ok (.getfield 22, 3) := by decide +kernel
theorem dX12_copy_25 : decode cX12_copy 25 = .ok (.iload_n 1, 1) := by decide +kernel
theorem dX12_copy_26 : decode cX12_copy 26 = .ok (.iaload, 1) := by decide +kernel
theorem dX12_copy_27 : decode cX12_copy 27 = .ok (.ifCond .lt 12, 3) := by decide +kernel
theorem dX12_copy_30 : decode cX12_copy 30 = .ok (.aload_n 0, 1) := by decide +kernel
theorem dX12_copy_31 : decode cX12_copy 31 = .ok (.getfield 22, 3) := by decide +kernel
theorem dX12_copy_34 : decode cX12_copy 34 = .ok (.iload_n 3, 1) := by decide +kernel
theorem dX12_copy_35 : decode cX12_copy 35 = .ok (.iaload, 1) := by decide +kernel
theorem dX12_copy_36 : decode cX12_copy 36 = .ok (.ifCond .ge 6, 3) := by decide +kernel
theorem dX12_copy_39 : decode cX12_copy 39 = .ok (.ldc 58, 2) := by decide +kernel
theorem dX12_copy_41 : decode cX12_copy 41 = .ok (.ireturn, 1) := by decide +kernel
theorem dX12_copy_42 : decode cX12_copy 42 = .ok (.iload 5, 2) := by decide +kernel
theorem dX12_copy_44 : decode cX12_copy 44 = .ok (.ifCond .lt 47, 3) := by decide +kernel
theorem dX12_copy_47 : decode cX12_copy 47 = .ok (.iload_n 2, 1) := by decide +kernel
theorem dX12_copy_48 : decode cX12_copy 48 = .ok (.ifCond .lt 43, 3) := by decide +kernel
theorem dX12_copy_51 : decode cX12_copy 51 = .ok (.iload 4, 2) := by decide +kernel
theorem dX12_copy_53 : decode cX12_copy 53 = .ok (.ifCond .lt 38, 3) := by decide +kernel
theorem dX12_copy_56 : decode cX12_copy 56 = .ok (.iload_n 2, 1) := by decide +kernel
theorem dX12_copy_57 : decode cX12_copy 57 = .ok (.i2l, 1) := by decide +kernel
theorem dX12_copy_58 : decode cX12_copy 58 = .ok (.iload 5, 2) := by decide +kernel
theorem dX12_copy_60 : decode cX12_copy 60 = .ok (.i2l, 1) := by decide +kernel
theorem dX12_copy_61 : decode cX12_copy 61 = .ok (.ladd, 1) := by decide +kernel
theorem dX12_copy_62 : decode cX12_copy 62 = .ok (.aload_n 0, 1) := by decide +kernel
theorem dX12_copy_63 : decode cX12_copy 63 = .ok (.getfield 22, 3) := by decide +kernel
theorem dX12_copy_66 : decode cX12_copy 66 = .ok (.iload_n 1, 1) := by decide +kernel
theorem dX12_copy_67 : decode cX12_copy 67 = .ok (.iaload, 1) := by decide +kernel
theorem dX12_copy_68 : decode cX12_copy 68 = .ok (.i2l, 1) := by decide +kernel
theorem dX12_copy_69 : decode cX12_copy 69 = .ok (.lcmp, 1) := by decide +kernel
theorem dX12_copy_70 : decode cX12_copy 70 = .ok (.ifCond .gt 21, 3) := by decide +kernel
theorem dX12_copy_73 : decode cX12_copy 73 = .ok (.iload 4, 2) := by decide +kernel
theorem dX12_copy_75 : decode cX12_copy 75 = .ok (.i2l, 1) := by decide +kernel
theorem dX12_copy_76 : decode cX12_copy 76 = .ok (.iload 5, 2) := by decide +kernel
theorem dX12_copy_78 : decode cX12_copy 78 = .ok (.i2l, 1) := by decide +kernel
theorem dX12_copy_79 : decode cX12_copy 79 = .ok (.ladd, 1) := by decide +kernel
theorem dX12_copy_80 : decode cX12_copy 80 = .ok (.aload_n 0, 1) := by decide +kernel
theorem dX12_copy_81 : decode cX12_copy 81 = .ok (.getfield 22, 3) := by decide +kernel
theorem dX12_copy_84 : decode cX12_copy 84 = .ok (.iload_n 3, 1) := by decide +kernel
theorem dX12_copy_85 : decode cX12_copy 85 = .ok (.iaload, 1) := by decide +kernel
theorem dX12_copy_86 : decode cX12_copy 86 = .ok (.i2l, 1) := by decide +kernel
theorem dX12_copy_87 : decode cX12_copy 87 = .ok (.lcmp, 1) := by decide +kernel
theorem dX12_copy_88 : decode cX12_copy 88 = .ok (.ifCond .le 7, 3) := by decide +kernel
theorem dX12_copy_91 : decode cX12_copy 91 = .ok (.ldc_w 291, 3) := by decide +kernel
theorem dX12_copy_94 : decode cX12_copy 94 = .ok (.ireturn, 1) := by decide +kernel
theorem dX12_copy_95 : decode cX12_copy 95 = .ok (.iconst 0, 1) := by decide +kernel
theorem dX12_copy_96 : decode cX12_copy 96 = .ok (.istore 6, 2) := by decide +kernel
theorem dX12_copy_98 : decode cX12_copy 98 = .ok (.iload 6, 2) := by decide +kernel
theorem dX12_copy_100 : decode cX12_copy 100 = .ok (.iload 5, 2) := by decide +kernel
theorem dX12_copy_102 : decode cX12_copy 102 = .ok (.if_icmp .ge 30, 3) := by decide +kernel
theorem dX12_copy_105 : decode cX12_copy 105 = .ok (.aload_n 0, 1) := by decide +kernel
theorem dX12_copy_106 : decode cX12_copy 106 = .ok (.getfield 46, 3) := by decide +kernel
theorem dX12_copy_109 : decode cX12_copy 109 = .ok (.iload 6, 2) := by decide +kernel
theorem dX12_copy_111 : decode cX12_copy 111 = .ok (.aload_n 0, 1) := by decide +kernel
theorem dX12_copy_112 : decode cX12_copy 112 = .ok (.getfield 25, 3) := by decide +kernel
theorem dX12_copy_115 : decode cX12_copy 115 = .ok (.bipush 16, 2) := by decide +kernel
theorem dX12_copy_117 : decode cX12_copy 117 = .ok (.iload_n 1, 1) := by decide +kernel
theorem dX12_copy_118 : decode cX12_copy 118 = .ok (.imul, 1) := by decide +kernel
theorem dX12_copy_119 : decode cX12_copy 119 = .ok (.iload_n 2, 1) := by decide +kernel
theorem dX12_copy_120 : decode cX12_copy 120 = .ok (.iadd, 1) := by decide +kernel
theorem dX12_copy_121 : decode cX12_copy 121 = .ok (.iload 6, 2) := by decide +kernel
theorem dX12_copy_123 : decode cX12_copy 123 = .ok (.iadd, 1) := by decide +kernel
theorem dX12_copy_124 : decode cX12_copy 124 = .ok (.iaload, 1) := by decide +kernel
theorem dX12_copy_125 : decode cX12_copy 125 = .ok (.iastore, 1) := by decide +kernel
theorem dX12_copy_126 : decode cX12_copy 126 = .ok (.iinc 6 1, 3) := by decide +kernel
theorem dX12_copy_129 : decode cX12_copy 129 = .ok (.goto (-31), 3) := by decide +kernel
theorem dX12_copy_132 : decode cX12_copy 132 = .ok (.iconst 0, 1) := by decide +kernel
theorem dX12_copy_133 : decode cX12_copy 133 = .ok (.istore 6, 2) := by decide +kernel
theorem dX12_copy_135 : decode cX12_copy 135 = .ok (.iload 6, 2) := by decide +kernel
theorem dX12_copy_137 : decode cX12_copy 137 = .ok (.iload 5, 2) := by decide +kernel
theorem dX12_copy_139 : decode cX12_copy 139 = .ok (.if_icmp .ge 31, 3) := by decide +kernel
theorem dX12_copy_142 : decode cX12_copy 142 = .ok (.aload_n 0, 1) := by decide +kernel
theorem dX12_copy_143 : decode cX12_copy 143 = .ok (.getfield 25, 3) := by decide +kernel
theorem dX12_copy_146 : decode cX12_copy 146 = .ok (.bipush 16, 2) := by decide +kernel
theorem dX12_copy_148 : decode cX12_copy 148 = .ok (.iload_n 3, 1) := by decide +kernel
theorem dX12_copy_149 : decode cX12_copy 149 = .ok (.imul, 1) := by decide +kernel
theorem dX12_copy_150 : decode cX12_copy 150 = .ok (.iload 4, 2) := by decide +kernel
theorem dX12_copy_152 : decode cX12_copy 152 = .ok (.iadd, 1) := by decide +kernel
theorem dX12_copy_153 : decode cX12_copy 153 = .ok (.iload 6, 2) := by decide +kernel
theorem dX12_copy_155 : decode cX12_copy 155 = .ok (.iadd, 1) := by decide +kernel
theorem dX12_copy_156 : decode cX12_copy 156 = .ok (.aload_n 0, 1) := by decide +kernel
theorem dX12_copy_157 : decode cX12_copy 157 = .ok (.getfield 46, 3) := by decide +kernel
theorem dX12_copy_160 : decode cX12_copy 160 = .ok (.iload 6, 2) := by decide +kernel
theorem dX12_copy_162 : decode cX12_copy 162 = .ok (.iaload, 1) := by decide +kernel
theorem dX12_copy_163 : decode cX12_copy 163 = .ok (.iastore, 1) := by decide +kernel
theorem dX12_copy_164 : decode cX12_copy 164 = .ok (.iinc 6 1, 3) := by decide +kernel
theorem dX12_copy_167 : decode cX12_copy 167 = .ok (.goto (-32), 3) := by decide +kernel
theorem dX12_copy_170 : decode cX12_copy 170 = .ok (.iload 5, 2) := by decide +kernel
theorem dX12_copy_172 : decode cX12_copy 172 = .ok (.ireturn, 1) := by decide +kernel
theorem dX12_count_0 : decode cX12_count 0 = .ok (.iconst 0, 1) := by decide +kernel
theorem dX12_count_1 : decode cX12_count 1 = .ok (.istore_n 2, 1) := by decide +kernel
theorem dX12_count_2 : decode cX12_count 2 = .ok (.iload_n 1, 1) := by decide +kernel
theorem dX12_count_3 : decode cX12_count 3 = .ok (.tableswitch 213 0 9 #[53, 60, 67, 110, 117, 153, 189, 196, 201, 206], 53) := by decide +kernel
theorem dX12_count_56 : decode cX12_count 56 = .ok (.aload_n 0, 1) := by decide +kernel
theorem dX12_count_57 : decode cX12_count 57 = .ok (.getfield 9, 3) := by decide +kernel
theorem dX12_count_60 : decode cX12_count 60 = .ok (.iconst 1, 1) := by decide +kernel
theorem dX12_count_61 : decode cX12_count 61 = .ok (.iaload, 1) := by decide +kernel
theorem dX12_count_62 : decode cX12_count 62 = .ok (.ireturn, 1) := by decide +kernel
theorem dX12_count_63 : decode cX12_count 63 = .ok (.aload_n 0, 1) := by decide +kernel
theorem dX12_count_64 : decode cX12_count 64 = .ok (.getfield 9, 3) := by decide +kernel
theorem dX12_count_67 : decode cX12_count 67 = .ok (.iconst 2, 1) := by decide +kernel
theorem dX12_count_68 : decode cX12_count 68 = .ok (.iaload, 1) := by decide +kernel
theorem dX12_count_69 : decode cX12_count 69 = .ok (.ireturn, 1) := by decide +kernel
theorem dX12_count_70 : decode cX12_count 70 = .ok (.aload_n 0, 1) := by decide +kernel
theorem dX12_count_71 : decode cX12_count 71 = .ok (.aload_n 0, 1) := by decide +kernel
theorem dX12_count_72 : decode cX12_count 72 = .ok (.getfield 9, 3) := by decide +kernel
theorem dX12_count_75 : decode cX12_count 75 = .ok (.iconst 0, 1) := by decide +kernel
theorem dX12_count_76 : decode cX12_count 76 = .ok (.iaload, 1) := by decide +kernel
theorem dX12_count_77 : decode cX12_count 77 = .ok (.invokevirtual 72, 3) := by decide +kernel
theorem dX12_count_80 : decode cX12_count 80 = .ok (.iconst 0, 1) := by decide +kernel
theorem dX12_count_81 : decode cX12_count 81 = .ok (.istore_n 3, 1) := by decide +kernel
theorem dX12_count_82 : decode cX12_count 82 = .ok (.iload_n 3, 1) := by decide +kernel
theorem dX12_count_83 : decode cX12_count 83 = .ok (.bipush 12, 2) := by decide +kernel
theorem dX12_count_85 : decode cX12_count 85 = .ok (.if_icmp .ge 26, 3) := by decide +kernel
theorem dX12_count_88 : decode cX12_count 88 = .ok (.iload_n 2, 1) := by decide +kernel
theorem dX12_count_89 : decode cX12_count 89 = .ok (.aload_n 0, 1) := by decide +kernel
theorem dX12_count_90 : decode cX12_count 90 = .ok (.getfield 28, 3) := by decide +kernel
theorem dX12_count_93 : decode cX12_count 93 = .ok (.iload_n 3, 1) := by decide +kernel
theorem dX12_count_94 : decode cX12_count 94 = .ok (.iaload, 1) := by decide +kernel
theorem dX12_count_95 : decode cX12_count 95 = .ok (.ifCond .ge 7, 3) := by decide +kernel
theorem dX12_count_98 : decode cX12_count 98 = .ok (.iconst 0, 1) := by decide +kernel
theorem dX12_count_99 : decode cX12_count 99 = .ok (.goto 4, 3) := by decide +kernel
theorem dX12_count_102 : decode cX12_count 102 = .ok (.iconst 1, 1) := by decide +kernel
theorem dX12_count_103 : decode cX12_count 103 = .ok (.iadd, 1) := by decide +kernel
theorem dX12_count_104 : decode cX12_count 104 = .ok (.istore_n 2, 1) := by decide +kernel
theorem dX12_count_105 : decode cX12_count 105 = .ok (.iinc 3 1, 3) := by decide +kernel
theorem dX12_count_108 : decode cX12_count 108 = .ok (.goto (-26), 3) := by decide +kernel
theorem dX12_count_111 : decode cX12_count 111 = .ok (.iload_n 2, 1) := by decide +kernel
theorem dX12_count_112 : decode cX12_count 112 = .ok (.ireturn, 1) := by decide +kernel
theorem dX12_count_113 : decode cX12_count 113 = .ok (.aload_n 0, 1) := by decide +kernel
theorem dX12_count_114 : decode cX12_count 114 = .ok (.getfield 9, 3) := by decide +kernel
theorem dX12_count_117 : decode cX12_count 117 = .ok (.iconst 4, 1) := by decide +kernel
theorem dX12_count_118 : decode cX12_count 118 = .ok (.iaload, 1) := by decide +kernel
theorem dX12_count_119 : decode cX12_count 119 = .ok (.ireturn, 1) := by decide +kernel
theorem dX12_count_120 : decode cX12_count 120 = .ok (.iconst 0, 1) := by decide +kernel
theorem dX12_count_121 : decode cX12_count 121 = .ok (.istore_n 3, 1) := by decide +kernel
theorem dX12_count_122 : decode cX12_count 122 = .ok (.iload_n 3, 1) := by decide +kernel
theorem dX12_count_123 : decode cX12_count 123 = .ok (.aload_n 0, 1) := by decide +kernel
theorem dX12_count_124 : decode cX12_count 124 = .ok (.getfield 9, 3) := by decide +kernel
theorem dX12_count_127 : decode cX12_count 127 = .ok (.iconst 4, 1) := by decide +kernel
theorem dX12_count_128 : decode cX12_count 128 = .ok (.iaload, 1) := by decide +kernel
theorem dX12_count_129 : decode cX12_count 129 = .ok (.if_icmp .ge 25, 3) := by decide +kernel
theorem dX12_count_132 : decode cX12_count 132 = .ok (.iload_n 2, 1) := by decide +kernel
theorem dX12_count_133 : decode cX12_count 133 = .ok (.aload_n 0, 1) := by decide +kernel
theorem dX12_count_134 : decode cX12_count 134 = .ok (.iload_n 3, 1) := by decide +kernel
theorem dX12_count_135 : decode cX12_count 135 = .ok (.invokevirtual 121, 3) := by decide +kernel
theorem dX12_count_138 : decode cX12_count 138 = .ok (.ifCond .ge 7, 3) := by decide +kernel
theorem dX12_count_141 : decode cX12_count 141 = .ok (.iconst 0, 1) := by decide +kernel
theorem dX12_count_142 : decode cX12_count 142 = .ok (.goto 4, 3) := by decide +kernel
theorem dX12_count_145 : decode cX12_count 145 = .ok (.iconst 1, 1) := by decide +kernel
theorem dX12_count_146 : decode cX12_count 146 = .ok (.iadd, 1) := by decide +kernel
theorem dX12_count_147 : decode cX12_count 147 = .ok (.istore_n 2, 1) := by decide +kernel
theorem dX12_count_148 : decode cX12_count 148 = .ok (.iinc 3 1, 3) := by decide +kernel
theorem dX12_count_151 : decode cX12_count 151 = .ok (.goto (-29), 3) := by decide +kernel
theorem dX12_count_154 : decode cX12_count 154 = .ok (.iload_n 2, 1) := by decide +kernel
theorem dX12_count_155 : decode cX12_count 155 = .ok (.ireturn, 1) := by decide +kernel
theorem dX12_count_156 : decode cX12_count 156 = .ok (.iconst 0, 1) := by decide +kernel
theorem dX12_count_157 : decode cX12_count 157 = .ok (.istore_n 3, 1) := by decide +kernel
theorem dX12_count_158 : decode cX12_count 158 = .ok (.iload_n 3, 1) := by decide +kernel
theorem dX12_count_159 : decode cX12_count 159 = .ok (.aload_n 0, 1) := by decide +kernel
theorem dX12_count_160 : decode cX12_count 160 = .ok (.getfield 9, 3) := by decide +kernel
theorem dX12_count_163 : decode cX12_count 163 = .ok (.iconst 2, 1) := by decide +kernel
theorem dX12_count_164 : decode cX12_count 164 = .ok (.iaload, 1) := by decide +kernel
theorem dX12_count_165 : decode cX12_count 165 = .ok (.if_icmp .ge 25, 3) := by decide +kernel
theorem dX12_count_168 : decode cX12_count 168 = .ok (.iload_n 2, 1) := by decide +kernel
theorem dX12_count_169 : decode cX12_count 169 = .ok (.aload_n 0, 1) := by decide +kernel
theorem dX12_count_170 : decode cX12_count 170 = .ok (.iload_n 3, 1) := by decide +kernel
theorem dX12_count_171 : decode cX12_count 171 = .ok (.invokevirtual 236, 3) := by decide +kernel
theorem dX12_count_174 : decode cX12_count 174 = .ok (.ifCond .eq 7, 3) := by decide +kernel
theorem dX12_count_177 : decode cX12_count 177 = .ok (.iconst 1, 1) := by decide +kernel
theorem dX12_count_178 : decode cX12_count 178 = .ok (.goto 4, 3) := by decide +kernel
theorem dX12_count_181 : decode cX12_count 181 = .ok (.iconst 0, 1) := by decide +kernel
theorem dX12_count_182 : decode cX12_count 182 = .ok (.iadd, 1) := by decide +kernel
theorem dX12_count_183 : decode cX12_count 183 = .ok (.istore_n 2, 1) := by decide +kernel
theorem dX12_count_184 : decode cX12_count 184 = .ok (.iinc 3 1, 3) := by decide +kernel
theorem dX12_count_187 : decode cX12_count 187 = .ok (.goto (-29), 3) := by decide +kernel
theorem dX12_count_190 : decode cX12_count 190 = .ok (.iload_n 2, 1) := by decide +kernel
theorem dX12_count_191 : decode cX12_count 191 = .ok (.ireturn, 1) := by decide +kernel
theorem dX12_count_192 : decode cX12_count 192 = .ok (.aload_n 0, 1) := by decide +kernel
theorem dX12_count_193 : decode cX12_count 193 = .ok (.getfield 9, 3) := by decide +kernel
theorem dX12_count_196 : decode cX12_count 196 = .ok (.iconst 3, 1) := by decide +kernel
theorem dX12_count_197 : decode cX12_count 197 = .ok (.iaload, 1) := by decide +kernel
theorem dX12_count_198 : decode cX12_count 198 = .ok (.ireturn, 1) := by decide +kernel
theorem dX12_count_199 : decode cX12_count 199 = .ok (.aload_n 0, 1) := by decide +kernel
theorem dX12_count_200 : decode cX12_count 200 = .ok (.getfield 284, 3) := by decide +kernel
theorem dX12_count_203 : decode cX12_count 203 = .ok (.ireturn, 1) := by decide +kernel
theorem dX12_count_204 : decode cX12_count 204 = .ok (.aload_n 0, 1) := by decide +kernel
theorem dX12_count_205 : decode cX12_count 205 = .ok (.getfield 129, 3) := by decide +kernel
theorem dX12_count_208 : decode cX12_count 208 = .ok (.ireturn, 1) := by decide +kernel
theorem dX12_count_209 : decode cX12_count 209 = .ok (.aload_n 0, 1) := by decide +kernel
theorem dX12_count_210 : decode cX12_count 210 = .ok (.getfield 9, 3) := by decide +kernel
theorem dX12_count_213 : decode cX12_count 213 = .ok (.iconst 0, 1) := by decide +kernel
theorem dX12_count_214 : decode cX12_count 214 = .ok (.iaload, 1) := by decide +kernel
theorem dX12_count_215 : decode cX12_count 215 = .ok (.ireturn, 1) := by decide +kernel
theorem dX12_count_216 : decode cX12_count 216 = .ok (.ldc 57, 2) := by decide +kernel
theorem dX12_count_218 : decode cX12_count 218 = .ok (.ireturn, 1) := by decide +kernel
theorem dJ0_length_8abf5_0 : decode cJ0_length_8abf5 0 = .ok (.aload_n 0, 1) := by decide +kernel
theorem dJ0_length_8abf5_1 : decode cJ0_length_8abf5 1 = .ok (.getfield 9, 3) := by decide +kernel
theorem dJ0_length_8abf5_4 : decode cJ0_length_8abf5 4 = .ok (.arraylength, 1) := by decide +kernel
theorem dJ0_length_8abf5_5 : decode cJ0_length_8abf5 5 = .ok (.aload_n 0, 1) := by decide +kernel
theorem dJ0_length_8abf5_6 : decode cJ0_length_8abf5 6 = .ok (.invokevirtual 335, 3) := by decide +kernel
theorem dJ0_length_8abf5_9 : decode cJ0_length_8abf5 9 = .ok (.ishr, 1) := by decide +kernel
theorem dJ0_length_8abf5_10 : decode cJ0_length_8abf5 10 = .ok (.ireturn, 1) := by decide +kernel
theorem dJ0_charAt_5068e_0 : decode cJ0_charAt_5068e 0 = .ok (.aload_n 0, 1) := by decide +kernel
theorem dJ0_charAt_5068e_1 : decode cJ0_charAt_5068e 1 = .ok (.invokevirtual 492, 3) := by decide +kernel
theorem dJ0_charAt_5068e_4 : decode cJ0_charAt_5068e 4 = .ok (.ifCond .eq 12, 3) := by decide +kernel
theorem dJ0_charAt_5068e_7 : decode cJ0_charAt_5068e 7 = .ok (.aload_n 0, 1) := by decide +kernel
theorem dJ0_charAt_5068e_8 : decode cJ0_charAt_5068e 8 = .ok (.getfield 9, 3) := by decide +kernel
theorem dJ0_charAt_5068e_11 : decode cJ0_charAt_5068e 11 = .ok (.iload_n 1, 1) := by decide +kernel
theorem dJ0_charAt_5068e_12 : decode cJ0_charAt_5068e 12 = .ok (.invokestatic 495, 3) := by decide +kernel
theorem dJ0_charAt_5068e_15 : decode cJ0_charAt_5068e 15 = .ok (.ireturn, 1) := by decide +kernel
theorem dJ0_charAt_5068e_16 : decode cJ0_charAt_5068e 16 = .ok (.aload_n 0, 1) := by decide +kernel
theorem dJ0_charAt_5068e_17 : decode cJ0_charAt_5068e 17 = .ok (.getfield 9, 3) := by decide +kernel
theorem dJ0_charAt_5068e_20 : decode cJ0_charAt_5068e 20 = .ok (.iload_n 1, 1) := by decide +kernel
theorem dJ0_charAt_5068e_21 : decode cJ0_charAt_5068e 21 = .ok (.invokestatic 498, 3) := by decide +kernel
theorem dJ0_charAt_5068e_24 : decode cJ0_charAt_5068e 24 = .ok (.ireturn, 1) := by decide +kernel
theorem dJ0_indexOf_0f7a4_0 : decode cJ0_indexOf_0f7a4 0 = .ok (.aload_n 0, 1) := by decide +kernel
theorem dJ0_indexOf_0f7a4_1 : decode cJ0_indexOf_0f7a4 1 = .ok (.iload_n 1, 1) := by decide +kernel
theorem dJ0_indexOf_0f7a4_2 : decode cJ0_indexOf_0f7a4 2 = .ok (.iconst 0, 1) := by decide +kernel
theorem dJ0_indexOf_0f7a4_3 : decode cJ0_indexOf_0f7a4 3 = .ok (.invokevirtual 633, 3) := by decide +kernel
theorem dJ0_indexOf_0f7a4_6 : decode cJ0_indexOf_0f7a4 6 = .ok (.ireturn, 1) := by decide +kernel
theorem dJ0_indexOf_7cf53_0 : decode cJ0_indexOf_7cf53 0 = .ok (.aload_n 0, 1) := by decide +kernel
theorem dJ0_indexOf_7cf53_1 : decode cJ0_indexOf_7cf53 1 = .ok (.invokevirtual 492, 3) := by decide +kernel
theorem dJ0_indexOf_7cf53_4 : decode cJ0_indexOf_7cf53 4 = .ok (.ifCond .eq 19, 3) := by decide +kernel
theorem dJ0_indexOf_7cf53_7 : decode cJ0_indexOf_7cf53 7 = .ok (.aload_n 0, 1) := by decide +kernel
theorem dJ0_indexOf_7cf53_8 : decode cJ0_indexOf_7cf53 8 = .ok (.getfield 9, 3) := by decide +kernel
theorem dJ0_indexOf_7cf53_11 : decode cJ0_indexOf_7cf53 11 = .ok (.iload_n 1, 1) := by decide +kernel
theorem dJ0_indexOf_7cf53_12 : decode cJ0_indexOf_7cf53 12 = .ok (.iload_n 2, 1) := by decide +kernel
theorem dJ0_indexOf_7cf53_13 : decode cJ0_indexOf_7cf53 13 = .ok (.aload_n 0, 1) := by decide +kernel
theorem dJ0_indexOf_7cf53_14 : decode cJ0_indexOf_7cf53 14 = .ok (.invokevirtual 505, 3) := by decide +kernel
theorem dJ0_indexOf_7cf53_17 : decode cJ0_indexOf_7cf53 17 = .ok (.invokestatic 637, 3) := by decide +kernel
theorem dJ0_indexOf_7cf53_20 : decode cJ0_indexOf_7cf53 20 = .ok (.goto 16, 3) := by decide +kernel
theorem dJ0_indexOf_7cf53_23 : decode cJ0_indexOf_7cf53 23 = .ok (.aload_n 0, 1) := by decide +kernel
theorem dJ0_indexOf_7cf53_24 : decode cJ0_indexOf_7cf53 24 = .ok (.getfield 9, 3) := by decide +kernel
theorem dJ0_indexOf_7cf53_27 : decode cJ0_indexOf_7cf53 27 = .ok (.iload_n 1, 1) := by decide +kernel
theorem dJ0_indexOf_7cf53_28 : decode cJ0_indexOf_7cf53 28 = .ok (.iload_n 2, 1) := by decide +kernel
theorem dJ0_indexOf_7cf53_29 : decode cJ0_indexOf_7cf53 29 = .ok (.aload_n 0, 1) := by decide +kernel
theorem dJ0_indexOf_7cf53_30 : decode cJ0_indexOf_7cf53 30 = .ok (.invokevirtual 505, 3) := by decide +kernel
theorem dJ0_indexOf_7cf53_33 : decode cJ0_indexOf_7cf53 33 = .ok (.invokestatic 640, 3) := by decide +kernel
theorem dJ0_indexOf_7cf53_36 : decode cJ0_indexOf_7cf53 36 = .ok (.ireturn, 1) := by decide +kernel
theorem dJ0_coder_7d493_0 : decode cJ0_coder_7d493 0 = .ok (.getstatic 38, 3) := by decide +kernel
theorem dJ0_coder_7d493_3 : decode cJ0_coder_7d493 3 = .ok (.ifCond .eq 10, 3) := by decide +kernel
theorem dJ0_coder_7d493_6 : decode cJ0_coder_7d493 6 = .ok (.aload_n 0, 1) := by decide +kernel
theorem dJ0_coder_7d493_7 : decode cJ0_coder_7d493 7 = .ok (.getfield 15, 3) := by decide +kernel
theorem dJ0_coder_7d493_10 : decode cJ0_coder_7d493 10 = .ok (.goto 4, 3) := by decide +kernel
theorem dJ0_coder_7d493_13 : decode cJ0_coder_7d493 13 = .ok (.iconst 1, 1) := by decide +kernel
theorem dJ0_coder_7d493_14 : decode cJ0_coder_7d493 14 = .ok (.ireturn, 1) := by decide +kernel
theorem dJ0_isLatin1_aae02_0 : decode cJ0_isLatin1_aae02 0 = .ok (.getstatic 38, 3) := by decide +kernel
theorem dJ0_isLatin1_aae02_3 : decode cJ0_isLatin1_aae02 3 = .ok (.ifCond .eq 14, 3) := by decide +kernel
theorem dJ0_isLatin1_aae02_6 : decode cJ0_isLatin1_aae02 6 = .ok (.aload_n 0, 1) := by decide +kernel
theorem dJ0_isLatin1_aae02_7 : decode cJ0_isLatin1_aae02 7 = .ok (.getfield 15, 3) := by decide +kernel
theorem dJ0_isLatin1_aae02_10 : decode cJ0_isLatin1_aae02 10 = .ok (.ifCond .ne 7, 3) := by decide +kernel
theorem dJ0_isLatin1_aae02_13 : decode cJ0_isLatin1_aae02 13 = .ok (.iconst 1, 1) := by decide +kernel
theorem dJ0_isLatin1_aae02_14 : decode cJ0_isLatin1_aae02 14 = .ok (.goto 4, 3) := by decide +kernel
theorem dJ0_isLatin1_aae02_17 : decode cJ0_isLatin1_aae02 17 = .ok (.iconst 0, 1) := by decide +kernel
theorem dJ0_isLatin1_aae02_18 : decode cJ0_isLatin1_aae02 18 = .ok (.ireturn, 1) := by decide +kernel
theorem dJ0_checkIndex_df160_0 : decode cJ0_checkIndex_df160 0 = .ok (.iload_n 0, 1) := by decide +kernel
theorem dJ0_checkIndex_df160_1 : decode cJ0_checkIndex_df160 1 = .ok (.iload_n 1, 1) := by decide +kernel
theorem dJ0_checkIndex_df160_2 : decode cJ0_checkIndex_df160 2 = .ok (.getstatic 1053, 3) := by decide +kernel
theorem dJ0_checkIndex_df160_5 : decode cJ0_checkIndex_df160 5 = .ok (.invokestatic 1059, 3) := by decide +kernel
theorem dJ0_checkIndex_df160_8 : decode cJ0_checkIndex_df160 8 = .ok (.pop, 1) := by decide +kernel
theorem dJ0_checkIndex_df160_9 : decode cJ0_checkIndex_df160 9 = .ok (.return_, 1) := by decide +kernel
theorem dJ1_charAt_3b067_0 : decode cJ1_charAt_3b067 0 = .ok (.iload_n 1, 1) := by decide +kernel
theorem dJ1_charAt_3b067_1 : decode cJ1_charAt_3b067 1 = .ok (.aload_n 0, 1) := by decide +kernel
theorem dJ1_charAt_3b067_2 : decode cJ1_charAt_3b067 2 = .ok (.arraylength, 1) := by decide +kernel
theorem dJ1_charAt_3b067_3 : decode cJ1_charAt_3b067 3 = .ok (.invokestatic 9, 3) := by decide +kernel
theorem dJ1_charAt_3b067_6 : decode cJ1_charAt_3b067 6 = .ok (.aload_n 0, 1) := by decide +kernel
theorem dJ1_charAt_3b067_7 : decode cJ1_charAt_3b067 7 = .ok (.iload_n 1, 1) := by decide +kernel
theorem dJ1_charAt_3b067_8 : decode cJ1_charAt_3b067 8 = .ok (.baload, 1) := by decide +kernel
theorem dJ1_charAt_3b067_9 : decode cJ1_charAt_3b067 9 = .ok (.sipush 255, 3) := by decide +kernel
theorem dJ1_charAt_3b067_12 : decode cJ1_charAt_3b067 12 = .ok (.iand, 1) := by decide +kernel
theorem dJ1_charAt_3b067_13 : decode cJ1_charAt_3b067 13 = .ok (.i2c, 1) := by decide +kernel
theorem dJ1_charAt_3b067_14 : decode cJ1_charAt_3b067 14 = .ok (.ireturn, 1) := by decide +kernel
theorem dJ1_canEncode_9a6ad_0 : decode cJ1_canEncode_9a6ad 0 = .ok (.iload_n 0, 1) := by decide +kernel
theorem dJ1_canEncode_9a6ad_1 : decode cJ1_canEncode_9a6ad 1 = .ok (.ifCond .lt 14, 3) := by decide +kernel
theorem dJ1_canEncode_9a6ad_4 : decode cJ1_canEncode_9a6ad 4 = .ok (.iload_n 0, 1) := by decide +kernel
theorem dJ1_canEncode_9a6ad_5 : decode cJ1_canEncode_9a6ad 5 = .ok (.sipush 255, 3) := by decide +kernel
theorem dJ1_canEncode_9a6ad_8 : decode cJ1_canEncode_9a6ad 8 = .ok (.if_icmp .gt 7, 3) := by decide +kernel
theorem dJ1_canEncode_9a6ad_11 : decode cJ1_canEncode_9a6ad 11 = .ok (.iconst 1, 1) := by decide +kernel
theorem dJ1_canEncode_9a6ad_12 : decode cJ1_canEncode_9a6ad 12 = .ok (.goto 4, 3) := by decide +kernel
theorem dJ1_canEncode_9a6ad_15 : decode cJ1_canEncode_9a6ad 15 = .ok (.iconst 0, 1) := by decide +kernel
theorem dJ1_canEncode_9a6ad_16 : decode cJ1_canEncode_9a6ad 16 = .ok (.ireturn, 1) := by decide +kernel
theorem dJ1_indexOf_4cfef_0 : decode cJ1_indexOf_4cfef 0 = .ok (.iload_n 1, 1) := by decide +kernel
theorem dJ1_indexOf_4cfef_1 : decode cJ1_indexOf_4cfef 1 = .ok (.invokestatic 88, 3) := by decide +kernel
theorem dJ1_indexOf_4cfef_4 : decode cJ1_indexOf_4cfef 4 = .ok (.ifCond .ne 5, 3) := by decide +kernel
theorem dJ1_indexOf_4cfef_7 : decode cJ1_indexOf_4cfef 7 = .ok (.iconst (-1), 1) := by decide +kernel
theorem dJ1_indexOf_4cfef_8 : decode cJ1_indexOf_4cfef 8 = .ok (.ireturn, 1) := by decide +kernel
theorem dJ1_indexOf_4cfef_9 : decode cJ1_indexOf_4cfef 9 = .ok (.iload_n 2, 1) := by decide +kernel
theorem dJ1_indexOf_4cfef_10 : decode cJ1_indexOf_4cfef 10 = .ok (.iconst 0, 1) := by decide +kernel
theorem dJ1_indexOf_4cfef_11 : decode cJ1_indexOf_4cfef 11 = .ok (.invokestatic 92, 3) := by decide +kernel
theorem dJ1_indexOf_4cfef_14 : decode cJ1_indexOf_4cfef 14 = .ok (.istore_n 2, 1) := by decide +kernel
theorem dJ1_indexOf_4cfef_15 : decode cJ1_indexOf_4cfef 15 = .ok (.iload_n 3, 1) := by decide +kernel
theorem dJ1_indexOf_4cfef_16 : decode cJ1_indexOf_4cfef 16 = .ok (.aload_n 0, 1) := by decide +kernel
theorem dJ1_indexOf_4cfef_17 : decode cJ1_indexOf_4cfef 17 = .ok (.arraylength, 1) := by decide +kernel
theorem dJ1_indexOf_4cfef_18 : decode cJ1_indexOf_4cfef 18 = .ok (.invokestatic 38, 3) := by decide +kernel
theorem dJ1_indexOf_4cfef_21 : decode cJ1_indexOf_4cfef 21 = .ok (.istore_n 3, 1) := by decide +kernel
theorem dJ1_indexOf_4cfef_22 : decode cJ1_indexOf_4cfef 22 = .ok (.iload_n 2, 1) := by decide +kernel
theorem dJ1_indexOf_4cfef_23 : decode cJ1_indexOf_4cfef 23 = .ok (.iload_n 3, 1) := by decide +kernel
theorem dJ1_indexOf_4cfef_24 : decode cJ1_indexOf_4cfef 24 = .ok (.if_icmp .lt 5, 3) := by decide +kernel
theorem dJ1_indexOf_4cfef_27 : decode cJ1_indexOf_4cfef 27 = .ok (.iconst (-1), 1) := by decide +kernel
theorem dJ1_indexOf_4cfef_28 : decode cJ1_indexOf_4cfef 28 = .ok (.ireturn, 1) := by decide +kernel
theorem dJ1_indexOf_4cfef_29 : decode cJ1_indexOf_4cfef 29 = .ok (.aload_n 0, 1) := by decide +kernel
theorem dJ1_indexOf_4cfef_30 : decode cJ1_indexOf_4cfef 30 = .ok (.iload_n 1, 1) := by decide +kernel
theorem dJ1_indexOf_4cfef_31 : decode cJ1_indexOf_4cfef 31 = .ok (.iload_n 2, 1) := by decide +kernel
theorem dJ1_indexOf_4cfef_32 : decode cJ1_indexOf_4cfef 32 = .ok (.iload_n 3, 1) := by decide +kernel
theorem dJ1_indexOf_4cfef_33 : decode cJ1_indexOf_4cfef 33 = .ok (.invokestatic 95, 3) := by decide +kernel
theorem dJ1_indexOf_4cfef_36 : decode cJ1_indexOf_4cfef 36 = .ok (.ireturn, 1) := by decide +kernel
theorem dJ1_indexOfChar_4cfef_0 : decode cJ1_indexOfChar_4cfef 0 = .ok (.iload_n 1, 1) := by decide +kernel
theorem dJ1_indexOfChar_4cfef_1 : decode cJ1_indexOfChar_4cfef 1 = .ok (.i2b, 1) := by decide +kernel
theorem dJ1_indexOfChar_4cfef_2 : decode cJ1_indexOfChar_4cfef 2 = .ok (.istore 4, 2) := by decide +kernel
theorem dJ1_indexOfChar_4cfef_4 : decode cJ1_indexOfChar_4cfef 4 = .ok (.iload_n 2, 1) := by decide +kernel
theorem dJ1_indexOfChar_4cfef_5 : decode cJ1_indexOfChar_4cfef 5 = .ok (.istore 5, 2) := by decide +kernel
theorem dJ1_indexOfChar_4cfef_7 : decode cJ1_indexOfChar_4cfef 7 = .ok (.iload 5, 2) := by decide +kernel
theorem dJ1_indexOfChar_4cfef_9 : decode cJ1_indexOfChar_4cfef 9 = .ok (.iload_n 3, 1) := by decide +kernel
theorem dJ1_indexOfChar_4cfef_10 : decode cJ1_indexOfChar_4cfef 10 = .ok (.if_icmp .ge 21, 3) := by decide +kernel
theorem dJ1_indexOfChar_4cfef_13 : decode cJ1_indexOfChar_4cfef 13 = .ok (.aload_n 0, 1) := by decide +kernel
theorem dJ1_indexOfChar_4cfef_14 : decode cJ1_indexOfChar_4cfef 14 = .ok (.iload 5, 2) := by decide +kernel
theorem dJ1_indexOfChar_4cfef_16 : decode cJ1_indexOfChar_4cfef 16 = .ok (.baload, 1) := by decide +kernel
theorem dJ1_indexOfChar_4cfef_17 : decode cJ1_indexOfChar_4cfef 17 = .ok (.iload 4, 2) := by decide +kernel
theorem dJ1_indexOfChar_4cfef_19 : decode cJ1_indexOfChar_4cfef 19 = .ok (.if_icmp .ne 6, 3) := by decide +kernel
theorem dJ1_indexOfChar_4cfef_22 : decode cJ1_indexOfChar_4cfef 22 = .ok (.iload 5, 2) := by decide +kernel
theorem dJ1_indexOfChar_4cfef_24 : decode cJ1_indexOfChar_4cfef 24 = .ok (.ireturn, 1) := by decide +kernel
theorem dJ1_indexOfChar_4cfef_25 : decode cJ1_indexOfChar_4cfef 25 = .ok (.iinc 5 1, 3) := by decide +kernel
theorem dJ1_indexOfChar_4cfef_28 : decode cJ1_indexOfChar_4cfef 28 = .ok (.goto (-21), 3) := by decide +kernel
theorem dJ1_indexOfChar_4cfef_31 : decode cJ1_indexOfChar_4cfef 31 = .ok (.iconst (-1), 1) := by decide +kernel
theorem dJ1_indexOfChar_4cfef_32 : decode cJ1_indexOfChar_4cfef 32 = .ok (.ireturn, 1) := by decide +kernel
theorem dJ7_fill_53178_0 : decode cJ7_fill_53178 0 = .ok (.iconst 0, 1) := by decide +kernel
theorem dJ7_fill_53178_1 : decode cJ7_fill_53178 1 = .ok (.istore_n 2, 1) := by decide +kernel
theorem dJ7_fill_53178_2 : decode cJ7_fill_53178 2 = .ok (.aload_n 0, 1) := by decide +kernel
theorem dJ7_fill_53178_3 : decode cJ7_fill_53178 3 = .ok (.arraylength, 1) := by decide +kernel
theorem dJ7_fill_53178_4 : decode cJ7_fill_53178 4 = .ok (.istore_n 3, 1) := by decide +kernel
theorem dJ7_fill_53178_5 : decode cJ7_fill_53178 5 = .ok (.iload_n 2, 1) := by decide +kernel
theorem dJ7_fill_53178_6 : decode cJ7_fill_53178 6 = .ok (.iload_n 3, 1) := by decide +kernel
theorem dJ7_fill_53178_7 : decode cJ7_fill_53178 7 = .ok (.if_icmp .ge 13, 3) := by decide +kernel
theorem dJ7_fill_53178_10 : decode cJ7_fill_53178 10 = .ok (.aload_n 0, 1) := by decide +kernel
theorem dJ7_fill_53178_11 : decode cJ7_fill_53178 11 = .ok (.iload_n 2, 1) := by decide +kernel
theorem dJ7_fill_53178_12 : decode cJ7_fill_53178 12 = .ok (.iload_n 1, 1) := by decide +kernel
theorem dJ7_fill_53178_13 : decode cJ7_fill_53178 13 = .ok (.iastore, 1) := by decide +kernel
theorem dJ7_fill_53178_14 : decode cJ7_fill_53178 14 = .ok (.iinc 2 1, 3) := by decide +kernel
theorem dJ7_fill_53178_17 : decode cJ7_fill_53178 17 = .ok (.goto (-12), 3) := by decide +kernel
theorem dJ7_fill_53178_20 : decode cJ7_fill_53178 20 = .ok (.return_, 1) := by decide +kernel
theorem dJ7_fill_fb410_0 : decode cJ7_fill_fb410 0 = .ok (.iconst 0, 1) := by decide +kernel
theorem dJ7_fill_fb410_1 : decode cJ7_fill_fb410 1 = .ok (.istore_n 2, 1) := by decide +kernel
theorem dJ7_fill_fb410_2 : decode cJ7_fill_fb410 2 = .ok (.aload_n 0, 1) := by decide +kernel
theorem dJ7_fill_fb410_3 : decode cJ7_fill_fb410 3 = .ok (.arraylength, 1) := by decide +kernel
theorem dJ7_fill_fb410_4 : decode cJ7_fill_fb410 4 = .ok (.istore_n 3, 1) := by decide +kernel
theorem dJ7_fill_fb410_5 : decode cJ7_fill_fb410 5 = .ok (.iload_n 2, 1) := by decide +kernel
theorem dJ7_fill_fb410_6 : decode cJ7_fill_fb410 6 = .ok (.iload_n 3, 1) := by decide +kernel
theorem dJ7_fill_fb410_7 : decode cJ7_fill_fb410 7 = .ok (.if_icmp .ge 13, 3) := by decide +kernel
theorem dJ7_fill_fb410_10 : decode cJ7_fill_fb410 10 = .ok (.aload_n 0, 1) := by decide +kernel
theorem dJ7_fill_fb410_11 : decode cJ7_fill_fb410 11 = .ok (.iload_n 2, 1) := by decide +kernel
theorem dJ7_fill_fb410_12 : decode cJ7_fill_fb410 12 = .ok (.iload_n 1, 1) := by decide +kernel
theorem dJ7_fill_fb410_13 : decode cJ7_fill_fb410 13 = .ok (.sastore, 1) := by decide +kernel
theorem dJ7_fill_fb410_14 : decode cJ7_fill_fb410 14 = .ok (.iinc 2 1, 3) := by decide +kernel
theorem dJ7_fill_fb410_17 : decode cJ7_fill_fb410 17 = .ok (.goto (-12), 3) := by decide +kernel
theorem dJ7_fill_fb410_20 : decode cJ7_fill_fb410 20 = .ok (.return_, 1) := by decide +kernel
theorem dJ3_checkIndex_8e157_0 : decode cJ3_checkIndex_8e157 0 = .ok (.iload_n 0, 1) := by decide +kernel
theorem dJ3_checkIndex_8e157_1 : decode cJ3_checkIndex_8e157 1 = .ok (.ifCond .lt 8, 3) := by decide +kernel
theorem dJ3_checkIndex_8e157_4 : decode cJ3_checkIndex_8e157 4 = .ok (.iload_n 0, 1) := by decide +kernel
theorem dJ3_checkIndex_8e157_5 : decode cJ3_checkIndex_8e157 5 = .ok (.iload_n 1, 1) := by decide +kernel
theorem dJ3_checkIndex_8e157_6 : decode cJ3_checkIndex_8e157 6 = .ok (.if_icmp .lt 10, 3) := by decide +kernel
theorem dJ3_checkIndex_8e157_9 : decode cJ3_checkIndex_8e157 9 = .ok (.aload_n 2, 1) := by decide +kernel
theorem dJ3_checkIndex_8e157_10 : decode cJ3_checkIndex_8e157 10 = .ok (.iload_n 0, 1) := by decide +kernel
theorem dJ3_checkIndex_8e157_11 : decode cJ3_checkIndex_8e157 11 = .ok (.iload_n 1, 1) := by decide +kernel
theorem dJ3_checkIndex_8e157_12 : decode cJ3_checkIndex_8e157 12 = .ok (.invokestatic 95, 3) := by decide +kernel
theorem dJ3_checkIndex_8e157_15 : decode cJ3_checkIndex_8e157 15 = .ok (.athrow, 1) := by decide +kernel
theorem dJ3_checkIndex_8e157_16 : decode cJ3_checkIndex_8e157 16 = .ok (.iload_n 0, 1) := by decide +kernel
theorem dJ3_checkIndex_8e157_17 : decode cJ3_checkIndex_8e157 17 = .ok (.ireturn, 1) := by decide +kernel
