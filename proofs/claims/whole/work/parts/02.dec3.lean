theorem dX10_due_14 : decode cX10_due 14 = .ok (.getfield 34, 3) := by decide +kernel
theorem dX10_due_17 : decode cX10_due 17 = .ok (.iload_n 1, 1) := by decide +kernel
theorem dX10_due_18 : decode cX10_due 18 = .ok (.iaload, 1) := by decide +kernel
theorem dX10_due_19 : decode cX10_due 19 = .ok (.if_icmp .le 5, 3) := by decide +kernel
theorem dX10_due_22 : decode cX10_due 22 = .ok (.iconst (-1), 1) := by decide +kernel
theorem dX10_due_23 : decode cX10_due 23 = .ok (.ireturn, 1) := by decide +kernel
theorem dX10_due_24 : decode cX10_due 24 = .ok (.iload_n 3, 1) := by decide +kernel
theorem dX10_due_25 : decode cX10_due 25 = .ok (.ifCond .ne 18, 3) := by decide +kernel
theorem dX10_due_28 : decode cX10_due 28 = .ok (.iload_n 2, 1) := by decide +kernel
theorem dX10_due_29 : decode cX10_due 29 = .ok (.ifCond .ne 7, 3) := by decide +kernel
theorem dX10_due_32 : decode cX10_due 32 = .ok (.iconst (-1), 1) := by decide +kernel
theorem dX10_due_33 : decode cX10_due 33 = .ok (.goto 9, 3) := by decide +kernel
theorem dX10_due_36 : decode cX10_due 36 = .ok (.aload_n 0, 1) := by decide +kernel
theorem dX10_due_37 : decode cX10_due 37 = .ok (.iload_n 1, 1) := by decide +kernel
theorem dX10_due_38 : decode cX10_due 38 = .ok (.iload_n 2, 1) := by decide +kernel
theorem dX10_due_39 : decode cX10_due 39 = .ok (.invokevirtual 259, 3) := by decide +kernel
theorem dX10_due_42 : decode cX10_due 42 = .ok (.ireturn, 1) := by decide +kernel
theorem dX10_due_43 : decode cX10_due 43 = .ok (.iload_n 3, 1) := by decide +kernel
theorem dX10_due_44 : decode cX10_due 44 = .ok (.iconst 1, 1) := by decide +kernel
theorem dX10_due_45 : decode cX10_due 45 = .ok (.if_icmp .ne 22, 3) := by decide +kernel
theorem dX10_due_48 : decode cX10_due 48 = .ok (.iload_n 2, 1) := by decide +kernel
theorem dX10_due_49 : decode cX10_due 49 = .ok (.aload_n 0, 1) := by decide +kernel
theorem dX10_due_50 : decode cX10_due 50 = .ok (.getfield 34, 3) := by decide +kernel
theorem dX10_due_53 : decode cX10_due 53 = .ok (.iload_n 1, 1) := by decide +kernel
theorem dX10_due_54 : decode cX10_due 54 = .ok (.iaload, 1) := by decide +kernel
theorem dX10_due_55 : decode cX10_due 55 = .ok (.if_icmp .ge 12, 3) := by decide +kernel
theorem dX10_due_58 : decode cX10_due 58 = .ok (.aload_n 0, 1) := by decide +kernel
theorem dX10_due_59 : decode cX10_due 59 = .ok (.iload_n 1, 1) := by decide +kernel
theorem dX10_due_60 : decode cX10_due 60 = .ok (.iload_n 2, 1) := by decide +kernel
theorem dX10_due_61 : decode cX10_due 61 = .ok (.invokevirtual 256, 3) := by decide +kernel
theorem dX10_due_64 : decode cX10_due 64 = .ok (.goto 4, 3) := by decide +kernel
theorem dX10_due_67 : decode cX10_due 67 = .ok (.iconst (-1), 1) := by decide +kernel
theorem dX10_due_68 : decode cX10_due 68 = .ok (.ireturn, 1) := by decide +kernel
theorem dX10_month_0 : decode cX10_month 0 = .ok (.iload_n 0, 1) := by decide +kernel
theorem dX10_month_1 : decode cX10_month 1 = .ok (.sipush 720, 3) := by decide +kernel
theorem dX10_month_4 : decode cX10_month 4 = .ok (.idiv, 1) := by decide +kernel
theorem dX10_month_5 : decode cX10_month 5 = .ok (.bipush 12, 2) := by decide +kernel
theorem dX10_month_7 : decode cX10_month 7 = .ok (.irem, 1) := by decide +kernel
theorem dX10_month_8 : decode cX10_month 8 = .ok (.ireturn, 1) := by decide +kernel
theorem dX10_windIn_0 : decode cX10_windIn 0 = .ok (.aload_n 0, 1) := by decide +kernel
theorem dX10_windIn_1 : decode cX10_windIn 1 = .ok (.getfield 19, 3) := by decide +kernel
theorem dX10_windIn_4 : decode cX10_windIn 4 = .ok (.bipush 12, 2) := by decide +kernel
theorem dX10_windIn_6 : decode cX10_windIn 6 = .ok (.aload_n 0, 1) := by decide +kernel
theorem dX10_windIn_7 : decode cX10_windIn 7 = .ok (.getfield 37, 3) := by decide +kernel
theorem dX10_windIn_10 : decode cX10_windIn 10 = .ok (.bipush 6, 2) := by decide +kernel
theorem dX10_windIn_12 : decode cX10_windIn 12 = .ok (.iload_n 1, 1) := by decide +kernel
theorem dX10_windIn_13 : decode cX10_windIn 13 = .ok (.imul, 1) := by decide +kernel
theorem dX10_windIn_14 : decode cX10_windIn 14 = .ok (.iload_n 2, 1) := by decide +kernel
theorem dX10_windIn_15 : decode cX10_windIn 15 = .ok (.iadd, 1) := by decide +kernel
theorem dX10_windIn_16 : decode cX10_windIn 16 = .ok (.iaload, 1) := by decide +kernel
theorem dX10_windIn_17 : decode cX10_windIn 17 = .ok (.imul, 1) := by decide +kernel
theorem dX10_windIn_18 : decode cX10_windIn 18 = .ok (.iload_n 3, 1) := by decide +kernel
theorem dX10_windIn_19 : decode cX10_windIn 19 = .ok (.invokestatic 262, 3) := by decide +kernel
theorem dX10_windIn_22 : decode cX10_windIn 22 = .ok (.iadd, 1) := by decide +kernel
theorem dX10_windIn_23 : decode cX10_windIn 23 = .ok (.iaload, 1) := by decide +kernel
theorem dX10_windIn_24 : decode cX10_windIn 24 = .ok (.ireturn, 1) := by decide +kernel
theorem dX10_waits_0 : decode cX10_waits 0 = .ok (.aload_n 0, 1) := by decide +kernel
theorem dX10_waits_1 : decode cX10_waits 1 = .ok (.iload_n 1, 1) := by decide +kernel
theorem dX10_waits_2 : decode cX10_waits 2 = .ok (.aload_n 0, 1) := by decide +kernel
theorem dX10_waits_3 : decode cX10_waits 3 = .ok (.getfield 124, 3) := by decide +kernel
theorem dX10_waits_6 : decode cX10_waits 6 = .ok (.iload_n 1, 1) := by decide +kernel
theorem dX10_waits_7 : decode cX10_waits 7 = .ok (.iaload, 1) := by decide +kernel
theorem dX10_waits_8 : decode cX10_waits 8 = .ok (.invokevirtual 175, 3) := by decide +kernel
theorem dX10_waits_11 : decode cX10_waits 11 = .ok (.istore_n 3, 1) := by decide +kernel
theorem dX10_waits_12 : decode cX10_waits 12 = .ok (.iload_n 3, 1) := by decide +kernel
theorem dX10_waits_13 : decode cX10_waits 13 = .ok (.iconst (-1), 1) := by decide +kernel
theorem dX10_waits_14 : decode cX10_waits 14 = .ok (.if_icmp .ne 5, 3) := by decide +kernel
theorem dX10_waits_17 : decode cX10_waits 17 = .ok (.iconst 0, 1) := by decide +kernel
theorem dX10_waits_18 : decode cX10_waits 18 = .ok (.ireturn, 1) := by decide +kernel
theorem dX10_waits_19 : decode cX10_waits 19 = .ok (.aload_n 0, 1) := by decide +kernel
theorem dX10_waits_20 : decode cX10_waits 20 = .ok (.getfield 52, 3) := by decide +kernel
theorem dX10_waits_23 : decode cX10_waits 23 = .ok (.iload_n 3, 1) := by decide +kernel
theorem dX10_waits_24 : decode cX10_waits 24 = .ok (.iaload, 1) := by decide +kernel
theorem dX10_waits_25 : decode cX10_waits 25 = .ok (.istore 4, 2) := by decide +kernel
theorem dX10_waits_27 : decode cX10_waits 27 = .ok (.aload_n 0, 1) := by decide +kernel
theorem dX10_waits_28 : decode cX10_waits 28 = .ok (.getfield 109, 3) := by decide +kernel
theorem dX10_waits_31 : decode cX10_waits 31 = .ok (.bipush 7, 2) := by decide +kernel
theorem dX10_waits_33 : decode cX10_waits 33 = .ok (.iload 4, 2) := by decide +kernel
theorem dX10_waits_35 : decode cX10_waits 35 = .ok (.imul, 1) := by decide +kernel
theorem dX10_waits_36 : decode cX10_waits 36 = .ok (.aload_n 0, 1) := by decide +kernel
theorem dX10_waits_37 : decode cX10_waits 37 = .ok (.getfield 55, 3) := by decide +kernel
theorem dX10_waits_40 : decode cX10_waits 40 = .ok (.iload_n 3, 1) := by decide +kernel
theorem dX10_waits_41 : decode cX10_waits 41 = .ok (.iaload, 1) := by decide +kernel
theorem dX10_waits_42 : decode cX10_waits 42 = .ok (.iadd, 1) := by decide +kernel
theorem dX10_waits_43 : decode cX10_waits 43 = .ok (.iaload, 1) := by decide +kernel
theorem dX10_waits_44 : decode cX10_waits 44 = .ok (.istore 5, 2) := by decide +kernel
theorem dX10_waits_46 : decode cX10_waits 46 = .ok (.iload 5, 2) := by decide +kernel
theorem dX10_waits_48 : decode cX10_waits 48 = .ok (.iconst (-1), 1) := by decide +kernel
theorem dX10_waits_49 : decode cX10_waits 49 = .ok (.if_icmp .eq 11, 3) := by decide +kernel
theorem dX10_waits_52 : decode cX10_waits 52 = .ok (.iload 5, 2) := by decide +kernel
theorem dX10_waits_54 : decode cX10_waits 54 = .ok (.iload_n 2, 1) := by decide +kernel
theorem dX10_waits_55 : decode cX10_waits 55 = .ok (.if_icmp .gt 5, 3) := by decide +kernel
theorem dX10_waits_58 : decode cX10_waits 58 = .ok (.iconst 0, 1) := by decide +kernel
theorem dX10_waits_59 : decode cX10_waits 59 = .ok (.ireturn, 1) := by decide +kernel
theorem dX10_waits_60 : decode cX10_waits 60 = .ok (.aload_n 0, 1) := by decide +kernel
theorem dX10_waits_61 : decode cX10_waits 61 = .ok (.getfield 102, 3) := by decide +kernel
theorem dX10_waits_64 : decode cX10_waits 64 = .ok (.iconst 0, 1) := by decide +kernel
theorem dX10_waits_65 : decode cX10_waits 65 = .ok (.iload_n 2, 1) := by decide +kernel
theorem dX10_waits_66 : decode cX10_waits 66 = .ok (.aload_n 0, 1) := by decide +kernel
theorem dX10_waits_67 : decode cX10_waits 67 = .ok (.iload 4, 2) := by decide +kernel
theorem dX10_waits_69 : decode cX10_waits 69 = .ok (.aload_n 0, 1) := by decide +kernel
theorem dX10_waits_70 : decode cX10_waits 70 = .ok (.getfield 55, 3) := by decide +kernel
theorem dX10_waits_73 : decode cX10_waits 73 = .ok (.iload_n 3, 1) := by decide +kernel
theorem dX10_waits_74 : decode cX10_waits 74 = .ok (.iaload, 1) := by decide +kernel
theorem dX10_waits_75 : decode cX10_waits 75 = .ok (.invokevirtual 259, 3) := by decide +kernel
theorem dX10_waits_78 : decode cX10_waits 78 = .ok (.isub, 1) := by decide +kernel
theorem dX10_waits_79 : decode cX10_waits 79 = .ok (.iastore, 1) := by decide +kernel
theorem dX10_waits_80 : decode cX10_waits 80 = .ok (.aload_n 0, 1) := by decide +kernel
theorem dX10_waits_81 : decode cX10_waits 81 = .ok (.getfield 102, 3) := by decide +kernel
theorem dX10_waits_84 : decode cX10_waits 84 = .ok (.iconst 1, 1) := by decide +kernel
theorem dX10_waits_85 : decode cX10_waits 85 = .ok (.iload_n 2, 1) := by decide +kernel
theorem dX10_waits_86 : decode cX10_waits 86 = .ok (.aload_n 0, 1) := by decide +kernel
theorem dX10_waits_87 : decode cX10_waits 87 = .ok (.getfield 127, 3) := by decide +kernel
theorem dX10_waits_90 : decode cX10_waits 90 = .ok (.iload_n 1, 1) := by decide +kernel
theorem dX10_waits_91 : decode cX10_waits 91 = .ok (.iaload, 1) := by decide +kernel
theorem dX10_waits_92 : decode cX10_waits 92 = .ok (.isub, 1) := by decide +kernel
theorem dX10_waits_93 : decode cX10_waits 93 = .ok (.iastore, 1) := by decide +kernel
theorem dX10_waits_94 : decode cX10_waits 94 = .ok (.aload_n 0, 1) := by decide +kernel
theorem dX10_waits_95 : decode cX10_waits 95 = .ok (.getfield 102, 3) := by decide +kernel
theorem dX10_waits_98 : decode cX10_waits 98 = .ok (.iconst 2, 1) := by decide +kernel
theorem dX10_waits_99 : decode cX10_waits 99 = .ok (.aload_n 0, 1) := by decide +kernel
theorem dX10_waits_100 : decode cX10_waits 100 = .ok (.iload_n 1, 1) := by decide +kernel
theorem dX10_waits_101 : decode cX10_waits 101 = .ok (.aload_n 0, 1) := by decide +kernel
theorem dX10_waits_102 : decode cX10_waits 102 = .ok (.getfield 124, 3) := by decide +kernel
theorem dX10_waits_105 : decode cX10_waits 105 = .ok (.iload_n 1, 1) := by decide +kernel
theorem dX10_waits_106 : decode cX10_waits 106 = .ok (.iaload, 1) := by decide +kernel
theorem dX10_waits_107 : decode cX10_waits 107 = .ok (.iload_n 2, 1) := by decide +kernel
theorem dX10_waits_108 : decode cX10_waits 108 = .ok (.invokevirtual 265, 3) := by decide +kernel
theorem dX10_waits_111 : decode cX10_waits 111 = .ok (.iastore, 1) := by decide +kernel
theorem dX10_waits_112 : decode cX10_waits 112 = .ok (.aload_n 0, 1) := by decide +kernel
theorem dX10_waits_113 : decode cX10_waits 113 = .ok (.getfield 102, 3) := by decide +kernel
theorem dX10_waits_116 : decode cX10_waits 116 = .ok (.iconst 3, 1) := by decide +kernel
theorem dX10_waits_117 : decode cX10_waits 117 = .ok (.aload_n 0, 1) := by decide +kernel
theorem dX10_waits_118 : decode cX10_waits 118 = .ok (.getfield 40, 3) := by decide +kernel
theorem dX10_waits_121 : decode cX10_waits 121 = .ok (.bipush 6, 2) := by decide +kernel
theorem dX10_waits_123 : decode cX10_waits 123 = .ok (.iload_n 1, 1) := by decide +kernel
theorem dX10_waits_124 : decode cX10_waits 124 = .ok (.imul, 1) := by decide +kernel
theorem dX10_waits_125 : decode cX10_waits 125 = .ok (.aload_n 0, 1) := by decide +kernel
theorem dX10_waits_126 : decode cX10_waits 126 = .ok (.getfield 124, 3) := by decide +kernel
theorem dX10_waits_129 : decode cX10_waits 129 = .ok (.iload_n 1, 1) := by decide +kernel
theorem dX10_waits_130 : decode cX10_waits 130 = .ok (.iaload, 1) := by decide +kernel
theorem dX10_waits_131 : decode cX10_waits 131 = .ok (.iadd, 1) := by decide +kernel
theorem dX10_waits_132 : decode cX10_waits 132 = .ok (.iaload, 1) := by decide +kernel
theorem dX10_waits_133 : decode cX10_waits 133 = .ok (.iastore, 1) := by decide +kernel
theorem dX10_waits_134 : decode cX10_waits 134 = .ok (.aload_n 0, 1) := by decide +kernel
theorem dX10_waits_135 : decode cX10_waits 135 = .ok (.getfield 102, 3) := by decide +kernel
theorem dX10_waits_138 : decode cX10_waits 138 = .ok (.iconst 4, 1) := by decide +kernel
theorem dX10_waits_139 : decode cX10_waits 139 = .ok (.iload_n 2, 1) := by decide +kernel
theorem dX10_waits_140 : decode cX10_waits 140 = .ok (.invokestatic 262, 3) := by decide +kernel
theorem dX10_waits_143 : decode cX10_waits 143 = .ok (.iastore, 1) := by decide +kernel
theorem dX10_waits_144 : decode cX10_waits 144 = .ok (.aload_n 0, 1) := by decide +kernel
theorem dX10_waits_145 : decode cX10_waits 145 = .ok (.getfield 22, 3) := by decide +kernel
theorem dX10_waits_148 : decode cX10_waits 148 = .ok (.iload_n 1, 1) := by decide +kernel
theorem dX10_waits_149 : decode cX10_waits 149 = .ok (.iaload, 1) := by decide +kernel
theorem dX10_waits_150 : decode cX10_waits 150 = .ok (.istore 6, 2) := by decide +kernel
theorem dX10_waits_152 : decode cX10_waits 152 = .ok (.bipush 12, 2) := by decide +kernel
theorem dX10_waits_154 : decode cX10_waits 154 = .ok (.iload 6, 2) := by decide +kernel
theorem dX10_waits_156 : decode cX10_waits 156 = .ok (.imul, 1) := by decide +kernel
theorem dX10_waits_157 : decode cX10_waits 157 = .ok (.istore 7, 2) := by decide +kernel
theorem dX10_waits_159 : decode cX10_waits 159 = .ok (.iload 7, 2) := by decide +kernel
theorem dX10_waits_161 : decode cX10_waits 161 = .ok (.bipush 12, 2) := by decide +kernel
theorem dX10_waits_163 : decode cX10_waits 163 = .ok (.iload 6, 2) := by decide +kernel
theorem dX10_waits_165 : decode cX10_waits 165 = .ok (.imul, 1) := by decide +kernel
theorem dX10_waits_166 : decode cX10_waits 166 = .ok (.aload_n 0, 1) := by decide +kernel
theorem dX10_waits_167 : decode cX10_waits 167 = .ok (.getfield 66, 3) := by decide +kernel
theorem dX10_waits_170 : decode cX10_waits 170 = .ok (.iload 6, 2) := by decide +kernel
theorem dX10_waits_172 : decode cX10_waits 172 = .ok (.iaload, 1) := by decide +kernel
theorem dX10_waits_173 : decode cX10_waits 173 = .ok (.iadd, 1) := by decide +kernel
theorem dX10_waits_174 : decode cX10_waits 174 = .ok (.if_icmp .ge 62, 3) := by decide +kernel
theorem dX10_waits_177 : decode cX10_waits 177 = .ok (.aload_n 0, 1) := by decide +kernel
theorem dX10_waits_178 : decode cX10_waits 178 = .ok (.getfield 75, 3) := by decide +kernel
theorem dX10_waits_181 : decode cX10_waits 181 = .ok (.iload 7, 2) := by decide +kernel
theorem dX10_waits_183 : decode cX10_waits 183 = .ok (.iaload, 1) := by decide +kernel
theorem dX10_waits_184 : decode cX10_waits 184 = .ok (.bipush 87, 2) := by decide +kernel
theorem dX10_waits_186 : decode cX10_waits 186 = .ok (.if_icmp .ne 44, 3) := by decide +kernel
theorem dX10_waits_189 : decode cX10_waits 189 = .ok (.aload_n 0, 1) := by decide +kernel
theorem dX10_waits_190 : decode cX10_waits 190 = .ok (.getfield 78, 3) := by decide +kernel
theorem dX10_waits_193 : decode cX10_waits 193 = .ok (.iload 7, 2) := by decide +kernel
theorem dX10_waits_195 : decode cX10_waits 195 = .ok (.iaload, 1) := by decide +kernel
theorem dX10_waits_196 : decode cX10_waits 196 = .ok (.aload_n 0, 1) := by decide +kernel
theorem dX10_waits_197 : decode cX10_waits 197 = .ok (.getfield 102, 3) := by decide +kernel
theorem dX10_waits_200 : decode cX10_waits 200 = .ok (.iconst 1, 1) := by decide +kernel
theorem dX10_waits_201 : decode cX10_waits 201 = .ok (.iaload, 1) := by decide +kernel
theorem dX10_waits_202 : decode cX10_waits 202 = .ok (.if_icmp .le 28, 3) := by decide +kernel
theorem dX10_waits_205 : decode cX10_waits 205 = .ok (.aload_n 0, 1) := by decide +kernel
theorem dX10_waits_206 : decode cX10_waits 206 = .ok (.iload 6, 2) := by decide +kernel
theorem dX10_waits_208 : decode cX10_waits 208 = .ok (.aload_n 0, 1) := by decide +kernel
theorem dX10_waits_209 : decode cX10_waits 209 = .ok (.getfield 81, 3) := by decide +kernel
theorem dX10_waits_212 : decode cX10_waits 212 = .ok (.iload 7, 2) := by decide +kernel
theorem dX10_waits_214 : decode cX10_waits 214 = .ok (.iaload, 1) := by decide +kernel
theorem dX10_waits_215 : decode cX10_waits 215 = .ok (.aload_n 0, 1) := by decide +kernel
theorem dX10_waits_216 : decode cX10_waits 216 = .ok (.getfield 84, 3) := by decide +kernel
theorem dX10_waits_219 : decode cX10_waits 219 = .ok (.iload 7, 2) := by decide +kernel
theorem dX10_waits_221 : decode cX10_waits 221 = .ok (.iaload, 1) := by decide +kernel
theorem dX10_waits_222 : decode cX10_waits 222 = .ok (.invokevirtual 269, 3) := by decide +kernel
theorem dX10_waits_225 : decode cX10_waits 225 = .ok (.ifCond .eq 5, 3) := by decide +kernel
theorem dX10_waits_228 : decode cX10_waits 228 = .ok (.iconst 1, 1) := by decide +kernel
theorem dX10_waits_229 : decode cX10_waits 229 = .ok (.ireturn, 1) := by decide +kernel
theorem dX10_waits_230 : decode cX10_waits 230 = .ok (.iinc 7 1, 3) := by decide +kernel
theorem dX10_waits_233 : decode cX10_waits 233 = .ok (.goto (-74), 3) := by decide +kernel
theorem dX10_waits_236 : decode cX10_waits 236 = .ok (.iconst 0, 1) := by decide +kernel
theorem dX10_waits_237 : decode cX10_waits 237 = .ok (.ireturn, 1) := by decide +kernel
theorem dX10_sails_0 : decode cX10_sails 0 = .ok (.bipush 7, 2) := by decide +kernel
theorem dX10_sails_2 : decode cX10_sails 2 = .ok (.iload_n 1, 1) := by decide +kernel
theorem dX10_sails_3 : decode cX10_sails 3 = .ok (.imul, 1) := by decide +kernel
theorem dX10_sails_4 : decode cX10_sails 4 = .ok (.aload_n 0, 1) := by decide +kernel
theorem dX10_sails_5 : decode cX10_sails 5 = .ok (.getfield 124, 3) := by decide +kernel
theorem dX10_sails_8 : decode cX10_sails 8 = .ok (.iload_n 1, 1) := by decide +kernel
theorem dX10_sails_9 : decode cX10_sails 9 = .ok (.iaload, 1) := by decide +kernel
theorem dX10_sails_10 : decode cX10_sails 10 = .ok (.iadd, 1) := by decide +kernel
theorem dX10_sails_11 : decode cX10_sails 11 = .ok (.istore_n 3, 1) := by decide +kernel
theorem dX10_sails_12 : decode cX10_sails 12 = .ok (.aload_n 0, 1) := by decide +kernel
theorem dX10_sails_13 : decode cX10_sails 13 = .ok (.getfield 112, 3) := by decide +kernel
theorem dX10_sails_16 : decode cX10_sails 16 = .ok (.iload_n 3, 1) := by decide +kernel
theorem dX10_sails_17 : decode cX10_sails 17 = .ok (.iload_n 2, 1) := by decide +kernel
theorem dX10_sails_18 : decode cX10_sails 18 = .ok (.iastore, 1) := by decide +kernel
theorem dX10_sails_19 : decode cX10_sails 19 = .ok (.aload_n 0, 1) := by decide +kernel
theorem dX10_sails_20 : decode cX10_sails 20 = .ok (.getfield 115, 3) := by decide +kernel
theorem dX10_sails_23 : decode cX10_sails 23 = .ok (.iload_n 3, 1) := by decide +kernel
theorem dX10_sails_24 : decode cX10_sails 24 = .ok (.iload_n 2, 1) := by decide +kernel
theorem dX10_sails_25 : decode cX10_sails 25 = .ok (.aload_n 0, 1) := by decide +kernel
theorem dX10_sails_26 : decode cX10_sails 26 = .ok (.getfield 127, 3) := by decide +kernel
theorem dX10_sails_29 : decode cX10_sails 29 = .ok (.iload_n 1, 1) := by decide +kernel
theorem dX10_sails_30 : decode cX10_sails 30 = .ok (.iaload, 1) := by decide +kernel
theorem dX10_sails_31 : decode cX10_sails 31 = .ok (.isub, 1) := by decide +kernel
theorem dX10_sails_32 : decode cX10_sails 32 = .ok (.iastore, 1) := by decide +kernel
theorem dX10_sails_33 : decode cX10_sails 33 = .ok (.aload_n 0, 1) := by decide +kernel
theorem dX10_sails_34 : decode cX10_sails 34 = .ok (.getfield 133, 3) := by decide +kernel
theorem dX10_sails_37 : decode cX10_sails 37 = .ok (.iload_n 1, 1) := by decide +kernel
theorem dX10_sails_38 : decode cX10_sails 38 = .ok (.iconst 1, 1) := by decide +kernel
theorem dX10_sails_39 : decode cX10_sails 39 = .ok (.bastore, 1) := by decide +kernel
theorem dX10_sails_40 : decode cX10_sails 40 = .ok (.aload_n 0, 1) := by decide +kernel
theorem dX10_sails_41 : decode cX10_sails 41 = .ok (.getfield 25, 3) := by decide +kernel
theorem dX10_sails_44 : decode cX10_sails 44 = .ok (.iload_n 1, 1) := by decide +kernel
theorem dX10_sails_45 : decode cX10_sails 45 = .ok (.iaload, 1) := by decide +kernel
theorem dX10_sails_46 : decode cX10_sails 46 = .ok (.bipush 100, 2) := by decide +kernel
theorem dX10_sails_48 : decode cX10_sails 48 = .ok (.aload_n 0, 1) := by decide +kernel
theorem dX10_sails_49 : decode cX10_sails 49 = .ok (.iload_n 1, 1) := by decide +kernel
theorem dX10_sails_50 : decode cX10_sails 50 = .ok (.aload_n 0, 1) := by decide +kernel
theorem dX10_sails_51 : decode cX10_sails 51 = .ok (.getfield 124, 3) := by decide +kernel
theorem dX10_sails_54 : decode cX10_sails 54 = .ok (.iload_n 1, 1) := by decide +kernel
theorem dX10_sails_55 : decode cX10_sails 55 = .ok (.iaload, 1) := by decide +kernel
theorem dX10_sails_56 : decode cX10_sails 56 = .ok (.iload_n 2, 1) := by decide +kernel
theorem dX10_sails_57 : decode cX10_sails 57 = .ok (.invokevirtual 265, 3) := by decide +kernel
theorem dX10_sails_60 : decode cX10_sails 60 = .ok (.iadd, 1) := by decide +kernel
theorem dX10_sails_61 : decode cX10_sails 61 = .ok (.imul, 1) := by decide +kernel
theorem dX10_sails_62 : decode cX10_sails 62 = .ok (.istore 4, 2) := by decide +kernel
theorem dX10_sails_64 : decode cX10_sails 64 = .ok (.aload_n 0, 1) := by decide +kernel
theorem dX10_sails_65 : decode cX10_sails 65 = .ok (.getfield 130, 3) := by decide +kernel
theorem dX10_sails_68 : decode cX10_sails 68 = .ok (.iload_n 1, 1) := by decide +kernel
theorem dX10_sails_69 : decode cX10_sails 69 = .ok (.iload_n 2, 1) := by decide +kernel
theorem dX10_sails_70 : decode cX10_sails 70 = .ok (.bipush 100, 2) := by decide +kernel
theorem dX10_sails_72 : decode cX10_sails 72 = .ok (.aload_n 0, 1) := by decide +kernel
theorem dX10_sails_73 : decode cX10_sails 73 = .ok (.getfield 16, 3) := by decide +kernel
theorem dX10_sails_76 : decode cX10_sails 76 = .ok (.aload_n 0, 1) := by decide +kernel
theorem dX10_sails_77 : decode cX10_sails 77 = .ok (.getfield 37, 3) := by decide +kernel
theorem dX10_sails_80 : decode cX10_sails 80 = .ok (.bipush 6, 2) := by decide +kernel
theorem dX10_sails_82 : decode cX10_sails 82 = .ok (.iload_n 1, 1) := by decide +kernel
theorem dX10_sails_83 : decode cX10_sails 83 = .ok (.imul, 1) := by decide +kernel
theorem dX10_sails_84 : decode cX10_sails 84 = .ok (.aload_n 0, 1) := by decide +kernel
theorem dX10_sails_85 : decode cX10_sails 85 = .ok (.getfield 124, 3) := by decide +kernel
theorem dX10_sails_88 : decode cX10_sails 88 = .ok (.iload_n 1, 1) := by decide +kernel
theorem dX10_sails_89 : decode cX10_sails 89 = .ok (.iaload, 1) := by decide +kernel
theorem dX10_sails_90 : decode cX10_sails 90 = .ok (.iadd, 1) := by decide +kernel
theorem dX10_sails_91 : decode cX10_sails 91 = .ok (.iaload, 1) := by decide +kernel
theorem dX10_sails_92 : decode cX10_sails 92 = .ok (.iaload, 1) := by decide +kernel
theorem dX10_sails_93 : decode cX10_sails 93 = .ok (.imul, 1) := by decide +kernel
theorem dX10_sails_94 : decode cX10_sails 94 = .ok (.iload 4, 2) := by decide +kernel
theorem dX10_sails_96 : decode cX10_sails 96 = .ok (.invokestatic 250, 3) := by decide +kernel
theorem dX10_sails_99 : decode cX10_sails 99 = .ok (.iadd, 1) := by decide +kernel
theorem dX10_sails_100 : decode cX10_sails 100 = .ok (.aload_n 0, 1) := by decide +kernel
theorem dX10_sails_101 : decode cX10_sails 101 = .ok (.getfield 40, 3) := by decide +kernel
theorem dX10_sails_104 : decode cX10_sails 104 = .ok (.bipush 6, 2) := by decide +kernel
theorem dX10_sails_106 : decode cX10_sails 106 = .ok (.iload_n 1, 1) := by decide +kernel
theorem dX10_sails_107 : decode cX10_sails 107 = .ok (.imul, 1) := by decide +kernel
theorem dX10_sails_108 : decode cX10_sails 108 = .ok (.aload_n 0, 1) := by decide +kernel
theorem dX10_sails_109 : decode cX10_sails 109 = .ok (.getfield 124, 3) := by decide +kernel
theorem dX10_sails_112 : decode cX10_sails 112 = .ok (.iload_n 1, 1) := by decide +kernel
theorem dX10_sails_113 : decode cX10_sails 113 = .ok (.iaload, 1) := by decide +kernel
theorem dX10_sails_114 : decode cX10_sails 114 = .ok (.iadd, 1) := by decide +kernel
theorem dX10_sails_115 : decode cX10_sails 115 = .ok (.iaload, 1) := by decide +kernel
theorem dX10_sails_116 : decode cX10_sails 116 = .ok (.iadd, 1) := by decide +kernel
theorem dX10_sails_117 : decode cX10_sails 117 = .ok (.iastore, 1) := by decide +kernel
theorem dX10_sails_118 : decode cX10_sails 118 = .ok (.return_, 1) := by decide +kernel
theorem dX10_isExcused_0 : decode cX10_isExcused 0 = .ok (.bipush 7, 2) := by decide +kernel
theorem dX10_isExcused_2 : decode cX10_isExcused 2 = .ok (.iload_n 1, 1) := by decide +kernel
theorem dX10_isExcused_3 : decode cX10_isExcused 3 = .ok (.imul, 1) := by decide +kernel
theorem dX10_isExcused_4 : decode cX10_isExcused 4 = .ok (.iload_n 2, 1) := by decide +kernel
theorem dX10_isExcused_5 : decode cX10_isExcused 5 = .ok (.iadd, 1) := by decide +kernel
theorem dX10_isExcused_6 : decode cX10_isExcused 6 = .ok (.iconst 1, 1) := by decide +kernel
theorem dX10_isExcused_7 : decode cX10_isExcused 7 = .ok (.isub, 1) := by decide +kernel
theorem dX10_isExcused_8 : decode cX10_isExcused 8 = .ok (.istore 4, 2) := by decide +kernel
theorem dX10_isExcused_10 : decode cX10_isExcused 10 = .ok (.iload_n 3, 1) := by decide +kernel
theorem dX10_isExcused_11 : decode cX10_isExcused 11 = .ok (.aload_n 0, 1) := by decide +kernel
theorem dX10_isExcused_12 : decode cX10_isExcused 12 = .ok (.iload_n 1, 1) := by decide +kernel
theorem dX10_isExcused_13 : decode cX10_isExcused 13 = .ok (.iload_n 2, 1) := by decide +kernel
theorem dX10_isExcused_14 : decode cX10_isExcused 14 = .ok (.invokevirtual 259, 3) := by decide +kernel
theorem dX10_isExcused_17 : decode cX10_isExcused 17 = .ok (.isub, 1) := by decide +kernel
theorem dX10_isExcused_18 : decode cX10_isExcused 18 = .ok (.istore 5, 2) := by decide +kernel
theorem dX10_isExcused_20 : decode cX10_isExcused 20 = .ok (.aload_n 0, 1) := by decide +kernel
theorem dX10_isExcused_21 : decode cX10_isExcused 21 = .ok (.getfield 102, 3) := by decide +kernel
theorem dX10_isExcused_24 : decode cX10_isExcused 24 = .ok (.iconst 0, 1) := by decide +kernel
theorem dX10_isExcused_25 : decode cX10_isExcused 25 = .ok (.iload 5, 2) := by decide +kernel
theorem dX10_isExcused_27 : decode cX10_isExcused 27 = .ok (.ifCond .le 8, 3) := by decide +kernel
theorem dX10_isExcused_30 : decode cX10_isExcused 30 = .ok (.iload 5, 2) := by decide +kernel
theorem dX10_isExcused_32 : decode cX10_isExcused 32 = .ok (.goto 4, 3) := by decide +kernel
theorem dX10_isExcused_35 : decode cX10_isExcused 35 = .ok (.iconst 0, 1) := by decide +kernel
theorem dX10_isExcused_36 : decode cX10_isExcused 36 = .ok (.iastore, 1) := by decide +kernel
theorem dX10_isExcused_37 : decode cX10_isExcused 37 = .ok (.aload_n 0, 1) := by decide +kernel
theorem dX10_isExcused_38 : decode cX10_isExcused 38 = .ok (.getfield 102, 3) := by decide +kernel
theorem dX10_isExcused_41 : decode cX10_isExcused 41 = .ok (.iconst 1, 1) := by decide +kernel
theorem dX10_isExcused_42 : decode cX10_isExcused 42 = .ok (.aload_n 0, 1) := by decide +kernel
theorem dX10_isExcused_43 : decode cX10_isExcused 43 = .ok (.getfield 115, 3) := by decide +kernel
theorem dX10_isExcused_46 : decode cX10_isExcused 46 = .ok (.iload 4, 2) := by decide +kernel
theorem dX10_isExcused_48 : decode cX10_isExcused 48 = .ok (.iaload, 1) := by decide +kernel
theorem dX10_isExcused_49 : decode cX10_isExcused 49 = .ok (.iastore, 1) := by decide +kernel
theorem dX10_isExcused_50 : decode cX10_isExcused 50 = .ok (.aload_n 0, 1) := by decide +kernel
theorem dX10_isExcused_51 : decode cX10_isExcused 51 = .ok (.getfield 102, 3) := by decide +kernel
theorem dX10_isExcused_54 : decode cX10_isExcused 54 = .ok (.iconst 2, 1) := by decide +kernel
theorem dX10_isExcused_55 : decode cX10_isExcused 55 = .ok (.aload_n 0, 1) := by decide +kernel
theorem dX10_isExcused_56 : decode cX10_isExcused 56 = .ok (.iload_n 1, 1) := by decide +kernel
theorem dX10_isExcused_57 : decode cX10_isExcused 57 = .ok (.iload_n 2, 1) := by decide +kernel
theorem dX10_isExcused_58 : decode cX10_isExcused 58 = .ok (.iconst 1, 1) := by decide +kernel
theorem dX10_isExcused_59 : decode cX10_isExcused 59 = .ok (.isub, 1) := by decide +kernel
theorem dX10_isExcused_60 : decode cX10_isExcused 60 = .ok (.aload_n 0, 1) := by decide +kernel
theorem dX10_isExcused_61 : decode cX10_isExcused 61 = .ok (.getfield 112, 3) := by decide +kernel
theorem dX10_isExcused_64 : decode cX10_isExcused 64 = .ok (.iload 4, 2) := by decide +kernel
theorem dX10_isExcused_66 : decode cX10_isExcused 66 = .ok (.iaload, 1) := by decide +kernel
theorem dX10_isExcused_67 : decode cX10_isExcused 67 = .ok (.invokevirtual 265, 3) := by decide +kernel
theorem dX10_isExcused_70 : decode cX10_isExcused 70 = .ok (.iastore, 1) := by decide +kernel
theorem dX10_isExcused_71 : decode cX10_isExcused 71 = .ok (.aload_n 0, 1) := by decide +kernel
theorem dX10_isExcused_72 : decode cX10_isExcused 72 = .ok (.getfield 102, 3) := by decide +kernel
theorem dX10_isExcused_75 : decode cX10_isExcused 75 = .ok (.iconst 3, 1) := by decide +kernel
theorem dX10_isExcused_76 : decode cX10_isExcused 76 = .ok (.aload_n 0, 1) := by decide +kernel
theorem dX10_isExcused_77 : decode cX10_isExcused 77 = .ok (.getfield 40, 3) := by decide +kernel
theorem dX10_isExcused_80 : decode cX10_isExcused 80 = .ok (.bipush 6, 2) := by decide +kernel
theorem dX10_isExcused_82 : decode cX10_isExcused 82 = .ok (.iload_n 1, 1) := by decide +kernel
theorem dX10_isExcused_83 : decode cX10_isExcused 83 = .ok (.imul, 1) := by decide +kernel
theorem dX10_isExcused_84 : decode cX10_isExcused 84 = .ok (.iload_n 2, 1) := by decide +kernel
theorem dX10_isExcused_85 : decode cX10_isExcused 85 = .ok (.iadd, 1) := by decide +kernel
theorem dX10_isExcused_86 : decode cX10_isExcused 86 = .ok (.iconst 1, 1) := by decide +kernel
theorem dX10_isExcused_87 : decode cX10_isExcused 87 = .ok (.isub, 1) := by decide +kernel
theorem dX10_isExcused_88 : decode cX10_isExcused 88 = .ok (.iaload, 1) := by decide +kernel
theorem dX10_isExcused_89 : decode cX10_isExcused 89 = .ok (.iastore, 1) := by decide +kernel
theorem dX10_isExcused_90 : decode cX10_isExcused 90 = .ok (.aload_n 0, 1) := by decide +kernel
theorem dX10_isExcused_91 : decode cX10_isExcused 91 = .ok (.getfield 102, 3) := by decide +kernel
theorem dX10_isExcused_94 : decode cX10_isExcused 94 = .ok (.iconst 4, 1) := by decide +kernel
theorem dX10_isExcused_95 : decode cX10_isExcused 95 = .ok (.iload_n 3, 1) := by decide +kernel
theorem dX10_isExcused_96 : decode cX10_isExcused 96 = .ok (.invokestatic 262, 3) := by decide +kernel
theorem dX10_isExcused_99 : decode cX10_isExcused 99 = .ok (.iastore, 1) := by decide +kernel
theorem dX10_isExcused_100 : decode cX10_isExcused 100 = .ok (.aload_n 0, 1) := by decide +kernel
theorem dX10_isExcused_101 : decode cX10_isExcused 101 = .ok (.getfield 22, 3) := by decide +kernel
theorem dX10_isExcused_104 : decode cX10_isExcused 104 = .ok (.iload_n 1, 1) := by decide +kernel
theorem dX10_isExcused_105 : decode cX10_isExcused 105 = .ok (.iaload, 1) := by decide +kernel
theorem dX10_isExcused_106 : decode cX10_isExcused 106 = .ok (.istore 6, 2) := by decide +kernel
theorem dX10_isExcused_108 : decode cX10_isExcused 108 = .ok (.bipush 12, 2) := by decide +kernel
theorem dX10_isExcused_110 : decode cX10_isExcused 110 = .ok (.iload 6, 2) := by decide +kernel
theorem dX10_isExcused_112 : decode cX10_isExcused 112 = .ok (.imul, 1) := by decide +kernel
theorem dX10_isExcused_113 : decode cX10_isExcused 113 = .ok (.istore 7, 2) := by decide +kernel
theorem dX10_isExcused_115 : decode cX10_isExcused 115 = .ok (.iload 7, 2) := by decide +kernel
theorem dX10_isExcused_117 : decode cX10_isExcused 117 = .ok (.bipush 12, 2) := by decide +kernel
theorem dX10_isExcused_119 : decode cX10_isExcused 119 = .ok (.iload 6, 2) := by decide +kernel
theorem dX10_isExcused_121 : decode cX10_isExcused 121 = .ok (.imul, 1) := by decide +kernel
theorem dX10_isExcused_122 : decode cX10_isExcused 122 = .ok (.aload_n 0, 1) := by decide +kernel
theorem dX10_isExcused_123 : decode cX10_isExcused 123 = .ok (.getfield 66, 3) := by decide +kernel
theorem dX10_isExcused_126 : decode cX10_isExcused 126 = .ok (.iload 6, 2) := by decide +kernel
theorem dX10_isExcused_128 : decode cX10_isExcused 128 = .ok (.iaload, 1) := by decide +kernel
theorem dX10_isExcused_129 : decode cX10_isExcused 129 = .ok (.iadd, 1) := by decide +kernel
theorem dX10_isExcused_130 : decode cX10_isExcused 130 = .ok (.if_icmp .ge 46, 3) := by decide +kernel
theorem dX10_isExcused_133 : decode cX10_isExcused 133 = .ok (.aload_n 0, 1) := by decide +kernel
theorem dX10_isExcused_134 : decode cX10_isExcused 134 = .ok (.getfield 75, 3) := by decide +kernel
theorem dX10_isExcused_137 : decode cX10_isExcused 137 = .ok (.iload 7, 2) := by decide +kernel
theorem dX10_isExcused_139 : decode cX10_isExcused 139 = .ok (.iaload, 1) := by decide +kernel
theorem dX10_isExcused_140 : decode cX10_isExcused 140 = .ok (.bipush 88, 2) := by decide +kernel
theorem dX10_isExcused_142 : decode cX10_isExcused 142 = .ok (.if_icmp .ne 28, 3) := by decide +kernel
theorem dX10_isExcused_145 : decode cX10_isExcused 145 = .ok (.aload_n 0, 1) := by decide +kernel
theorem dX10_isExcused_146 : decode cX10_isExcused 146 = .ok (.iload 6, 2) := by decide +kernel
theorem dX10_isExcused_148 : decode cX10_isExcused 148 = .ok (.aload_n 0, 1) := by decide +kernel
theorem dX10_isExcused_149 : decode cX10_isExcused 149 = .ok (.getfield 81, 3) := by decide +kernel
theorem dX10_isExcused_152 : decode cX10_isExcused 152 = .ok (.iload 7, 2) := by decide +kernel
theorem dX10_isExcused_154 : decode cX10_isExcused 154 = .ok (.iaload, 1) := by decide +kernel
theorem dX10_isExcused_155 : decode cX10_isExcused 155 = .ok (.aload_n 0, 1) := by decide +kernel
theorem dX10_isExcused_156 : decode cX10_isExcused 156 = .ok (.getfield 84, 3) := by decide +kernel
theorem dX10_isExcused_159 : decode cX10_isExcused 159 = .ok (.iload 7, 2) := by decide +kernel
theorem dX10_isExcused_161 : decode cX10_isExcused 161 = .ok (.iaload, 1) := by decide +kernel
theorem dX10_isExcused_162 : decode cX10_isExcused 162 = .ok (.invokevirtual 269, 3) := by decide +kernel
theorem dX10_isExcused_165 : decode cX10_isExcused 165 = .ok (.ifCond .eq 5, 3) := by decide +kernel
theorem dX10_isExcused_168 : decode cX10_isExcused 168 = .ok (.iconst 1, 1) := by decide +kernel
theorem dX10_isExcused_169 : decode cX10_isExcused 169 = .ok (.ireturn, 1) := by decide +kernel
theorem dX10_isExcused_170 : decode cX10_isExcused 170 = .ok (.iinc 7 1, 3) := by decide +kernel
theorem dX10_isExcused_173 : decode cX10_isExcused 173 = .ok (.goto (-58), 3) := by decide +kernel
theorem dX10_isExcused_176 : decode cX10_isExcused 176 = .ok (.iconst 0, 1) := by decide +kernel
theorem dX10_isExcused_177 : decode cX10_isExcused 177 = .ok (.ireturn, 1) := by decide +kernel
theorem dX10_sharesAt_0 : decode cX10_sharesAt 0 = .ok (.bipush 7, 2) := by decide +kernel
theorem dX10_sharesAt_2 : decode cX10_sharesAt 2 = .ok (.iload_n 1, 1) := by decide +kernel
theorem dX10_sharesAt_3 : decode cX10_sharesAt 3 = .ok (.imul, 1) := by decide +kernel
theorem dX10_sharesAt_4 : decode cX10_sharesAt 4 = .ok (.iload_n 2, 1) := by decide +kernel
theorem dX10_sharesAt_5 : decode cX10_sharesAt 5 = .ok (.iadd, 1) := by decide +kernel
theorem dX10_sharesAt_6 : decode cX10_sharesAt 6 = .ok (.iconst 1, 1) := by decide +kernel
theorem dX10_sharesAt_7 : decode cX10_sharesAt 7 = .ok (.isub, 1) := by decide +kernel
theorem dX10_sharesAt_8 : decode cX10_sharesAt 8 = .ok (.istore 4, 2) := by decide +kernel
theorem dX10_sharesAt_10 : decode cX10_sharesAt 10 = .ok (.iload 4, 2) := by decide +kernel
theorem dX10_sharesAt_12 : decode cX10_sharesAt 12 = .ok (.iconst 1, 1) := by decide +kernel
theorem dX10_sharesAt_13 : decode cX10_sharesAt 13 = .ok (.iadd, 1) := by decide +kernel
theorem dX10_sharesAt_14 : decode cX10_sharesAt 14 = .ok (.istore 5, 2) := by decide +kernel
theorem dX10_sharesAt_16 : decode cX10_sharesAt 16 = .ok (.aload_n 0, 1) := by decide +kernel
theorem dX10_sharesAt_17 : decode cX10_sharesAt 17 = .ok (.getfield 118, 3) := by decide +kernel
theorem dX10_sharesAt_20 : decode cX10_sharesAt 20 = .ok (.iload 5, 2) := by decide +kernel
theorem dX10_sharesAt_22 : decode cX10_sharesAt 22 = .ok (.aload_n 0, 1) := by decide +kernel
theorem dX10_sharesAt_23 : decode cX10_sharesAt 23 = .ok (.getfield 118, 3) := by decide +kernel
theorem dX10_sharesAt_26 : decode cX10_sharesAt 26 = .ok (.iload 4, 2) := by decide +kernel
theorem dX10_sharesAt_28 : decode cX10_sharesAt 28 = .ok (.iaload, 1) := by decide +kernel
theorem dX10_sharesAt_29 : decode cX10_sharesAt 29 = .ok (.iastore, 1) := by decide +kernel
theorem dX10_sharesAt_30 : decode cX10_sharesAt 30 = .ok (.iconst 0, 1) := by decide +kernel
theorem dX10_sharesAt_31 : decode cX10_sharesAt 31 = .ok (.istore 6, 2) := by decide +kernel
theorem dX10_sharesAt_33 : decode cX10_sharesAt 33 = .ok (.iload 6, 2) := by decide +kernel
theorem dX10_sharesAt_35 : decode cX10_sharesAt 35 = .ok (.iconst 4, 1) := by decide +kernel
theorem dX10_sharesAt_36 : decode cX10_sharesAt 36 = .ok (.if_icmp .ge 33, 3) := by decide +kernel
theorem dX10_sharesAt_39 : decode cX10_sharesAt 39 = .ok (.aload_n 0, 1) := by decide +kernel
theorem dX10_sharesAt_40 : decode cX10_sharesAt 40 = .ok (.getfield 121, 3) := by decide +kernel
theorem dX10_sharesAt_43 : decode cX10_sharesAt 43 = .ok (.iconst 4, 1) := by decide +kernel
theorem dX10_sharesAt_44 : decode cX10_sharesAt 44 = .ok (.iload 5, 2) := by decide +kernel
theorem dX10_sharesAt_46 : decode cX10_sharesAt 46 = .ok (.imul, 1) := by decide +kernel
theorem dX10_sharesAt_47 : decode cX10_sharesAt 47 = .ok (.iload 6, 2) := by decide +kernel
theorem dX10_sharesAt_49 : decode cX10_sharesAt 49 = .ok (.iadd, 1) := by decide +kernel
theorem dX10_sharesAt_50 : decode cX10_sharesAt 50 = .ok (.aload_n 0, 1) := by decide +kernel
theorem dX10_sharesAt_51 : decode cX10_sharesAt 51 = .ok (.getfield 121, 3) := by decide +kernel
theorem dX10_sharesAt_54 : decode cX10_sharesAt 54 = .ok (.iconst 4, 1) := by decide +kernel
theorem dX10_sharesAt_55 : decode cX10_sharesAt 55 = .ok (.iload 4, 2) := by decide +kernel
theorem dX10_sharesAt_57 : decode cX10_sharesAt 57 = .ok (.imul, 1) := by decide +kernel
theorem dX10_sharesAt_58 : decode cX10_sharesAt 58 = .ok (.iload 6, 2) := by decide +kernel
theorem dX10_sharesAt_60 : decode cX10_sharesAt 60 = .ok (.iadd, 1) := by decide +kernel
theorem dX10_sharesAt_61 : decode cX10_sharesAt 61 = .ok (.iaload, 1) := by decide +kernel
theorem dX10_sharesAt_62 : decode cX10_sharesAt 62 = .ok (.iastore, 1) := by decide +kernel
theorem dX10_sharesAt_63 : decode cX10_sharesAt 63 = .ok (.iinc 6 1, 3) := by decide +kernel
theorem dX10_sharesAt_66 : decode cX10_sharesAt 66 = .ok (.goto (-33), 3) := by decide +kernel
theorem dX10_sharesAt_69 : decode cX10_sharesAt 69 = .ok (.aload_n 0, 1) := by decide +kernel
theorem dX10_sharesAt_70 : decode cX10_sharesAt 70 = .ok (.iload_n 1, 1) := by decide +kernel
theorem dX10_sharesAt_71 : decode cX10_sharesAt 71 = .ok (.iload_n 2, 1) := by decide +kernel
theorem dX10_sharesAt_72 : decode cX10_sharesAt 72 = .ok (.iconst 1, 1) := by decide +kernel
theorem dX10_sharesAt_73 : decode cX10_sharesAt 73 = .ok (.isub, 1) := by decide +kernel
theorem dX10_sharesAt_74 : decode cX10_sharesAt 74 = .ok (.invokevirtual 175, 3) := by decide +kernel
theorem dX10_sharesAt_77 : decode cX10_sharesAt 77 = .ok (.istore 6, 2) := by decide +kernel
theorem dX10_sharesAt_79 : decode cX10_sharesAt 79 = .ok (.iload 6, 2) := by decide +kernel
theorem dX10_sharesAt_81 : decode cX10_sharesAt 81 = .ok (.iconst (-1), 1) := by decide +kernel
theorem dX10_sharesAt_82 : decode cX10_sharesAt 82 = .ok (.if_icmp .eq 44, 3) := by decide +kernel
theorem dX10_sharesAt_85 : decode cX10_sharesAt 85 = .ok (.iconst 4, 1) := by decide +kernel
theorem dX10_sharesAt_86 : decode cX10_sharesAt 86 = .ok (.iload 5, 2) := by decide +kernel
theorem dX10_sharesAt_88 : decode cX10_sharesAt 88 = .ok (.imul, 1) := by decide +kernel
theorem dX10_sharesAt_89 : decode cX10_sharesAt 89 = .ok (.aload_n 0, 1) := by decide +kernel
theorem dX10_sharesAt_90 : decode cX10_sharesAt 90 = .ok (.getfield 22, 3) := by decide +kernel
theorem dX10_sharesAt_93 : decode cX10_sharesAt 93 = .ok (.aload_n 0, 1) := by decide +kernel
theorem dX10_sharesAt_94 : decode cX10_sharesAt 94 = .ok (.getfield 52, 3) := by decide +kernel
theorem dX10_sharesAt_97 : decode cX10_sharesAt 97 = .ok (.iload 6, 2) := by decide +kernel
theorem dX10_sharesAt_99 : decode cX10_sharesAt 99 = .ok (.iaload, 1) := by decide +kernel
theorem dX10_sharesAt_100 : decode cX10_sharesAt 100 = .ok (.iaload, 1) := by decide +kernel
theorem dX10_sharesAt_101 : decode cX10_sharesAt 101 = .ok (.iadd, 1) := by decide +kernel
theorem dX10_sharesAt_102 : decode cX10_sharesAt 102 = .ok (.istore 7, 2) := by decide +kernel
theorem dX10_sharesAt_104 : decode cX10_sharesAt 104 = .ok (.aload_n 0, 1) := by decide +kernel
theorem dX10_sharesAt_105 : decode cX10_sharesAt 105 = .ok (.getfield 121, 3) := by decide +kernel
theorem dX10_sharesAt_108 : decode cX10_sharesAt 108 = .ok (.iload 7, 2) := by decide +kernel
theorem dX10_sharesAt_110 : decode cX10_sharesAt 110 = .ok (.aload_n 0, 1) := by decide +kernel
theorem dX10_sharesAt_111 : decode cX10_sharesAt 111 = .ok (.getfield 121, 3) := by decide +kernel
theorem dX10_sharesAt_114 : decode cX10_sharesAt 114 = .ok (.iload 7, 2) := by decide +kernel
theorem dX10_sharesAt_116 : decode cX10_sharesAt 116 = .ok (.iaload, 1) := by decide +kernel
theorem dX10_sharesAt_117 : decode cX10_sharesAt 117 = .ok (.aload_n 0, 1) := by decide +kernel
theorem dX10_sharesAt_118 : decode cX10_sharesAt 118 = .ok (.getfield 115, 3) := by decide +kernel
theorem dX10_sharesAt_121 : decode cX10_sharesAt 121 = .ok (.iload 4, 2) := by decide +kernel
theorem dX10_sharesAt_123 : decode cX10_sharesAt 123 = .ok (.iaload, 1) := by decide +kernel
theorem dX10_sharesAt_124 : decode cX10_sharesAt 124 = .ok (.iadd, 1) := by decide +kernel
theorem dX10_sharesAt_125 : decode cX10_sharesAt 125 = .ok (.iastore, 1) := by decide +kernel
theorem dX10_sharesAt_126 : decode cX10_sharesAt 126 = .ok (.iload_n 3, 1) := by decide +kernel
theorem dX10_sharesAt_127 : decode cX10_sharesAt 127 = .ok (.aload_n 0, 1) := by decide +kernel
theorem dX10_sharesAt_128 : decode cX10_sharesAt 128 = .ok (.getfield 112, 3) := by decide +kernel
theorem dX10_sharesAt_131 : decode cX10_sharesAt 131 = .ok (.iload 4, 2) := by decide +kernel
theorem dX10_sharesAt_133 : decode cX10_sharesAt 133 = .ok (.iaload, 1) := by decide +kernel
theorem dX10_sharesAt_134 : decode cX10_sharesAt 134 = .ok (.isub, 1) := by decide +kernel
theorem dX10_sharesAt_135 : decode cX10_sharesAt 135 = .ok (.aload_n 0, 1) := by decide +kernel
theorem dX10_sharesAt_136 : decode cX10_sharesAt 136 = .ok (.iload_n 1, 1) := by decide +kernel
theorem dX10_sharesAt_137 : decode cX10_sharesAt 137 = .ok (.iload_n 2, 1) := by decide +kernel
theorem dX10_sharesAt_138 : decode cX10_sharesAt 138 = .ok (.iconst 1, 1) := by decide +kernel
theorem dX10_sharesAt_139 : decode cX10_sharesAt 139 = .ok (.isub, 1) := by decide +kernel
theorem dX10_sharesAt_140 : decode cX10_sharesAt 140 = .ok (.invokevirtual 253, 3) := by decide +kernel
theorem dX10_sharesAt_143 : decode cX10_sharesAt 143 = .ok (.isub, 1) := by decide +kernel
theorem dX10_sharesAt_144 : decode cX10_sharesAt 144 = .ok (.istore 7, 2) := by decide +kernel
theorem dX10_sharesAt_146 : decode cX10_sharesAt 146 = .ok (.iload 7, 2) := by decide +kernel
theorem dX10_sharesAt_148 : decode cX10_sharesAt 148 = .ok (.ifCond .le 68, 3) := by decide +kernel
theorem dX10_sharesAt_151 : decode cX10_sharesAt 151 = .ok (.aload_n 0, 1) := by decide +kernel
theorem dX10_sharesAt_152 : decode cX10_sharesAt 152 = .ok (.iload_n 1, 1) := by decide +kernel
theorem dX10_sharesAt_153 : decode cX10_sharesAt 153 = .ok (.iload_n 2, 1) := by decide +kernel
theorem dX10_sharesAt_154 : decode cX10_sharesAt 154 = .ok (.iload_n 3, 1) := by decide +kernel
theorem dX10_sharesAt_155 : decode cX10_sharesAt 155 = .ok (.invokevirtual 273, 3) := by decide +kernel
theorem dX10_sharesAt_158 : decode cX10_sharesAt 158 = .ok (.ifCond .eq 23, 3) := by decide +kernel
theorem dX10_sharesAt_161 : decode cX10_sharesAt 161 = .ok (.aload_n 0, 1) := by decide +kernel
theorem dX10_sharesAt_162 : decode cX10_sharesAt 162 = .ok (.getfield 118, 3) := by decide +kernel
theorem dX10_sharesAt_165 : decode cX10_sharesAt 165 = .ok (.iload 5, 2) := by decide +kernel
theorem dX10_sharesAt_167 : decode cX10_sharesAt 167 = .ok (.aload_n 0, 1) := by decide +kernel
theorem dX10_sharesAt_168 : decode cX10_sharesAt 168 = .ok (.getfield 118, 3) := by decide +kernel
theorem dX10_sharesAt_171 : decode cX10_sharesAt 171 = .ok (.iload 5, 2) := by decide +kernel
theorem dX10_sharesAt_173 : decode cX10_sharesAt 173 = .ok (.iaload, 1) := by decide +kernel
theorem dX10_sharesAt_174 : decode cX10_sharesAt 174 = .ok (.iload 7, 2) := by decide +kernel
theorem dX10_sharesAt_176 : decode cX10_sharesAt 176 = .ok (.iadd, 1) := by decide +kernel
theorem dX10_sharesAt_177 : decode cX10_sharesAt 177 = .ok (.iastore, 1) := by decide +kernel
theorem dX10_sharesAt_178 : decode cX10_sharesAt 178 = .ok (.goto 38, 3) := by decide +kernel
theorem dX10_sharesAt_181 : decode cX10_sharesAt 181 = .ok (.aload_n 0, 1) := by decide +kernel
theorem dX10_sharesAt_182 : decode cX10_sharesAt 182 = .ok (.getfield 121, 3) := by decide +kernel
theorem dX10_sharesAt_185 : decode cX10_sharesAt 185 = .ok (.iconst 4, 1) := by decide +kernel
theorem dX10_sharesAt_186 : decode cX10_sharesAt 186 = .ok (.iload 5, 2) := by decide +kernel
theorem dX10_sharesAt_188 : decode cX10_sharesAt 188 = .ok (.imul, 1) := by decide +kernel
theorem dX10_sharesAt_189 : decode cX10_sharesAt 189 = .ok (.aload_n 0, 1) := by decide +kernel
theorem dX10_sharesAt_190 : decode cX10_sharesAt 190 = .ok (.getfield 22, 3) := by decide +kernel
theorem dX10_sharesAt_193 : decode cX10_sharesAt 193 = .ok (.iload_n 1, 1) := by decide +kernel
theorem dX10_sharesAt_194 : decode cX10_sharesAt 194 = .ok (.iaload, 1) := by decide +kernel
theorem dX10_sharesAt_195 : decode cX10_sharesAt 195 = .ok (.iadd, 1) := by decide +kernel
theorem dX10_sharesAt_196 : decode cX10_sharesAt 196 = .ok (.aload_n 0, 1) := by decide +kernel
theorem dX10_sharesAt_197 : decode cX10_sharesAt 197 = .ok (.getfield 121, 3) := by decide +kernel
theorem dX10_sharesAt_200 : decode cX10_sharesAt 200 = .ok (.iconst 4, 1) := by decide +kernel
theorem dX10_sharesAt_201 : decode cX10_sharesAt 201 = .ok (.iload 5, 2) := by decide +kernel
theorem dX10_sharesAt_203 : decode cX10_sharesAt 203 = .ok (.imul, 1) := by decide +kernel
theorem dX10_sharesAt_204 : decode cX10_sharesAt 204 = .ok (.aload_n 0, 1) := by decide +kernel
theorem dX10_sharesAt_205 : decode cX10_sharesAt 205 = .ok (.getfield 22, 3) := by decide +kernel
theorem dX10_sharesAt_208 : decode cX10_sharesAt 208 = .ok (.iload_n 1, 1) := by decide +kernel
theorem dX10_sharesAt_209 : decode cX10_sharesAt 209 = .ok (.iaload, 1) := by decide +kernel
theorem dX10_sharesAt_210 : decode cX10_sharesAt 210 = .ok (.iadd, 1) := by decide +kernel
theorem dX10_sharesAt_211 : decode cX10_sharesAt 211 = .ok (.iaload, 1) := by decide +kernel
theorem dX10_sharesAt_212 : decode cX10_sharesAt 212 = .ok (.iload 7, 2) := by decide +kernel
theorem dX10_sharesAt_214 : decode cX10_sharesAt 214 = .ok (.iadd, 1) := by decide +kernel
theorem dX10_sharesAt_215 : decode cX10_sharesAt 215 = .ok (.iastore, 1) := by decide +kernel
theorem dX10_sharesAt_216 : decode cX10_sharesAt 216 = .ok (.iload 7, 2) := by decide +kernel
theorem dX10_sharesAt_218 : decode cX10_sharesAt 218 = .ok (.ifCond .ge 9, 3) := by decide +kernel
theorem dX10_sharesAt_221 : decode cX10_sharesAt 221 = .ok (.iload 7, 2) := by decide +kernel
theorem dX10_sharesAt_223 : decode cX10_sharesAt 223 = .ok (.ineg, 1) := by decide +kernel
theorem dX10_sharesAt_224 : decode cX10_sharesAt 224 = .ok (.goto 4, 3) := by decide +kernel
theorem dX10_sharesAt_227 : decode cX10_sharesAt 227 = .ok (.iconst 0, 1) := by decide +kernel
theorem dX10_sharesAt_228 : decode cX10_sharesAt 228 = .ok (.istore 8, 2) := by decide +kernel
theorem dX10_sharesAt_230 : decode cX10_sharesAt 230 = .ok (.iload 8, 2) := by decide +kernel
theorem dX10_sharesAt_232 : decode cX10_sharesAt 232 = .ok (.aload_n 0, 1) := by decide +kernel
theorem dX10_sharesAt_233 : decode cX10_sharesAt 233 = .ok (.getfield 118, 3) := by decide +kernel
theorem dX10_sharesAt_236 : decode cX10_sharesAt 236 = .ok (.iload 5, 2) := by decide +kernel
theorem dX10_sharesAt_238 : decode cX10_sharesAt 238 = .ok (.iaload, 1) := by decide +kernel
theorem dX10_sharesAt_239 : decode cX10_sharesAt 239 = .ok (.if_icmp .ge 8, 3) := by decide +kernel
theorem dX10_sharesAt_242 : decode cX10_sharesAt 242 = .ok (.iload 8, 2) := by decide +kernel
theorem dX10_sharesAt_244 : decode cX10_sharesAt 244 = .ok (.goto 10, 3) := by decide +kernel
theorem dX10_sharesAt_247 : decode cX10_sharesAt 247 = .ok (.aload_n 0, 1) := by decide +kernel
theorem dX10_sharesAt_248 : decode cX10_sharesAt 248 = .ok (.getfield 118, 3) := by decide +kernel
theorem dX10_sharesAt_251 : decode cX10_sharesAt 251 = .ok (.iload 5, 2) := by decide +kernel
theorem dX10_sharesAt_253 : decode cX10_sharesAt 253 = .ok (.iaload, 1) := by decide +kernel
theorem dX10_sharesAt_254 : decode cX10_sharesAt 254 = .ok (.istore 9, 2) := by decide +kernel
theorem dX10_sharesAt_256 : decode cX10_sharesAt 256 = .ok (.aload_n 0, 1) := by decide +kernel
theorem dX10_sharesAt_257 : decode cX10_sharesAt 257 = .ok (.getfield 118, 3) := by decide +kernel
theorem dX10_sharesAt_260 : decode cX10_sharesAt 260 = .ok (.iload 5, 2) := by decide +kernel
theorem dX10_sharesAt_262 : decode cX10_sharesAt 262 = .ok (.aload_n 0, 1) := by decide +kernel
theorem dX10_sharesAt_263 : decode cX10_sharesAt 263 = .ok (.getfield 118, 3) := by decide +kernel
theorem dX10_sharesAt_266 : decode cX10_sharesAt 266 = .ok (.iload 5, 2) := by decide +kernel
theorem dX10_sharesAt_268 : decode cX10_sharesAt 268 = .ok (.iaload, 1) := by decide +kernel
theorem dX10_sharesAt_269 : decode cX10_sharesAt 269 = .ok (.iload 9, 2) := by decide +kernel
theorem dX10_sharesAt_271 : decode cX10_sharesAt 271 = .ok (.isub, 1) := by decide +kernel
theorem dX10_sharesAt_272 : decode cX10_sharesAt 272 = .ok (.iastore, 1) := by decide +kernel
theorem dX10_sharesAt_273 : decode cX10_sharesAt 273 = .ok (.iload 8, 2) := by decide +kernel
theorem dX10_sharesAt_275 : decode cX10_sharesAt 275 = .ok (.iload 9, 2) := by decide +kernel
theorem dX10_sharesAt_277 : decode cX10_sharesAt 277 = .ok (.isub, 1) := by decide +kernel
theorem dX10_sharesAt_278 : decode cX10_sharesAt 278 = .ok (.istore 8, 2) := by decide +kernel
theorem dX10_sharesAt_280 : decode cX10_sharesAt 280 = .ok (.iconst (-1), 1) := by decide +kernel
theorem dX10_sharesAt_281 : decode cX10_sharesAt 281 = .ok (.istore 10, 2) := by decide +kernel
theorem dX10_sharesAt_283 : decode cX10_sharesAt 283 = .ok (.iload 10, 2) := by decide +kernel
theorem dX10_sharesAt_285 : decode cX10_sharesAt 285 = .ok (.iconst 4, 1) := by decide +kernel
theorem dX10_sharesAt_286 : decode cX10_sharesAt 286 = .ok (.if_icmp .ge 83, 3) := by decide +kernel
theorem dX10_sharesAt_289 : decode cX10_sharesAt 289 = .ok (.iconst 4, 1) := by decide +kernel
theorem dX10_sharesAt_290 : decode cX10_sharesAt 290 = .ok (.iload 5, 2) := by decide +kernel
theorem dX10_sharesAt_292 : decode cX10_sharesAt 292 = .ok (.imul, 1) := by decide +kernel
theorem dX10_sharesAt_293 : decode cX10_sharesAt 293 = .ok (.iload 10, 2) := by decide +kernel
theorem dX10_sharesAt_295 : decode cX10_sharesAt 295 = .ok (.iconst (-1), 1) := by decide +kernel
theorem dX10_sharesAt_296 : decode cX10_sharesAt 296 = .ok (.if_icmp .ne 12, 3) := by decide +kernel
theorem dX10_sharesAt_299 : decode cX10_sharesAt 299 = .ok (.aload_n 0, 1) := by decide +kernel
theorem dX10_sharesAt_300 : decode cX10_sharesAt 300 = .ok (.getfield 22, 3) := by decide +kernel
theorem dX10_sharesAt_303 : decode cX10_sharesAt 303 = .ok (.iload_n 1, 1) := by decide +kernel
theorem dX10_sharesAt_304 : decode cX10_sharesAt 304 = .ok (.iaload, 1) := by decide +kernel
theorem dX10_sharesAt_305 : decode cX10_sharesAt 305 = .ok (.goto 5, 3) := by decide +kernel
theorem dX10_sharesAt_308 : decode cX10_sharesAt 308 = .ok (.iload 10, 2) := by decide +kernel
theorem dX10_sharesAt_310 : decode cX10_sharesAt 310 = .ok (.iadd, 1) := by decide +kernel
theorem dX10_sharesAt_311 : decode cX10_sharesAt 311 = .ok (.istore 11, 2) := by decide +kernel
theorem dX10_sharesAt_313 : decode cX10_sharesAt 313 = .ok (.iload 8, 2) := by decide +kernel
theorem dX10_sharesAt_315 : decode cX10_sharesAt 315 = .ok (.aload_n 0, 1) := by decide +kernel
theorem dX10_sharesAt_316 : decode cX10_sharesAt 316 = .ok (.getfield 121, 3) := by decide +kernel
theorem dX10_sharesAt_319 : decode cX10_sharesAt 319 = .ok (.iload 11, 2) := by decide +kernel
theorem dX10_sharesAt_321 : decode cX10_sharesAt 321 = .ok (.iaload, 1) := by decide +kernel
theorem dX10_sharesAt_322 : decode cX10_sharesAt 322 = .ok (.if_icmp .ge 8, 3) := by decide +kernel
theorem dX10_sharesAt_325 : decode cX10_sharesAt 325 = .ok (.iload 8, 2) := by decide +kernel
theorem dX10_sharesAt_327 : decode cX10_sharesAt 327 = .ok (.goto 10, 3) := by decide +kernel
theorem dX10_sharesAt_330 : decode cX10_sharesAt 330 = .ok (.aload_n 0, 1) := by decide +kernel
theorem dX10_sharesAt_331 : decode cX10_sharesAt 331 = .ok (.getfield 121, 3) := by decide +kernel
theorem dX10_sharesAt_334 : decode cX10_sharesAt 334 = .ok (.iload 11, 2) := by decide +kernel
theorem dX10_sharesAt_336 : decode cX10_sharesAt 336 = .ok (.iaload, 1) := by decide +kernel
theorem dX10_sharesAt_337 : decode cX10_sharesAt 337 = .ok (.istore 9, 2) := by decide +kernel
theorem dX10_sharesAt_339 : decode cX10_sharesAt 339 = .ok (.aload_n 0, 1) := by decide +kernel
theorem dX10_sharesAt_340 : decode cX10_sharesAt 340 = .ok (.getfield 121, 3) := by decide +kernel
theorem dX10_sharesAt_343 : decode cX10_sharesAt 343 = .ok (.iload 11, 2) := by decide +kernel
theorem dX10_sharesAt_345 : decode cX10_sharesAt 345 = .ok (.aload_n 0, 1) := by decide +kernel
theorem dX10_sharesAt_346 : decode cX10_sharesAt 346 = .ok (.getfield 121, 3) := by decide +kernel
theorem dX10_sharesAt_349 : decode cX10_sharesAt 349 = .ok (.iload 11, 2) := by decide +kernel
theorem dX10_sharesAt_351 : decode cX10_sharesAt 351 = .ok (.iaload, 1) := by decide +kernel
theorem dX10_sharesAt_352 : decode cX10_sharesAt 352 = .ok (.iload 9, 2) := by decide +kernel
theorem dX10_sharesAt_354 : decode cX10_sharesAt 354 = .ok (.isub, 1) := by decide +kernel
theorem dX10_sharesAt_355 : decode cX10_sharesAt 355 = .ok (.iastore, 1) := by decide +kernel
theorem dX10_sharesAt_356 : decode cX10_sharesAt 356 = .ok (.iload 8, 2) := by decide +kernel
theorem dX10_sharesAt_358 : decode cX10_sharesAt 358 = .ok (.iload 9, 2) := by decide +kernel
theorem dX10_sharesAt_360 : decode cX10_sharesAt 360 = .ok (.isub, 1) := by decide +kernel
theorem dX10_sharesAt_361 : decode cX10_sharesAt 361 = .ok (.istore 8, 2) := by decide +kernel
theorem dX10_sharesAt_363 : decode cX10_sharesAt 363 = .ok (.iinc 10 1, 3) := by decide +kernel
theorem dX10_sharesAt_366 : decode cX10_sharesAt 366 = .ok (.goto (-83), 3) := by decide +kernel
theorem dX10_sharesAt_369 : decode cX10_sharesAt 369 = .ok (.return_, 1) := by decide +kernel
theorem dX10_runs_0 : decode cX10_runs 0 = .ok (.aload_n 0, 1) := by decide +kernel
theorem dX10_runs_1 : decode cX10_runs 1 = .ok (.getfield 165, 3) := by decide +kernel
theorem dX10_runs_4 : decode cX10_runs 4 = .ok (.ifCond .eq 4, 3) := by decide +kernel
theorem dX10_runs_7 : decode cX10_runs 7 = .ok (.return_, 1) := by decide +kernel
theorem dX10_runs_8 : decode cX10_runs 8 = .ok (.aload_n 0, 1) := by decide +kernel
theorem dX10_runs_9 : decode cX10_runs 9 = .ok (.iconst 1, 1) := by decide +kernel
theorem dX10_runs_10 : decode cX10_runs 10 = .ok (.putfield 165, 3) := by decide +kernel
theorem dX10_runs_13 : decode cX10_runs 13 = .ok (.iconst 0, 1) := by decide +kernel
theorem dX10_runs_14 : decode cX10_runs 14 = .ok (.istore_n 1, 1) := by decide +kernel
theorem dX10_runs_15 : decode cX10_runs 15 = .ok (.iload_n 1, 1) := by decide +kernel
theorem dX10_runs_16 : decode cX10_runs 16 = .ok (.aload_n 0, 1) := by decide +kernel
theorem dX10_runs_17 : decode cX10_runs 17 = .ok (.getfield 151, 3) := by decide +kernel
theorem dX10_runs_20 : decode cX10_runs 20 = .ok (.if_icmp .ge 111, 3) := by decide +kernel
theorem dX10_runs_23 : decode cX10_runs 23 = .ok (.aload_n 0, 1) := by decide +kernel
theorem dX10_runs_24 : decode cX10_runs 24 = .ok (.getfield 124, 3) := by decide +kernel
theorem dX10_runs_27 : decode cX10_runs 27 = .ok (.iload_n 1, 1) := by decide +kernel
theorem dX10_runs_28 : decode cX10_runs 28 = .ok (.iconst 0, 1) := by decide +kernel
theorem dX10_runs_29 : decode cX10_runs 29 = .ok (.iastore, 1) := by decide +kernel
theorem dX10_runs_30 : decode cX10_runs 30 = .ok (.aload_n 0, 1) := by decide +kernel
theorem dX10_runs_31 : decode cX10_runs 31 = .ok (.getfield 127, 3) := by decide +kernel
theorem dX10_runs_34 : decode cX10_runs 34 = .ok (.iload_n 1, 1) := by decide +kernel
theorem dX10_runs_35 : decode cX10_runs 35 = .ok (.aload_n 0, 1) := by decide +kernel
theorem dX10_runs_36 : decode cX10_runs 36 = .ok (.getfield 31, 3) := by decide +kernel
theorem dX10_runs_39 : decode cX10_runs 39 = .ok (.iload_n 1, 1) := by decide +kernel
theorem dX10_runs_40 : decode cX10_runs 40 = .ok (.iaload, 1) := by decide +kernel
theorem dX10_runs_41 : decode cX10_runs 41 = .ok (.iastore, 1) := by decide +kernel
theorem dX10_runs_42 : decode cX10_runs 42 = .ok (.aload_n 0, 1) := by decide +kernel
theorem dX10_runs_43 : decode cX10_runs 43 = .ok (.getfield 133, 3) := by decide +kernel
theorem dX10_runs_46 : decode cX10_runs 46 = .ok (.iload_n 1, 1) := by decide +kernel
theorem dX10_runs_47 : decode cX10_runs 47 = .ok (.iconst 0, 1) := by decide +kernel
theorem dX10_runs_48 : decode cX10_runs 48 = .ok (.bastore, 1) := by decide +kernel
theorem dX10_runs_49 : decode cX10_runs 49 = .ok (.iconst 0, 1) := by decide +kernel
theorem dX10_runs_50 : decode cX10_runs 50 = .ok (.istore_n 2, 1) := by decide +kernel
theorem dX10_runs_51 : decode cX10_runs 51 = .ok (.iload_n 2, 1) := by decide +kernel
theorem dX10_runs_52 : decode cX10_runs 52 = .ok (.bipush 7, 2) := by decide +kernel
theorem dX10_runs_54 : decode cX10_runs 54 = .ok (.if_icmp .ge 71, 3) := by decide +kernel
theorem dX10_runs_57 : decode cX10_runs 57 = .ok (.bipush 7, 2) := by decide +kernel
theorem dX10_runs_59 : decode cX10_runs 59 = .ok (.iload_n 1, 1) := by decide +kernel
theorem dX10_runs_60 : decode cX10_runs 60 = .ok (.imul, 1) := by decide +kernel
theorem dX10_runs_61 : decode cX10_runs 61 = .ok (.iload_n 2, 1) := by decide +kernel
theorem dX10_runs_62 : decode cX10_runs 62 = .ok (.iadd, 1) := by decide +kernel
theorem dX10_runs_63 : decode cX10_runs 63 = .ok (.istore_n 3, 1) := by decide +kernel
theorem dX10_runs_64 : decode cX10_runs 64 = .ok (.aload_n 0, 1) := by decide +kernel
theorem dX10_runs_65 : decode cX10_runs 65 = .ok (.getfield 109, 3) := by decide +kernel
theorem dX10_runs_68 : decode cX10_runs 68 = .ok (.iload_n 3, 1) := by decide +kernel
theorem dX10_runs_69 : decode cX10_runs 69 = .ok (.iconst (-1), 1) := by decide +kernel
theorem dX10_runs_70 : decode cX10_runs 70 = .ok (.iastore, 1) := by decide +kernel
theorem dX10_runs_71 : decode cX10_runs 71 = .ok (.aload_n 0, 1) := by decide +kernel
theorem dX10_runs_72 : decode cX10_runs 72 = .ok (.getfield 112, 3) := by decide +kernel
theorem dX10_runs_75 : decode cX10_runs 75 = .ok (.iload_n 3, 1) := by decide +kernel
theorem dX10_runs_76 : decode cX10_runs 76 = .ok (.iconst (-1), 1) := by decide +kernel
theorem dX10_runs_77 : decode cX10_runs 77 = .ok (.iastore, 1) := by decide +kernel
theorem dX10_runs_78 : decode cX10_runs 78 = .ok (.aload_n 0, 1) := by decide +kernel
theorem dX10_runs_79 : decode cX10_runs 79 = .ok (.getfield 115, 3) := by decide +kernel
theorem dX10_runs_82 : decode cX10_runs 82 = .ok (.iload_n 3, 1) := by decide +kernel
theorem dX10_runs_83 : decode cX10_runs 83 = .ok (.iconst 0, 1) := by decide +kernel
theorem dX10_runs_84 : decode cX10_runs 84 = .ok (.iastore, 1) := by decide +kernel
theorem dX10_runs_85 : decode cX10_runs 85 = .ok (.aload_n 0, 1) := by decide +kernel
theorem dX10_runs_86 : decode cX10_runs 86 = .ok (.getfield 118, 3) := by decide +kernel
theorem dX10_runs_89 : decode cX10_runs 89 = .ok (.iload_n 3, 1) := by decide +kernel
theorem dX10_runs_90 : decode cX10_runs 90 = .ok (.iconst 0, 1) := by decide +kernel
theorem dX10_runs_91 : decode cX10_runs 91 = .ok (.iastore, 1) := by decide +kernel
theorem dX10_runs_92 : decode cX10_runs 92 = .ok (.iconst 0, 1) := by decide +kernel
theorem dX10_runs_93 : decode cX10_runs 93 = .ok (.istore 4, 2) := by decide +kernel
theorem dX10_runs_95 : decode cX10_runs 95 = .ok (.iload 4, 2) := by decide +kernel
theorem dX10_runs_97 : decode cX10_runs 97 = .ok (.iconst 4, 1) := by decide +kernel
theorem dX10_runs_98 : decode cX10_runs 98 = .ok (.if_icmp .ge 21, 3) := by decide +kernel
theorem dX10_runs_101 : decode cX10_runs 101 = .ok (.aload_n 0, 1) := by decide +kernel
theorem dX10_runs_102 : decode cX10_runs 102 = .ok (.getfield 121, 3) := by decide +kernel
theorem dX10_runs_105 : decode cX10_runs 105 = .ok (.iconst 4, 1) := by decide +kernel
theorem dX10_runs_106 : decode cX10_runs 106 = .ok (.iload_n 3, 1) := by decide +kernel
theorem dX10_runs_107 : decode cX10_runs 107 = .ok (.imul, 1) := by decide +kernel
theorem dX10_runs_108 : decode cX10_runs 108 = .ok (.iload 4, 2) := by decide +kernel
theorem dX10_runs_110 : decode cX10_runs 110 = .ok (.iadd, 1) := by decide +kernel
theorem dX10_runs_111 : decode cX10_runs 111 = .ok (.iconst 0, 1) := by decide +kernel
theorem dX10_runs_112 : decode cX10_runs 112 = .ok (.iastore, 1) := by decide +kernel
theorem dX10_runs_113 : decode cX10_runs 113 = .ok (.iinc 4 1, 3) := by decide +kernel
theorem dX10_runs_116 : decode cX10_runs 116 = .ok (.goto (-21), 3) := by decide +kernel
theorem dX10_runs_119 : decode cX10_runs 119 = .ok (.iinc 2 1, 3) := by decide +kernel
theorem dX10_runs_122 : decode cX10_runs 122 = .ok (.goto (-71), 3) := by decide +kernel
theorem dX10_runs_125 : decode cX10_runs 125 = .ok (.iinc 1 1, 3) := by decide +kernel
theorem dX10_runs_128 : decode cX10_runs 128 = .ok (.goto (-113), 3) := by decide +kernel
theorem dX10_runs_131 : decode cX10_runs 131 = .ok (.iconst 0, 1) := by decide +kernel
theorem dX10_runs_132 : decode cX10_runs 132 = .ok (.istore_n 1, 1) := by decide +kernel
theorem dX10_runs_133 : decode cX10_runs 133 = .ok (.iload_n 1, 1) := by decide +kernel
theorem dX10_runs_134 : decode cX10_runs 134 = .ok (.sipush 20000, 3) := by decide +kernel
theorem dX10_runs_137 : decode cX10_runs 137 = .ok (.if_icmp .gt 225, 3) := by decide +kernel
theorem dX10_runs_140 : decode cX10_runs 140 = .ok (.iconst 0, 1) := by decide +kernel
theorem dX10_runs_141 : decode cX10_runs 141 = .ok (.istore_n 2, 1) := by decide +kernel
theorem dX10_runs_142 : decode cX10_runs 142 = .ok (.iload_n 2, 1) := by decide +kernel
theorem dX10_runs_143 : decode cX10_runs 143 = .ok (.aload_n 0, 1) := by decide +kernel
theorem dX10_runs_144 : decode cX10_runs 144 = .ok (.getfield 151, 3) := by decide +kernel
theorem dX10_runs_147 : decode cX10_runs 147 = .ok (.if_icmp .ge 144, 3) := by decide +kernel
theorem dX10_runs_150 : decode cX10_runs 150 = .ok (.aload_n 0, 1) := by decide +kernel
theorem dX10_runs_151 : decode cX10_runs 151 = .ok (.getfield 133, 3) := by decide +kernel
theorem dX10_runs_154 : decode cX10_runs 154 = .ok (.iload_n 2, 1) := by decide +kernel
theorem dX10_runs_155 : decode cX10_runs 155 = .ok (.baload, 1) := by decide +kernel
theorem dX10_runs_156 : decode cX10_runs 156 = .ok (.ifCond .eq 129, 3) := by decide +kernel
theorem dX10_runs_159 : decode cX10_runs 159 = .ok (.aload_n 0, 1) := by decide +kernel
theorem dX10_runs_160 : decode cX10_runs 160 = .ok (.getfield 130, 3) := by decide +kernel
theorem dX10_runs_163 : decode cX10_runs 163 = .ok (.iload_n 2, 1) := by decide +kernel
theorem dX10_runs_164 : decode cX10_runs 164 = .ok (.iaload, 1) := by decide +kernel
theorem dX10_runs_165 : decode cX10_runs 165 = .ok (.iload_n 1, 1) := by decide +kernel
theorem dX10_runs_166 : decode cX10_runs 166 = .ok (.if_icmp .eq 6, 3) := by decide +kernel
theorem dX10_runs_169 : decode cX10_runs 169 = .ok (.goto 116, 3) := by decide +kernel
theorem dX10_runs_172 : decode cX10_runs 172 = .ok (.aload_n 0, 1) := by decide +kernel
theorem dX10_runs_173 : decode cX10_runs 173 = .ok (.getfield 133, 3) := by decide +kernel
theorem dX10_runs_176 : decode cX10_runs 176 = .ok (.iload_n 2, 1) := by decide +kernel
theorem dX10_runs_177 : decode cX10_runs 177 = .ok (.iconst 0, 1) := by decide +kernel
theorem dX10_runs_178 : decode cX10_runs 178 = .ok (.bastore, 1) := by decide +kernel
theorem dX10_runs_179 : decode cX10_runs 179 = .ok (.aload_n 0, 1) := by decide +kernel
theorem dX10_runs_180 : decode cX10_runs 180 = .ok (.getfield 124, 3) := by decide +kernel
theorem dX10_runs_183 : decode cX10_runs 183 = .ok (.iload_n 2, 1) := by decide +kernel
theorem dX10_runs_184 : decode cX10_runs 184 = .ok (.aload_n 0, 1) := by decide +kernel
theorem dX10_runs_185 : decode cX10_runs 185 = .ok (.getfield 124, 3) := by decide +kernel
theorem dX10_runs_188 : decode cX10_runs 188 = .ok (.iload_n 2, 1) := by decide +kernel
theorem dX10_runs_189 : decode cX10_runs 189 = .ok (.iaload, 1) := by decide +kernel
theorem dX10_runs_190 : decode cX10_runs 190 = .ok (.iconst 1, 1) := by decide +kernel
theorem dX10_runs_191 : decode cX10_runs 191 = .ok (.iadd, 1) := by decide +kernel
theorem dX10_runs_192 : decode cX10_runs 192 = .ok (.iastore, 1) := by decide +kernel
theorem dX10_runs_193 : decode cX10_runs 193 = .ok (.aload_n 0, 1) := by decide +kernel
theorem dX10_runs_194 : decode cX10_runs 194 = .ok (.getfield 124, 3) := by decide +kernel
theorem dX10_runs_197 : decode cX10_runs 197 = .ok (.iload_n 2, 1) := by decide +kernel
theorem dX10_runs_198 : decode cX10_runs 198 = .ok (.iaload, 1) := by decide +kernel
theorem dX10_runs_199 : decode cX10_runs 199 = .ok (.istore_n 3, 1) := by decide +kernel
theorem dX10_runs_200 : decode cX10_runs 200 = .ok (.aload_n 0, 1) := by decide +kernel
theorem dX10_runs_201 : decode cX10_runs 201 = .ok (.getfield 109, 3) := by decide +kernel
theorem dX10_runs_204 : decode cX10_runs 204 = .ok (.bipush 7, 2) := by decide +kernel
theorem dX10_runs_206 : decode cX10_runs 206 = .ok (.iload_n 2, 1) := by decide +kernel
theorem dX10_runs_207 : decode cX10_runs 207 = .ok (.imul, 1) := by decide +kernel
theorem dX10_runs_208 : decode cX10_runs 208 = .ok (.iload_n 3, 1) := by decide +kernel
theorem dX10_runs_209 : decode cX10_runs 209 = .ok (.iadd, 1) := by decide +kernel
theorem dX10_runs_210 : decode cX10_runs 210 = .ok (.iload_n 1, 1) := by decide +kernel
theorem dX10_runs_211 : decode cX10_runs 211 = .ok (.iastore, 1) := by decide +kernel
theorem dX10_runs_212 : decode cX10_runs 212 = .ok (.aload_n 0, 1) := by decide +kernel
theorem dX10_runs_213 : decode cX10_runs 213 = .ok (.iload_n 2, 1) := by decide +kernel
theorem dX10_runs_214 : decode cX10_runs 214 = .ok (.iload_n 3, 1) := by decide +kernel
theorem dX10_runs_215 : decode cX10_runs 215 = .ok (.iload_n 1, 1) := by decide +kernel
theorem dX10_runs_216 : decode cX10_runs 216 = .ok (.invokevirtual 276, 3) := by decide +kernel
theorem dX10_runs_219 : decode cX10_runs 219 = .ok (.aload_n 0, 1) := by decide +kernel
theorem dX10_runs_220 : decode cX10_runs 220 = .ok (.iload_n 2, 1) := by decide +kernel
theorem dX10_runs_221 : decode cX10_runs 221 = .ok (.iload_n 3, 1) := by decide +kernel
theorem dX10_runs_222 : decode cX10_runs 222 = .ok (.aload_n 0, 1) := by decide +kernel
theorem dX10_runs_223 : decode cX10_runs 223 = .ok (.getfield 34, 3) := by decide +kernel
theorem dX10_runs_226 : decode cX10_runs 226 = .ok (.iload_n 2, 1) := by decide +kernel
theorem dX10_runs_227 : decode cX10_runs 227 = .ok (.iaload, 1) := by decide +kernel
theorem dX10_runs_228 : decode cX10_runs 228 = .ok (.if_icmp .ge 7, 3) := by decide +kernel
theorem dX10_runs_231 : decode cX10_runs 231 = .ok (.iload_n 3, 1) := by decide +kernel
theorem dX10_runs_232 : decode cX10_runs 232 = .ok (.goto 6, 3) := by decide +kernel
theorem dX10_runs_235 : decode cX10_runs 235 = .ok (.iload_n 3, 1) := by decide +kernel
theorem dX10_runs_236 : decode cX10_runs 236 = .ok (.iconst 1, 1) := by decide +kernel
theorem dX10_runs_237 : decode cX10_runs 237 = .ok (.isub, 1) := by decide +kernel
theorem dX10_runs_238 : decode cX10_runs 238 = .ok (.invokevirtual 256, 3) := by decide +kernel
theorem dX10_runs_241 : decode cX10_runs 241 = .ok (.istore 4, 2) := by decide +kernel
theorem dX10_runs_243 : decode cX10_runs 243 = .ok (.aload_n 0, 1) := by decide +kernel
theorem dX10_runs_244 : decode cX10_runs 244 = .ok (.getfield 127, 3) := by decide +kernel
theorem dX10_runs_247 : decode cX10_runs 247 = .ok (.iload_n 2, 1) := by decide +kernel
theorem dX10_runs_248 : decode cX10_runs 248 = .ok (.iload_n 3, 1) := by decide +kernel
theorem dX10_runs_249 : decode cX10_runs 249 = .ok (.aload_n 0, 1) := by decide +kernel
theorem dX10_runs_250 : decode cX10_runs 250 = .ok (.getfield 34, 3) := by decide +kernel
theorem dX10_runs_253 : decode cX10_runs 253 = .ok (.iload_n 2, 1) := by decide +kernel
theorem dX10_runs_254 : decode cX10_runs 254 = .ok (.iaload, 1) := by decide +kernel
theorem dX10_runs_255 : decode cX10_runs 255 = .ok (.if_icmp .ge 21, 3) := by decide +kernel
theorem dX10_runs_258 : decode cX10_runs 258 = .ok (.iload 4, 2) := by decide +kernel
theorem dX10_runs_260 : decode cX10_runs 260 = .ok (.iload_n 1, 1) := by decide +kernel
theorem dX10_runs_261 : decode cX10_runs 261 = .ok (.aload_n 0, 1) := by decide +kernel
theorem dX10_runs_262 : decode cX10_runs 262 = .ok (.getfield 28, 3) := by decide +kernel
theorem dX10_runs_265 : decode cX10_runs 265 = .ok (.iload_n 2, 1) := by decide +kernel
theorem dX10_runs_266 : decode cX10_runs 266 = .ok (.iaload, 1) := by decide +kernel
theorem dX10_runs_267 : decode cX10_runs 267 = .ok (.iadd, 1) := by decide +kernel
theorem dX10_runs_268 : decode cX10_runs 268 = .ok (.if_icmp .le 8, 3) := by decide +kernel
theorem dX10_runs_271 : decode cX10_runs 271 = .ok (.iload 4, 2) := by decide +kernel
theorem dX10_runs_273 : decode cX10_runs 273 = .ok (.goto 11, 3) := by decide +kernel
theorem dX10_runs_276 : decode cX10_runs 276 = .ok (.iload_n 1, 1) := by decide +kernel
theorem dX10_runs_277 : decode cX10_runs 277 = .ok (.aload_n 0, 1) := by decide +kernel
theorem dX10_runs_278 : decode cX10_runs 278 = .ok (.getfield 28, 3) := by decide +kernel
theorem dX10_runs_281 : decode cX10_runs 281 = .ok (.iload_n 2, 1) := by decide +kernel
theorem dX10_runs_282 : decode cX10_runs 282 = .ok (.iaload, 1) := by decide +kernel
theorem dX10_runs_283 : decode cX10_runs 283 = .ok (.iadd, 1) := by decide +kernel
theorem dX10_runs_284 : decode cX10_runs 284 = .ok (.iastore, 1) := by decide +kernel
theorem dX10_runs_285 : decode cX10_runs 285 = .ok (.iinc 2 1, 3) := by decide +kernel
theorem dX10_runs_288 : decode cX10_runs 288 = .ok (.goto (-146), 3) := by decide +kernel
theorem dX10_runs_291 : decode cX10_runs 291 = .ok (.iconst 0, 1) := by decide +kernel
theorem dX10_runs_292 : decode cX10_runs 292 = .ok (.istore_n 2, 1) := by decide +kernel
theorem dX10_runs_293 : decode cX10_runs 293 = .ok (.iload_n 2, 1) := by decide +kernel
theorem dX10_runs_294 : decode cX10_runs 294 = .ok (.aload_n 0, 1) := by decide +kernel
theorem dX10_runs_295 : decode cX10_runs 295 = .ok (.getfield 151, 3) := by decide +kernel
theorem dX10_runs_298 : decode cX10_runs 298 = .ok (.if_icmp .ge 58, 3) := by decide +kernel
theorem dX10_runs_301 : decode cX10_runs 301 = .ok (.aload_n 0, 1) := by decide +kernel
theorem dX10_runs_302 : decode cX10_runs 302 = .ok (.getfield 133, 3) := by decide +kernel
theorem dX10_runs_305 : decode cX10_runs 305 = .ok (.iload_n 2, 1) := by decide +kernel
theorem dX10_runs_306 : decode cX10_runs 306 = .ok (.baload, 1) := by decide +kernel
theorem dX10_runs_307 : decode cX10_runs 307 = .ok (.ifCond .ne 43, 3) := by decide +kernel
theorem dX10_runs_310 : decode cX10_runs 310 = .ok (.aload_n 0, 1) := by decide +kernel
theorem dX10_runs_311 : decode cX10_runs 311 = .ok (.getfield 124, 3) := by decide +kernel
theorem dX10_runs_314 : decode cX10_runs 314 = .ok (.iload_n 2, 1) := by decide +kernel
theorem dX10_runs_315 : decode cX10_runs 315 = .ok (.iaload, 1) := by decide +kernel
theorem dX10_runs_316 : decode cX10_runs 316 = .ok (.aload_n 0, 1) := by decide +kernel
theorem dX10_runs_317 : decode cX10_runs 317 = .ok (.getfield 34, 3) := by decide +kernel
theorem dX10_runs_320 : decode cX10_runs 320 = .ok (.iload_n 2, 1) := by decide +kernel
theorem dX10_runs_321 : decode cX10_runs 321 = .ok (.iaload, 1) := by decide +kernel
theorem dX10_runs_322 : decode cX10_runs 322 = .ok (.if_icmp .ge 28, 3) := by decide +kernel
theorem dX10_runs_325 : decode cX10_runs 325 = .ok (.iload_n 1, 1) := by decide +kernel
theorem dX10_runs_326 : decode cX10_runs 326 = .ok (.aload_n 0, 1) := by decide +kernel
theorem dX10_runs_327 : decode cX10_runs 327 = .ok (.getfield 127, 3) := by decide +kernel
theorem dX10_runs_330 : decode cX10_runs 330 = .ok (.iload_n 2, 1) := by decide +kernel
theorem dX10_runs_331 : decode cX10_runs 331 = .ok (.iaload, 1) := by decide +kernel
theorem dX10_runs_332 : decode cX10_runs 332 = .ok (.if_icmp .lt 18, 3) := by decide +kernel
theorem dX10_runs_335 : decode cX10_runs 335 = .ok (.aload_n 0, 1) := by decide +kernel
theorem dX10_runs_336 : decode cX10_runs 336 = .ok (.iload_n 2, 1) := by decide +kernel
theorem dX10_runs_337 : decode cX10_runs 337 = .ok (.iload_n 1, 1) := by decide +kernel
theorem dX10_runs_338 : decode cX10_runs 338 = .ok (.invokevirtual 280, 3) := by decide +kernel
theorem dX10_runs_341 : decode cX10_runs 341 = .ok (.ifCond .ne 9, 3) := by decide +kernel
theorem dX10_runs_344 : decode cX10_runs 344 = .ok (.aload_n 0, 1) := by decide +kernel
theorem dX10_runs_345 : decode cX10_runs 345 = .ok (.iload_n 2, 1) := by decide +kernel
theorem dX10_runs_346 : decode cX10_runs 346 = .ok (.iload_n 1, 1) := by decide +kernel
theorem dX10_runs_347 : decode cX10_runs 347 = .ok (.invokevirtual 284, 3) := by decide +kernel
theorem dX10_runs_350 : decode cX10_runs 350 = .ok (.iinc 2 1, 3) := by decide +kernel
theorem dX10_runs_353 : decode cX10_runs 353 = .ok (.goto (-60), 3) := by decide +kernel
theorem dX10_runs_356 : decode cX10_runs 356 = .ok (.iinc 1 1, 3) := by decide +kernel
theorem dX10_runs_359 : decode cX10_runs 359 = .ok (.goto (-226), 3) := by decide +kernel
theorem dX10_runs_362 : decode cX10_runs 362 = .ok (.return_, 1) := by decide +kernel
theorem dX10_truth_0 : decode cX10_truth 0 = .ok (.aload_n 0, 1) := by decide +kernel
theorem dX10_truth_1 : decode cX10_truth 1 = .ok (.iload_n 1, 1) := by decide +kernel
theorem dX10_truth_2 : decode cX10_truth 2 = .ok (.invokevirtual 169, 3) := by decide +kernel
theorem dX10_truth_5 : decode cX10_truth 5 = .ok (.ifCond .eq 17, 3) := by decide +kernel
theorem dX10_truth_8 : decode cX10_truth 8 = .ok (.iload_n 2, 1) := by decide +kernel
theorem dX10_truth_9 : decode cX10_truth 9 = .ok (.ifCond .lt 13, 3) := by decide +kernel
theorem dX10_truth_12 : decode cX10_truth 12 = .ok (.iload_n 2, 1) := by decide +kernel
theorem dX10_truth_13 : decode cX10_truth 13 = .ok (.aload_n 0, 1) := by decide +kernel
theorem dX10_truth_14 : decode cX10_truth 14 = .ok (.getfield 34, 3) := by decide +kernel
theorem dX10_truth_17 : decode cX10_truth 17 = .ok (.iload_n 1, 1) := by decide +kernel
theorem dX10_truth_18 : decode cX10_truth 18 = .ok (.iaload, 1) := by decide +kernel
theorem dX10_truth_19 : decode cX10_truth 19 = .ok (.if_icmp .le 5, 3) := by decide +kernel
theorem dX10_truth_22 : decode cX10_truth 22 = .ok (.iconst (-1), 1) := by decide +kernel
theorem dX10_truth_23 : decode cX10_truth 23 = .ok (.ireturn, 1) := by decide +kernel
theorem dX10_truth_24 : decode cX10_truth 24 = .ok (.aload_n 0, 1) := by decide +kernel
theorem dX10_truth_25 : decode cX10_truth 25 = .ok (.invokevirtual 288, 3) := by decide +kernel
theorem dX10_truth_28 : decode cX10_truth 28 = .ok (.bipush 7, 2) := by decide +kernel
theorem dX10_truth_30 : decode cX10_truth 30 = .ok (.iload_n 1, 1) := by decide +kernel
theorem dX10_truth_31 : decode cX10_truth 31 = .ok (.imul, 1) := by decide +kernel
theorem dX10_truth_32 : decode cX10_truth 32 = .ok (.iload_n 2, 1) := by decide +kernel
theorem dX10_truth_33 : decode cX10_truth 33 = .ok (.iadd, 1) := by decide +kernel
theorem dX10_truth_34 : decode cX10_truth 34 = .ok (.istore 4, 2) := by decide +kernel
theorem dX10_truth_36 : decode cX10_truth 36 = .ok (.iload_n 3, 1) := by decide +kernel
theorem dX10_truth_37 : decode cX10_truth 37 = .ok (.tableswitch 120 0 3 #[31, 39, 47, 70], 31) := by decide +kernel
theorem dX10_truth_68 : decode cX10_truth 68 = .ok (.aload_n 0, 1) := by decide +kernel
theorem dX10_truth_69 : decode cX10_truth 69 = .ok (.getfield 109, 3) := by decide +kernel
theorem dX10_truth_72 : decode cX10_truth 72 = .ok (.iload 4, 2) := by decide +kernel
theorem dX10_truth_74 : decode cX10_truth 74 = .ok (.iaload, 1) := by decide +kernel
theorem dX10_truth_75 : decode cX10_truth 75 = .ok (.ireturn, 1) := by decide +kernel
theorem dX10_truth_76 : decode cX10_truth 76 = .ok (.aload_n 0, 1) := by decide +kernel
theorem dX10_truth_77 : decode cX10_truth 77 = .ok (.getfield 112, 3) := by decide +kernel
theorem dX10_truth_80 : decode cX10_truth 80 = .ok (.iload 4, 2) := by decide +kernel
theorem dX10_truth_82 : decode cX10_truth 82 = .ok (.iaload, 1) := by decide +kernel
theorem dX10_truth_83 : decode cX10_truth 83 = .ok (.ireturn, 1) := by decide +kernel
theorem dX10_truth_84 : decode cX10_truth 84 = .ok (.aload_n 0, 1) := by decide +kernel
theorem dX10_truth_85 : decode cX10_truth 85 = .ok (.getfield 112, 3) := by decide +kernel
theorem dX10_truth_88 : decode cX10_truth 88 = .ok (.iload 4, 2) := by decide +kernel
theorem dX10_truth_90 : decode cX10_truth 90 = .ok (.iaload, 1) := by decide +kernel
theorem dX10_truth_91 : decode cX10_truth 91 = .ok (.iconst (-1), 1) := by decide +kernel
theorem dX10_truth_92 : decode cX10_truth 92 = .ok (.if_icmp .ne 7, 3) := by decide +kernel
theorem dX10_truth_95 : decode cX10_truth 95 = .ok (.iconst (-1), 1) := by decide +kernel
theorem dX10_truth_96 : decode cX10_truth 96 = .ok (.goto 10, 3) := by decide +kernel
theorem dX10_truth_99 : decode cX10_truth 99 = .ok (.aload_n 0, 1) := by decide +kernel
theorem dX10_truth_100 : decode cX10_truth 100 = .ok (.getfield 115, 3) := by decide +kernel
theorem dX10_truth_103 : decode cX10_truth 103 = .ok (.iload 4, 2) := by decide +kernel
theorem dX10_truth_105 : decode cX10_truth 105 = .ok (.iaload, 1) := by decide +kernel
theorem dX10_truth_106 : decode cX10_truth 106 = .ok (.ireturn, 1) := by decide +kernel
theorem dX10_truth_107 : decode cX10_truth 107 = .ok (.aload_n 0, 1) := by decide +kernel
theorem dX10_truth_108 : decode cX10_truth 108 = .ok (.getfield 109, 3) := by decide +kernel
theorem dX10_truth_111 : decode cX10_truth 111 = .ok (.iload 4, 2) := by decide +kernel
theorem dX10_truth_113 : decode cX10_truth 113 = .ok (.iaload, 1) := by decide +kernel
theorem dX10_truth_114 : decode cX10_truth 114 = .ok (.iconst (-1), 1) := by decide +kernel
theorem dX10_truth_115 : decode cX10_truth 115 = .ok (.if_icmp .ne 7, 3) := by decide +kernel
theorem dX10_truth_118 : decode cX10_truth 118 = .ok (.iconst (-1), 1) := by decide +kernel
theorem dX10_truth_119 : decode cX10_truth 119 = .ok (.goto 37, 3) := by decide +kernel
theorem dX10_truth_122 : decode cX10_truth 122 = .ok (.aload_n 0, 1) := by decide +kernel
theorem dX10_truth_123 : decode cX10_truth 123 = .ok (.getfield 109, 3) := by decide +kernel
theorem dX10_truth_126 : decode cX10_truth 126 = .ok (.iload 4, 2) := by decide +kernel
theorem dX10_truth_128 : decode cX10_truth 128 = .ok (.iaload, 1) := by decide +kernel
theorem dX10_truth_129 : decode cX10_truth 129 = .ok (.aload_n 0, 1) := by decide +kernel
theorem dX10_truth_130 : decode cX10_truth 130 = .ok (.iload_n 1, 1) := by decide +kernel
theorem dX10_truth_131 : decode cX10_truth 131 = .ok (.iload_n 2, 1) := by decide +kernel
theorem dX10_truth_132 : decode cX10_truth 132 = .ok (.invokevirtual 259, 3) := by decide +kernel
theorem dX10_truth_135 : decode cX10_truth 135 = .ok (.if_icmp .le 20, 3) := by decide +kernel
theorem dX10_truth_138 : decode cX10_truth 138 = .ok (.aload_n 0, 1) := by decide +kernel
theorem dX10_truth_139 : decode cX10_truth 139 = .ok (.getfield 109, 3) := by decide +kernel
theorem dX10_truth_142 : decode cX10_truth 142 = .ok (.iload 4, 2) := by decide +kernel
theorem dX10_truth_144 : decode cX10_truth 144 = .ok (.iaload, 1) := by decide +kernel
theorem dX10_truth_145 : decode cX10_truth 145 = .ok (.aload_n 0, 1) := by decide +kernel
theorem dX10_truth_146 : decode cX10_truth 146 = .ok (.iload_n 1, 1) := by decide +kernel
theorem dX10_truth_147 : decode cX10_truth 147 = .ok (.iload_n 2, 1) := by decide +kernel
theorem dX10_truth_148 : decode cX10_truth 148 = .ok (.invokevirtual 259, 3) := by decide +kernel
theorem dX10_truth_151 : decode cX10_truth 151 = .ok (.isub, 1) := by decide +kernel
theorem dX10_truth_152 : decode cX10_truth 152 = .ok (.goto 4, 3) := by decide +kernel
theorem dX10_truth_155 : decode cX10_truth 155 = .ok (.iconst 0, 1) := by decide +kernel
theorem dX10_truth_156 : decode cX10_truth 156 = .ok (.ireturn, 1) := by decide +kernel
theorem dX10_truth_157 : decode cX10_truth 157 = .ok (.iconst (-1), 1) := by decide +kernel
theorem dX10_truth_158 : decode cX10_truth 158 = .ok (.ireturn, 1) := by decide +kernel
theorem dX10_share_0 : decode cX10_share 0 = .ok (.aload_n 0, 1) := by decide +kernel
theorem dX10_share_1 : decode cX10_share 1 = .ok (.iload_n 1, 1) := by decide +kernel
theorem dX10_share_2 : decode cX10_share 2 = .ok (.invokevirtual 169, 3) := by decide +kernel
theorem dX10_share_5 : decode cX10_share 5 = .ok (.ifCond .eq 28, 3) := by decide +kernel
theorem dX10_share_8 : decode cX10_share 8 = .ok (.iload_n 2, 1) := by decide +kernel
theorem dX10_share_9 : decode cX10_share 9 = .ok (.iconst 1, 1) := by decide +kernel
theorem dX10_share_10 : decode cX10_share 10 = .ok (.if_icmp .lt 23, 3) := by decide +kernel
theorem dX10_share_13 : decode cX10_share 13 = .ok (.iload_n 2, 1) := by decide +kernel
theorem dX10_share_14 : decode cX10_share 14 = .ok (.aload_n 0, 1) := by decide +kernel
theorem dX10_share_15 : decode cX10_share 15 = .ok (.getfield 34, 3) := by decide +kernel
theorem dX10_share_18 : decode cX10_share 18 = .ok (.iload_n 1, 1) := by decide +kernel
theorem dX10_share_19 : decode cX10_share 19 = .ok (.iaload, 1) := by decide +kernel
theorem dX10_share_20 : decode cX10_share 20 = .ok (.if_icmp .gt 13, 3) := by decide +kernel
theorem dX10_share_23 : decode cX10_share 23 = .ok (.iload_n 3, 1) := by decide +kernel
theorem dX10_share_24 : decode cX10_share 24 = .ok (.iconst (-1), 1) := by decide +kernel
theorem dX10_share_25 : decode cX10_share 25 = .ok (.if_icmp .lt 8, 3) := by decide +kernel
theorem dX10_share_28 : decode cX10_share 28 = .ok (.iload_n 3, 1) := by decide +kernel
theorem dX10_share_29 : decode cX10_share 29 = .ok (.iconst 4, 1) := by decide +kernel
theorem dX10_share_30 : decode cX10_share 30 = .ok (.if_icmp .lt 5, 3) := by decide +kernel
theorem dX10_share_33 : decode cX10_share 33 = .ok (.iconst (-1), 1) := by decide +kernel
theorem dX10_share_34 : decode cX10_share 34 = .ok (.ireturn, 1) := by decide +kernel
theorem dX10_share_35 : decode cX10_share 35 = .ok (.aload_n 0, 1) := by decide +kernel
theorem dX10_share_36 : decode cX10_share 36 = .ok (.invokevirtual 288, 3) := by decide +kernel
theorem dX10_share_39 : decode cX10_share 39 = .ok (.bipush 7, 2) := by decide +kernel
theorem dX10_share_41 : decode cX10_share 41 = .ok (.iload_n 1, 1) := by decide +kernel
theorem dX10_share_42 : decode cX10_share 42 = .ok (.imul, 1) := by decide +kernel
theorem dX10_share_43 : decode cX10_share 43 = .ok (.iload_n 2, 1) := by decide +kernel
theorem dX10_share_44 : decode cX10_share 44 = .ok (.iadd, 1) := by decide +kernel
theorem dX10_share_45 : decode cX10_share 45 = .ok (.istore 4, 2) := by decide +kernel
theorem dX10_share_47 : decode cX10_share 47 = .ok (.aload_n 0, 1) := by decide +kernel
theorem dX10_share_48 : decode cX10_share 48 = .ok (.getfield 109, 3) := by decide +kernel
theorem dX10_share_51 : decode cX10_share 51 = .ok (.iload 4, 2) := by decide +kernel
theorem dX10_share_53 : decode cX10_share 53 = .ok (.iaload, 1) := by decide +kernel
theorem dX10_share_54 : decode cX10_share 54 = .ok (.iconst (-1), 1) := by decide +kernel
theorem dX10_share_55 : decode cX10_share 55 = .ok (.if_icmp .ne 5, 3) := by decide +kernel
theorem dX10_share_58 : decode cX10_share 58 = .ok (.iconst (-1), 1) := by decide +kernel
theorem dX10_share_59 : decode cX10_share 59 = .ok (.ireturn, 1) := by decide +kernel
theorem dX10_share_60 : decode cX10_share 60 = .ok (.iload_n 3, 1) := by decide +kernel
theorem dX10_share_61 : decode cX10_share 61 = .ok (.iconst (-1), 1) := by decide +kernel
theorem dX10_share_62 : decode cX10_share 62 = .ok (.if_icmp .ne 13, 3) := by decide +kernel
theorem dX10_share_65 : decode cX10_share 65 = .ok (.aload_n 0, 1) := by decide +kernel
theorem dX10_share_66 : decode cX10_share 66 = .ok (.getfield 118, 3) := by decide +kernel
theorem dX10_share_69 : decode cX10_share 69 = .ok (.iload 4, 2) := by decide +kernel
theorem dX10_share_71 : decode cX10_share 71 = .ok (.iaload, 1) := by decide +kernel
theorem dX10_share_72 : decode cX10_share 72 = .ok (.goto 14, 3) := by decide +kernel
theorem dX10_share_75 : decode cX10_share 75 = .ok (.aload_n 0, 1) := by decide +kernel
theorem dX10_share_76 : decode cX10_share 76 = .ok (.getfield 121, 3) := by decide +kernel
theorem dX10_share_79 : decode cX10_share 79 = .ok (.iconst 4, 1) := by decide +kernel
theorem dX10_share_80 : decode cX10_share 80 = .ok (.iload 4, 2) := by decide +kernel
theorem dX10_share_82 : decode cX10_share 82 = .ok (.imul, 1) := by decide +kernel
theorem dX10_share_83 : decode cX10_share 83 = .ok (.iload_n 3, 1) := by decide +kernel
theorem dX10_share_84 : decode cX10_share 84 = .ok (.iadd, 1) := by decide +kernel
theorem dX10_share_85 : decode cX10_share 85 = .ok (.iaload, 1) := by decide +kernel
theorem dX10_share_86 : decode cX10_share 86 = .ok (.ireturn, 1) := by decide +kernel
theorem dX10_owed_0 : decode cX10_owed 0 = .ok (.iload_n 1, 1) := by decide +kernel
theorem dX10_owed_1 : decode cX10_owed 1 = .ok (.ifCond .lt 8, 3) := by decide +kernel
theorem dX10_owed_4 : decode cX10_owed 4 = .ok (.iload_n 1, 1) := by decide +kernel
theorem dX10_owed_5 : decode cX10_owed 5 = .ok (.iconst 4, 1) := by decide +kernel
theorem dX10_owed_6 : decode cX10_owed 6 = .ok (.if_icmp .lt 7, 3) := by decide +kernel
theorem dX10_owed_9 : decode cX10_owed 9 = .ok (.ldc2_w 291, 3) := by decide +kernel
theorem dX10_owed_12 : decode cX10_owed 12 = .ok (.lreturn, 1) := by decide +kernel
theorem dX10_owed_13 : decode cX10_owed 13 = .ok (.aload_n 0, 1) := by decide +kernel
theorem dX10_owed_14 : decode cX10_owed 14 = .ok (.invokevirtual 288, 3) := by decide +kernel
theorem dX10_owed_17 : decode cX10_owed 17 = .ok (.lconst 0, 1) := by decide +kernel
theorem dX10_owed_18 : decode cX10_owed 18 = .ok (.lstore_n 2, 1) := by decide +kernel
theorem dX10_owed_19 : decode cX10_owed 19 = .ok (.iconst 0, 1) := by decide +kernel
theorem dX10_owed_20 : decode cX10_owed 20 = .ok (.istore 4, 2) := by decide +kernel
theorem dX10_owed_22 : decode cX10_owed 22 = .ok (.iload 4, 2) := by decide +kernel
theorem dX10_owed_24 : decode cX10_owed 24 = .ok (.aload_n 0, 1) := by decide +kernel
theorem dX10_owed_25 : decode cX10_owed 25 = .ok (.getfield 151, 3) := by decide +kernel
theorem dX10_owed_28 : decode cX10_owed 28 = .ok (.if_icmp .ge 80, 3) := by decide +kernel
theorem dX10_owed_31 : decode cX10_owed 31 = .ok (.iconst 1, 1) := by decide +kernel
theorem dX10_owed_32 : decode cX10_owed 32 = .ok (.istore 5, 2) := by decide +kernel
theorem dX10_owed_34 : decode cX10_owed 34 = .ok (.iload 5, 2) := by decide +kernel
theorem dX10_owed_36 : decode cX10_owed 36 = .ok (.aload_n 0, 1) := by decide +kernel
theorem dX10_owed_37 : decode cX10_owed 37 = .ok (.getfield 34, 3) := by decide +kernel
theorem dX10_owed_40 : decode cX10_owed 40 = .ok (.iload 4, 2) := by decide +kernel
theorem dX10_owed_42 : decode cX10_owed 42 = .ok (.iaload, 1) := by decide +kernel
theorem dX10_owed_43 : decode cX10_owed 43 = .ok (.if_icmp .gt 59, 3) := by decide +kernel
theorem dX10_owed_46 : decode cX10_owed 46 = .ok (.bipush 7, 2) := by decide +kernel
theorem dX10_owed_48 : decode cX10_owed 48 = .ok (.iload 4, 2) := by decide +kernel
theorem dX10_owed_50 : decode cX10_owed 50 = .ok (.imul, 1) := by decide +kernel
theorem dX10_owed_51 : decode cX10_owed 51 = .ok (.iload 5, 2) := by decide +kernel
theorem dX10_owed_53 : decode cX10_owed 53 = .ok (.iadd, 1) := by decide +kernel
theorem dX10_owed_54 : decode cX10_owed 54 = .ok (.istore 6, 2) := by decide +kernel
theorem dX10_owed_56 : decode cX10_owed 56 = .ok (.aload_n 0, 1) := by decide +kernel
theorem dX10_owed_57 : decode cX10_owed 57 = .ok (.getfield 109, 3) := by decide +kernel
theorem dX10_owed_60 : decode cX10_owed 60 = .ok (.iload 6, 2) := by decide +kernel
theorem dX10_owed_62 : decode cX10_owed 62 = .ok (.iaload, 1) := by decide +kernel
theorem dX10_owed_63 : decode cX10_owed 63 = .ok (.iconst (-1), 1) := by decide +kernel
theorem dX10_owed_64 : decode cX10_owed 64 = .ok (.if_icmp .eq 32, 3) := by decide +kernel
theorem dX10_owed_67 : decode cX10_owed 67 = .ok (.lload_n 2, 1) := by decide +kernel
theorem dX10_owed_68 : decode cX10_owed 68 = .ok (.aload_n 0, 1) := by decide +kernel
theorem dX10_owed_69 : decode cX10_owed 69 = .ok (.getfield 121, 3) := by decide +kernel
theorem dX10_owed_72 : decode cX10_owed 72 = .ok (.iconst 4, 1) := by decide +kernel
theorem dX10_owed_73 : decode cX10_owed 73 = .ok (.iload 6, 2) := by decide +kernel
theorem dX10_owed_75 : decode cX10_owed 75 = .ok (.imul, 1) := by decide +kernel
theorem dX10_owed_76 : decode cX10_owed 76 = .ok (.iload_n 1, 1) := by decide +kernel
theorem dX10_owed_77 : decode cX10_owed 77 = .ok (.iadd, 1) := by decide +kernel
theorem dX10_owed_78 : decode cX10_owed 78 = .ok (.iaload, 1) := by decide +kernel
theorem dX10_owed_79 : decode cX10_owed 79 = .ok (.i2l, 1) := by decide +kernel
theorem dX10_owed_80 : decode cX10_owed 80 = .ok (.aload_n 0, 1) := by decide +kernel
theorem dX10_owed_81 : decode cX10_owed 81 = .ok (.getfield 72, 3) := by decide +kernel
theorem dX10_owed_84 : decode cX10_owed 84 = .ok (.aload_n 0, 1) := by decide +kernel
theorem dX10_owed_85 : decode cX10_owed 85 = .ok (.getfield 22, 3) := by decide +kernel
theorem dX10_owed_88 : decode cX10_owed 88 = .ok (.iload 4, 2) := by decide +kernel
theorem dX10_owed_90 : decode cX10_owed 90 = .ok (.iaload, 1) := by decide +kernel
theorem dX10_owed_91 : decode cX10_owed 91 = .ok (.iaload, 1) := by decide +kernel
theorem dX10_owed_92 : decode cX10_owed 92 = .ok (.i2l, 1) := by decide +kernel
theorem dX10_owed_93 : decode cX10_owed 93 = .ok (.lmul, 1) := by decide +kernel
theorem dX10_owed_94 : decode cX10_owed 94 = .ok (.ladd, 1) := by decide +kernel
theorem dX10_owed_95 : decode cX10_owed 95 = .ok (.lstore_n 2, 1) := by decide +kernel
theorem dX10_owed_96 : decode cX10_owed 96 = .ok (.iinc 5 1, 3) := by decide +kernel
theorem dX10_owed_99 : decode cX10_owed 99 = .ok (.goto (-65), 3) := by decide +kernel
theorem dX10_owed_102 : decode cX10_owed 102 = .ok (.iinc 4 1, 3) := by decide +kernel
theorem dX10_owed_105 : decode cX10_owed 105 = .ok (.goto (-83), 3) := by decide +kernel
theorem dX10_owed_108 : decode cX10_owed 108 = .ok (.lload_n 2, 1) := by decide +kernel
theorem dX10_owed_109 : decode cX10_owed 109 = .ok (.lreturn, 1) := by decide +kernel
theorem dX10_leaving_0 : decode cX10_leaving 0 = .ok (.aload_n 0, 1) := by decide +kernel
theorem dX10_leaving_1 : decode cX10_leaving 1 = .ok (.getfield 293, 3) := by decide +kernel
theorem dX10_leaving_4 : decode cX10_leaving 4 = .ok (.ifCond .eq 17, 3) := by decide +kernel
theorem dX10_leaving_7 : decode cX10_leaving 7 = .ok (.aload_n 0, 1) := by decide +kernel
theorem dX10_leaving_8 : decode cX10_leaving 8 = .ok (.getfield 112, 3) := by decide +kernel
theorem dX10_leaving_11 : decode cX10_leaving 11 = .ok (.bipush 7, 2) := by decide +kernel
theorem dX10_leaving_13 : decode cX10_leaving 13 = .ok (.iload_n 1, 1) := by decide +kernel
theorem dX10_leaving_14 : decode cX10_leaving 14 = .ok (.imul, 1) := by decide +kernel
theorem dX10_leaving_15 : decode cX10_leaving 15 = .ok (.iload_n 2, 1) := by decide +kernel
theorem dX10_leaving_16 : decode cX10_leaving 16 = .ok (.iadd, 1) := by decide +kernel
theorem dX10_leaving_17 : decode cX10_leaving 17 = .ok (.iaload, 1) := by decide +kernel
theorem dX10_leaving_18 : decode cX10_leaving 18 = .ok (.goto 23, 3) := by decide +kernel
theorem dX10_leaving_21 : decode cX10_leaving 21 = .ok (.iload_n 2, 1) := by decide +kernel
theorem dX10_leaving_22 : decode cX10_leaving 22 = .ok (.aload_n 0, 1) := by decide +kernel
theorem dX10_leaving_23 : decode cX10_leaving 23 = .ok (.getfield 34, 3) := by decide +kernel
theorem dX10_leaving_26 : decode cX10_leaving 26 = .ok (.iload_n 1, 1) := by decide +kernel
theorem dX10_leaving_27 : decode cX10_leaving 27 = .ok (.iaload, 1) := by decide +kernel
theorem dX10_leaving_28 : decode cX10_leaving 28 = .ok (.if_icmp .ge 12, 3) := by decide +kernel
theorem dX10_leaving_31 : decode cX10_leaving 31 = .ok (.aload_n 0, 1) := by decide +kernel
theorem dX10_leaving_32 : decode cX10_leaving 32 = .ok (.iload_n 1, 1) := by decide +kernel
theorem dX10_leaving_33 : decode cX10_leaving 33 = .ok (.iload_n 2, 1) := by decide +kernel
theorem dX10_leaving_34 : decode cX10_leaving 34 = .ok (.invokevirtual 256, 3) := by decide +kernel
theorem dX10_leaving_37 : decode cX10_leaving 37 = .ok (.goto 4, 3) := by decide +kernel
theorem dX10_leaving_40 : decode cX10_leaving 40 = .ok (.iconst (-1), 1) := by decide +kernel
theorem dX10_leaving_41 : decode cX10_leaving 41 = .ok (.ireturn, 1) := by decide +kernel
theorem dX10_coming_0 : decode cX10_coming 0 = .ok (.aload_n 0, 1) := by decide +kernel
theorem dX10_coming_1 : decode cX10_coming 1 = .ok (.getfield 293, 3) := by decide +kernel
theorem dX10_coming_4 : decode cX10_coming 4 = .ok (.ifCond .eq 17, 3) := by decide +kernel
theorem dX10_coming_7 : decode cX10_coming 7 = .ok (.aload_n 0, 1) := by decide +kernel
theorem dX10_coming_8 : decode cX10_coming 8 = .ok (.getfield 109, 3) := by decide +kernel
theorem dX10_coming_11 : decode cX10_coming 11 = .ok (.bipush 7, 2) := by decide +kernel
theorem dX10_coming_13 : decode cX10_coming 13 = .ok (.iload_n 1, 1) := by decide +kernel
theorem dX10_coming_14 : decode cX10_coming 14 = .ok (.imul, 1) := by decide +kernel
theorem dX10_coming_15 : decode cX10_coming 15 = .ok (.iload_n 2, 1) := by decide +kernel
theorem dX10_coming_16 : decode cX10_coming 16 = .ok (.iadd, 1) := by decide +kernel
theorem dX10_coming_17 : decode cX10_coming 17 = .ok (.iaload, 1) := by decide +kernel
theorem dX10_coming_18 : decode cX10_coming 18 = .ok (.goto 9, 3) := by decide +kernel
theorem dX10_coming_21 : decode cX10_coming 21 = .ok (.aload_n 0, 1) := by decide +kernel
theorem dX10_coming_22 : decode cX10_coming 22 = .ok (.iload_n 1, 1) := by decide +kernel
theorem dX10_coming_23 : decode cX10_coming 23 = .ok (.iload_n 2, 1) := by decide +kernel
theorem dX10_coming_24 : decode cX10_coming 24 = .ok (.invokevirtual 259, 3) := by decide +kernel
theorem dX10_coming_27 : decode cX10_coming 27 = .ok (.ireturn, 1) := by decide +kernel
theorem dX10_earliest_0 : decode cX10_earliest 0 = .ok (.ldc_w 296, 3) := by decide +kernel
theorem dX10_earliest_3 : decode cX10_earliest 3 = .ok (.istore 5, 2) := by decide +kernel
theorem dX10_earliest_5 : decode cX10_earliest 5 = .ok (.iconst 0, 1) := by decide +kernel
theorem dX10_earliest_6 : decode cX10_earliest 6 = .ok (.istore 6, 2) := by decide +kernel
theorem dX10_earliest_8 : decode cX10_earliest 8 = .ok (.iload 6, 2) := by decide +kernel
theorem dX10_earliest_10 : decode cX10_earliest 10 = .ok (.bipush 8, 2) := by decide +kernel
theorem dX10_earliest_12 : decode cX10_earliest 12 = .ok (.if_icmp .ge 29, 3) := by decide +kernel
theorem dX10_earliest_15 : decode cX10_earliest 15 = .ok (.aload_n 0, 1) := by decide +kernel
theorem dX10_earliest_16 : decode cX10_earliest 16 = .ok (.getfield 136, 3) := by decide +kernel
theorem dX10_earliest_19 : decode cX10_earliest 19 = .ok (.iload 6, 2) := by decide +kernel
theorem dX10_earliest_21 : decode cX10_earliest 21 = .ok (.iload 6, 2) := by decide +kernel
theorem dX10_earliest_23 : decode cX10_earliest 23 = .ok (.iload_n 1, 1) := by decide +kernel
theorem dX10_earliest_24 : decode cX10_earliest 24 = .ok (.if_icmp .ne 7, 3) := by decide +kernel
theorem dX10_earliest_27 : decode cX10_earliest 27 = .ok (.iload_n 2, 1) := by decide +kernel
theorem dX10_earliest_28 : decode cX10_earliest 28 = .ok (.goto 6, 3) := by decide +kernel
theorem dX10_earliest_31 : decode cX10_earliest 31 = .ok (.ldc_w 296, 3) := by decide +kernel
theorem dX10_earliest_34 : decode cX10_earliest 34 = .ok (.iastore, 1) := by decide +kernel
theorem dX10_earliest_35 : decode cX10_earliest 35 = .ok (.iinc 6 1, 3) := by decide +kernel
theorem dX10_earliest_38 : decode cX10_earliest 38 = .ok (.goto (-30), 3) := by decide +kernel
theorem dX10_earliest_41 : decode cX10_earliest 41 = .ok (.iconst 0, 1) := by decide +kernel
theorem dX10_earliest_42 : decode cX10_earliest 42 = .ok (.istore 6, 2) := by decide +kernel
theorem dX10_earliest_44 : decode cX10_earliest 44 = .ok (.iload 6, 2) := by decide +kernel
theorem dX10_earliest_46 : decode cX10_earliest 46 = .ok (.iload 4, 2) := by decide +kernel
theorem dX10_earliest_48 : decode cX10_earliest 48 = .ok (.if_icmp .ge 250, 3) := by decide +kernel
theorem dX10_earliest_51 : decode cX10_earliest 51 = .ok (.iconst 0, 1) := by decide +kernel
theorem dX10_earliest_52 : decode cX10_earliest 52 = .ok (.istore 7, 2) := by decide +kernel
theorem dX10_earliest_54 : decode cX10_earliest 54 = .ok (.iload 7, 2) := by decide +kernel
theorem dX10_earliest_56 : decode cX10_earliest 56 = .ok (.bipush 8, 2) := by decide +kernel
theorem dX10_earliest_58 : decode cX10_earliest 58 = .ok (.if_icmp .ge 23, 3) := by decide +kernel
theorem dX10_earliest_61 : decode cX10_earliest 61 = .ok (.aload_n 0, 1) := by decide +kernel
theorem dX10_earliest_62 : decode cX10_earliest 62 = .ok (.getfield 139, 3) := by decide +kernel
theorem dX10_earliest_65 : decode cX10_earliest 65 = .ok (.iload 7, 2) := by decide +kernel
theorem dX10_earliest_67 : decode cX10_earliest 67 = .ok (.aload_n 0, 1) := by decide +kernel
theorem dX10_earliest_68 : decode cX10_earliest 68 = .ok (.getfield 136, 3) := by decide +kernel
theorem dX10_earliest_71 : decode cX10_earliest 71 = .ok (.iload 7, 2) := by decide +kernel
theorem dX10_earliest_73 : decode cX10_earliest 73 = .ok (.iaload, 1) := by decide +kernel
theorem dX10_earliest_74 : decode cX10_earliest 74 = .ok (.iastore, 1) := by decide +kernel
theorem dX10_earliest_75 : decode cX10_earliest 75 = .ok (.iinc 7 1, 3) := by decide +kernel
theorem dX10_earliest_78 : decode cX10_earliest 78 = .ok (.goto (-24), 3) := by decide +kernel
theorem dX10_earliest_81 : decode cX10_earliest 81 = .ok (.iconst 0, 1) := by decide +kernel
theorem dX10_earliest_82 : decode cX10_earliest 82 = .ok (.istore 7, 2) := by decide +kernel
theorem dX10_earliest_84 : decode cX10_earliest 84 = .ok (.iload 7, 2) := by decide +kernel
theorem dX10_earliest_86 : decode cX10_earliest 86 = .ok (.aload_n 0, 1) := by decide +kernel
theorem dX10_earliest_87 : decode cX10_earliest 87 = .ok (.getfield 151, 3) := by decide +kernel
theorem dX10_earliest_90 : decode cX10_earliest 90 = .ok (.if_icmp .ge 172, 3) := by decide +kernel
theorem dX10_earliest_93 : decode cX10_earliest 93 = .ok (.iconst 0, 1) := by decide +kernel
theorem dX10_earliest_94 : decode cX10_earliest 94 = .ok (.istore 8, 2) := by decide +kernel
theorem dX10_earliest_96 : decode cX10_earliest 96 = .ok (.iload 8, 2) := by decide +kernel
theorem dX10_earliest_98 : decode cX10_earliest 98 = .ok (.aload_n 0, 1) := by decide +kernel
theorem dX10_earliest_99 : decode cX10_earliest 99 = .ok (.getfield 34, 3) := by decide +kernel
theorem dX10_earliest_102 : decode cX10_earliest 102 = .ok (.iload 7, 2) := by decide +kernel
theorem dX10_earliest_104 : decode cX10_earliest 104 = .ok (.iaload, 1) := by decide +kernel
theorem dX10_earliest_105 : decode cX10_earliest 105 = .ok (.if_icmp .ge 151, 3) := by decide +kernel
theorem dX10_earliest_108 : decode cX10_earliest 108 = .ok (.aload_n 0, 1) := by decide +kernel
theorem dX10_earliest_109 : decode cX10_earliest 109 = .ok (.iload 7, 2) := by decide +kernel
theorem dX10_earliest_111 : decode cX10_earliest 111 = .ok (.iload 8, 2) := by decide +kernel
theorem dX10_earliest_113 : decode cX10_earliest 113 = .ok (.invokevirtual 297, 3) := by decide +kernel
theorem dX10_earliest_116 : decode cX10_earliest 116 = .ok (.istore 9, 2) := by decide +kernel
theorem dX10_earliest_118 : decode cX10_earliest 118 = .ok (.iload 9, 2) := by decide +kernel
theorem dX10_earliest_120 : decode cX10_earliest 120 = .ok (.iconst (-1), 1) := by decide +kernel
theorem dX10_earliest_121 : decode cX10_earliest 121 = .ok (.if_icmp .eq 129, 3) := by decide +kernel
theorem dX10_earliest_124 : decode cX10_earliest 124 = .ok (.iload 9, 2) := by decide +kernel
theorem dX10_earliest_126 : decode cX10_earliest 126 = .ok (.aload_n 0, 1) := by decide +kernel
theorem dX10_earliest_127 : decode cX10_earliest 127 = .ok (.getfield 136, 3) := by decide +kernel
theorem dX10_earliest_130 : decode cX10_earliest 130 = .ok (.aload_n 0, 1) := by decide +kernel
theorem dX10_earliest_131 : decode cX10_earliest 131 = .ok (.getfield 43, 3) := by decide +kernel
theorem dX10_earliest_134 : decode cX10_earliest 134 = .ok (.bipush 7, 2) := by decide +kernel
theorem dX10_earliest_136 : decode cX10_earliest 136 = .ok (.iload 7, 2) := by decide +kernel
theorem dX10_earliest_138 : decode cX10_earliest 138 = .ok (.imul, 1) := by decide +kernel
theorem dX10_earliest_139 : decode cX10_earliest 139 = .ok (.iload 8, 2) := by decide +kernel
theorem dX10_earliest_141 : decode cX10_earliest 141 = .ok (.iadd, 1) := by decide +kernel
theorem dX10_earliest_142 : decode cX10_earliest 142 = .ok (.iaload, 1) := by decide +kernel
theorem dX10_earliest_143 : decode cX10_earliest 143 = .ok (.iaload, 1) := by decide +kernel
theorem dX10_earliest_144 : decode cX10_earliest 144 = .ok (.if_icmp .ge 6, 3) := by decide +kernel
theorem dX10_earliest_147 : decode cX10_earliest 147 = .ok (.goto 103, 3) := by decide +kernel
theorem dX10_earliest_150 : decode cX10_earliest 150 = .ok (.iload 8, 2) := by decide +kernel
theorem dX10_earliest_152 : decode cX10_earliest 152 = .ok (.iconst 1, 1) := by decide +kernel
theorem dX10_earliest_153 : decode cX10_earliest 153 = .ok (.iadd, 1) := by decide +kernel
theorem dX10_earliest_154 : decode cX10_earliest 154 = .ok (.istore 10, 2) := by decide +kernel
theorem dX10_earliest_156 : decode cX10_earliest 156 = .ok (.iload 10, 2) := by decide +kernel
theorem dX10_earliest_158 : decode cX10_earliest 158 = .ok (.aload_n 0, 1) := by decide +kernel
theorem dX10_earliest_159 : decode cX10_earliest 159 = .ok (.getfield 34, 3) := by decide +kernel
theorem dX10_earliest_162 : decode cX10_earliest 162 = .ok (.iload 7, 2) := by decide +kernel
theorem dX10_earliest_164 : decode cX10_earliest 164 = .ok (.iaload, 1) := by decide +kernel
theorem dX10_earliest_165 : decode cX10_earliest 165 = .ok (.if_icmp .gt 85, 3) := by decide +kernel
theorem dX10_earliest_168 : decode cX10_earliest 168 = .ok (.aload_n 0, 1) := by decide +kernel
theorem dX10_earliest_169 : decode cX10_earliest 169 = .ok (.iload 7, 2) := by decide +kernel
theorem dX10_earliest_171 : decode cX10_earliest 171 = .ok (.iload 10, 2) := by decide +kernel
theorem dX10_earliest_173 : decode cX10_earliest 173 = .ok (.invokevirtual 300, 3) := by decide +kernel
theorem dX10_earliest_176 : decode cX10_earliest 176 = .ok (.istore 11, 2) := by decide +kernel
theorem dX10_earliest_178 : decode cX10_earliest 178 = .ok (.aload_n 0, 1) := by decide +kernel
theorem dX10_earliest_179 : decode cX10_earliest 179 = .ok (.getfield 43, 3) := by decide +kernel
theorem dX10_earliest_182 : decode cX10_earliest 182 = .ok (.bipush 7, 2) := by decide +kernel
theorem dX10_earliest_184 : decode cX10_earliest 184 = .ok (.iload 7, 2) := by decide +kernel
theorem dX10_earliest_186 : decode cX10_earliest 186 = .ok (.imul, 1) := by decide +kernel
theorem dX10_earliest_187 : decode cX10_earliest 187 = .ok (.iload 10, 2) := by decide +kernel
theorem dX10_earliest_189 : decode cX10_earliest 189 = .ok (.iadd, 1) := by decide +kernel
theorem dX10_earliest_190 : decode cX10_earliest 190 = .ok (.iaload, 1) := by decide +kernel
theorem dX10_earliest_191 : decode cX10_earliest 191 = .ok (.istore 12, 2) := by decide +kernel
theorem dX10_earliest_193 : decode cX10_earliest 193 = .ok (.iload 11, 2) := by decide +kernel
theorem dX10_earliest_195 : decode cX10_earliest 195 = .ok (.iconst (-1), 1) := by decide +kernel
theorem dX10_earliest_196 : decode cX10_earliest 196 = .ok (.if_icmp .ne 6, 3) := by decide +kernel
theorem dX10_earliest_199 : decode cX10_earliest 199 = .ok (.goto 45, 3) := by decide +kernel
theorem dX10_earliest_202 : decode cX10_earliest 202 = .ok (.iload 12, 2) := by decide +kernel
theorem dX10_earliest_204 : decode cX10_earliest 204 = .ok (.iload_n 3, 1) := by decide +kernel
theorem dX10_earliest_205 : decode cX10_earliest 205 = .ok (.if_icmp .ne 14, 3) := by decide +kernel
theorem dX10_earliest_208 : decode cX10_earliest 208 = .ok (.iload 11, 2) := by decide +kernel
theorem dX10_earliest_210 : decode cX10_earliest 210 = .ok (.iload 5, 2) := by decide +kernel
theorem dX10_earliest_212 : decode cX10_earliest 212 = .ok (.if_icmp .ge 7, 3) := by decide +kernel
theorem dX10_earliest_215 : decode cX10_earliest 215 = .ok (.iload 11, 2) := by decide +kernel
theorem dX10_earliest_217 : decode cX10_earliest 217 = .ok (.istore 5, 2) := by decide +kernel
theorem dX10_earliest_219 : decode cX10_earliest 219 = .ok (.iload 11, 2) := by decide +kernel
theorem dX10_earliest_221 : decode cX10_earliest 221 = .ok (.iconst 1, 1) := by decide +kernel
theorem dX10_earliest_222 : decode cX10_earliest 222 = .ok (.iadd, 1) := by decide +kernel
theorem dX10_earliest_223 : decode cX10_earliest 223 = .ok (.aload_n 0, 1) := by decide +kernel
theorem dX10_earliest_224 : decode cX10_earliest 224 = .ok (.getfield 139, 3) := by decide +kernel
theorem dX10_earliest_227 : decode cX10_earliest 227 = .ok (.iload 12, 2) := by decide +kernel
theorem dX10_earliest_229 : decode cX10_earliest 229 = .ok (.iaload, 1) := by decide +kernel
theorem dX10_earliest_230 : decode cX10_earliest 230 = .ok (.if_icmp .ge 14, 3) := by decide +kernel
theorem dX10_earliest_233 : decode cX10_earliest 233 = .ok (.aload_n 0, 1) := by decide +kernel
theorem dX10_earliest_234 : decode cX10_earliest 234 = .ok (.getfield 139, 3) := by decide +kernel
theorem dX10_earliest_237 : decode cX10_earliest 237 = .ok (.iload 12, 2) := by decide +kernel
theorem dX10_earliest_239 : decode cX10_earliest 239 = .ok (.iload 11, 2) := by decide +kernel
theorem dX10_earliest_241 : decode cX10_earliest 241 = .ok (.iconst 1, 1) := by decide +kernel
theorem dX10_earliest_242 : decode cX10_earliest 242 = .ok (.iadd, 1) := by decide +kernel
theorem dX10_earliest_243 : decode cX10_earliest 243 = .ok (.iastore, 1) := by decide +kernel
theorem dX10_earliest_244 : decode cX10_earliest 244 = .ok (.iinc 10 1, 3) := by decide +kernel
theorem dX10_earliest_247 : decode cX10_earliest 247 = .ok (.goto (-91), 3) := by decide +kernel
theorem dX10_earliest_250 : decode cX10_earliest 250 = .ok (.iinc 8 1, 3) := by decide +kernel
theorem dX10_earliest_253 : decode cX10_earliest 253 = .ok (.goto (-157), 3) := by decide +kernel
theorem dX10_earliest_256 : decode cX10_earliest 256 = .ok (.iinc 7 1, 3) := by decide +kernel
theorem dX10_earliest_259 : decode cX10_earliest 259 = .ok (.goto (-175), 3) := by decide +kernel
theorem dX10_earliest_262 : decode cX10_earliest 262 = .ok (.iconst 0, 1) := by decide +kernel
theorem dX10_earliest_263 : decode cX10_earliest 263 = .ok (.istore 7, 2) := by decide +kernel
theorem dX10_earliest_265 : decode cX10_earliest 265 = .ok (.iload 7, 2) := by decide +kernel
theorem dX10_earliest_267 : decode cX10_earliest 267 = .ok (.bipush 8, 2) := by decide +kernel
theorem dX10_earliest_269 : decode cX10_earliest 269 = .ok (.if_icmp .ge 23, 3) := by decide +kernel
theorem dX10_earliest_272 : decode cX10_earliest 272 = .ok (.aload_n 0, 1) := by decide +kernel
theorem dX10_earliest_273 : decode cX10_earliest 273 = .ok (.getfield 136, 3) := by decide +kernel
theorem dX10_earliest_276 : decode cX10_earliest 276 = .ok (.iload 7, 2) := by decide +kernel
theorem dX10_earliest_278 : decode cX10_earliest 278 = .ok (.aload_n 0, 1) := by decide +kernel
theorem dX10_earliest_279 : decode cX10_earliest 279 = .ok (.getfield 139, 3) := by decide +kernel
theorem dX10_earliest_282 : decode cX10_earliest 282 = .ok (.iload 7, 2) := by decide +kernel
theorem dX10_earliest_284 : decode cX10_earliest 284 = .ok (.iaload, 1) := by decide +kernel
theorem dX10_earliest_285 : decode cX10_earliest 285 = .ok (.iastore, 1) := by decide +kernel
theorem dX10_earliest_286 : decode cX10_earliest 286 = .ok (.iinc 7 1, 3) := by decide +kernel
theorem dX10_earliest_289 : decode cX10_earliest 289 = .ok (.goto (-24), 3) := by decide +kernel
theorem dX10_earliest_292 : decode cX10_earliest 292 = .ok (.iinc 6 1, 3) := by decide +kernel
theorem dX10_earliest_295 : decode cX10_earliest 295 = .ok (.goto (-251), 3) := by decide +kernel
theorem dX10_earliest_298 : decode cX10_earliest 298 = .ok (.iload 5, 2) := by decide +kernel
theorem dX10_earliest_300 : decode cX10_earliest 300 = .ok (.ireturn, 1) := by decide +kernel
theorem dX10_isRide_0 : decode cX10_isRide 0 = .ok (.aload_n 0, 1) := by decide +kernel
theorem dX10_isRide_1 : decode cX10_isRide 1 = .ok (.iload_n 1, 1) := by decide +kernel
theorem dX10_isRide_2 : decode cX10_isRide 2 = .ok (.iload_n 2, 1) := by decide +kernel
theorem dX10_isRide_3 : decode cX10_isRide 3 = .ok (.invokevirtual 297, 3) := by decide +kernel
theorem dX10_isRide_6 : decode cX10_isRide 6 = .ok (.istore 9, 2) := by decide +kernel
theorem dX10_isRide_8 : decode cX10_isRide 8 = .ok (.aload_n 0, 1) := by decide +kernel
theorem dX10_isRide_9 : decode cX10_isRide 9 = .ok (.getfield 43, 3) := by decide +kernel
theorem dX10_isRide_12 : decode cX10_isRide 12 = .ok (.bipush 7, 2) := by decide +kernel
theorem dX10_isRide_14 : decode cX10_isRide 14 = .ok (.iload_n 1, 1) := by decide +kernel
theorem dX10_isRide_15 : decode cX10_isRide 15 = .ok (.imul, 1) := by decide +kernel
theorem dX10_isRide_16 : decode cX10_isRide 16 = .ok (.iload_n 2, 1) := by decide +kernel
theorem dX10_isRide_17 : decode cX10_isRide 17 = .ok (.iadd, 1) := by decide +kernel
theorem dX10_isRide_18 : decode cX10_isRide 18 = .ok (.iaload, 1) := by decide +kernel
theorem dX10_isRide_19 : decode cX10_isRide 19 = .ok (.iload 4, 2) := by decide +kernel
theorem dX10_isRide_21 : decode cX10_isRide 21 = .ok (.if_icmp .ne 26, 3) := by decide +kernel
theorem dX10_isRide_24 : decode cX10_isRide 24 = .ok (.iload 9, 2) := by decide +kernel
theorem dX10_isRide_26 : decode cX10_isRide 26 = .ok (.iconst (-1), 1) := by decide +kernel
theorem dX10_isRide_27 : decode cX10_isRide 27 = .ok (.if_icmp .eq 20, 3) := by decide +kernel
theorem dX10_isRide_30 : decode cX10_isRide 30 = .ok (.iload 9, 2) := by decide +kernel
theorem dX10_isRide_32 : decode cX10_isRide 32 = .ok (.iload 5, 2) := by decide +kernel
theorem dX10_isRide_34 : decode cX10_isRide 34 = .ok (.if_icmp .lt 13, 3) := by decide +kernel
theorem dX10_isRide_37 : decode cX10_isRide 37 = .ok (.aload_n 0, 1) := by decide +kernel
theorem dX10_isRide_38 : decode cX10_isRide 38 = .ok (.iload_n 1, 1) := by decide +kernel
theorem dX10_isRide_39 : decode cX10_isRide 39 = .ok (.iload_n 3, 1) := by decide +kernel
theorem dX10_isRide_40 : decode cX10_isRide 40 = .ok (.invokevirtual 300, 3) := by decide +kernel
theorem dX10_isRide_43 : decode cX10_isRide 43 = .ok (.iconst (-1), 1) := by decide +kernel
theorem dX10_isRide_44 : decode cX10_isRide 44 = .ok (.if_icmp .ne 5, 3) := by decide +kernel
theorem dX10_isRide_47 : decode cX10_isRide 47 = .ok (.iconst 0, 1) := by decide +kernel
theorem dX10_isRide_48 : decode cX10_isRide 48 = .ok (.ireturn, 1) := by decide +kernel
theorem dX10_isRide_49 : decode cX10_isRide 49 = .ok (.aload_n 0, 1) := by decide +kernel
theorem dX10_isRide_50 : decode cX10_isRide 50 = .ok (.getfield 43, 3) := by decide +kernel
theorem dX10_isRide_53 : decode cX10_isRide 53 = .ok (.bipush 7, 2) := by decide +kernel
theorem dX10_isRide_55 : decode cX10_isRide 55 = .ok (.iload_n 1, 1) := by decide +kernel
theorem dX10_isRide_56 : decode cX10_isRide 56 = .ok (.imul, 1) := by decide +kernel
theorem dX10_isRide_57 : decode cX10_isRide 57 = .ok (.iload_n 3, 1) := by decide +kernel
theorem dX10_isRide_58 : decode cX10_isRide 58 = .ok (.iadd, 1) := by decide +kernel
theorem dX10_isRide_59 : decode cX10_isRide 59 = .ok (.iaload, 1) := by decide +kernel
theorem dX10_isRide_60 : decode cX10_isRide 60 = .ok (.istore 10, 2) := by decide +kernel
theorem dX10_isRide_62 : decode cX10_isRide 62 = .ok (.iload 8, 2) := by decide +kernel
theorem dX10_isRide_64 : decode cX10_isRide 64 = .ok (.ifCond .ne 27, 3) := by decide +kernel
theorem dX10_isRide_67 : decode cX10_isRide 67 = .ok (.iload 10, 2) := by decide +kernel
theorem dX10_isRide_69 : decode cX10_isRide 69 = .ok (.iload 6, 2) := by decide +kernel
theorem dX10_isRide_71 : decode cX10_isRide 71 = .ok (.if_icmp .ne 18, 3) := by decide +kernel
theorem dX10_isRide_74 : decode cX10_isRide 74 = .ok (.aload_n 0, 1) := by decide +kernel
theorem dX10_isRide_75 : decode cX10_isRide 75 = .ok (.iload_n 1, 1) := by decide +kernel
theorem dX10_isRide_76 : decode cX10_isRide 76 = .ok (.iload_n 3, 1) := by decide +kernel
theorem dX10_isRide_77 : decode cX10_isRide 77 = .ok (.invokevirtual 300, 3) := by decide +kernel
theorem dX10_isRide_80 : decode cX10_isRide 80 = .ok (.iload 7, 2) := by decide +kernel
theorem dX10_isRide_82 : decode cX10_isRide 82 = .ok (.if_icmp .ne 7, 3) := by decide +kernel
theorem dX10_isRide_85 : decode cX10_isRide 85 = .ok (.iconst 1, 1) := by decide +kernel
theorem dX10_isRide_86 : decode cX10_isRide 86 = .ok (.goto 4, 3) := by decide +kernel
theorem dX10_isRide_89 : decode cX10_isRide 89 = .ok (.iconst 0, 1) := by decide +kernel
theorem dX10_isRide_90 : decode cX10_isRide 90 = .ok (.ireturn, 1) := by decide +kernel
theorem dX10_isRide_91 : decode cX10_isRide 91 = .ok (.aload_n 0, 1) := by decide +kernel
theorem dX10_isRide_92 : decode cX10_isRide 92 = .ok (.iload 10, 2) := by decide +kernel
theorem dX10_isRide_94 : decode cX10_isRide 94 = .ok (.aload_n 0, 1) := by decide +kernel
theorem dX10_isRide_95 : decode cX10_isRide 95 = .ok (.iload_n 1, 1) := by decide +kernel
theorem dX10_isRide_96 : decode cX10_isRide 96 = .ok (.iload_n 3, 1) := by decide +kernel
theorem dX10_isRide_97 : decode cX10_isRide 97 = .ok (.invokevirtual 300, 3) := by decide +kernel
theorem dX10_isRide_100 : decode cX10_isRide 100 = .ok (.iconst 1, 1) := by decide +kernel
theorem dX10_isRide_101 : decode cX10_isRide 101 = .ok (.iadd, 1) := by decide +kernel
theorem dX10_isRide_102 : decode cX10_isRide 102 = .ok (.iload 6, 2) := by decide +kernel
theorem dX10_isRide_104 : decode cX10_isRide 104 = .ok (.iload 8, 2) := by decide +kernel
theorem dX10_isRide_106 : decode cX10_isRide 106 = .ok (.invokevirtual 303, 3) := by decide +kernel
theorem dX10_isRide_109 : decode cX10_isRide 109 = .ok (.iload 7, 2) := by decide +kernel
theorem dX10_isRide_111 : decode cX10_isRide 111 = .ok (.if_icmp .ne 7, 3) := by decide +kernel
theorem dX10_isRide_114 : decode cX10_isRide 114 = .ok (.iconst 1, 1) := by decide +kernel
theorem dX10_isRide_115 : decode cX10_isRide 115 = .ok (.goto 4, 3) := by decide +kernel
theorem dX10_isRide_118 : decode cX10_isRide 118 = .ok (.iconst 0, 1) := by decide +kernel
theorem dX10_isRide_119 : decode cX10_isRide 119 = .ok (.ireturn, 1) := by decide +kernel
theorem dX10_findsRide_0 : decode cX10_findsRide 0 = .ok (.iconst 0, 1) := by decide +kernel
theorem dX10_findsRide_1 : decode cX10_findsRide 1 = .ok (.istore 7, 2) := by decide +kernel
theorem dX10_findsRide_3 : decode cX10_findsRide 3 = .ok (.iload 7, 2) := by decide +kernel
theorem dX10_findsRide_5 : decode cX10_findsRide 5 = .ok (.aload_n 0, 1) := by decide +kernel
theorem dX10_findsRide_6 : decode cX10_findsRide 6 = .ok (.getfield 151, 3) := by decide +kernel
theorem dX10_findsRide_9 : decode cX10_findsRide 9 = .ok (.if_icmp .ge 104, 3) := by decide +kernel
theorem dX10_findsRide_12 : decode cX10_findsRide 12 = .ok (.iconst 0, 1) := by decide +kernel
theorem dX10_findsRide_13 : decode cX10_findsRide 13 = .ok (.istore 8, 2) := by decide +kernel
theorem dX10_findsRide_15 : decode cX10_findsRide 15 = .ok (.iload 8, 2) := by decide +kernel
theorem dX10_findsRide_17 : decode cX10_findsRide 17 = .ok (.aload_n 0, 1) := by decide +kernel
theorem dX10_findsRide_18 : decode cX10_findsRide 18 = .ok (.getfield 34, 3) := by decide +kernel
theorem dX10_findsRide_21 : decode cX10_findsRide 21 = .ok (.iload 7, 2) := by decide +kernel
theorem dX10_findsRide_23 : decode cX10_findsRide 23 = .ok (.iaload, 1) := by decide +kernel
theorem dX10_findsRide_24 : decode cX10_findsRide 24 = .ok (.if_icmp .ge 83, 3) := by decide +kernel
theorem dX10_findsRide_27 : decode cX10_findsRide 27 = .ok (.iload 8, 2) := by decide +kernel
theorem dX10_findsRide_29 : decode cX10_findsRide 29 = .ok (.iconst 1, 1) := by decide +kernel
theorem dX10_findsRide_30 : decode cX10_findsRide 30 = .ok (.iadd, 1) := by decide +kernel
theorem dX10_findsRide_31 : decode cX10_findsRide 31 = .ok (.istore 9, 2) := by decide +kernel
theorem dX10_findsRide_33 : decode cX10_findsRide 33 = .ok (.iload 9, 2) := by decide +kernel
theorem dX10_findsRide_35 : decode cX10_findsRide 35 = .ok (.aload_n 0, 1) := by decide +kernel
theorem dX10_findsRide_36 : decode cX10_findsRide 36 = .ok (.getfield 34, 3) := by decide +kernel
theorem dX10_findsRide_39 : decode cX10_findsRide 39 = .ok (.iload 7, 2) := by decide +kernel
theorem dX10_findsRide_41 : decode cX10_findsRide 41 = .ok (.iaload, 1) := by decide +kernel
theorem dX10_findsRide_42 : decode cX10_findsRide 42 = .ok (.if_icmp .gt 59, 3) := by decide +kernel
theorem dX10_findsRide_45 : decode cX10_findsRide 45 = .ok (.aload_n 0, 1) := by decide +kernel
theorem dX10_findsRide_46 : decode cX10_findsRide 46 = .ok (.iload 7, 2) := by decide +kernel
theorem dX10_findsRide_48 : decode cX10_findsRide 48 = .ok (.iload 8, 2) := by decide +kernel
theorem dX10_findsRide_50 : decode cX10_findsRide 50 = .ok (.iload 9, 2) := by decide +kernel
theorem dX10_findsRide_52 : decode cX10_findsRide 52 = .ok (.iload_n 2, 1) := by decide +kernel
theorem dX10_findsRide_53 : decode cX10_findsRide 53 = .ok (.iload_n 3, 1) := by decide +kernel
theorem dX10_findsRide_54 : decode cX10_findsRide 54 = .ok (.iload 4, 2) := by decide +kernel
theorem dX10_findsRide_56 : decode cX10_findsRide 56 = .ok (.iload 5, 2) := by decide +kernel
theorem dX10_findsRide_58 : decode cX10_findsRide 58 = .ok (.iload 6, 2) := by decide +kernel
theorem dX10_findsRide_60 : decode cX10_findsRide 60 = .ok (.invokevirtual 307, 3) := by decide +kernel
theorem dX10_findsRide_63 : decode cX10_findsRide 63 = .ok (.ifCond .ne 6, 3) := by decide +kernel
theorem dX10_findsRide_66 : decode cX10_findsRide 66 = .ok (.goto 29, 3) := by decide +kernel
theorem dX10_findsRide_69 : decode cX10_findsRide 69 = .ok (.aload_n 0, 1) := by decide +kernel
theorem dX10_findsRide_70 : decode cX10_findsRide 70 = .ok (.getfield 142, 3) := by decide +kernel
theorem dX10_findsRide_73 : decode cX10_findsRide 73 = .ok (.iload_n 1, 1) := by decide +kernel
theorem dX10_findsRide_74 : decode cX10_findsRide 74 = .ok (.iload 7, 2) := by decide +kernel
theorem dX10_findsRide_76 : decode cX10_findsRide 76 = .ok (.iastore, 1) := by decide +kernel
theorem dX10_findsRide_77 : decode cX10_findsRide 77 = .ok (.aload_n 0, 1) := by decide +kernel
theorem dX10_findsRide_78 : decode cX10_findsRide 78 = .ok (.getfield 145, 3) := by decide +kernel
theorem dX10_findsRide_81 : decode cX10_findsRide 81 = .ok (.iload_n 1, 1) := by decide +kernel
theorem dX10_findsRide_82 : decode cX10_findsRide 82 = .ok (.iload 8, 2) := by decide +kernel
theorem dX10_findsRide_84 : decode cX10_findsRide 84 = .ok (.iastore, 1) := by decide +kernel
theorem dX10_findsRide_85 : decode cX10_findsRide 85 = .ok (.aload_n 0, 1) := by decide +kernel
theorem dX10_findsRide_86 : decode cX10_findsRide 86 = .ok (.getfield 148, 3) := by decide +kernel
theorem dX10_findsRide_89 : decode cX10_findsRide 89 = .ok (.iload_n 1, 1) := by decide +kernel
theorem dX10_findsRide_90 : decode cX10_findsRide 90 = .ok (.iload 9, 2) := by decide +kernel
theorem dX10_findsRide_92 : decode cX10_findsRide 92 = .ok (.iastore, 1) := by decide +kernel
theorem dX10_findsRide_93 : decode cX10_findsRide 93 = .ok (.iconst 1, 1) := by decide +kernel
theorem dX10_findsRide_94 : decode cX10_findsRide 94 = .ok (.ireturn, 1) := by decide +kernel
theorem dX10_findsRide_95 : decode cX10_findsRide 95 = .ok (.iinc 9 1, 3) := by decide +kernel
theorem dX10_findsRide_98 : decode cX10_findsRide 98 = .ok (.goto (-65), 3) := by decide +kernel
theorem dX10_findsRide_101 : decode cX10_findsRide 101 = .ok (.iinc 8 1, 3) := by decide +kernel
theorem dX10_findsRide_104 : decode cX10_findsRide 104 = .ok (.goto (-89), 3) := by decide +kernel
theorem dX10_findsRide_107 : decode cX10_findsRide 107 = .ok (.iinc 7 1, 3) := by decide +kernel
theorem dX10_findsRide_110 : decode cX10_findsRide 110 = .ok (.goto (-107), 3) := by decide +kernel
theorem dX10_findsRide_113 : decode cX10_findsRide 113 = .ok (.iconst 0, 1) := by decide +kernel
theorem dX10_findsRide_114 : decode cX10_findsRide 114 = .ok (.ireturn, 1) := by decide +kernel
theorem dX10_areAsked_0 : decode cX10_areAsked 0 = .ok (.iload_n 0, 1) := by decide +kernel
theorem dX10_areAsked_1 : decode cX10_areAsked 1 = .ok (.invokestatic 154, 3) := by decide +kernel
theorem dX10_areAsked_4 : decode cX10_areAsked 4 = .ok (.ifCond .eq 30, 3) := by decide +kernel
theorem dX10_areAsked_7 : decode cX10_areAsked 7 = .ok (.iload_n 1, 1) := by decide +kernel
theorem dX10_areAsked_8 : decode cX10_areAsked 8 = .ok (.invokestatic 154, 3) := by decide +kernel
theorem dX10_areAsked_11 : decode cX10_areAsked 11 = .ok (.ifCond .eq 23, 3) := by decide +kernel
theorem dX10_areAsked_14 : decode cX10_areAsked 14 = .ok (.iload_n 0, 1) := by decide +kernel
theorem dX10_areAsked_15 : decode cX10_areAsked 15 = .ok (.iload_n 1, 1) := by decide +kernel
theorem dX10_areAsked_16 : decode cX10_areAsked 16 = .ok (.if_icmp .eq 18, 3) := by decide +kernel
theorem dX10_areAsked_19 : decode cX10_areAsked 19 = .ok (.iload_n 2, 1) := by decide +kernel
theorem dX10_areAsked_20 : decode cX10_areAsked 20 = .ok (.ifCond .lt 14, 3) := by decide +kernel
theorem dX10_areAsked_23 : decode cX10_areAsked 23 = .ok (.iload_n 2, 1) := by decide +kernel
theorem dX10_areAsked_24 : decode cX10_areAsked 24 = .ok (.sipush 20000, 3) := by decide +kernel
theorem dX10_areAsked_27 : decode cX10_areAsked 27 = .ok (.if_icmp .gt 7, 3) := by decide +kernel
theorem dX10_areAsked_30 : decode cX10_areAsked 30 = .ok (.iconst 1, 1) := by decide +kernel
theorem dX10_areAsked_31 : decode cX10_areAsked 31 = .ok (.goto 4, 3) := by decide +kernel
theorem dX10_areAsked_34 : decode cX10_areAsked 34 = .ok (.iconst 0, 1) := by decide +kernel
theorem dX10_areAsked_35 : decode cX10_areAsked 35 = .ok (.ireturn, 1) := by decide +kernel
theorem dX10_first_0 : decode cX10_first 0 = .ok (.iload_n 1, 1) := by decide +kernel
theorem dX10_first_1 : decode cX10_first 1 = .ok (.iload_n 2, 1) := by decide +kernel
theorem dX10_first_2 : decode cX10_first 2 = .ok (.iload_n 3, 1) := by decide +kernel
theorem dX10_first_3 : decode cX10_first 3 = .ok (.invokestatic 311, 3) := by decide +kernel
theorem dX10_first_6 : decode cX10_first 6 = .ok (.ifCond .ne 5, 3) := by decide +kernel
theorem dX10_first_9 : decode cX10_first 9 = .ok (.iconst (-1), 1) := by decide +kernel
theorem dX10_first_10 : decode cX10_first 10 = .ok (.ireturn, 1) := by decide +kernel
theorem dX10_first_11 : decode cX10_first 11 = .ok (.aload_n 0, 1) := by decide +kernel
theorem dX10_first_12 : decode cX10_first 12 = .ok (.invokevirtual 288, 3) := by decide +kernel
theorem dX10_first_15 : decode cX10_first 15 = .ok (.aload_n 0, 1) := by decide +kernel
theorem dX10_first_16 : decode cX10_first 16 = .ok (.iload 4, 2) := by decide +kernel
theorem dX10_first_18 : decode cX10_first 18 = .ok (.putfield 293, 3) := by decide +kernel
theorem dX10_first_21 : decode cX10_first 21 = .ok (.aload_n 0, 1) := by decide +kernel
theorem dX10_first_22 : decode cX10_first 22 = .ok (.iload_n 1, 1) := by decide +kernel
theorem dX10_first_23 : decode cX10_first 23 = .ok (.iload_n 3, 1) := by decide +kernel
theorem dX10_first_24 : decode cX10_first 24 = .ok (.iload_n 2, 1) := by decide +kernel
theorem dX10_first_25 : decode cX10_first 25 = .ok (.bipush 8, 2) := by decide +kernel
theorem dX10_first_27 : decode cX10_first 27 = .ok (.invokevirtual 303, 3) := by decide +kernel
theorem dX10_first_30 : decode cX10_first 30 = .ok (.istore 5, 2) := by decide +kernel
theorem dX10_first_32 : decode cX10_first 32 = .ok (.iload 5, 2) := by decide +kernel
theorem dX10_first_34 : decode cX10_first 34 = .ok (.ldc_w 296, 3) := by decide +kernel
theorem dX10_first_37 : decode cX10_first 37 = .ok (.if_icmp .ne 5, 3) := by decide +kernel
theorem dX10_first_40 : decode cX10_first 40 = .ok (.iconst (-1), 1) := by decide +kernel
theorem dX10_first_41 : decode cX10_first 41 = .ok (.ireturn, 1) := by decide +kernel
theorem dX10_first_42 : decode cX10_first 42 = .ok (.iconst 1, 1) := by decide +kernel
theorem dX10_first_43 : decode cX10_first 43 = .ok (.istore 6, 2) := by decide +kernel
theorem dX10_first_45 : decode cX10_first 45 = .ok (.aload_n 0, 1) := by decide +kernel
theorem dX10_first_46 : decode cX10_first 46 = .ok (.iload_n 1, 1) := by decide +kernel
theorem dX10_first_47 : decode cX10_first 47 = .ok (.iload_n 3, 1) := by decide +kernel
theorem dX10_first_48 : decode cX10_first 48 = .ok (.iload_n 2, 1) := by decide +kernel
theorem dX10_first_49 : decode cX10_first 49 = .ok (.iload 6, 2) := by decide +kernel
theorem dX10_first_51 : decode cX10_first 51 = .ok (.invokevirtual 303, 3) := by decide +kernel
theorem dX10_first_54 : decode cX10_first 54 = .ok (.iload 5, 2) := by decide +kernel
theorem dX10_first_56 : decode cX10_first 56 = .ok (.if_icmp .eq 12, 3) := by decide +kernel
theorem dX10_first_59 : decode cX10_first 59 = .ok (.iload 6, 2) := by decide +kernel
theorem dX10_first_61 : decode cX10_first 61 = .ok (.iconst 1, 1) := by decide +kernel
theorem dX10_first_62 : decode cX10_first 62 = .ok (.iadd, 1) := by decide +kernel
theorem dX10_first_63 : decode cX10_first 63 = .ok (.istore 6, 2) := by decide +kernel
theorem dX10_first_65 : decode cX10_first 65 = .ok (.goto (-20), 3) := by decide +kernel
theorem dX10_first_68 : decode cX10_first 68 = .ok (.aload_n 0, 1) := by decide +kernel
theorem dX10_first_69 : decode cX10_first 69 = .ok (.iload 6, 2) := by decide +kernel
theorem dX10_first_71 : decode cX10_first 71 = .ok (.putfield 314, 3) := by decide +kernel
theorem dX10_first_74 : decode cX10_first 74 = .ok (.iload_n 1, 1) := by decide +kernel
theorem dX10_first_75 : decode cX10_first 75 = .ok (.istore 7, 2) := by decide +kernel
theorem dX10_first_77 : decode cX10_first 77 = .ok (.iload_n 3, 1) := by decide +kernel
theorem dX10_first_78 : decode cX10_first 78 = .ok (.istore 8, 2) := by decide +kernel
theorem dX10_first_80 : decode cX10_first 80 = .ok (.iconst 0, 1) := by decide +kernel
theorem dX10_first_81 : decode cX10_first 81 = .ok (.istore 9, 2) := by decide +kernel
theorem dX10_first_83 : decode cX10_first 83 = .ok (.iload 9, 2) := by decide +kernel
theorem dX10_first_85 : decode cX10_first 85 = .ok (.iload 6, 2) := by decide +kernel
theorem dX10_first_87 : decode cX10_first 87 = .ok (.if_icmp .ge 77, 3) := by decide +kernel
theorem dX10_first_90 : decode cX10_first 90 = .ok (.aload_n 0, 1) := by decide +kernel
theorem dX10_first_91 : decode cX10_first 91 = .ok (.iload 9, 2) := by decide +kernel
theorem dX10_first_93 : decode cX10_first 93 = .ok (.iload 7, 2) := by decide +kernel
theorem dX10_first_95 : decode cX10_first 95 = .ok (.iload 8, 2) := by decide +kernel
theorem dX10_first_97 : decode cX10_first 97 = .ok (.iload_n 2, 1) := by decide +kernel
theorem dX10_first_98 : decode cX10_first 98 = .ok (.iload 5, 2) := by decide +kernel
theorem dX10_first_100 : decode cX10_first 100 = .ok (.iload 6, 2) := by decide +kernel
theorem dX10_first_102 : decode cX10_first 102 = .ok (.iconst 1, 1) := by decide +kernel
theorem dX10_first_103 : decode cX10_first 103 = .ok (.isub, 1) := by decide +kernel
theorem dX10_first_104 : decode cX10_first 104 = .ok (.iload 9, 2) := by decide +kernel
theorem dX10_first_106 : decode cX10_first 106 = .ok (.isub, 1) := by decide +kernel
theorem dX10_first_107 : decode cX10_first 107 = .ok (.invokevirtual 317, 3) := by decide +kernel
theorem dX10_first_110 : decode cX10_first 110 = .ok (.pop, 1) := by decide +kernel
theorem dX10_first_111 : decode cX10_first 111 = .ok (.aload_n 0, 1) := by decide +kernel
theorem dX10_first_112 : decode cX10_first 112 = .ok (.getfield 43, 3) := by decide +kernel
theorem dX10_first_115 : decode cX10_first 115 = .ok (.bipush 7, 2) := by decide +kernel
theorem dX10_first_117 : decode cX10_first 117 = .ok (.aload_n 0, 1) := by decide +kernel
theorem dX10_first_118 : decode cX10_first 118 = .ok (.getfield 142, 3) := by decide +kernel
theorem dX10_first_121 : decode cX10_first 121 = .ok (.iload 9, 2) := by decide +kernel
theorem dX10_first_123 : decode cX10_first 123 = .ok (.iaload, 1) := by decide +kernel
theorem dX10_first_124 : decode cX10_first 124 = .ok (.imul, 1) := by decide +kernel
theorem dX10_first_125 : decode cX10_first 125 = .ok (.aload_n 0, 1) := by decide +kernel
theorem dX10_first_126 : decode cX10_first 126 = .ok (.getfield 148, 3) := by decide +kernel
theorem dX10_first_129 : decode cX10_first 129 = .ok (.iload 9, 2) := by decide +kernel
theorem dX10_first_131 : decode cX10_first 131 = .ok (.iaload, 1) := by decide +kernel
theorem dX10_first_132 : decode cX10_first 132 = .ok (.iadd, 1) := by decide +kernel
theorem dX10_first_133 : decode cX10_first 133 = .ok (.iaload, 1) := by decide +kernel
theorem dX10_first_134 : decode cX10_first 134 = .ok (.istore 7, 2) := by decide +kernel
theorem dX10_first_136 : decode cX10_first 136 = .ok (.aload_n 0, 1) := by decide +kernel
theorem dX10_first_137 : decode cX10_first 137 = .ok (.aload_n 0, 1) := by decide +kernel
theorem dX10_first_138 : decode cX10_first 138 = .ok (.getfield 142, 3) := by decide +kernel
theorem dX10_first_141 : decode cX10_first 141 = .ok (.iload 9, 2) := by decide +kernel
theorem dX10_first_143 : decode cX10_first 143 = .ok (.iaload, 1) := by decide +kernel
theorem dX10_first_144 : decode cX10_first 144 = .ok (.aload_n 0, 1) := by decide +kernel
theorem dX10_first_145 : decode cX10_first 145 = .ok (.getfield 148, 3) := by decide +kernel
theorem dX10_first_148 : decode cX10_first 148 = .ok (.iload 9, 2) := by decide +kernel
theorem dX10_first_150 : decode cX10_first 150 = .ok (.iaload, 1) := by decide +kernel
theorem dX10_first_151 : decode cX10_first 151 = .ok (.invokevirtual 300, 3) := by decide +kernel
theorem dX10_first_154 : decode cX10_first 154 = .ok (.iconst 1, 1) := by decide +kernel
theorem dX10_first_155 : decode cX10_first 155 = .ok (.iadd, 1) := by decide +kernel
theorem dX10_first_156 : decode cX10_first 156 = .ok (.istore 8, 2) := by decide +kernel
theorem dX10_first_158 : decode cX10_first 158 = .ok (.iinc 9 1, 3) := by decide +kernel
theorem dX10_first_161 : decode cX10_first 161 = .ok (.goto (-78), 3) := by decide +kernel
theorem dX10_first_164 : decode cX10_first 164 = .ok (.iload 5, 2) := by decide +kernel
theorem dX10_first_166 : decode cX10_first 166 = .ok (.ireturn, 1) := by decide +kernel
theorem dX10_last_0 : decode cX10_last 0 = .ok (.iload_n 1, 1) := by decide +kernel
theorem dX10_last_1 : decode cX10_last 1 = .ok (.iload_n 2, 1) := by decide +kernel
theorem dX10_last_2 : decode cX10_last 2 = .ok (.iload_n 3, 1) := by decide +kernel
theorem dX10_last_3 : decode cX10_last 3 = .ok (.invokestatic 311, 3) := by decide +kernel
theorem dX10_last_6 : decode cX10_last 6 = .ok (.ifCond .ne 5, 3) := by decide +kernel
theorem dX10_last_9 : decode cX10_last 9 = .ok (.iconst (-1), 1) := by decide +kernel
theorem dX10_last_10 : decode cX10_last 10 = .ok (.ireturn, 1) := by decide +kernel
theorem dX10_last_11 : decode cX10_last 11 = .ok (.aload_n 0, 1) := by decide +kernel
theorem dX10_last_12 : decode cX10_last 12 = .ok (.invokevirtual 288, 3) := by decide +kernel
theorem dX10_last_15 : decode cX10_last 15 = .ok (.aload_n 0, 1) := by decide +kernel
theorem dX10_last_16 : decode cX10_last 16 = .ok (.iload 4, 2) := by decide +kernel
theorem dX10_last_18 : decode cX10_last 18 = .ok (.putfield 293, 3) := by decide +kernel
theorem dX10_last_21 : decode cX10_last 21 = .ok (.iconst 0, 1) := by decide +kernel
theorem dX10_last_22 : decode cX10_last 22 = .ok (.istore 5, 2) := by decide +kernel
theorem dX10_last_24 : decode cX10_last 24 = .ok (.iload 5, 2) := by decide +kernel
theorem dX10_last_26 : decode cX10_last 26 = .ok (.bipush 8, 2) := by decide +kernel
theorem dX10_last_28 : decode cX10_last 28 = .ok (.if_icmp .ge 17, 3) := by decide +kernel
theorem dX10_last_31 : decode cX10_last 31 = .ok (.aload_n 0, 1) := by decide +kernel
theorem dX10_last_32 : decode cX10_last 32 = .ok (.getfield 136, 3) := by decide +kernel
theorem dX10_last_35 : decode cX10_last 35 = .ok (.iload 5, 2) := by decide +kernel
theorem dX10_last_37 : decode cX10_last 37 = .ok (.iconst (-1), 1) := by decide +kernel
theorem dX10_last_38 : decode cX10_last 38 = .ok (.iastore, 1) := by decide +kernel
theorem dX10_last_39 : decode cX10_last 39 = .ok (.iinc 5 1, 3) := by decide +kernel
theorem dX10_last_42 : decode cX10_last 42 = .ok (.goto (-18), 3) := by decide +kernel
theorem dX10_last_45 : decode cX10_last 45 = .ok (.iconst 1, 1) := by decide +kernel
theorem dX10_last_46 : decode cX10_last 46 = .ok (.istore 5, 2) := by decide +kernel
theorem dX10_last_48 : decode cX10_last 48 = .ok (.iload 5, 2) := by decide +kernel
theorem dX10_last_50 : decode cX10_last 50 = .ok (.ifCond .eq 225, 3) := by decide +kernel
theorem dX10_last_53 : decode cX10_last 53 = .ok (.iconst 0, 1) := by decide +kernel
theorem dX10_last_54 : decode cX10_last 54 = .ok (.istore 5, 2) := by decide +kernel
theorem dX10_last_56 : decode cX10_last 56 = .ok (.iconst 0, 1) := by decide +kernel
theorem dX10_last_57 : decode cX10_last 57 = .ok (.istore 6, 2) := by decide +kernel
theorem dX10_last_59 : decode cX10_last 59 = .ok (.iload 6, 2) := by decide +kernel
theorem dX10_last_61 : decode cX10_last 61 = .ok (.aload_n 0, 1) := by decide +kernel
theorem dX10_last_62 : decode cX10_last 62 = .ok (.getfield 151, 3) := by decide +kernel
theorem dX10_last_65 : decode cX10_last 65 = .ok (.if_icmp .ge 207, 3) := by decide +kernel
theorem dX10_last_68 : decode cX10_last 68 = .ok (.iconst 0, 1) := by decide +kernel
theorem dX10_last_69 : decode cX10_last 69 = .ok (.istore 7, 2) := by decide +kernel
theorem dX10_last_71 : decode cX10_last 71 = .ok (.iload 7, 2) := by decide +kernel
theorem dX10_last_73 : decode cX10_last 73 = .ok (.aload_n 0, 1) := by decide +kernel
theorem dX10_last_74 : decode cX10_last 74 = .ok (.getfield 34, 3) := by decide +kernel
theorem dX10_last_77 : decode cX10_last 77 = .ok (.iload 6, 2) := by decide +kernel
theorem dX10_last_79 : decode cX10_last 79 = .ok (.iaload, 1) := by decide +kernel
theorem dX10_last_80 : decode cX10_last 80 = .ok (.if_icmp .ge 186, 3) := by decide +kernel
theorem dX10_last_83 : decode cX10_last 83 = .ok (.aload_n 0, 1) := by decide +kernel
theorem dX10_last_84 : decode cX10_last 84 = .ok (.iload 6, 2) := by decide +kernel
theorem dX10_last_86 : decode cX10_last 86 = .ok (.iload 7, 2) := by decide +kernel
theorem dX10_last_88 : decode cX10_last 88 = .ok (.invokevirtual 297, 3) := by decide +kernel
theorem dX10_last_91 : decode cX10_last 91 = .ok (.istore 8, 2) := by decide +kernel
theorem dX10_last_93 : decode cX10_last 93 = .ok (.aload_n 0, 1) := by decide +kernel
theorem dX10_last_94 : decode cX10_last 94 = .ok (.getfield 43, 3) := by decide +kernel
theorem dX10_last_97 : decode cX10_last 97 = .ok (.bipush 7, 2) := by decide +kernel
theorem dX10_last_99 : decode cX10_last 99 = .ok (.iload 6, 2) := by decide +kernel
theorem dX10_last_101 : decode cX10_last 101 = .ok (.imul, 1) := by decide +kernel
theorem dX10_last_102 : decode cX10_last 102 = .ok (.iload 7, 2) := by decide +kernel
theorem dX10_last_104 : decode cX10_last 104 = .ok (.iadd, 1) := by decide +kernel
theorem dX10_last_105 : decode cX10_last 105 = .ok (.iaload, 1) := by decide +kernel
theorem dX10_last_106 : decode cX10_last 106 = .ok (.istore 9, 2) := by decide +kernel
theorem dX10_last_108 : decode cX10_last 108 = .ok (.iload 8, 2) := by decide +kernel
theorem dX10_last_110 : decode cX10_last 110 = .ok (.iconst (-1), 1) := by decide +kernel
theorem dX10_last_111 : decode cX10_last 111 = .ok (.if_icmp .eq 149, 3) := by decide +kernel
theorem dX10_last_114 : decode cX10_last 114 = .ok (.iload 8, 2) := by decide +kernel
theorem dX10_last_116 : decode cX10_last 116 = .ok (.aload_n 0, 1) := by decide +kernel
theorem dX10_last_117 : decode cX10_last 117 = .ok (.getfield 136, 3) := by decide +kernel
theorem dX10_last_120 : decode cX10_last 120 = .ok (.iload 9, 2) := by decide +kernel
theorem dX10_last_122 : decode cX10_last 122 = .ok (.iaload, 1) := by decide +kernel
theorem dX10_last_123 : decode cX10_last 123 = .ok (.if_icmp .gt 6, 3) := by decide +kernel
theorem dX10_last_126 : decode cX10_last 126 = .ok (.goto 134, 3) := by decide +kernel
theorem dX10_last_129 : decode cX10_last 129 = .ok (.iload 7, 2) := by decide +kernel
theorem dX10_last_131 : decode cX10_last 131 = .ok (.iconst 1, 1) := by decide +kernel
theorem dX10_last_132 : decode cX10_last 132 = .ok (.iadd, 1) := by decide +kernel
theorem dX10_last_133 : decode cX10_last 133 = .ok (.istore 10, 2) := by decide +kernel
theorem dX10_last_135 : decode cX10_last 135 = .ok (.iload 10, 2) := by decide +kernel
theorem dX10_last_137 : decode cX10_last 137 = .ok (.aload_n 0, 1) := by decide +kernel
theorem dX10_last_138 : decode cX10_last 138 = .ok (.getfield 34, 3) := by decide +kernel
theorem dX10_last_141 : decode cX10_last 141 = .ok (.iload 6, 2) := by decide +kernel
theorem dX10_last_143 : decode cX10_last 143 = .ok (.iaload, 1) := by decide +kernel
theorem dX10_last_144 : decode cX10_last 144 = .ok (.if_icmp .gt 116, 3) := by decide +kernel
theorem dX10_last_147 : decode cX10_last 147 = .ok (.aload_n 0, 1) := by decide +kernel
theorem dX10_last_148 : decode cX10_last 148 = .ok (.iload 6, 2) := by decide +kernel
theorem dX10_last_150 : decode cX10_last 150 = .ok (.iload 10, 2) := by decide +kernel
theorem dX10_last_152 : decode cX10_last 152 = .ok (.invokevirtual 300, 3) := by decide +kernel
theorem dX10_last_155 : decode cX10_last 155 = .ok (.istore 11, 2) := by decide +kernel
theorem dX10_last_157 : decode cX10_last 157 = .ok (.aload_n 0, 1) := by decide +kernel
theorem dX10_last_158 : decode cX10_last 158 = .ok (.getfield 43, 3) := by decide +kernel
theorem dX10_last_161 : decode cX10_last 161 = .ok (.bipush 7, 2) := by decide +kernel
theorem dX10_last_163 : decode cX10_last 163 = .ok (.iload 6, 2) := by decide +kernel
theorem dX10_last_165 : decode cX10_last 165 = .ok (.imul, 1) := by decide +kernel
theorem dX10_last_166 : decode cX10_last 166 = .ok (.iload 10, 2) := by decide +kernel
theorem dX10_last_168 : decode cX10_last 168 = .ok (.iadd, 1) := by decide +kernel
theorem dX10_last_169 : decode cX10_last 169 = .ok (.iaload, 1) := by decide +kernel
theorem dX10_last_170 : decode cX10_last 170 = .ok (.istore 12, 2) := by decide +kernel
theorem dX10_last_172 : decode cX10_last 172 = .ok (.iload 11, 2) := by decide +kernel
theorem dX10_last_174 : decode cX10_last 174 = .ok (.iconst (-1), 1) := by decide +kernel
theorem dX10_last_175 : decode cX10_last 175 = .ok (.if_icmp .eq 44, 3) := by decide +kernel
theorem dX10_last_178 : decode cX10_last 178 = .ok (.iload 12, 2) := by decide +kernel
theorem dX10_last_180 : decode cX10_last 180 = .ok (.iload_n 2, 1) := by decide +kernel
theorem dX10_last_181 : decode cX10_last 181 = .ok (.if_icmp .ne 9, 3) := by decide +kernel
theorem dX10_last_184 : decode cX10_last 184 = .ok (.iload 11, 2) := by decide +kernel
theorem dX10_last_186 : decode cX10_last 186 = .ok (.iload_n 3, 1) := by decide +kernel
theorem dX10_last_187 : decode cX10_last 187 = .ok (.if_icmp .le 28, 3) := by decide +kernel
theorem dX10_last_190 : decode cX10_last 190 = .ok (.aload_n 0, 1) := by decide +kernel
theorem dX10_last_191 : decode cX10_last 191 = .ok (.getfield 136, 3) := by decide +kernel
theorem dX10_last_194 : decode cX10_last 194 = .ok (.iload 12, 2) := by decide +kernel
theorem dX10_last_196 : decode cX10_last 196 = .ok (.iaload, 1) := by decide +kernel
theorem dX10_last_197 : decode cX10_last 197 = .ok (.iconst (-1), 1) := by decide +kernel
theorem dX10_last_198 : decode cX10_last 198 = .ok (.if_icmp .eq 21, 3) := by decide +kernel
theorem dX10_last_201 : decode cX10_last 201 = .ok (.iload 11, 2) := by decide +kernel
theorem dX10_last_203 : decode cX10_last 203 = .ok (.iconst 1, 1) := by decide +kernel
theorem dX10_last_204 : decode cX10_last 204 = .ok (.iadd, 1) := by decide +kernel
theorem dX10_last_205 : decode cX10_last 205 = .ok (.aload_n 0, 1) := by decide +kernel
theorem dX10_last_206 : decode cX10_last 206 = .ok (.getfield 136, 3) := by decide +kernel
theorem dX10_last_209 : decode cX10_last 209 = .ok (.iload 12, 2) := by decide +kernel
theorem dX10_last_211 : decode cX10_last 211 = .ok (.iaload, 1) := by decide +kernel
theorem dX10_last_212 : decode cX10_last 212 = .ok (.if_icmp .gt 7, 3) := by decide +kernel
theorem dX10_last_215 : decode cX10_last 215 = .ok (.iconst 1, 1) := by decide +kernel
theorem dX10_last_216 : decode cX10_last 216 = .ok (.goto 4, 3) := by decide +kernel
theorem dX10_last_219 : decode cX10_last 219 = .ok (.iconst 0, 1) := by decide +kernel
theorem dX10_last_220 : decode cX10_last 220 = .ok (.istore 13, 2) := by decide +kernel
theorem dX10_last_222 : decode cX10_last 222 = .ok (.iload 13, 2) := by decide +kernel
theorem dX10_last_224 : decode cX10_last 224 = .ok (.ifCond .eq 30, 3) := by decide +kernel
theorem dX10_last_227 : decode cX10_last 227 = .ok (.iload 8, 2) := by decide +kernel
theorem dX10_last_229 : decode cX10_last 229 = .ok (.aload_n 0, 1) := by decide +kernel
theorem dX10_last_230 : decode cX10_last 230 = .ok (.getfield 136, 3) := by decide +kernel
theorem dX10_last_233 : decode cX10_last 233 = .ok (.iload 9, 2) := by decide +kernel
theorem dX10_last_235 : decode cX10_last 235 = .ok (.iaload, 1) := by decide +kernel
theorem dX10_last_236 : decode cX10_last 236 = .ok (.if_icmp .gt 6, 3) := by decide +kernel
theorem dX10_last_239 : decode cX10_last 239 = .ok (.goto 15, 3) := by decide +kernel
theorem dX10_last_242 : decode cX10_last 242 = .ok (.aload_n 0, 1) := by decide +kernel
theorem dX10_last_243 : decode cX10_last 243 = .ok (.getfield 136, 3) := by decide +kernel
theorem dX10_last_246 : decode cX10_last 246 = .ok (.iload 9, 2) := by decide +kernel
theorem dX10_last_248 : decode cX10_last 248 = .ok (.iload 8, 2) := by decide +kernel
theorem dX10_last_250 : decode cX10_last 250 = .ok (.iastore, 1) := by decide +kernel
theorem dX10_last_251 : decode cX10_last 251 = .ok (.iconst 1, 1) := by decide +kernel
theorem dX10_last_252 : decode cX10_last 252 = .ok (.istore 5, 2) := by decide +kernel
theorem dX10_last_254 : decode cX10_last 254 = .ok (.iinc 10 1, 3) := by decide +kernel
theorem dX10_last_257 : decode cX10_last 257 = .ok (.goto (-122), 3) := by decide +kernel
theorem dX10_last_260 : decode cX10_last 260 = .ok (.iinc 7 1, 3) := by decide +kernel
theorem dX10_last_263 : decode cX10_last 263 = .ok (.goto (-192), 3) := by decide +kernel
theorem dX10_last_266 : decode cX10_last 266 = .ok (.iinc 6 1, 3) := by decide +kernel
theorem dX10_last_269 : decode cX10_last 269 = .ok (.goto (-210), 3) := by decide +kernel
theorem dX10_last_272 : decode cX10_last 272 = .ok (.goto (-224), 3) := by decide +kernel
theorem dX10_last_275 : decode cX10_last 275 = .ok (.aload_n 0, 1) := by decide +kernel
theorem dX10_last_276 : decode cX10_last 276 = .ok (.getfield 136, 3) := by decide +kernel
theorem dX10_last_279 : decode cX10_last 279 = .ok (.iload_n 1, 1) := by decide +kernel
theorem dX10_last_280 : decode cX10_last 280 = .ok (.iaload, 1) := by decide +kernel
theorem dX10_last_281 : decode cX10_last 281 = .ok (.ireturn, 1) := by decide +kernel
theorem dX10_ride_0 : decode cX10_ride 0 = .ok (.iload_n 1, 1) := by decide +kernel
theorem dX10_ride_1 : decode cX10_ride 1 = .ok (.ifCond .lt 11, 3) := by decide +kernel
theorem dX10_ride_4 : decode cX10_ride 4 = .ok (.iload_n 1, 1) := by decide +kernel
theorem dX10_ride_5 : decode cX10_ride 5 = .ok (.aload_n 0, 1) := by decide +kernel
theorem dX10_ride_6 : decode cX10_ride 6 = .ok (.getfield 314, 3) := by decide +kernel
theorem dX10_ride_9 : decode cX10_ride 9 = .ok (.if_icmp .lt 5, 3) := by decide +kernel
theorem dX10_ride_12 : decode cX10_ride 12 = .ok (.iconst (-1), 1) := by decide +kernel
theorem dX10_ride_13 : decode cX10_ride 13 = .ok (.ireturn, 1) := by decide +kernel
theorem dX10_ride_14 : decode cX10_ride 14 = .ok (.iload_n 2, 1) := by decide +kernel
theorem dX10_ride_15 : decode cX10_ride 15 = .ok (.ifCond .ne 12, 3) := by decide +kernel
theorem dX10_ride_18 : decode cX10_ride 18 = .ok (.aload_n 0, 1) := by decide +kernel
theorem dX10_ride_19 : decode cX10_ride 19 = .ok (.getfield 142, 3) := by decide +kernel
theorem dX10_ride_22 : decode cX10_ride 22 = .ok (.iload_n 1, 1) := by decide +kernel
theorem dX10_ride_23 : decode cX10_ride 23 = .ok (.iaload, 1) := by decide +kernel
theorem dX10_ride_24 : decode cX10_ride 24 = .ok (.goto 32, 3) := by decide +kernel
theorem dX10_ride_27 : decode cX10_ride 27 = .ok (.iload_n 2, 1) := by decide +kernel
theorem dX10_ride_28 : decode cX10_ride 28 = .ok (.iconst 1, 1) := by decide +kernel
theorem dX10_ride_29 : decode cX10_ride 29 = .ok (.if_icmp .ne 12, 3) := by decide +kernel
theorem dX10_ride_32 : decode cX10_ride 32 = .ok (.aload_n 0, 1) := by decide +kernel
theorem dX10_ride_33 : decode cX10_ride 33 = .ok (.getfield 145, 3) := by decide +kernel
theorem dX10_ride_36 : decode cX10_ride 36 = .ok (.iload_n 1, 1) := by decide +kernel
theorem dX10_ride_37 : decode cX10_ride 37 = .ok (.iaload, 1) := by decide +kernel
theorem dX10_ride_38 : decode cX10_ride 38 = .ok (.goto 18, 3) := by decide +kernel
theorem dX10_ride_41 : decode cX10_ride 41 = .ok (.iload_n 2, 1) := by decide +kernel
theorem dX10_ride_42 : decode cX10_ride 42 = .ok (.iconst 2, 1) := by decide +kernel
theorem dX10_ride_43 : decode cX10_ride 43 = .ok (.if_icmp .ne 12, 3) := by decide +kernel
theorem dX10_ride_46 : decode cX10_ride 46 = .ok (.aload_n 0, 1) := by decide +kernel
theorem dX10_ride_47 : decode cX10_ride 47 = .ok (.getfield 148, 3) := by decide +kernel
theorem dX10_ride_50 : decode cX10_ride 50 = .ok (.iload_n 1, 1) := by decide +kernel
theorem dX10_ride_51 : decode cX10_ride 51 = .ok (.iaload, 1) := by decide +kernel
theorem dX10_ride_52 : decode cX10_ride 52 = .ok (.goto 4, 3) := by decide +kernel
theorem dX10_ride_55 : decode cX10_ride 55 = .ok (.iconst (-1), 1) := by decide +kernel
theorem dX10_ride_56 : decode cX10_ride 56 = .ok (.ireturn, 1) := by decide +kernel
theorem dX10_look_0 : decode cX10_look 0 = .ok (.aload_n 0, 1) := by decide +kernel
theorem dX10_look_1 : decode cX10_look 1 = .ok (.iload_n 1, 1) := by decide +kernel
theorem dX10_look_2 : decode cX10_look 2 = .ok (.invokevirtual 169, 3) := by decide +kernel
theorem dX10_look_5 : decode cX10_look 5 = .ok (.ifCond .ne 5, 3) := by decide +kernel
theorem dX10_look_8 : decode cX10_look 8 = .ok (.iconst (-1), 1) := by decide +kernel
theorem dX10_look_9 : decode cX10_look 9 = .ok (.ireturn, 1) := by decide +kernel
theorem dX10_look_10 : decode cX10_look 10 = .ok (.iload_n 2, 1) := by decide +kernel
theorem dX10_look_11 : decode cX10_look 11 = .ok (.tableswitch 89 0 5 #[37, 44, 51, 58, 65, 72], 37) := by decide +kernel
theorem dX10_look_48 : decode cX10_look 48 = .ok (.aload_n 0, 1) := by decide +kernel
theorem dX10_look_49 : decode cX10_look 49 = .ok (.getfield 22, 3) := by decide +kernel
theorem dX10_look_52 : decode cX10_look 52 = .ok (.iload_n 1, 1) := by decide +kernel
theorem dX10_look_53 : decode cX10_look 53 = .ok (.iaload, 1) := by decide +kernel
theorem dX10_look_54 : decode cX10_look 54 = .ok (.ireturn, 1) := by decide +kernel
theorem dX10_look_55 : decode cX10_look 55 = .ok (.aload_n 0, 1) := by decide +kernel
theorem dX10_look_56 : decode cX10_look 56 = .ok (.getfield 25, 3) := by decide +kernel
theorem dX10_look_59 : decode cX10_look 59 = .ok (.iload_n 1, 1) := by decide +kernel
theorem dX10_look_60 : decode cX10_look 60 = .ok (.iaload, 1) := by decide +kernel
theorem dX10_look_61 : decode cX10_look 61 = .ok (.ireturn, 1) := by decide +kernel
theorem dX10_look_62 : decode cX10_look 62 = .ok (.aload_n 0, 1) := by decide +kernel
theorem dX10_look_63 : decode cX10_look 63 = .ok (.getfield 28, 3) := by decide +kernel
theorem dX10_look_66 : decode cX10_look 66 = .ok (.iload_n 1, 1) := by decide +kernel
theorem dX10_look_67 : decode cX10_look 67 = .ok (.iaload, 1) := by decide +kernel
theorem dX10_look_68 : decode cX10_look 68 = .ok (.ireturn, 1) := by decide +kernel
theorem dX10_look_69 : decode cX10_look 69 = .ok (.aload_n 0, 1) := by decide +kernel
theorem dX10_look_70 : decode cX10_look 70 = .ok (.getfield 31, 3) := by decide +kernel
theorem dX10_look_73 : decode cX10_look 73 = .ok (.iload_n 1, 1) := by decide +kernel
theorem dX10_look_74 : decode cX10_look 74 = .ok (.iaload, 1) := by decide +kernel
theorem dX10_look_75 : decode cX10_look 75 = .ok (.ireturn, 1) := by decide +kernel
theorem dX10_look_76 : decode cX10_look 76 = .ok (.aload_n 0, 1) := by decide +kernel
theorem dX10_look_77 : decode cX10_look 77 = .ok (.getfield 34, 3) := by decide +kernel
theorem dX10_look_80 : decode cX10_look 80 = .ok (.iload_n 1, 1) := by decide +kernel
theorem dX10_look_81 : decode cX10_look 81 = .ok (.iaload, 1) := by decide +kernel
theorem dX10_look_82 : decode cX10_look 82 = .ok (.ireturn, 1) := by decide +kernel
theorem dX10_look_83 : decode cX10_look 83 = .ok (.aload_n 0, 1) := by decide +kernel
theorem dX10_look_84 : decode cX10_look 84 = .ok (.getfield 43, 3) := by decide +kernel
theorem dX10_look_87 : decode cX10_look 87 = .ok (.bipush 7, 2) := by decide +kernel
theorem dX10_look_89 : decode cX10_look 89 = .ok (.iload_n 1, 1) := by decide +kernel
theorem dX10_look_90 : decode cX10_look 90 = .ok (.imul, 1) := by decide +kernel
theorem dX10_look_91 : decode cX10_look 91 = .ok (.aload_n 0, 1) := by decide +kernel
theorem dX10_look_92 : decode cX10_look 92 = .ok (.getfield 34, 3) := by decide +kernel
theorem dX10_look_95 : decode cX10_look 95 = .ok (.iload_n 1, 1) := by decide +kernel
theorem dX10_look_96 : decode cX10_look 96 = .ok (.iaload, 1) := by decide +kernel
theorem dX10_look_97 : decode cX10_look 97 = .ok (.iadd, 1) := by decide +kernel
theorem dX10_look_98 : decode cX10_look 98 = .ok (.iaload, 1) := by decide +kernel
theorem dX10_look_99 : decode cX10_look 99 = .ok (.ireturn, 1) := by decide +kernel
theorem dX10_look_100 : decode cX10_look 100 = .ok (.iload_n 2, 1) := by decide +kernel
theorem dX10_look_101 : decode cX10_look 101 = .ok (.bipush 10, 2) := by decide +kernel
theorem dX10_look_103 : decode cX10_look 103 = .ok (.if_icmp .lt 33, 3) := by decide +kernel
theorem dX10_look_106 : decode cX10_look 106 = .ok (.iload_n 2, 1) := by decide +kernel
theorem dX10_look_107 : decode cX10_look 107 = .ok (.bipush 10, 2) := by decide +kernel
theorem dX10_look_109 : decode cX10_look 109 = .ok (.aload_n 0, 1) := by decide +kernel
theorem dX10_look_110 : decode cX10_look 110 = .ok (.getfield 34, 3) := by decide +kernel
theorem dX10_look_113 : decode cX10_look 113 = .ok (.iload_n 1, 1) := by decide +kernel
theorem dX10_look_114 : decode cX10_look 114 = .ok (.iaload, 1) := by decide +kernel
theorem dX10_look_115 : decode cX10_look 115 = .ok (.iadd, 1) := by decide +kernel
theorem dX10_look_116 : decode cX10_look 116 = .ok (.if_icmp .gt 20, 3) := by decide +kernel
theorem dX10_look_119 : decode cX10_look 119 = .ok (.aload_n 0, 1) := by decide +kernel
theorem dX10_look_120 : decode cX10_look 120 = .ok (.getfield 43, 3) := by decide +kernel
theorem dX10_look_123 : decode cX10_look 123 = .ok (.bipush 7, 2) := by decide +kernel
theorem dX10_look_125 : decode cX10_look 125 = .ok (.iload_n 1, 1) := by decide +kernel
theorem dX10_look_126 : decode cX10_look 126 = .ok (.imul, 1) := by decide +kernel
theorem dX10_look_127 : decode cX10_look 127 = .ok (.iload_n 2, 1) := by decide +kernel
theorem dX10_look_128 : decode cX10_look 128 = .ok (.iadd, 1) := by decide +kernel
theorem dX10_look_129 : decode cX10_look 129 = .ok (.bipush 10, 2) := by decide +kernel
theorem dX10_look_131 : decode cX10_look 131 = .ok (.isub, 1) := by decide +kernel
theorem dX10_look_132 : decode cX10_look 132 = .ok (.iaload, 1) := by decide +kernel
theorem dX10_look_133 : decode cX10_look 133 = .ok (.goto 4, 3) := by decide +kernel
theorem dX10_look_136 : decode cX10_look 136 = .ok (.iconst (-1), 1) := by decide +kernel
theorem dX10_look_137 : decode cX10_look 137 = .ok (.ireturn, 1) := by decide +kernel
theorem dX10_count_0 : decode cX10_count 0 = .ok (.iload_n 1, 1) := by decide +kernel
theorem dX10_count_1 : decode cX10_count 1 = .ok (.tableswitch 51 0 3 #[31, 36, 41, 46], 31) := by decide +kernel
theorem dX10_count_32 : decode cX10_count 32 = .ok (.aload_n 0, 1) := by decide +kernel
theorem dX10_count_33 : decode cX10_count 33 = .ok (.getfield 158, 3) := by decide +kernel
theorem dX10_count_36 : decode cX10_count 36 = .ok (.ireturn, 1) := by decide +kernel
theorem dX10_count_37 : decode cX10_count 37 = .ok (.aload_n 0, 1) := by decide +kernel
theorem dX10_count_38 : decode cX10_count 38 = .ok (.getfield 151, 3) := by decide +kernel
theorem dX10_count_41 : decode cX10_count 41 = .ok (.ireturn, 1) := by decide +kernel
theorem dX10_count_42 : decode cX10_count 42 = .ok (.aload_n 0, 1) := by decide +kernel
theorem dX10_count_43 : decode cX10_count 43 = .ok (.getfield 172, 3) := by decide +kernel
theorem dX10_count_46 : decode cX10_count 46 = .ok (.ireturn, 1) := by decide +kernel
theorem dX10_count_47 : decode cX10_count 47 = .ok (.aload_n 0, 1) := by decide +kernel
theorem dX10_count_48 : decode cX10_count 48 = .ok (.getfield 179, 3) := by decide +kernel
theorem dX10_count_51 : decode cX10_count 51 = .ok (.ireturn, 1) := by decide +kernel
theorem dX10_count_52 : decode cX10_count 52 = .ok (.iload_n 1, 1) := by decide +kernel
theorem dX10_count_53 : decode cX10_count 53 = .ok (.bipush 10, 2) := by decide +kernel
theorem dX10_count_55 : decode cX10_count 55 = .ok (.if_icmp .lt 19, 3) := by decide +kernel
theorem dX10_count_58 : decode cX10_count 58 = .ok (.iload_n 1, 1) := by decide +kernel
theorem dX10_count_59 : decode cX10_count 59 = .ok (.bipush 14, 2) := by decide +kernel
theorem dX10_count_61 : decode cX10_count 61 = .ok (.if_icmp .ge 13, 3) := by decide +kernel
theorem dX10_count_64 : decode cX10_count 64 = .ok (.aload_n 0, 1) := by decide +kernel
theorem dX10_count_65 : decode cX10_count 65 = .ok (.getfield 72, 3) := by decide +kernel
theorem dX10_count_68 : decode cX10_count 68 = .ok (.iload_n 1, 1) := by decide +kernel
theorem dX10_count_69 : decode cX10_count 69 = .ok (.bipush 10, 2) := by decide +kernel
theorem dX10_count_71 : decode cX10_count 71 = .ok (.isub, 1) := by decide +kernel
theorem dX10_count_72 : decode cX10_count 72 = .ok (.iaload, 1) := by decide +kernel
theorem dX10_count_73 : decode cX10_count 73 = .ok (.ireturn, 1) := by decide +kernel
theorem dX10_count_74 : decode cX10_count 74 = .ok (.iload_n 1, 1) := by decide +kernel
theorem dX10_count_75 : decode cX10_count 75 = .ok (.bipush 100, 2) := by decide +kernel
theorem dX10_count_77 : decode cX10_count 77 = .ok (.if_icmp .lt 33, 3) := by decide +kernel
theorem dX10_count_80 : decode cX10_count 80 = .ok (.iload_n 1, 1) := by decide +kernel
theorem dX10_count_81 : decode cX10_count 81 = .ok (.bipush 100, 2) := by decide +kernel
theorem dX10_count_83 : decode cX10_count 83 = .ok (.bipush 12, 2) := by decide +kernel
theorem dX10_count_85 : decode cX10_count 85 = .ok (.aload_n 0, 1) := by decide +kernel
theorem dX10_count_86 : decode cX10_count 86 = .ok (.getfield 158, 3) := by decide +kernel
theorem dX10_count_89 : decode cX10_count 89 = .ok (.imul, 1) := by decide +kernel
theorem dX10_count_90 : decode cX10_count 90 = .ok (.iadd, 1) := by decide +kernel
theorem dX10_count_91 : decode cX10_count 91 = .ok (.if_icmp .ge 19, 3) := by decide +kernel
theorem dX10_count_94 : decode cX10_count 94 = .ok (.aload_n 0, 1) := by decide +kernel
theorem dX10_count_95 : decode cX10_count 95 = .ok (.getfield 19, 3) := by decide +kernel
theorem dX10_count_98 : decode cX10_count 98 = .ok (.iload_n 1, 1) := by decide +kernel
theorem dX10_count_99 : decode cX10_count 99 = .ok (.bipush 100, 2) := by decide +kernel
theorem dX10_count_101 : decode cX10_count 101 = .ok (.isub, 1) := by decide +kernel
theorem dX10_count_102 : decode cX10_count 102 = .ok (.iaload, 1) := by decide +kernel
theorem dX10_count_103 : decode cX10_count 103 = .ok (.sipush 1000, 3) := by decide +kernel
theorem dX10_count_106 : decode cX10_count 106 = .ok (.iadd, 1) := by decide +kernel
theorem dX10_count_107 : decode cX10_count 107 = .ok (.goto 4, 3) := by decide +kernel
theorem dX10_count_110 : decode cX10_count 110 = .ok (.iconst (-1), 1) := by decide +kernel
theorem dX10_count_111 : decode cX10_count 111 = .ok (.ireturn, 1) := by decide +kernel
