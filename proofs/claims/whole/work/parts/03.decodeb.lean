theorem dX8_init_0 : decode cX8_init 0 = .ok (.aload_n 0, 1) := by decide +kernel
theorem dX8_init_1 : decode cX8_init 1 = .ok (.invokespecial 1, 3) := by decide +kernel
theorem dX8_init_4 : decode cX8_init 4 = .ok (.aload_n 0, 1) := by decide +kernel
theorem dX8_init_5 : decode cX8_init 5 = .ok (.sipush 1024, 3) := by decide +kernel
theorem dX8_init_8 : decode cX8_init 8 = .ok (.newarray .int, 2) := by decide +kernel
theorem dX8_init_10 : decode cX8_init 10 = .ok (.putfield 7, 3) := by decide +kernel
theorem dX8_init_13 : decode cX8_init 13 = .ok (.aload_n 0, 1) := by decide +kernel
theorem dX8_init_14 : decode cX8_init 14 = .ok (.bipush 64, 2) := by decide +kernel
theorem dX8_init_16 : decode cX8_init 16 = .ok (.newarray .int, 2) := by decide +kernel
theorem dX8_init_18 : decode cX8_init 18 = .ok (.putfield 13, 3) := by decide +kernel
theorem dX8_init_21 : decode cX8_init 21 = .ok (.aload_n 0, 1) := by decide +kernel
theorem dX8_init_22 : decode cX8_init 22 = .ok (.bipush 40, 2) := by decide +kernel
theorem dX8_init_24 : decode cX8_init 24 = .ok (.newarray .int, 2) := by decide +kernel
theorem dX8_init_26 : decode cX8_init 26 = .ok (.putfield 16, 3) := by decide +kernel
theorem dX8_init_29 : decode cX8_init 29 = .ok (.aload_n 0, 1) := by decide +kernel
theorem dX8_init_30 : decode cX8_init 30 = .ok (.bipush 40, 2) := by decide +kernel
theorem dX8_init_32 : decode cX8_init 32 = .ok (.newarray .int, 2) := by decide +kernel
theorem dX8_init_34 : decode cX8_init 34 = .ok (.putfield 19, 3) := by decide +kernel
theorem dX8_init_37 : decode cX8_init 37 = .ok (.aload_n 0, 1) := by decide +kernel
theorem dX8_init_38 : decode cX8_init 38 = .ok (.sipush 256, 3) := by decide +kernel
theorem dX8_init_41 : decode cX8_init 41 = .ok (.putfield 22, 3) := by decide +kernel
theorem dX8_init_44 : decode cX8_init 44 = .ok (.aload_n 0, 1) := by decide +kernel
theorem dX8_init_45 : decode cX8_init 45 = .ok (.bipush 8, 2) := by decide +kernel
theorem dX8_init_47 : decode cX8_init 47 = .ok (.newarray .int, 2) := by decide +kernel
theorem dX8_init_49 : decode cX8_init 49 = .ok (.putfield 26, 3) := by decide +kernel
theorem dX8_init_52 : decode cX8_init 52 = .ok (.aload_n 0, 1) := by decide +kernel
theorem dX8_init_53 : decode cX8_init 53 = .ok (.bipush 8, 2) := by decide +kernel
theorem dX8_init_55 : decode cX8_init 55 = .ok (.newarray .int, 2) := by decide +kernel
theorem dX8_init_57 : decode cX8_init 57 = .ok (.putfield 29, 3) := by decide +kernel
theorem dX8_init_60 : decode cX8_init 60 = .ok (.aload_n 0, 1) := by decide +kernel
theorem dX8_init_61 : decode cX8_init 61 = .ok (.bipush 8, 2) := by decide +kernel
theorem dX8_init_63 : decode cX8_init 63 = .ok (.newarray .int, 2) := by decide +kernel
theorem dX8_init_65 : decode cX8_init 65 = .ok (.putfield 32, 3) := by decide +kernel
theorem dX8_init_68 : decode cX8_init 68 = .ok (.aload_n 0, 1) := by decide +kernel
theorem dX8_init_69 : decode cX8_init 69 = .ok (.bipush 8, 2) := by decide +kernel
theorem dX8_init_71 : decode cX8_init 71 = .ok (.newarray .int, 2) := by decide +kernel
theorem dX8_init_73 : decode cX8_init 73 = .ok (.putfield 35, 3) := by decide +kernel
theorem dX8_init_76 : decode cX8_init 76 = .ok (.aload_n 0, 1) := by decide +kernel
theorem dX8_init_77 : decode cX8_init 77 = .ok (.bipush 8, 2) := by decide +kernel
theorem dX8_init_79 : decode cX8_init 79 = .ok (.newarray .int, 2) := by decide +kernel
theorem dX8_init_81 : decode cX8_init 81 = .ok (.putfield 38, 3) := by decide +kernel
theorem dX8_init_84 : decode cX8_init 84 = .ok (.aload_n 0, 1) := by decide +kernel
theorem dX8_init_85 : decode cX8_init 85 = .ok (.bipush 40, 2) := by decide +kernel
theorem dX8_init_87 : decode cX8_init 87 = .ok (.newarray .int, 2) := by decide +kernel
theorem dX8_init_89 : decode cX8_init 89 = .ok (.putfield 41, 3) := by decide +kernel
theorem dX8_init_92 : decode cX8_init 92 = .ok (.aload_n 0, 1) := by decide +kernel
theorem dX8_init_93 : decode cX8_init 93 = .ok (.sipush 1024, 3) := by decide +kernel
theorem dX8_init_96 : decode cX8_init 96 = .ok (.newarray .int, 2) := by decide +kernel
theorem dX8_init_98 : decode cX8_init 98 = .ok (.putfield 44, 3) := by decide +kernel
theorem dX8_init_101 : decode cX8_init 101 = .ok (.aload_n 0, 1) := by decide +kernel
theorem dX8_init_102 : decode cX8_init 102 = .ok (.bipush 64, 2) := by decide +kernel
theorem dX8_init_104 : decode cX8_init 104 = .ok (.newarray .int, 2) := by decide +kernel
theorem dX8_init_106 : decode cX8_init 106 = .ok (.putfield 47, 3) := by decide +kernel
theorem dX8_init_109 : decode cX8_init 109 = .ok (.return_, 1) := by decide +kernel
theorem dX8_lay_0 : decode cX8_lay 0 = .ok (.iload_n 2, 1) := by decide +kernel
theorem dX8_lay_1 : decode cX8_lay 1 = .ok (.iconst 1, 1) := by decide +kernel
theorem dX8_lay_2 : decode cX8_lay 2 = .ok (.if_icmp .lt 22, 3) := by decide +kernel
theorem dX8_lay_5 : decode cX8_lay 5 = .ok (.iload_n 2, 1) := by decide +kernel
theorem dX8_lay_6 : decode cX8_lay 6 = .ok (.bipush 8, 2) := by decide +kernel
theorem dX8_lay_8 : decode cX8_lay 8 = .ok (.if_icmp .gt 16, 3) := by decide +kernel
theorem dX8_lay_11 : decode cX8_lay 11 = .ok (.iload_n 1, 1) := by decide +kernel
theorem dX8_lay_12 : decode cX8_lay 12 = .ok (.ifCond .lt 12, 3) := by decide +kernel
theorem dX8_lay_15 : decode cX8_lay 15 = .ok (.iload_n 1, 1) := by decide +kernel
theorem dX8_lay_16 : decode cX8_lay 16 = .ok (.sipush 1024, 3) := by decide +kernel
theorem dX8_lay_19 : decode cX8_lay 19 = .ok (.iload_n 2, 1) := by decide +kernel
theorem dX8_lay_20 : decode cX8_lay 20 = .ok (.isub, 1) := by decide +kernel
theorem dX8_lay_21 : decode cX8_lay 21 = .ok (.if_icmp .le 5, 3) := by decide +kernel
theorem dX8_lay_24 : decode cX8_lay 24 = .ok (.iconst (-1), 1) := by decide +kernel
theorem dX8_lay_25 : decode cX8_lay 25 = .ok (.ireturn, 1) := by decide +kernel
theorem dX8_lay_26 : decode cX8_lay 26 = .ok (.iconst 0, 1) := by decide +kernel
theorem dX8_lay_27 : decode cX8_lay 27 = .ok (.istore 5, 2) := by decide +kernel
theorem dX8_lay_29 : decode cX8_lay 29 = .ok (.iload 5, 2) := by decide +kernel
theorem dX8_lay_31 : decode cX8_lay 31 = .ok (.iload_n 2, 1) := by decide +kernel
theorem dX8_lay_32 : decode cX8_lay 32 = .ok (.if_icmp .ge 34, 3) := by decide +kernel
theorem dX8_lay_35 : decode cX8_lay 35 = .ok (.aload_n 0, 1) := by decide +kernel
theorem dX8_lay_36 : decode cX8_lay 36 = .ok (.getfield 7, 3) := by decide +kernel
theorem dX8_lay_39 : decode cX8_lay 39 = .ok (.iload_n 1, 1) := by decide +kernel
theorem dX8_lay_40 : decode cX8_lay 40 = .ok (.iload 5, 2) := by decide +kernel
theorem dX8_lay_42 : decode cX8_lay 42 = .ok (.iadd, 1) := by decide +kernel
theorem dX8_lay_43 : decode cX8_lay 43 = .ok (.lload_n 3, 1) := by decide +kernel
theorem dX8_lay_44 : decode cX8_lay 44 = .ok (.bipush 8, 2) := by decide +kernel
theorem dX8_lay_46 : decode cX8_lay 46 = .ok (.iload_n 2, 1) := by decide +kernel
theorem dX8_lay_47 : decode cX8_lay 47 = .ok (.iconst 1, 1) := by decide +kernel
theorem dX8_lay_48 : decode cX8_lay 48 = .ok (.isub, 1) := by decide +kernel
theorem dX8_lay_49 : decode cX8_lay 49 = .ok (.iload 5, 2) := by decide +kernel
theorem dX8_lay_51 : decode cX8_lay 51 = .ok (.isub, 1) := by decide +kernel
theorem dX8_lay_52 : decode cX8_lay 52 = .ok (.imul, 1) := by decide +kernel
theorem dX8_lay_53 : decode cX8_lay 53 = .ok (.lshr, 1) := by decide +kernel
theorem dX8_lay_54 : decode cX8_lay 54 = .ok (.ldc2_w 50, 3) := by decide +kernel
theorem dX8_lay_57 : decode cX8_lay 57 = .ok (.land, 1) := by decide +kernel
theorem dX8_lay_58 : decode cX8_lay 58 = .ok (.l2i, 1) := by decide +kernel
theorem dX8_lay_59 : decode cX8_lay 59 = .ok (.iastore, 1) := by decide +kernel
theorem dX8_lay_60 : decode cX8_lay 60 = .ok (.iinc 5 1, 3) := by decide +kernel
theorem dX8_lay_63 : decode cX8_lay 63 = .ok (.goto (-34), 3) := by decide +kernel
theorem dX8_lay_66 : decode cX8_lay 66 = .ok (.iconst 1, 1) := by decide +kernel
theorem dX8_lay_67 : decode cX8_lay 67 = .ok (.ireturn, 1) := by decide +kernel
theorem dX8_ram_0 : decode cX8_ram 0 = .ok (.iload_n 1, 1) := by decide +kernel
theorem dX8_ram_1 : decode cX8_ram 1 = .ok (.ifCond .lt 10, 3) := by decide +kernel
theorem dX8_ram_4 : decode cX8_ram 4 = .ok (.iload_n 1, 1) := by decide +kernel
theorem dX8_ram_5 : decode cX8_ram 5 = .ok (.sipush 1024, 3) := by decide +kernel
theorem dX8_ram_8 : decode cX8_ram 8 = .ok (.if_icmp .le 5, 3) := by decide +kernel
theorem dX8_ram_11 : decode cX8_ram 11 = .ok (.iconst (-1), 1) := by decide +kernel
theorem dX8_ram_12 : decode cX8_ram 12 = .ok (.ireturn, 1) := by decide +kernel
theorem dX8_ram_13 : decode cX8_ram 13 = .ok (.aload_n 0, 1) := by decide +kernel
theorem dX8_ram_14 : decode cX8_ram 14 = .ok (.getfield 22, 3) := by decide +kernel
theorem dX8_ram_17 : decode cX8_ram 17 = .ok (.istore_n 2, 1) := by decide +kernel
theorem dX8_ram_18 : decode cX8_ram 18 = .ok (.aload_n 0, 1) := by decide +kernel
theorem dX8_ram_19 : decode cX8_ram 19 = .ok (.iload_n 1, 1) := by decide +kernel
theorem dX8_ram_20 : decode cX8_ram 20 = .ok (.putfield 22, 3) := by decide +kernel
theorem dX8_ram_23 : decode cX8_ram 23 = .ok (.iload_n 2, 1) := by decide +kernel
theorem dX8_ram_24 : decode cX8_ram 24 = .ok (.ireturn, 1) := by decide +kernel
theorem dX8_go_0 : decode cX8_go 0 = .ok (.aload_n 0, 1) := by decide +kernel
theorem dX8_go_1 : decode cX8_go 1 = .ok (.getfield 52, 3) := by decide +kernel
theorem dX8_go_4 : decode cX8_go 4 = .ok (.istore_n 2, 1) := by decide +kernel
theorem dX8_go_5 : decode cX8_go 5 = .ok (.aload_n 0, 1) := by decide +kernel
theorem dX8_go_6 : decode cX8_go 6 = .ok (.iload_n 1, 1) := by decide +kernel
theorem dX8_go_7 : decode cX8_go 7 = .ok (.putfield 52, 3) := by decide +kernel
theorem dX8_go_10 : decode cX8_go 10 = .ok (.aload_n 0, 1) := by decide +kernel
theorem dX8_go_11 : decode cX8_go 11 = .ok (.iconst 0, 1) := by decide +kernel
theorem dX8_go_12 : decode cX8_go 12 = .ok (.putfield 55, 3) := by decide +kernel
theorem dX8_go_15 : decode cX8_go 15 = .ok (.iload_n 2, 1) := by decide +kernel
theorem dX8_go_16 : decode cX8_go 16 = .ok (.ireturn, 1) := by decide +kernel
theorem dX8_push_0 : decode cX8_push 0 = .ok (.aload_n 0, 1) := by decide +kernel
theorem dX8_push_1 : decode cX8_push 1 = .ok (.getfield 59, 3) := by decide +kernel
theorem dX8_push_4 : decode cX8_push 4 = .ok (.bipush 40, 2) := by decide +kernel
theorem dX8_push_6 : decode cX8_push 6 = .ok (.if_icmp .ne 6, 3) := by decide +kernel
theorem dX8_push_9 : decode cX8_push 9 = .ok (.bipush (-2), 2) := by decide +kernel
theorem dX8_push_11 : decode cX8_push 11 = .ok (.ireturn, 1) := by decide +kernel
theorem dX8_push_12 : decode cX8_push 12 = .ok (.aload_n 0, 1) := by decide +kernel
theorem dX8_push_13 : decode cX8_push 13 = .ok (.getfield 16, 3) := by decide +kernel
theorem dX8_push_16 : decode cX8_push 16 = .ok (.aload_n 0, 1) := by decide +kernel
theorem dX8_push_17 : decode cX8_push 17 = .ok (.getfield 59, 3) := by decide +kernel
theorem dX8_push_20 : decode cX8_push 20 = .ok (.iload_n 1, 1) := by decide +kernel
theorem dX8_push_21 : decode cX8_push 21 = .ok (.iastore, 1) := by decide +kernel
theorem dX8_push_22 : decode cX8_push 22 = .ok (.aload_n 0, 1) := by decide +kernel
theorem dX8_push_23 : decode cX8_push 23 = .ok (.dup, 1) := by decide +kernel
theorem dX8_push_24 : decode cX8_push 24 = .ok (.getfield 59, 3) := by decide +kernel
theorem dX8_push_27 : decode cX8_push 27 = .ok (.iconst 1, 1) := by decide +kernel
theorem dX8_push_28 : decode cX8_push 28 = .ok (.iadd, 1) := by decide +kernel
theorem dX8_push_29 : decode cX8_push 29 = .ok (.putfield 59, 3) := by decide +kernel
theorem dX8_push_32 : decode cX8_push 32 = .ok (.aload_n 0, 1) := by decide +kernel
theorem dX8_push_33 : decode cX8_push 33 = .ok (.getfield 59, 3) := by decide +kernel
theorem dX8_push_36 : decode cX8_push 36 = .ok (.ireturn, 1) := by decide +kernel
theorem dX8_clear_0 : decode cX8_clear 0 = .ok (.aload_n 0, 1) := by decide +kernel
theorem dX8_clear_1 : decode cX8_clear 1 = .ok (.getfield 59, 3) := by decide +kernel
theorem dX8_clear_4 : decode cX8_clear 4 = .ok (.istore_n 1, 1) := by decide +kernel
theorem dX8_clear_5 : decode cX8_clear 5 = .ok (.aload_n 0, 1) := by decide +kernel
theorem dX8_clear_6 : decode cX8_clear 6 = .ok (.iconst 0, 1) := by decide +kernel
theorem dX8_clear_7 : decode cX8_clear 7 = .ok (.putfield 59, 3) := by decide +kernel
theorem dX8_clear_10 : decode cX8_clear 10 = .ok (.iconst 0, 1) := by decide +kernel
theorem dX8_clear_11 : decode cX8_clear 11 = .ok (.istore_n 2, 1) := by decide +kernel
theorem dX8_clear_12 : decode cX8_clear 12 = .ok (.iload_n 2, 1) := by decide +kernel
theorem dX8_clear_13 : decode cX8_clear 13 = .ok (.bipush 64, 2) := by decide +kernel
theorem dX8_clear_15 : decode cX8_clear 15 = .ok (.if_icmp .ge 16, 3) := by decide +kernel
theorem dX8_clear_18 : decode cX8_clear 18 = .ok (.aload_n 0, 1) := by decide +kernel
theorem dX8_clear_19 : decode cX8_clear 19 = .ok (.getfield 13, 3) := by decide +kernel
theorem dX8_clear_22 : decode cX8_clear 22 = .ok (.iload_n 2, 1) := by decide +kernel
theorem dX8_clear_23 : decode cX8_clear 23 = .ok (.iconst 0, 1) := by decide +kernel
theorem dX8_clear_24 : decode cX8_clear 24 = .ok (.iastore, 1) := by decide +kernel
theorem dX8_clear_25 : decode cX8_clear 25 = .ok (.iinc 2 1, 3) := by decide +kernel
theorem dX8_clear_28 : decode cX8_clear 28 = .ok (.goto (-16), 3) := by decide +kernel
theorem dX8_clear_31 : decode cX8_clear 31 = .ok (.iload_n 1, 1) := by decide +kernel
theorem dX8_clear_32 : decode cX8_clear 32 = .ok (.ireturn, 1) := by decide +kernel
theorem dX8_operands_0 : decode cX8_operands 0 = .ok (.iload_n 0, 1) := by decide +kernel
theorem dX8_operands_1 : decode cX8_operands 1 = .ok (.lookupswitch 196 #[(0, 187), (21, 191), (27, 191), (32, 189), (34, 191), (35, 191), (49, 189), (64, 191), (65, 191), (66, 191), (68, 191), (69, 191), (80, 189), (81, 191), (82, 187), (83, 191), (84, 189), (260, 189), (288, 187), (336, 193), (337, 193), (368, 191)], 187) := by decide +kernel
theorem dX8_operands_188 : decode cX8_operands 188 = .ok (.iconst 0, 1) := by decide +kernel
theorem dX8_operands_189 : decode cX8_operands 189 = .ok (.ireturn, 1) := by decide +kernel
theorem dX8_operands_190 : decode cX8_operands 190 = .ok (.iconst 1, 1) := by decide +kernel
theorem dX8_operands_191 : decode cX8_operands 191 = .ok (.ireturn, 1) := by decide +kernel
theorem dX8_operands_192 : decode cX8_operands 192 = .ok (.iconst 2, 1) := by decide +kernel
theorem dX8_operands_193 : decode cX8_operands 193 = .ok (.ireturn, 1) := by decide +kernel
theorem dX8_operands_194 : decode cX8_operands 194 = .ok (.bipush 8, 2) := by decide +kernel
theorem dX8_operands_196 : decode cX8_operands 196 = .ok (.ireturn, 1) := by decide +kernel
theorem dX8_operands_197 : decode cX8_operands 197 = .ok (.iload_n 0, 1) := by decide +kernel
theorem dX8_operands_198 : decode cX8_operands 198 = .ok (.bipush 16, 2) := by decide +kernel
theorem dX8_operands_200 : decode cX8_operands 200 = .ok (.if_icmp .lt 9, 3) := by decide +kernel
theorem dX8_operands_203 : decode cX8_operands 203 = .ok (.iload_n 0, 1) := by decide +kernel
theorem dX8_operands_204 : decode cX8_operands 204 = .ok (.bipush 20, 2) := by decide +kernel
theorem dX8_operands_206 : decode cX8_operands 206 = .ok (.if_icmp .le 65, 3) := by decide +kernel
theorem dX8_operands_209 : decode cX8_operands 209 = .ok (.iload_n 0, 1) := by decide +kernel
theorem dX8_operands_210 : decode cX8_operands 210 = .ok (.bipush 24, 2) := by decide +kernel
theorem dX8_operands_212 : decode cX8_operands 212 = .ok (.if_icmp .lt 9, 3) := by decide +kernel
theorem dX8_operands_215 : decode cX8_operands 215 = .ok (.iload_n 0, 1) := by decide +kernel
theorem dX8_operands_216 : decode cX8_operands 216 = .ok (.bipush 26, 2) := by decide +kernel
theorem dX8_operands_218 : decode cX8_operands 218 = .ok (.if_icmp .le 53, 3) := by decide +kernel
theorem dX8_operands_221 : decode cX8_operands 221 = .ok (.iload_n 0, 1) := by decide +kernel
theorem dX8_operands_222 : decode cX8_operands 222 = .ok (.bipush 28, 2) := by decide +kernel
theorem dX8_operands_224 : decode cX8_operands 224 = .ok (.if_icmp .lt 9, 3) := by decide +kernel
theorem dX8_operands_227 : decode cX8_operands 227 = .ok (.iload_n 0, 1) := by decide +kernel
theorem dX8_operands_228 : decode cX8_operands 228 = .ok (.bipush 30, 2) := by decide +kernel
theorem dX8_operands_230 : decode cX8_operands 230 = .ok (.if_icmp .le 41, 3) := by decide +kernel
theorem dX8_operands_233 : decode cX8_operands 233 = .ok (.iload_n 0, 1) := by decide +kernel
theorem dX8_operands_234 : decode cX8_operands 234 = .ok (.bipush 36, 2) := by decide +kernel
theorem dX8_operands_236 : decode cX8_operands 236 = .ok (.if_icmp .lt 9, 3) := by decide +kernel
theorem dX8_operands_239 : decode cX8_operands 239 = .ok (.iload_n 0, 1) := by decide +kernel
theorem dX8_operands_240 : decode cX8_operands 240 = .ok (.bipush 45, 2) := by decide +kernel
theorem dX8_operands_242 : decode cX8_operands 242 = .ok (.if_icmp .le 29, 3) := by decide +kernel
theorem dX8_operands_245 : decode cX8_operands 245 = .ok (.iload_n 0, 1) := by decide +kernel
theorem dX8_operands_246 : decode cX8_operands 246 = .ok (.bipush 72, 2) := by decide +kernel
theorem dX8_operands_248 : decode cX8_operands 248 = .ok (.if_icmp .lt 9, 3) := by decide +kernel
theorem dX8_operands_251 : decode cX8_operands 251 = .ok (.iload_n 0, 1) := by decide +kernel
theorem dX8_operands_252 : decode cX8_operands 252 = .ok (.bipush 79, 2) := by decide +kernel
theorem dX8_operands_254 : decode cX8_operands 254 = .ok (.if_icmp .le 17, 3) := by decide +kernel
theorem dX8_operands_257 : decode cX8_operands 257 = .ok (.iload_n 0, 1) := by decide +kernel
theorem dX8_operands_258 : decode cX8_operands 258 = .ok (.sipush 256, 3) := by decide +kernel
theorem dX8_operands_261 : decode cX8_operands 261 = .ok (.if_icmp .eq 10, 3) := by decide +kernel
theorem dX8_operands_264 : decode cX8_operands 264 = .ok (.iload_n 0, 1) := by decide +kernel
theorem dX8_operands_265 : decode cX8_operands 265 = .ok (.sipush 369, 3) := by decide +kernel
theorem dX8_operands_268 : decode cX8_operands 268 = .ok (.if_icmp .ne 7, 3) := by decide +kernel
theorem dX8_operands_271 : decode cX8_operands 271 = .ok (.iconst 1, 1) := by decide +kernel
theorem dX8_operands_272 : decode cX8_operands 272 = .ok (.goto 4, 3) := by decide +kernel
theorem dX8_operands_275 : decode cX8_operands 275 = .ok (.iconst 0, 1) := by decide +kernel
theorem dX8_operands_276 : decode cX8_operands 276 = .ok (.istore_n 1, 1) := by decide +kernel
theorem dX8_operands_277 : decode cX8_operands 277 = .ok (.iload_n 1, 1) := by decide +kernel
theorem dX8_operands_278 : decode cX8_operands 278 = .ok (.ifCond .eq 7, 3) := by decide +kernel
theorem dX8_operands_281 : decode cX8_operands 281 = .ok (.iconst 3, 1) := by decide +kernel
theorem dX8_operands_282 : decode cX8_operands 282 = .ok (.goto 5, 3) := by decide +kernel
theorem dX8_operands_285 : decode cX8_operands 285 = .ok (.bipush (-2), 2) := by decide +kernel
theorem dX8_operands_287 : decode cX8_operands 287 = .ok (.ireturn, 1) := by decide +kernel
theorem dX8_storeOf_0 : decode cX8_storeOf 0 = .ok (.iload_n 0, 1) := by decide +kernel
theorem dX8_storeOf_1 : decode cX8_storeOf 1 = .ok (.bipush 21, 2) := by decide +kernel
theorem dX8_storeOf_3 : decode cX8_storeOf 3 = .ok (.if_icmp .eq 27, 3) := by decide +kernel
theorem dX8_storeOf_6 : decode cX8_storeOf 6 = .ok (.iload_n 0, 1) := by decide +kernel
theorem dX8_storeOf_7 : decode cX8_storeOf 7 = .ok (.bipush 27, 2) := by decide +kernel
theorem dX8_storeOf_9 : decode cX8_storeOf 9 = .ok (.if_icmp .eq 21, 3) := by decide +kernel
theorem dX8_storeOf_12 : decode cX8_storeOf 12 = .ok (.iload_n 0, 1) := by decide +kernel
theorem dX8_storeOf_13 : decode cX8_storeOf 13 = .ok (.bipush 64, 2) := by decide +kernel
theorem dX8_storeOf_15 : decode cX8_storeOf 15 = .ok (.if_icmp .lt 9, 3) := by decide +kernel
theorem dX8_storeOf_18 : decode cX8_storeOf 18 = .ok (.iload_n 0, 1) := by decide +kernel
theorem dX8_storeOf_19 : decode cX8_storeOf 19 = .ok (.bipush 69, 2) := by decide +kernel
theorem dX8_storeOf_21 : decode cX8_storeOf 21 = .ok (.if_icmp .le 9, 3) := by decide +kernel
theorem dX8_storeOf_24 : decode cX8_storeOf 24 = .ok (.iload_n 0, 1) := by decide +kernel
theorem dX8_storeOf_25 : decode cX8_storeOf 25 = .ok (.bipush 81, 2) := by decide +kernel
theorem dX8_storeOf_27 : decode cX8_storeOf 27 = .ok (.if_icmp .ne 7, 3) := by decide +kernel
theorem dX8_storeOf_30 : decode cX8_storeOf 30 = .ok (.iconst 1, 1) := by decide +kernel
theorem dX8_storeOf_31 : decode cX8_storeOf 31 = .ok (.goto 4, 3) := by decide +kernel
theorem dX8_storeOf_34 : decode cX8_storeOf 34 = .ok (.iconst 0, 1) := by decide +kernel
theorem dX8_storeOf_35 : decode cX8_storeOf 35 = .ok (.istore_n 1, 1) := by decide +kernel
theorem dX8_storeOf_36 : decode cX8_storeOf 36 = .ok (.iload_n 0, 1) := by decide +kernel
theorem dX8_storeOf_37 : decode cX8_storeOf 37 = .ok (.bipush 16, 2) := by decide +kernel
theorem dX8_storeOf_39 : decode cX8_storeOf 39 = .ok (.if_icmp .lt 9, 3) := by decide +kernel
theorem dX8_storeOf_42 : decode cX8_storeOf 42 = .ok (.iload_n 0, 1) := by decide +kernel
theorem dX8_storeOf_43 : decode cX8_storeOf 43 = .ok (.bipush 20, 2) := by decide +kernel
theorem dX8_storeOf_45 : decode cX8_storeOf 45 = .ok (.if_icmp .le 46, 3) := by decide +kernel
theorem dX8_storeOf_48 : decode cX8_storeOf 48 = .ok (.iload_n 0, 1) := by decide +kernel
theorem dX8_storeOf_49 : decode cX8_storeOf 49 = .ok (.bipush 24, 2) := by decide +kernel
theorem dX8_storeOf_51 : decode cX8_storeOf 51 = .ok (.if_icmp .lt 9, 3) := by decide +kernel
theorem dX8_storeOf_54 : decode cX8_storeOf 54 = .ok (.iload_n 0, 1) := by decide +kernel
theorem dX8_storeOf_55 : decode cX8_storeOf 55 = .ok (.bipush 26, 2) := by decide +kernel
theorem dX8_storeOf_57 : decode cX8_storeOf 57 = .ok (.if_icmp .le 34, 3) := by decide +kernel
theorem dX8_storeOf_60 : decode cX8_storeOf 60 = .ok (.iload_n 0, 1) := by decide +kernel
theorem dX8_storeOf_61 : decode cX8_storeOf 61 = .ok (.bipush 28, 2) := by decide +kernel
theorem dX8_storeOf_63 : decode cX8_storeOf 63 = .ok (.if_icmp .lt 9, 3) := by decide +kernel
theorem dX8_storeOf_66 : decode cX8_storeOf 66 = .ok (.iload_n 0, 1) := by decide +kernel
theorem dX8_storeOf_67 : decode cX8_storeOf 67 = .ok (.bipush 30, 2) := by decide +kernel
theorem dX8_storeOf_69 : decode cX8_storeOf 69 = .ok (.if_icmp .le 22, 3) := by decide +kernel
theorem dX8_storeOf_72 : decode cX8_storeOf 72 = .ok (.iload_n 0, 1) := by decide +kernel
theorem dX8_storeOf_73 : decode cX8_storeOf 73 = .ok (.bipush 72, 2) := by decide +kernel
theorem dX8_storeOf_75 : decode cX8_storeOf 75 = .ok (.if_icmp .lt 9, 3) := by decide +kernel
theorem dX8_storeOf_78 : decode cX8_storeOf 78 = .ok (.iload_n 0, 1) := by decide +kernel
theorem dX8_storeOf_79 : decode cX8_storeOf 79 = .ok (.bipush 75, 2) := by decide +kernel
theorem dX8_storeOf_81 : decode cX8_storeOf 81 = .ok (.if_icmp .le 10, 3) := by decide +kernel
theorem dX8_storeOf_84 : decode cX8_storeOf 84 = .ok (.iload_n 0, 1) := by decide +kernel
theorem dX8_storeOf_85 : decode cX8_storeOf 85 = .ok (.sipush 256, 3) := by decide +kernel
theorem dX8_storeOf_88 : decode cX8_storeOf 88 = .ok (.if_icmp .ne 7, 3) := by decide +kernel
theorem dX8_storeOf_91 : decode cX8_storeOf 91 = .ok (.iconst 1, 1) := by decide +kernel
theorem dX8_storeOf_92 : decode cX8_storeOf 92 = .ok (.goto 4, 3) := by decide +kernel
theorem dX8_storeOf_95 : decode cX8_storeOf 95 = .ok (.iconst 0, 1) := by decide +kernel
theorem dX8_storeOf_96 : decode cX8_storeOf 96 = .ok (.istore_n 2, 1) := by decide +kernel
theorem dX8_storeOf_97 : decode cX8_storeOf 97 = .ok (.iload_n 0, 1) := by decide +kernel
theorem dX8_storeOf_98 : decode cX8_storeOf 98 = .ok (.bipush 80, 2) := by decide +kernel
theorem dX8_storeOf_100 : decode cX8_storeOf 100 = .ok (.if_icmp .ne 7, 3) := by decide +kernel
theorem dX8_storeOf_103 : decode cX8_storeOf 103 = .ok (.iconst 0, 1) := by decide +kernel
theorem dX8_storeOf_104 : decode cX8_storeOf 104 = .ok (.goto 40, 3) := by decide +kernel
theorem dX8_storeOf_107 : decode cX8_storeOf 107 = .ok (.iload_n 1, 1) := by decide +kernel
theorem dX8_storeOf_108 : decode cX8_storeOf 108 = .ok (.ifCond .eq 7, 3) := by decide +kernel
theorem dX8_storeOf_111 : decode cX8_storeOf 111 = .ok (.iconst 1, 1) := by decide +kernel
theorem dX8_storeOf_112 : decode cX8_storeOf 112 = .ok (.goto 32, 3) := by decide +kernel
theorem dX8_storeOf_115 : decode cX8_storeOf 115 = .ok (.iload_n 2, 1) := by decide +kernel
theorem dX8_storeOf_116 : decode cX8_storeOf 116 = .ok (.ifCond .eq 7, 3) := by decide +kernel
theorem dX8_storeOf_119 : decode cX8_storeOf 119 = .ok (.iconst 2, 1) := by decide +kernel
theorem dX8_storeOf_120 : decode cX8_storeOf 120 = .ok (.goto 24, 3) := by decide +kernel
theorem dX8_storeOf_123 : decode cX8_storeOf 123 = .ok (.iload_n 0, 1) := by decide +kernel
theorem dX8_storeOf_124 : decode cX8_storeOf 124 = .ok (.sipush 336, 3) := by decide +kernel
theorem dX8_storeOf_127 : decode cX8_storeOf 127 = .ok (.if_icmp .eq 10, 3) := by decide +kernel
theorem dX8_storeOf_130 : decode cX8_storeOf 130 = .ok (.iload_n 0, 1) := by decide +kernel
theorem dX8_storeOf_131 : decode cX8_storeOf 131 = .ok (.sipush 337, 3) := by decide +kernel
theorem dX8_storeOf_134 : decode cX8_storeOf 134 = .ok (.if_icmp .ne 8, 3) := by decide +kernel
theorem dX8_storeOf_137 : decode cX8_storeOf 137 = .ok (.bipush 7, 2) := by decide +kernel
theorem dX8_storeOf_139 : decode cX8_storeOf 139 = .ok (.goto 5, 3) := by decide +kernel
theorem dX8_storeOf_142 : decode cX8_storeOf 142 = .ok (.bipush (-2), 2) := by decide +kernel
theorem dX8_storeOf_144 : decode cX8_storeOf 144 = .ok (.ireturn, 1) := by decide +kernel
theorem dX8_wants_0 : decode cX8_wants 0 = .ok (.iload_n 0, 1) := by decide +kernel
theorem dX8_wants_1 : decode cX8_wants 1 = .ok (.iconst 4, 1) := by decide +kernel
theorem dX8_wants_2 : decode cX8_wants 2 = .ok (.if_icmp .eq 15, 3) := by decide +kernel
theorem dX8_wants_5 : decode cX8_wants 5 = .ok (.iload_n 0, 1) := by decide +kernel
theorem dX8_wants_6 : decode cX8_wants 6 = .ok (.bipush 12, 2) := by decide +kernel
theorem dX8_wants_8 : decode cX8_wants 8 = .ok (.if_icmp .eq 9, 3) := by decide +kernel
theorem dX8_wants_11 : decode cX8_wants 11 = .ok (.iload_n 0, 1) := by decide +kernel
theorem dX8_wants_12 : decode cX8_wants 12 = .ok (.iconst 4, 1) := by decide +kernel
theorem dX8_wants_13 : decode cX8_wants 13 = .ok (.irem, 1) := by decide +kernel
theorem dX8_wants_14 : decode cX8_wants 14 = .ok (.ifCond .ne 7, 3) := by decide +kernel
theorem dX8_wants_17 : decode cX8_wants 17 = .ok (.iconst 0, 1) := by decide +kernel
theorem dX8_wants_18 : decode cX8_wants 18 = .ok (.goto 17, 3) := by decide +kernel
theorem dX8_wants_21 : decode cX8_wants 21 = .ok (.iload_n 0, 1) := by decide +kernel
theorem dX8_wants_22 : decode cX8_wants 22 = .ok (.iconst 4, 1) := by decide +kernel
theorem dX8_wants_23 : decode cX8_wants 23 = .ok (.irem, 1) := by decide +kernel
theorem dX8_wants_24 : decode cX8_wants 24 = .ok (.iconst 3, 1) := by decide +kernel
theorem dX8_wants_25 : decode cX8_wants 25 = .ok (.if_icmp .ne 7, 3) := by decide +kernel
theorem dX8_wants_28 : decode cX8_wants 28 = .ok (.iconst 4, 1) := by decide +kernel
theorem dX8_wants_29 : decode cX8_wants 29 = .ok (.goto 6, 3) := by decide +kernel
theorem dX8_wants_32 : decode cX8_wants 32 = .ok (.iload_n 0, 1) := by decide +kernel
theorem dX8_wants_33 : decode cX8_wants 33 = .ok (.iconst 4, 1) := by decide +kernel
theorem dX8_wants_34 : decode cX8_wants 34 = .ok (.irem, 1) := by decide +kernel
theorem dX8_wants_35 : decode cX8_wants 35 = .ok (.ireturn, 1) := by decide +kernel
theorem dX8_numberAt_0 : decode cX8_numberAt 0 = .ok (.iconst 0, 1) := by decide +kernel
theorem dX8_numberAt_1 : decode cX8_numberAt 1 = .ok (.istore_n 3, 1) := by decide +kernel
theorem dX8_numberAt_2 : decode cX8_numberAt 2 = .ok (.iconst 0, 1) := by decide +kernel
theorem dX8_numberAt_3 : decode cX8_numberAt 3 = .ok (.istore 4, 2) := by decide +kernel
theorem dX8_numberAt_5 : decode cX8_numberAt 5 = .ok (.iload 4, 2) := by decide +kernel
theorem dX8_numberAt_7 : decode cX8_numberAt 7 = .ok (.iload_n 2, 1) := by decide +kernel
theorem dX8_numberAt_8 : decode cX8_numberAt 8 = .ok (.if_icmp .ge 24, 3) := by decide +kernel
theorem dX8_numberAt_11 : decode cX8_numberAt 11 = .ok (.iload_n 3, 1) := by decide +kernel
theorem dX8_numberAt_12 : decode cX8_numberAt 12 = .ok (.bipush 8, 2) := by decide +kernel
theorem dX8_numberAt_14 : decode cX8_numberAt 14 = .ok (.ishl, 1) := by decide +kernel
theorem dX8_numberAt_15 : decode cX8_numberAt 15 = .ok (.aload_n 0, 1) := by decide +kernel
theorem dX8_numberAt_16 : decode cX8_numberAt 16 = .ok (.getfield 7, 3) := by decide +kernel
theorem dX8_numberAt_19 : decode cX8_numberAt 19 = .ok (.iload_n 1, 1) := by decide +kernel
theorem dX8_numberAt_20 : decode cX8_numberAt 20 = .ok (.iload 4, 2) := by decide +kernel
theorem dX8_numberAt_22 : decode cX8_numberAt 22 = .ok (.iadd, 1) := by decide +kernel
theorem dX8_numberAt_23 : decode cX8_numberAt 23 = .ok (.iaload, 1) := by decide +kernel
theorem dX8_numberAt_24 : decode cX8_numberAt 24 = .ok (.ior, 1) := by decide +kernel
theorem dX8_numberAt_25 : decode cX8_numberAt 25 = .ok (.istore_n 3, 1) := by decide +kernel
theorem dX8_numberAt_26 : decode cX8_numberAt 26 = .ok (.iinc 4 1, 3) := by decide +kernel
theorem dX8_numberAt_29 : decode cX8_numberAt 29 = .ok (.goto (-24), 3) := by decide +kernel
theorem dX8_numberAt_32 : decode cX8_numberAt 32 = .ok (.iload_n 3, 1) := by decide +kernel
theorem dX8_numberAt_33 : decode cX8_numberAt 33 = .ok (.ireturn, 1) := by decide +kernel
theorem dX8_takeApart_0 : decode cX8_takeApart 0 = .ok (.iload_n 1, 1) := by decide +kernel
theorem dX8_takeApart_1 : decode cX8_takeApart 1 = .ok (.ifCond .lt 10, 3) := by decide +kernel
theorem dX8_takeApart_4 : decode cX8_takeApart 4 = .ok (.iload_n 1, 1) := by decide +kernel
theorem dX8_takeApart_5 : decode cX8_takeApart 5 = .ok (.sipush 1023, 3) := by decide +kernel
theorem dX8_takeApart_8 : decode cX8_takeApart 8 = .ok (.if_icmp .le 5, 3) := by decide +kernel
theorem dX8_takeApart_11 : decode cX8_takeApart 11 = .ok (.iconst 1, 1) := by decide +kernel
theorem dX8_takeApart_12 : decode cX8_takeApart 12 = .ok (.ireturn, 1) := by decide +kernel
theorem dX8_takeApart_13 : decode cX8_takeApart 13 = .ok (.aload_n 0, 1) := by decide +kernel
theorem dX8_takeApart_14 : decode cX8_takeApart 14 = .ok (.getfield 7, 3) := by decide +kernel
theorem dX8_takeApart_17 : decode cX8_takeApart 17 = .ok (.iload_n 1, 1) := by decide +kernel
theorem dX8_takeApart_18 : decode cX8_takeApart 18 = .ok (.iaload, 1) := by decide +kernel
theorem dX8_takeApart_19 : decode cX8_takeApart 19 = .ok (.istore_n 2, 1) := by decide +kernel
theorem dX8_takeApart_20 : decode cX8_takeApart 20 = .ok (.iload_n 2, 1) := by decide +kernel
theorem dX8_takeApart_21 : decode cX8_takeApart 21 = .ok (.sipush 128, 3) := by decide +kernel
theorem dX8_takeApart_24 : decode cX8_takeApart 24 = .ok (.if_icmp .ge 7, 3) := by decide +kernel
theorem dX8_takeApart_27 : decode cX8_takeApart 27 = .ok (.iconst 1, 1) := by decide +kernel
theorem dX8_takeApart_28 : decode cX8_takeApart 28 = .ok (.goto 15, 3) := by decide +kernel
theorem dX8_takeApart_31 : decode cX8_takeApart 31 = .ok (.iload_n 2, 1) := by decide +kernel
theorem dX8_takeApart_32 : decode cX8_takeApart 32 = .ok (.sipush 192, 3) := by decide +kernel
theorem dX8_takeApart_35 : decode cX8_takeApart 35 = .ok (.if_icmp .ge 7, 3) := by decide +kernel
theorem dX8_takeApart_38 : decode cX8_takeApart 38 = .ok (.iconst 2, 1) := by decide +kernel
theorem dX8_takeApart_39 : decode cX8_takeApart 39 = .ok (.goto 4, 3) := by decide +kernel
theorem dX8_takeApart_42 : decode cX8_takeApart 42 = .ok (.iconst 4, 1) := by decide +kernel
theorem dX8_takeApart_43 : decode cX8_takeApart 43 = .ok (.istore_n 3, 1) := by decide +kernel
theorem dX8_takeApart_44 : decode cX8_takeApart 44 = .ok (.iload_n 1, 1) := by decide +kernel
theorem dX8_takeApart_45 : decode cX8_takeApart 45 = .ok (.iload_n 3, 1) := by decide +kernel
theorem dX8_takeApart_46 : decode cX8_takeApart 46 = .ok (.iadd, 1) := by decide +kernel
theorem dX8_takeApart_47 : decode cX8_takeApart 47 = .ok (.sipush 1024, 3) := by decide +kernel
theorem dX8_takeApart_50 : decode cX8_takeApart 50 = .ok (.if_icmp .le 5, 3) := by decide +kernel
theorem dX8_takeApart_53 : decode cX8_takeApart 53 = .ok (.iconst 1, 1) := by decide +kernel
theorem dX8_takeApart_54 : decode cX8_takeApart 54 = .ok (.ireturn, 1) := by decide +kernel
theorem dX8_takeApart_55 : decode cX8_takeApart 55 = .ok (.aload_n 0, 1) := by decide +kernel
theorem dX8_takeApart_56 : decode cX8_takeApart 56 = .ok (.iload_n 3, 1) := by decide +kernel
theorem dX8_takeApart_57 : decode cX8_takeApart 57 = .ok (.iconst 1, 1) := by decide +kernel
theorem dX8_takeApart_58 : decode cX8_takeApart 58 = .ok (.if_icmp .ne 7, 3) := by decide +kernel
theorem dX8_takeApart_61 : decode cX8_takeApart 61 = .ok (.iload_n 2, 1) := by decide +kernel
theorem dX8_takeApart_62 : decode cX8_takeApart 62 = .ok (.goto 30, 3) := by decide +kernel
theorem dX8_takeApart_65 : decode cX8_takeApart 65 = .ok (.iload_n 3, 1) := by decide +kernel
theorem dX8_takeApart_66 : decode cX8_takeApart 66 = .ok (.iconst 2, 1) := by decide +kernel
theorem dX8_takeApart_67 : decode cX8_takeApart 67 = .ok (.if_icmp .ne 16, 3) := by decide +kernel
theorem dX8_takeApart_70 : decode cX8_takeApart 70 = .ok (.aload_n 0, 1) := by decide +kernel
theorem dX8_takeApart_71 : decode cX8_takeApart 71 = .ok (.iload_n 1, 1) := by decide +kernel
theorem dX8_takeApart_72 : decode cX8_takeApart 72 = .ok (.iconst 2, 1) := by decide +kernel
theorem dX8_takeApart_73 : decode cX8_takeApart 73 = .ok (.invokevirtual 62, 3) := by decide +kernel
theorem dX8_takeApart_76 : decode cX8_takeApart 76 = .ok (.sipush 16383, 3) := by decide +kernel
theorem dX8_takeApart_79 : decode cX8_takeApart 79 = .ok (.iand, 1) := by decide +kernel
theorem dX8_takeApart_80 : decode cX8_takeApart 80 = .ok (.goto 12, 3) := by decide +kernel
theorem dX8_takeApart_83 : decode cX8_takeApart 83 = .ok (.aload_n 0, 1) := by decide +kernel
theorem dX8_takeApart_84 : decode cX8_takeApart 84 = .ok (.iload_n 1, 1) := by decide +kernel
theorem dX8_takeApart_85 : decode cX8_takeApart 85 = .ok (.iconst 4, 1) := by decide +kernel
theorem dX8_takeApart_86 : decode cX8_takeApart 86 = .ok (.invokevirtual 62, 3) := by decide +kernel
theorem dX8_takeApart_89 : decode cX8_takeApart 89 = .ok (.ldc 66, 2) := by decide +kernel
theorem dX8_takeApart_91 : decode cX8_takeApart 91 = .ok (.iand, 1) := by decide +kernel
theorem dX8_takeApart_92 : decode cX8_takeApart 92 = .ok (.putfield 67, 3) := by decide +kernel
theorem dX8_takeApart_95 : decode cX8_takeApart 95 = .ok (.aload_n 0, 1) := by decide +kernel
theorem dX8_takeApart_96 : decode cX8_takeApart 96 = .ok (.aload_n 0, 1) := by decide +kernel
theorem dX8_takeApart_97 : decode cX8_takeApart 97 = .ok (.getfield 67, 3) := by decide +kernel
theorem dX8_takeApart_100 : decode cX8_takeApart 100 = .ok (.invokestatic 70, 3) := by decide +kernel
theorem dX8_takeApart_103 : decode cX8_takeApart 103 = .ok (.putfield 74, 3) := by decide +kernel
theorem dX8_takeApart_106 : decode cX8_takeApart 106 = .ok (.aload_n 0, 1) := by decide +kernel
theorem dX8_takeApart_107 : decode cX8_takeApart 107 = .ok (.getfield 74, 3) := by decide +kernel
theorem dX8_takeApart_110 : decode cX8_takeApart 110 = .ok (.ifCond .ge 5, 3) := by decide +kernel
theorem dX8_takeApart_113 : decode cX8_takeApart 113 = .ok (.iconst 3, 1) := by decide +kernel
theorem dX8_takeApart_114 : decode cX8_takeApart 114 = .ok (.ireturn, 1) := by decide +kernel
theorem dX8_takeApart_115 : decode cX8_takeApart 115 = .ok (.iload_n 1, 1) := by decide +kernel
theorem dX8_takeApart_116 : decode cX8_takeApart 116 = .ok (.iload_n 3, 1) := by decide +kernel
theorem dX8_takeApart_117 : decode cX8_takeApart 117 = .ok (.iadd, 1) := by decide +kernel
theorem dX8_takeApart_118 : decode cX8_takeApart 118 = .ok (.istore 4, 2) := by decide +kernel
theorem dX8_takeApart_120 : decode cX8_takeApart 120 = .ok (.aload_n 0, 1) := by decide +kernel
theorem dX8_takeApart_121 : decode cX8_takeApart 121 = .ok (.getfield 74, 3) := by decide +kernel
theorem dX8_takeApart_124 : decode cX8_takeApart 124 = .ok (.iconst 1, 1) := by decide +kernel
theorem dX8_takeApart_125 : decode cX8_takeApart 125 = .ok (.iadd, 1) := by decide +kernel
theorem dX8_takeApart_126 : decode cX8_takeApart 126 = .ok (.iconst 2, 1) := by decide +kernel
theorem dX8_takeApart_127 : decode cX8_takeApart 127 = .ok (.idiv, 1) := by decide +kernel
theorem dX8_takeApart_128 : decode cX8_takeApart 128 = .ok (.istore 5, 2) := by decide +kernel
theorem dX8_takeApart_130 : decode cX8_takeApart 130 = .ok (.iload 4, 2) := by decide +kernel
theorem dX8_takeApart_132 : decode cX8_takeApart 132 = .ok (.iload 5, 2) := by decide +kernel
theorem dX8_takeApart_134 : decode cX8_takeApart 134 = .ok (.iadd, 1) := by decide +kernel
theorem dX8_takeApart_135 : decode cX8_takeApart 135 = .ok (.sipush 1024, 3) := by decide +kernel
theorem dX8_takeApart_138 : decode cX8_takeApart 138 = .ok (.if_icmp .le 5, 3) := by decide +kernel
theorem dX8_takeApart_141 : decode cX8_takeApart 141 = .ok (.iconst 1, 1) := by decide +kernel
theorem dX8_takeApart_142 : decode cX8_takeApart 142 = .ok (.ireturn, 1) := by decide +kernel
theorem dX8_takeApart_143 : decode cX8_takeApart 143 = .ok (.iload 4, 2) := by decide +kernel
theorem dX8_takeApart_145 : decode cX8_takeApart 145 = .ok (.iload 5, 2) := by decide +kernel
theorem dX8_takeApart_147 : decode cX8_takeApart 147 = .ok (.iadd, 1) := by decide +kernel
theorem dX8_takeApart_148 : decode cX8_takeApart 148 = .ok (.istore 6, 2) := by decide +kernel
theorem dX8_takeApart_150 : decode cX8_takeApart 150 = .ok (.iconst 0, 1) := by decide +kernel
theorem dX8_takeApart_151 : decode cX8_takeApart 151 = .ok (.istore 7, 2) := by decide +kernel
theorem dX8_takeApart_153 : decode cX8_takeApart 153 = .ok (.iload 7, 2) := by decide +kernel
theorem dX8_takeApart_155 : decode cX8_takeApart 155 = .ok (.aload_n 0, 1) := by decide +kernel
theorem dX8_takeApart_156 : decode cX8_takeApart 156 = .ok (.getfield 74, 3) := by decide +kernel
theorem dX8_takeApart_159 : decode cX8_takeApart 159 = .ok (.if_icmp .ge 53, 3) := by decide +kernel
theorem dX8_takeApart_162 : decode cX8_takeApart 162 = .ok (.aload_n 0, 1) := by decide +kernel
theorem dX8_takeApart_163 : decode cX8_takeApart 163 = .ok (.getfield 26, 3) := by decide +kernel
theorem dX8_takeApart_166 : decode cX8_takeApart 166 = .ok (.iload 7, 2) := by decide +kernel
theorem dX8_takeApart_168 : decode cX8_takeApart 168 = .ok (.aload_n 0, 1) := by decide +kernel
theorem dX8_takeApart_169 : decode cX8_takeApart 169 = .ok (.getfield 7, 3) := by decide +kernel
theorem dX8_takeApart_172 : decode cX8_takeApart 172 = .ok (.iload 4, 2) := by decide +kernel
theorem dX8_takeApart_174 : decode cX8_takeApart 174 = .ok (.iload 7, 2) := by decide +kernel
theorem dX8_takeApart_176 : decode cX8_takeApart 176 = .ok (.iconst 2, 1) := by decide +kernel
theorem dX8_takeApart_177 : decode cX8_takeApart 177 = .ok (.idiv, 1) := by decide +kernel
theorem dX8_takeApart_178 : decode cX8_takeApart 178 = .ok (.iadd, 1) := by decide +kernel
theorem dX8_takeApart_179 : decode cX8_takeApart 179 = .ok (.iaload, 1) := by decide +kernel
theorem dX8_takeApart_180 : decode cX8_takeApart 180 = .ok (.iconst 4, 1) := by decide +kernel
theorem dX8_takeApart_181 : decode cX8_takeApart 181 = .ok (.iload 7, 2) := by decide +kernel
theorem dX8_takeApart_183 : decode cX8_takeApart 183 = .ok (.iconst 2, 1) := by decide +kernel
theorem dX8_takeApart_184 : decode cX8_takeApart 184 = .ok (.irem, 1) := by decide +kernel
theorem dX8_takeApart_185 : decode cX8_takeApart 185 = .ok (.imul, 1) := by decide +kernel
theorem dX8_takeApart_186 : decode cX8_takeApart 186 = .ok (.ishr, 1) := by decide +kernel
theorem dX8_takeApart_187 : decode cX8_takeApart 187 = .ok (.bipush 15, 2) := by decide +kernel
theorem dX8_takeApart_189 : decode cX8_takeApart 189 = .ok (.iand, 1) := by decide +kernel
theorem dX8_takeApart_190 : decode cX8_takeApart 190 = .ok (.iastore, 1) := by decide +kernel
theorem dX8_takeApart_191 : decode cX8_takeApart 191 = .ok (.iload 6, 2) := by decide +kernel
theorem dX8_takeApart_193 : decode cX8_takeApart 193 = .ok (.aload_n 0, 1) := by decide +kernel
theorem dX8_takeApart_194 : decode cX8_takeApart 194 = .ok (.getfield 26, 3) := by decide +kernel
theorem dX8_takeApart_197 : decode cX8_takeApart 197 = .ok (.iload 7, 2) := by decide +kernel
theorem dX8_takeApart_199 : decode cX8_takeApart 199 = .ok (.iaload, 1) := by decide +kernel
theorem dX8_takeApart_200 : decode cX8_takeApart 200 = .ok (.invokestatic 77, 3) := by decide +kernel
theorem dX8_takeApart_203 : decode cX8_takeApart 203 = .ok (.iadd, 1) := by decide +kernel
theorem dX8_takeApart_204 : decode cX8_takeApart 204 = .ok (.istore 6, 2) := by decide +kernel
theorem dX8_takeApart_206 : decode cX8_takeApart 206 = .ok (.iinc 7 1, 3) := by decide +kernel
theorem dX8_takeApart_209 : decode cX8_takeApart 209 = .ok (.goto (-56), 3) := by decide +kernel
theorem dX8_takeApart_212 : decode cX8_takeApart 212 = .ok (.iload 6, 2) := by decide +kernel
theorem dX8_takeApart_214 : decode cX8_takeApart 214 = .ok (.sipush 1024, 3) := by decide +kernel
theorem dX8_takeApart_217 : decode cX8_takeApart 217 = .ok (.if_icmp .le 5, 3) := by decide +kernel
theorem dX8_takeApart_220 : decode cX8_takeApart 220 = .ok (.iconst 1, 1) := by decide +kernel
theorem dX8_takeApart_221 : decode cX8_takeApart 221 = .ok (.ireturn, 1) := by decide +kernel
theorem dX8_takeApart_222 : decode cX8_takeApart 222 = .ok (.iload 4, 2) := by decide +kernel
theorem dX8_takeApart_224 : decode cX8_takeApart 224 = .ok (.iload 5, 2) := by decide +kernel
theorem dX8_takeApart_226 : decode cX8_takeApart 226 = .ok (.iadd, 1) := by decide +kernel
theorem dX8_takeApart_227 : decode cX8_takeApart 227 = .ok (.istore 4, 2) := by decide +kernel
theorem dX8_takeApart_229 : decode cX8_takeApart 229 = .ok (.iconst 0, 1) := by decide +kernel
theorem dX8_takeApart_230 : decode cX8_takeApart 230 = .ok (.istore 7, 2) := by decide +kernel
theorem dX8_takeApart_232 : decode cX8_takeApart 232 = .ok (.iload 7, 2) := by decide +kernel
theorem dX8_takeApart_234 : decode cX8_takeApart 234 = .ok (.aload_n 0, 1) := by decide +kernel
theorem dX8_takeApart_235 : decode cX8_takeApart 235 = .ok (.getfield 74, 3) := by decide +kernel
theorem dX8_takeApart_238 : decode cX8_takeApart 238 = .ok (.if_icmp .ge 99, 3) := by decide +kernel
theorem dX8_takeApart_241 : decode cX8_takeApart 241 = .ok (.aload_n 0, 1) := by decide +kernel
theorem dX8_takeApart_242 : decode cX8_takeApart 242 = .ok (.getfield 26, 3) := by decide +kernel
theorem dX8_takeApart_245 : decode cX8_takeApart 245 = .ok (.iload 7, 2) := by decide +kernel
theorem dX8_takeApart_247 : decode cX8_takeApart 247 = .ok (.iaload, 1) := by decide +kernel
theorem dX8_takeApart_248 : decode cX8_takeApart 248 = .ok (.invokestatic 77, 3) := by decide +kernel
theorem dX8_takeApart_251 : decode cX8_takeApart 251 = .ok (.istore 8, 2) := by decide +kernel
theorem dX8_takeApart_253 : decode cX8_takeApart 253 = .ok (.aload_n 0, 1) := by decide +kernel
theorem dX8_takeApart_254 : decode cX8_takeApart 254 = .ok (.iload 4, 2) := by decide +kernel
theorem dX8_takeApart_256 : decode cX8_takeApart 256 = .ok (.iload 8, 2) := by decide +kernel
theorem dX8_takeApart_258 : decode cX8_takeApart 258 = .ok (.invokevirtual 62, 3) := by decide +kernel
theorem dX8_takeApart_261 : decode cX8_takeApart 261 = .ok (.istore 9, 2) := by decide +kernel
theorem dX8_takeApart_263 : decode cX8_takeApart 263 = .ok (.aload_n 0, 1) := by decide +kernel
theorem dX8_takeApart_264 : decode cX8_takeApart 264 = .ok (.getfield 26, 3) := by decide +kernel
theorem dX8_takeApart_267 : decode cX8_takeApart 267 = .ok (.iload 7, 2) := by decide +kernel
theorem dX8_takeApart_269 : decode cX8_takeApart 269 = .ok (.iaload, 1) := by decide +kernel
theorem dX8_takeApart_270 : decode cX8_takeApart 270 = .ok (.iconst 4, 1) := by decide +kernel
theorem dX8_takeApart_271 : decode cX8_takeApart 271 = .ok (.if_icmp .ge 7, 3) := by decide +kernel
theorem dX8_takeApart_274 : decode cX8_takeApart 274 = .ok (.iconst 1, 1) := by decide +kernel
theorem dX8_takeApart_275 : decode cX8_takeApart 275 = .ok (.goto 4, 3) := by decide +kernel
theorem dX8_takeApart_278 : decode cX8_takeApart 278 = .ok (.iconst 0, 1) := by decide +kernel
theorem dX8_takeApart_279 : decode cX8_takeApart 279 = .ok (.istore 10, 2) := by decide +kernel
theorem dX8_takeApart_281 : decode cX8_takeApart 281 = .ok (.aload_n 0, 1) := by decide +kernel
theorem dX8_takeApart_282 : decode cX8_takeApart 282 = .ok (.getfield 29, 3) := by decide +kernel
theorem dX8_takeApart_285 : decode cX8_takeApart 285 = .ok (.iload 7, 2) := by decide +kernel
theorem dX8_takeApart_287 : decode cX8_takeApart 287 = .ok (.iload 10, 2) := by decide +kernel
theorem dX8_takeApart_289 : decode cX8_takeApart 289 = .ok (.ifCond .eq 15, 3) := by decide +kernel
theorem dX8_takeApart_292 : decode cX8_takeApart 292 = .ok (.iload 8, 2) := by decide +kernel
theorem dX8_takeApart_294 : decode cX8_takeApart 294 = .ok (.iconst 1, 1) := by decide +kernel
theorem dX8_takeApart_295 : decode cX8_takeApart 295 = .ok (.if_icmp .ne 9, 3) := by decide +kernel
theorem dX8_takeApart_298 : decode cX8_takeApart 298 = .ok (.iload 9, 2) := by decide +kernel
theorem dX8_takeApart_300 : decode cX8_takeApart 300 = .ok (.i2b, 1) := by decide +kernel
theorem dX8_takeApart_301 : decode cX8_takeApart 301 = .ok (.goto 22, 3) := by decide +kernel
theorem dX8_takeApart_304 : decode cX8_takeApart 304 = .ok (.iload 10, 2) := by decide +kernel
theorem dX8_takeApart_306 : decode cX8_takeApart 306 = .ok (.ifCond .eq 15, 3) := by decide +kernel
theorem dX8_takeApart_309 : decode cX8_takeApart 309 = .ok (.iload 8, 2) := by decide +kernel
theorem dX8_takeApart_311 : decode cX8_takeApart 311 = .ok (.iconst 2, 1) := by decide +kernel
theorem dX8_takeApart_312 : decode cX8_takeApart 312 = .ok (.if_icmp .ne 9, 3) := by decide +kernel
theorem dX8_takeApart_315 : decode cX8_takeApart 315 = .ok (.iload 9, 2) := by decide +kernel
theorem dX8_takeApart_317 : decode cX8_takeApart 317 = .ok (.i2s, 1) := by decide +kernel
theorem dX8_takeApart_318 : decode cX8_takeApart 318 = .ok (.goto 5, 3) := by decide +kernel
theorem dX8_takeApart_321 : decode cX8_takeApart 321 = .ok (.iload 9, 2) := by decide +kernel
theorem dX8_takeApart_323 : decode cX8_takeApart 323 = .ok (.iastore, 1) := by decide +kernel
theorem dX8_takeApart_324 : decode cX8_takeApart 324 = .ok (.iload 4, 2) := by decide +kernel
theorem dX8_takeApart_326 : decode cX8_takeApart 326 = .ok (.iload 8, 2) := by decide +kernel
theorem dX8_takeApart_328 : decode cX8_takeApart 328 = .ok (.iadd, 1) := by decide +kernel
theorem dX8_takeApart_329 : decode cX8_takeApart 329 = .ok (.istore 4, 2) := by decide +kernel
theorem dX8_takeApart_331 : decode cX8_takeApart 331 = .ok (.iinc 7 1, 3) := by decide +kernel
theorem dX8_takeApart_334 : decode cX8_takeApart 334 = .ok (.goto (-102), 3) := by decide +kernel
theorem dX8_takeApart_337 : decode cX8_takeApart 337 = .ok (.aload_n 0, 1) := by decide +kernel
theorem dX8_takeApart_338 : decode cX8_takeApart 338 = .ok (.getfield 67, 3) := by decide +kernel
theorem dX8_takeApart_341 : decode cX8_takeApart 341 = .ok (.invokestatic 80, 3) := by decide +kernel
theorem dX8_takeApart_344 : decode cX8_takeApart 344 = .ok (.istore 7, 2) := by decide +kernel
theorem dX8_takeApart_346 : decode cX8_takeApart 346 = .ok (.iconst 0, 1) := by decide +kernel
theorem dX8_takeApart_347 : decode cX8_takeApart 347 = .ok (.istore 8, 2) := by decide +kernel
theorem dX8_takeApart_349 : decode cX8_takeApart 349 = .ok (.iload 8, 2) := by decide +kernel
theorem dX8_takeApart_351 : decode cX8_takeApart 351 = .ok (.aload_n 0, 1) := by decide +kernel
theorem dX8_takeApart_352 : decode cX8_takeApart 352 = .ok (.getfield 74, 3) := by decide +kernel
theorem dX8_takeApart_355 : decode cX8_takeApart 355 = .ok (.if_icmp .ge 63, 3) := by decide +kernel
theorem dX8_takeApart_358 : decode cX8_takeApart 358 = .ok (.aload_n 0, 1) := by decide +kernel
theorem dX8_takeApart_359 : decode cX8_takeApart 359 = .ok (.getfield 26, 3) := by decide +kernel
theorem dX8_takeApart_362 : decode cX8_takeApart 362 = .ok (.iload 8, 2) := by decide +kernel
theorem dX8_takeApart_364 : decode cX8_takeApart 364 = .ok (.iaload, 1) := by decide +kernel
theorem dX8_takeApart_365 : decode cX8_takeApart 365 = .ok (.iconst 4, 1) := by decide +kernel
theorem dX8_takeApart_366 : decode cX8_takeApart 366 = .ok (.if_icmp .eq 44, 3) := by decide +kernel
theorem dX8_takeApart_369 : decode cX8_takeApart 369 = .ok (.aload_n 0, 1) := by decide +kernel
theorem dX8_takeApart_370 : decode cX8_takeApart 370 = .ok (.getfield 26, 3) := by decide +kernel
theorem dX8_takeApart_373 : decode cX8_takeApart 373 = .ok (.iload 8, 2) := by decide +kernel
theorem dX8_takeApart_375 : decode cX8_takeApart 375 = .ok (.iaload, 1) := by decide +kernel
theorem dX8_takeApart_376 : decode cX8_takeApart 376 = .ok (.bipush 12, 2) := by decide +kernel
theorem dX8_takeApart_378 : decode cX8_takeApart 378 = .ok (.if_icmp .eq 32, 3) := by decide +kernel
theorem dX8_takeApart_381 : decode cX8_takeApart 381 = .ok (.iload 8, 2) := by decide +kernel
theorem dX8_takeApart_383 : decode cX8_takeApart 383 = .ok (.iload 7, 2) := by decide +kernel
theorem dX8_takeApart_385 : decode cX8_takeApart 385 = .ok (.if_icmp .ne 27, 3) := by decide +kernel
theorem dX8_takeApart_388 : decode cX8_takeApart 388 = .ok (.aload_n 0, 1) := by decide +kernel
theorem dX8_takeApart_389 : decode cX8_takeApart 389 = .ok (.getfield 26, 3) := by decide +kernel
theorem dX8_takeApart_392 : decode cX8_takeApart 392 = .ok (.iload 8, 2) := by decide +kernel
theorem dX8_takeApart_394 : decode cX8_takeApart 394 = .ok (.iaload, 1) := by decide +kernel
theorem dX8_takeApart_395 : decode cX8_takeApart 395 = .ok (.iconst 1, 1) := by decide +kernel
theorem dX8_takeApart_396 : decode cX8_takeApart 396 = .ok (.if_icmp .lt 16, 3) := by decide +kernel
theorem dX8_takeApart_399 : decode cX8_takeApart 399 = .ok (.aload_n 0, 1) := by decide +kernel
theorem dX8_takeApart_400 : decode cX8_takeApart 400 = .ok (.getfield 26, 3) := by decide +kernel
theorem dX8_takeApart_403 : decode cX8_takeApart 403 = .ok (.iload 8, 2) := by decide +kernel
theorem dX8_takeApart_405 : decode cX8_takeApart 405 = .ok (.iaload, 1) := by decide +kernel
theorem dX8_takeApart_406 : decode cX8_takeApart 406 = .ok (.iconst 3, 1) := by decide +kernel
theorem dX8_takeApart_407 : decode cX8_takeApart 407 = .ok (.if_icmp .gt 5, 3) := by decide +kernel
theorem dX8_takeApart_410 : decode cX8_takeApart 410 = .ok (.iconst 2, 1) := by decide +kernel
theorem dX8_takeApart_411 : decode cX8_takeApart 411 = .ok (.ireturn, 1) := by decide +kernel
theorem dX8_takeApart_412 : decode cX8_takeApart 412 = .ok (.iinc 8 1, 3) := by decide +kernel
theorem dX8_takeApart_415 : decode cX8_takeApart 415 = .ok (.goto (-66), 3) := by decide +kernel
theorem dX8_takeApart_418 : decode cX8_takeApart 418 = .ok (.aload_n 0, 1) := by decide +kernel
theorem dX8_takeApart_419 : decode cX8_takeApart 419 = .ok (.iload 4, 2) := by decide +kernel
theorem dX8_takeApart_421 : decode cX8_takeApart 421 = .ok (.putfield 83, 3) := by decide +kernel
theorem dX8_takeApart_424 : decode cX8_takeApart 424 = .ok (.iconst 0, 1) := by decide +kernel
theorem dX8_takeApart_425 : decode cX8_takeApart 425 = .ok (.ireturn, 1) := by decide +kernel
theorem dX8_read_0 : decode cX8_read 0 = .ok (.aload_n 0, 1) := by decide +kernel
theorem dX8_read_1 : decode cX8_read 1 = .ok (.iload_n 1, 1) := by decide +kernel
theorem dX8_read_2 : decode cX8_read 2 = .ok (.invokevirtual 86, 3) := by decide +kernel
theorem dX8_read_5 : decode cX8_read 5 = .ok (.istore_n 2, 1) := by decide +kernel
theorem dX8_read_6 : decode cX8_read 6 = .ok (.iload_n 2, 1) := by decide +kernel
theorem dX8_read_7 : decode cX8_read 7 = .ok (.ifCond .eq 8, 3) := by decide +kernel
theorem dX8_read_10 : decode cX8_read 10 = .ok (.bipush (-10), 2) := by decide +kernel
theorem dX8_read_12 : decode cX8_read 12 = .ok (.iload_n 2, 1) := by decide +kernel
theorem dX8_read_13 : decode cX8_read 13 = .ok (.isub, 1) := by decide +kernel
theorem dX8_read_14 : decode cX8_read 14 = .ok (.ireturn, 1) := by decide +kernel
theorem dX8_read_15 : decode cX8_read 15 = .ok (.aload_n 0, 1) := by decide +kernel
theorem dX8_read_16 : decode cX8_read 16 = .ok (.iconst 1, 1) := by decide +kernel
theorem dX8_read_17 : decode cX8_read 17 = .ok (.putfield 89, 3) := by decide +kernel
theorem dX8_read_20 : decode cX8_read 20 = .ok (.aload_n 0, 1) := by decide +kernel
theorem dX8_read_21 : decode cX8_read 21 = .ok (.aload_n 0, 1) := by decide +kernel
theorem dX8_read_22 : decode cX8_read 22 = .ok (.getfield 67, 3) := by decide +kernel
theorem dX8_read_25 : decode cX8_read 25 = .ok (.putfield 92, 3) := by decide +kernel
theorem dX8_read_28 : decode cX8_read 28 = .ok (.aload_n 0, 1) := by decide +kernel
theorem dX8_read_29 : decode cX8_read 29 = .ok (.aload_n 0, 1) := by decide +kernel
theorem dX8_read_30 : decode cX8_read 30 = .ok (.getfield 74, 3) := by decide +kernel
theorem dX8_read_33 : decode cX8_read 33 = .ok (.putfield 95, 3) := by decide +kernel
theorem dX8_read_36 : decode cX8_read 36 = .ok (.iconst 0, 1) := by decide +kernel
theorem dX8_read_37 : decode cX8_read 37 = .ok (.istore_n 3, 1) := by decide +kernel
theorem dX8_read_38 : decode cX8_read 38 = .ok (.iload_n 3, 1) := by decide +kernel
theorem dX8_read_39 : decode cX8_read 39 = .ok (.aload_n 0, 1) := by decide +kernel
theorem dX8_read_40 : decode cX8_read 40 = .ok (.getfield 74, 3) := by decide +kernel
theorem dX8_read_43 : decode cX8_read 43 = .ok (.if_icmp .ge 33, 3) := by decide +kernel
theorem dX8_read_46 : decode cX8_read 46 = .ok (.aload_n 0, 1) := by decide +kernel
theorem dX8_read_47 : decode cX8_read 47 = .ok (.getfield 32, 3) := by decide +kernel
theorem dX8_read_50 : decode cX8_read 50 = .ok (.iload_n 3, 1) := by decide +kernel
theorem dX8_read_51 : decode cX8_read 51 = .ok (.aload_n 0, 1) := by decide +kernel
theorem dX8_read_52 : decode cX8_read 52 = .ok (.getfield 26, 3) := by decide +kernel
theorem dX8_read_55 : decode cX8_read 55 = .ok (.iload_n 3, 1) := by decide +kernel
theorem dX8_read_56 : decode cX8_read 56 = .ok (.iaload, 1) := by decide +kernel
theorem dX8_read_57 : decode cX8_read 57 = .ok (.iastore, 1) := by decide +kernel
theorem dX8_read_58 : decode cX8_read 58 = .ok (.aload_n 0, 1) := by decide +kernel
theorem dX8_read_59 : decode cX8_read 59 = .ok (.getfield 35, 3) := by decide +kernel
theorem dX8_read_62 : decode cX8_read 62 = .ok (.iload_n 3, 1) := by decide +kernel
theorem dX8_read_63 : decode cX8_read 63 = .ok (.aload_n 0, 1) := by decide +kernel
theorem dX8_read_64 : decode cX8_read 64 = .ok (.getfield 29, 3) := by decide +kernel
theorem dX8_read_67 : decode cX8_read 67 = .ok (.iload_n 3, 1) := by decide +kernel
theorem dX8_read_68 : decode cX8_read 68 = .ok (.iaload, 1) := by decide +kernel
theorem dX8_read_69 : decode cX8_read 69 = .ok (.iastore, 1) := by decide +kernel
theorem dX8_read_70 : decode cX8_read 70 = .ok (.iinc 3 1, 3) := by decide +kernel
theorem dX8_read_73 : decode cX8_read 73 = .ok (.goto (-35), 3) := by decide +kernel
theorem dX8_read_76 : decode cX8_read 76 = .ok (.aload_n 0, 1) := by decide +kernel
theorem dX8_read_77 : decode cX8_read 77 = .ok (.getfield 83, 3) := by decide +kernel
theorem dX8_read_80 : decode cX8_read 80 = .ok (.iload_n 1, 1) := by decide +kernel
theorem dX8_read_81 : decode cX8_read 81 = .ok (.isub, 1) := by decide +kernel
theorem dX8_read_82 : decode cX8_read 82 = .ok (.ireturn, 1) := by decide +kernel
theorem dX8_row_0 : decode cX8_row 0 = .ok (.iload_n 1, 1) := by decide +kernel
theorem dX8_row_1 : decode cX8_row 1 = .ok (.ifCond .lt 14, 3) := by decide +kernel
theorem dX8_row_4 : decode cX8_row 4 = .ok (.iload_n 1, 1) := by decide +kernel
theorem dX8_row_5 : decode cX8_row 5 = .ok (.iconst 1, 1) := by decide +kernel
theorem dX8_row_6 : decode cX8_row 6 = .ok (.if_icmp .le 11, 3) := by decide +kernel
theorem dX8_row_9 : decode cX8_row 9 = .ok (.iload_n 1, 1) := by decide +kernel
theorem dX8_row_10 : decode cX8_row 10 = .ok (.bipush 10, 2) := by decide +kernel
theorem dX8_row_12 : decode cX8_row 12 = .ok (.if_icmp .ge 5, 3) := by decide +kernel
theorem dX8_row_15 : decode cX8_row 15 = .ok (.iconst (-1), 1) := by decide +kernel
theorem dX8_row_16 : decode cX8_row 16 = .ok (.ireturn, 1) := by decide +kernel
theorem dX8_row_17 : decode cX8_row 17 = .ok (.aload_n 0, 1) := by decide +kernel
theorem dX8_row_18 : decode cX8_row 18 = .ok (.getfield 89, 3) := by decide +kernel
theorem dX8_row_21 : decode cX8_row 21 = .ok (.ifCond .ne 6, 3) := by decide +kernel
theorem dX8_row_24 : decode cX8_row 24 = .ok (.bipush (-2), 2) := by decide +kernel
theorem dX8_row_26 : decode cX8_row 26 = .ok (.ireturn, 1) := by decide +kernel
theorem dX8_row_27 : decode cX8_row 27 = .ok (.iload_n 1, 1) := by decide +kernel
theorem dX8_row_28 : decode cX8_row 28 = .ok (.iconst 2, 1) := by decide +kernel
theorem dX8_row_29 : decode cX8_row 29 = .ok (.if_icmp .ge 19, 3) := by decide +kernel
theorem dX8_row_32 : decode cX8_row 32 = .ok (.iload_n 1, 1) := by decide +kernel
theorem dX8_row_33 : decode cX8_row 33 = .ok (.ifCond .ne 10, 3) := by decide +kernel
theorem dX8_row_36 : decode cX8_row 36 = .ok (.aload_n 0, 1) := by decide +kernel
theorem dX8_row_37 : decode cX8_row 37 = .ok (.getfield 92, 3) := by decide +kernel
theorem dX8_row_40 : decode cX8_row 40 = .ok (.goto 7, 3) := by decide +kernel
theorem dX8_row_43 : decode cX8_row 43 = .ok (.aload_n 0, 1) := by decide +kernel
theorem dX8_row_44 : decode cX8_row 44 = .ok (.getfield 95, 3) := by decide +kernel
theorem dX8_row_47 : decode cX8_row 47 = .ok (.ireturn, 1) := by decide +kernel
theorem dX8_row_48 : decode cX8_row 48 = .ok (.iload_n 1, 1) := by decide +kernel
theorem dX8_row_49 : decode cX8_row 49 = .ok (.bipush 20, 2) := by decide +kernel
theorem dX8_row_51 : decode cX8_row 51 = .ok (.if_icmp .ge 10, 3) := by decide +kernel
theorem dX8_row_54 : decode cX8_row 54 = .ok (.iload_n 1, 1) := by decide +kernel
theorem dX8_row_55 : decode cX8_row 55 = .ok (.bipush 10, 2) := by decide +kernel
theorem dX8_row_57 : decode cX8_row 57 = .ok (.isub, 1) := by decide +kernel
theorem dX8_row_58 : decode cX8_row 58 = .ok (.goto 7, 3) := by decide +kernel
theorem dX8_row_61 : decode cX8_row 61 = .ok (.iload_n 1, 1) := by decide +kernel
theorem dX8_row_62 : decode cX8_row 62 = .ok (.bipush 20, 2) := by decide +kernel
theorem dX8_row_64 : decode cX8_row 64 = .ok (.isub, 1) := by decide +kernel
theorem dX8_row_65 : decode cX8_row 65 = .ok (.istore_n 2, 1) := by decide +kernel
theorem dX8_row_66 : decode cX8_row 66 = .ok (.iload_n 2, 1) := by decide +kernel
theorem dX8_row_67 : decode cX8_row 67 = .ok (.aload_n 0, 1) := by decide +kernel
theorem dX8_row_68 : decode cX8_row 68 = .ok (.getfield 95, 3) := by decide +kernel
theorem dX8_row_71 : decode cX8_row 71 = .ok (.if_icmp .lt 8, 3) := by decide +kernel
theorem dX8_row_74 : decode cX8_row 74 = .ok (.bipush (-2), 2) := by decide +kernel
theorem dX8_row_76 : decode cX8_row 76 = .ok (.goto 24, 3) := by decide +kernel
theorem dX8_row_79 : decode cX8_row 79 = .ok (.iload_n 1, 1) := by decide +kernel
theorem dX8_row_80 : decode cX8_row 80 = .ok (.bipush 20, 2) := by decide +kernel
theorem dX8_row_82 : decode cX8_row 82 = .ok (.if_icmp .ge 12, 3) := by decide +kernel
theorem dX8_row_85 : decode cX8_row 85 = .ok (.aload_n 0, 1) := by decide +kernel
theorem dX8_row_86 : decode cX8_row 86 = .ok (.getfield 32, 3) := by decide +kernel
theorem dX8_row_89 : decode cX8_row 89 = .ok (.iload_n 2, 1) := by decide +kernel
theorem dX8_row_90 : decode cX8_row 90 = .ok (.iaload, 1) := by decide +kernel
theorem dX8_row_91 : decode cX8_row 91 = .ok (.goto 9, 3) := by decide +kernel
theorem dX8_row_94 : decode cX8_row 94 = .ok (.aload_n 0, 1) := by decide +kernel
theorem dX8_row_95 : decode cX8_row 95 = .ok (.getfield 35, 3) := by decide +kernel
theorem dX8_row_98 : decode cX8_row 98 = .ok (.iload_n 2, 1) := by decide +kernel
theorem dX8_row_99 : decode cX8_row 99 = .ok (.iaload, 1) := by decide +kernel
theorem dX8_row_100 : decode cX8_row 100 = .ok (.ireturn, 1) := by decide +kernel
theorem dX8_isIn_0 : decode cX8_isIn 0 = .ok (.iload_n 0, 1) := by decide +kernel
theorem dX8_isIn_1 : decode cX8_isIn 1 = .ok (.ifCond .lt 16, 3) := by decide +kernel
theorem dX8_isIn_4 : decode cX8_isIn 4 = .ok (.iload_n 0, 1) := by decide +kernel
theorem dX8_isIn_5 : decode cX8_isIn 5 = .ok (.sipush 1024, 3) := by decide +kernel
theorem dX8_isIn_8 : decode cX8_isIn 8 = .ok (.iload_n 1, 1) := by decide +kernel
theorem dX8_isIn_9 : decode cX8_isIn 9 = .ok (.isub, 1) := by decide +kernel
theorem dX8_isIn_10 : decode cX8_isIn 10 = .ok (.if_icmp .gt 7, 3) := by decide +kernel
theorem dX8_isIn_13 : decode cX8_isIn 13 = .ok (.iconst 1, 1) := by decide +kernel
theorem dX8_isIn_14 : decode cX8_isIn 14 = .ok (.goto 4, 3) := by decide +kernel
theorem dX8_isIn_17 : decode cX8_isIn 17 = .ok (.iconst 0, 1) := by decide +kernel
theorem dX8_isIn_18 : decode cX8_isIn 18 = .ok (.ireturn, 1) := by decide +kernel
theorem dX8_lowest_0 : decode cX8_lowest 0 = .ok (.iload_n 1, 1) := by decide +kernel
theorem dX8_lowest_1 : decode cX8_lowest 1 = .ok (.iconst 4, 1) := by decide +kernel
theorem dX8_lowest_2 : decode cX8_lowest 2 = .ok (.if_icmp .ne 7, 3) := by decide +kernel
theorem dX8_lowest_5 : decode cX8_lowest 5 = .ok (.iload_n 0, 1) := by decide +kernel
theorem dX8_lowest_6 : decode cX8_lowest 6 = .ok (.goto 20, 3) := by decide +kernel
theorem dX8_lowest_9 : decode cX8_lowest 9 = .ok (.iload_n 1, 1) := by decide +kernel
theorem dX8_lowest_10 : decode cX8_lowest 10 = .ok (.iconst 2, 1) := by decide +kernel
theorem dX8_lowest_11 : decode cX8_lowest 11 = .ok (.if_icmp .ne 10, 3) := by decide +kernel
theorem dX8_lowest_14 : decode cX8_lowest 14 = .ok (.iload_n 0, 1) := by decide +kernel
theorem dX8_lowest_15 : decode cX8_lowest 15 = .ok (.ldc 98, 2) := by decide +kernel
theorem dX8_lowest_17 : decode cX8_lowest 17 = .ok (.iand, 1) := by decide +kernel
theorem dX8_lowest_18 : decode cX8_lowest 18 = .ok (.goto 8, 3) := by decide +kernel
theorem dX8_lowest_21 : decode cX8_lowest 21 = .ok (.iload_n 0, 1) := by decide +kernel
theorem dX8_lowest_22 : decode cX8_lowest 22 = .ok (.sipush 255, 3) := by decide +kernel
theorem dX8_lowest_25 : decode cX8_lowest 25 = .ok (.iand, 1) := by decide +kernel
theorem dX8_lowest_26 : decode cX8_lowest 26 = .ok (.ireturn, 1) := by decide +kernel
theorem dX8_localAt_0 : decode cX8_localAt 0 = .ok (.iconst 0, 1) := by decide +kernel
theorem dX8_localAt_1 : decode cX8_localAt 1 = .ok (.istore_n 3, 1) := by decide +kernel
theorem dX8_localAt_2 : decode cX8_localAt 2 = .ok (.iconst 0, 1) := by decide +kernel
theorem dX8_localAt_3 : decode cX8_localAt 3 = .ok (.istore 4, 2) := by decide +kernel
theorem dX8_localAt_5 : decode cX8_localAt 5 = .ok (.iload 4, 2) := by decide +kernel
theorem dX8_localAt_7 : decode cX8_localAt 7 = .ok (.iload_n 2, 1) := by decide +kernel
theorem dX8_localAt_8 : decode cX8_localAt 8 = .ok (.if_icmp .ge 24, 3) := by decide +kernel
theorem dX8_localAt_11 : decode cX8_localAt 11 = .ok (.iload_n 3, 1) := by decide +kernel
theorem dX8_localAt_12 : decode cX8_localAt 12 = .ok (.bipush 8, 2) := by decide +kernel
theorem dX8_localAt_14 : decode cX8_localAt 14 = .ok (.ishl, 1) := by decide +kernel
theorem dX8_localAt_15 : decode cX8_localAt 15 = .ok (.aload_n 0, 1) := by decide +kernel
theorem dX8_localAt_16 : decode cX8_localAt 16 = .ok (.getfield 13, 3) := by decide +kernel
theorem dX8_localAt_19 : decode cX8_localAt 19 = .ok (.iload_n 1, 1) := by decide +kernel
theorem dX8_localAt_20 : decode cX8_localAt 20 = .ok (.iload 4, 2) := by decide +kernel
theorem dX8_localAt_22 : decode cX8_localAt 22 = .ok (.iadd, 1) := by decide +kernel
theorem dX8_localAt_23 : decode cX8_localAt 23 = .ok (.iaload, 1) := by decide +kernel
theorem dX8_localAt_24 : decode cX8_localAt 24 = .ok (.ior, 1) := by decide +kernel
theorem dX8_localAt_25 : decode cX8_localAt 25 = .ok (.istore_n 3, 1) := by decide +kernel
theorem dX8_localAt_26 : decode cX8_localAt 26 = .ok (.iinc 4 1, 3) := by decide +kernel
theorem dX8_localAt_29 : decode cX8_localAt 29 = .ok (.goto (-24), 3) := by decide +kernel
theorem dX8_localAt_32 : decode cX8_localAt 32 = .ok (.iload_n 3, 1) := by decide +kernel
theorem dX8_localAt_33 : decode cX8_localAt 33 = .ok (.ireturn, 1) := by decide +kernel
theorem dX8_load_0 : decode cX8_load 0 = .ok (.aload_n 0, 1) := by decide +kernel
theorem dX8_load_1 : decode cX8_load 1 = .ok (.getfield 26, 3) := by decide +kernel
theorem dX8_load_4 : decode cX8_load 4 = .ok (.iload_n 1, 1) := by decide +kernel
theorem dX8_load_5 : decode cX8_load 5 = .ok (.iaload, 1) := by decide +kernel
theorem dX8_load_6 : decode cX8_load 6 = .ok (.istore_n 3, 1) := by decide +kernel
theorem dX8_load_7 : decode cX8_load 7 = .ok (.aload_n 0, 1) := by decide +kernel
theorem dX8_load_8 : decode cX8_load 8 = .ok (.getfield 29, 3) := by decide +kernel
theorem dX8_load_11 : decode cX8_load 11 = .ok (.iload_n 1, 1) := by decide +kernel
theorem dX8_load_12 : decode cX8_load 12 = .ok (.iaload, 1) := by decide +kernel
theorem dX8_load_13 : decode cX8_load 13 = .ok (.istore 4, 2) := by decide +kernel
theorem dX8_load_15 : decode cX8_load 15 = .ok (.iload_n 3, 1) := by decide +kernel
theorem dX8_load_16 : decode cX8_load 16 = .ok (.iconst 4, 1) := by decide +kernel
theorem dX8_load_17 : decode cX8_load 17 = .ok (.if_icmp .ge 25, 3) := by decide +kernel
theorem dX8_load_20 : decode cX8_load 20 = .ok (.aload_n 0, 1) := by decide +kernel
theorem dX8_load_21 : decode cX8_load 21 = .ok (.getfield 38, 3) := by decide +kernel
theorem dX8_load_24 : decode cX8_load 24 = .ok (.iload_n 1, 1) := by decide +kernel
theorem dX8_load_25 : decode cX8_load 25 = .ok (.iload_n 3, 1) := by decide +kernel
theorem dX8_load_26 : decode cX8_load 26 = .ok (.ifCond .ne 7, 3) := by decide +kernel
theorem dX8_load_29 : decode cX8_load 29 = .ok (.iconst 0, 1) := by decide +kernel
theorem dX8_load_30 : decode cX8_load 30 = .ok (.goto 5, 3) := by decide +kernel
theorem dX8_load_33 : decode cX8_load 33 = .ok (.iload 4, 2) := by decide +kernel
theorem dX8_load_35 : decode cX8_load 35 = .ok (.iload_n 2, 1) := by decide +kernel
theorem dX8_load_36 : decode cX8_load 36 = .ok (.invokestatic 99, 3) := by decide +kernel
theorem dX8_load_39 : decode cX8_load 39 = .ok (.iastore, 1) := by decide +kernel
theorem dX8_load_40 : decode cX8_load 40 = .ok (.iconst 0, 1) := by decide +kernel
theorem dX8_load_41 : decode cX8_load 41 = .ok (.ireturn, 1) := by decide +kernel
theorem dX8_load_42 : decode cX8_load 42 = .ok (.iload_n 3, 1) := by decide +kernel
theorem dX8_load_43 : decode cX8_load 43 = .ok (.bipush 8, 2) := by decide +kernel
theorem dX8_load_45 : decode cX8_load 45 = .ok (.if_icmp .ne 43, 3) := by decide +kernel
theorem dX8_load_48 : decode cX8_load 48 = .ok (.aload_n 0, 1) := by decide +kernel
theorem dX8_load_49 : decode cX8_load 49 = .ok (.getfield 59, 3) := by decide +kernel
theorem dX8_load_52 : decode cX8_load 52 = .ok (.ifCond .ne 5, 3) := by decide +kernel
theorem dX8_load_55 : decode cX8_load 55 = .ok (.iconst 4, 1) := by decide +kernel
theorem dX8_load_56 : decode cX8_load 56 = .ok (.ireturn, 1) := by decide +kernel
theorem dX8_load_57 : decode cX8_load 57 = .ok (.aload_n 0, 1) := by decide +kernel
theorem dX8_load_58 : decode cX8_load 58 = .ok (.dup, 1) := by decide +kernel
theorem dX8_load_59 : decode cX8_load 59 = .ok (.getfield 59, 3) := by decide +kernel
theorem dX8_load_62 : decode cX8_load 62 = .ok (.iconst 1, 1) := by decide +kernel
theorem dX8_load_63 : decode cX8_load 63 = .ok (.isub, 1) := by decide +kernel
theorem dX8_load_64 : decode cX8_load 64 = .ok (.putfield 59, 3) := by decide +kernel
theorem dX8_load_67 : decode cX8_load 67 = .ok (.aload_n 0, 1) := by decide +kernel
theorem dX8_load_68 : decode cX8_load 68 = .ok (.getfield 38, 3) := by decide +kernel
theorem dX8_load_71 : decode cX8_load 71 = .ok (.iload_n 1, 1) := by decide +kernel
theorem dX8_load_72 : decode cX8_load 72 = .ok (.aload_n 0, 1) := by decide +kernel
theorem dX8_load_73 : decode cX8_load 73 = .ok (.getfield 16, 3) := by decide +kernel
theorem dX8_load_76 : decode cX8_load 76 = .ok (.aload_n 0, 1) := by decide +kernel
theorem dX8_load_77 : decode cX8_load 77 = .ok (.getfield 59, 3) := by decide +kernel
theorem dX8_load_80 : decode cX8_load 80 = .ok (.iaload, 1) := by decide +kernel
theorem dX8_load_81 : decode cX8_load 81 = .ok (.iload_n 2, 1) := by decide +kernel
theorem dX8_load_82 : decode cX8_load 82 = .ok (.invokestatic 99, 3) := by decide +kernel
theorem dX8_load_85 : decode cX8_load 85 = .ok (.iastore, 1) := by decide +kernel
theorem dX8_load_86 : decode cX8_load 86 = .ok (.iconst 0, 1) := by decide +kernel
theorem dX8_load_87 : decode cX8_load 87 = .ok (.ireturn, 1) := by decide +kernel
theorem dX8_load_88 : decode cX8_load 88 = .ok (.iload_n 3, 1) := by decide +kernel
theorem dX8_load_89 : decode cX8_load 89 = .ok (.bipush 8, 2) := by decide +kernel
theorem dX8_load_91 : decode cX8_load 91 = .ok (.if_icmp .le 41, 3) := by decide +kernel
theorem dX8_load_94 : decode cX8_load 94 = .ok (.iload_n 3, 1) := by decide +kernel
theorem dX8_load_95 : decode cX8_load 95 = .ok (.bipush 12, 2) := by decide +kernel
theorem dX8_load_97 : decode cX8_load 97 = .ok (.if_icmp .ge 35, 3) := by decide +kernel
theorem dX8_load_100 : decode cX8_load 100 = .ok (.iload 4, 2) := by decide +kernel
theorem dX8_load_102 : decode cX8_load 102 = .ok (.ifCond .lt 12, 3) := by decide +kernel
theorem dX8_load_105 : decode cX8_load 105 = .ok (.iload 4, 2) := by decide +kernel
theorem dX8_load_107 : decode cX8_load 107 = .ok (.bipush 64, 2) := by decide +kernel
theorem dX8_load_109 : decode cX8_load 109 = .ok (.iload_n 2, 1) := by decide +kernel
theorem dX8_load_110 : decode cX8_load 110 = .ok (.isub, 1) := by decide +kernel
theorem dX8_load_111 : decode cX8_load 111 = .ok (.if_icmp .le 6, 3) := by decide +kernel
theorem dX8_load_114 : decode cX8_load 114 = .ok (.bipush 7, 2) := by decide +kernel
theorem dX8_load_116 : decode cX8_load 116 = .ok (.ireturn, 1) := by decide +kernel
theorem dX8_load_117 : decode cX8_load 117 = .ok (.aload_n 0, 1) := by decide +kernel
theorem dX8_load_118 : decode cX8_load 118 = .ok (.getfield 38, 3) := by decide +kernel
theorem dX8_load_121 : decode cX8_load 121 = .ok (.iload_n 1, 1) := by decide +kernel
theorem dX8_load_122 : decode cX8_load 122 = .ok (.aload_n 0, 1) := by decide +kernel
theorem dX8_load_123 : decode cX8_load 123 = .ok (.iload 4, 2) := by decide +kernel
theorem dX8_load_125 : decode cX8_load 125 = .ok (.iload_n 2, 1) := by decide +kernel
theorem dX8_load_126 : decode cX8_load 126 = .ok (.invokevirtual 102, 3) := by decide +kernel
theorem dX8_load_129 : decode cX8_load 129 = .ok (.iastore, 1) := by decide +kernel
theorem dX8_load_130 : decode cX8_load 130 = .ok (.iconst 0, 1) := by decide +kernel
theorem dX8_load_131 : decode cX8_load 131 = .ok (.ireturn, 1) := by decide +kernel
theorem dX8_load_132 : decode cX8_load 132 = .ok (.iload_n 3, 1) := by decide +kernel
theorem dX8_load_133 : decode cX8_load 133 = .ok (.bipush 12, 2) := by decide +kernel
theorem dX8_load_135 : decode cX8_load 135 = .ok (.if_icmp .le 13, 3) := by decide +kernel
theorem dX8_load_138 : decode cX8_load 138 = .ok (.aload_n 0, 1) := by decide +kernel
theorem dX8_load_139 : decode cX8_load 139 = .ok (.getfield 22, 3) := by decide +kernel
theorem dX8_load_142 : decode cX8_load 142 = .ok (.iload 4, 2) := by decide +kernel
theorem dX8_load_144 : decode cX8_load 144 = .ok (.iadd, 1) := by decide +kernel
theorem dX8_load_145 : decode cX8_load 145 = .ok (.goto 5, 3) := by decide +kernel
theorem dX8_load_148 : decode cX8_load 148 = .ok (.iload 4, 2) := by decide +kernel
theorem dX8_load_150 : decode cX8_load 150 = .ok (.istore 5, 2) := by decide +kernel
theorem dX8_load_152 : decode cX8_load 152 = .ok (.iload 5, 2) := by decide +kernel
theorem dX8_load_154 : decode cX8_load 154 = .ok (.iload_n 2, 1) := by decide +kernel
theorem dX8_load_155 : decode cX8_load 155 = .ok (.invokestatic 105, 3) := by decide +kernel
theorem dX8_load_158 : decode cX8_load 158 = .ok (.ifCond .ne 5, 3) := by decide +kernel
theorem dX8_load_161 : decode cX8_load 161 = .ok (.iconst 1, 1) := by decide +kernel
theorem dX8_load_162 : decode cX8_load 162 = .ok (.ireturn, 1) := by decide +kernel
theorem dX8_load_163 : decode cX8_load 163 = .ok (.aload_n 0, 1) := by decide +kernel
theorem dX8_load_164 : decode cX8_load 164 = .ok (.getfield 38, 3) := by decide +kernel
theorem dX8_load_167 : decode cX8_load 167 = .ok (.iload_n 1, 1) := by decide +kernel
theorem dX8_load_168 : decode cX8_load 168 = .ok (.aload_n 0, 1) := by decide +kernel
theorem dX8_load_169 : decode cX8_load 169 = .ok (.iload 5, 2) := by decide +kernel
theorem dX8_load_171 : decode cX8_load 171 = .ok (.iload_n 2, 1) := by decide +kernel
theorem dX8_load_172 : decode cX8_load 172 = .ok (.invokevirtual 62, 3) := by decide +kernel
theorem dX8_load_175 : decode cX8_load 175 = .ok (.iastore, 1) := by decide +kernel
theorem dX8_load_176 : decode cX8_load 176 = .ok (.iconst 0, 1) := by decide +kernel
theorem dX8_load_177 : decode cX8_load 177 = .ok (.ireturn, 1) := by decide +kernel
theorem dX8_lays_0 : decode cX8_lays 0 = .ok (.iload_n 1, 1) := by decide +kernel
theorem dX8_lays_1 : decode cX8_lays 1 = .ok (.iload_n 2, 1) := by decide +kernel
theorem dX8_lays_2 : decode cX8_lays 2 = .ok (.invokestatic 105, 3) := by decide +kernel
theorem dX8_lays_5 : decode cX8_lays 5 = .ok (.ifCond .ne 5, 3) := by decide +kernel
theorem dX8_lays_8 : decode cX8_lays 8 = .ok (.iconst 1, 1) := by decide +kernel
theorem dX8_lays_9 : decode cX8_lays 9 = .ok (.ireturn, 1) := by decide +kernel
theorem dX8_lays_10 : decode cX8_lays 10 = .ok (.iload_n 1, 1) := by decide +kernel
theorem dX8_lays_11 : decode cX8_lays 11 = .ok (.aload_n 0, 1) := by decide +kernel
theorem dX8_lays_12 : decode cX8_lays 12 = .ok (.getfield 22, 3) := by decide +kernel
theorem dX8_lays_15 : decode cX8_lays 15 = .ok (.if_icmp .ge 6, 3) := by decide +kernel
theorem dX8_lays_18 : decode cX8_lays 18 = .ok (.bipush 8, 2) := by decide +kernel
theorem dX8_lays_20 : decode cX8_lays 20 = .ok (.ireturn, 1) := by decide +kernel
theorem dX8_lays_21 : decode cX8_lays 21 = .ok (.iconst 0, 1) := by decide +kernel
theorem dX8_lays_22 : decode cX8_lays 22 = .ok (.istore 4, 2) := by decide +kernel
theorem dX8_lays_24 : decode cX8_lays 24 = .ok (.iload 4, 2) := by decide +kernel
theorem dX8_lays_26 : decode cX8_lays 26 = .ok (.iload_n 2, 1) := by decide +kernel
theorem dX8_lays_27 : decode cX8_lays 27 = .ok (.if_icmp .ge 33, 3) := by decide +kernel
theorem dX8_lays_30 : decode cX8_lays 30 = .ok (.aload_n 0, 1) := by decide +kernel
theorem dX8_lays_31 : decode cX8_lays 31 = .ok (.getfield 7, 3) := by decide +kernel
theorem dX8_lays_34 : decode cX8_lays 34 = .ok (.iload_n 1, 1) := by decide +kernel
theorem dX8_lays_35 : decode cX8_lays 35 = .ok (.iload 4, 2) := by decide +kernel
theorem dX8_lays_37 : decode cX8_lays 37 = .ok (.iadd, 1) := by decide +kernel
theorem dX8_lays_38 : decode cX8_lays 38 = .ok (.iload_n 3, 1) := by decide +kernel
theorem dX8_lays_39 : decode cX8_lays 39 = .ok (.bipush 8, 2) := by decide +kernel
theorem dX8_lays_41 : decode cX8_lays 41 = .ok (.iload_n 2, 1) := by decide +kernel
theorem dX8_lays_42 : decode cX8_lays 42 = .ok (.iconst 1, 1) := by decide +kernel
theorem dX8_lays_43 : decode cX8_lays 43 = .ok (.isub, 1) := by decide +kernel
theorem dX8_lays_44 : decode cX8_lays 44 = .ok (.iload 4, 2) := by decide +kernel
theorem dX8_lays_46 : decode cX8_lays 46 = .ok (.isub, 1) := by decide +kernel
theorem dX8_lays_47 : decode cX8_lays 47 = .ok (.imul, 1) := by decide +kernel
theorem dX8_lays_48 : decode cX8_lays 48 = .ok (.ishr, 1) := by decide +kernel
theorem dX8_lays_49 : decode cX8_lays 49 = .ok (.sipush 255, 3) := by decide +kernel
theorem dX8_lays_52 : decode cX8_lays 52 = .ok (.iand, 1) := by decide +kernel
theorem dX8_lays_53 : decode cX8_lays 53 = .ok (.iastore, 1) := by decide +kernel
theorem dX8_lays_54 : decode cX8_lays 54 = .ok (.iinc 4 1, 3) := by decide +kernel
theorem dX8_lays_57 : decode cX8_lays 57 = .ok (.goto (-33), 3) := by decide +kernel
theorem dX8_lays_60 : decode cX8_lays 60 = .ok (.iconst 0, 1) := by decide +kernel
theorem dX8_lays_61 : decode cX8_lays 61 = .ok (.ireturn, 1) := by decide +kernel
theorem dX8_store_0 : decode cX8_store 0 = .ok (.aload_n 0, 1) := by decide +kernel
theorem dX8_store_1 : decode cX8_store 1 = .ok (.getfield 26, 3) := by decide +kernel
theorem dX8_store_4 : decode cX8_store 4 = .ok (.iload_n 1, 1) := by decide +kernel
theorem dX8_store_5 : decode cX8_store 5 = .ok (.iaload, 1) := by decide +kernel
theorem dX8_store_6 : decode cX8_store 6 = .ok (.istore 4, 2) := by decide +kernel
theorem dX8_store_8 : decode cX8_store 8 = .ok (.aload_n 0, 1) := by decide +kernel
theorem dX8_store_9 : decode cX8_store 9 = .ok (.getfield 29, 3) := by decide +kernel
theorem dX8_store_12 : decode cX8_store 12 = .ok (.iload_n 1, 1) := by decide +kernel
theorem dX8_store_13 : decode cX8_store 13 = .ok (.iaload, 1) := by decide +kernel
theorem dX8_store_14 : decode cX8_store 14 = .ok (.istore 5, 2) := by decide +kernel
theorem dX8_store_16 : decode cX8_store 16 = .ok (.iload 4, 2) := by decide +kernel
theorem dX8_store_18 : decode cX8_store 18 = .ok (.ifCond .ne 5, 3) := by decide +kernel
theorem dX8_store_21 : decode cX8_store 21 = .ok (.iconst 0, 1) := by decide +kernel
theorem dX8_store_22 : decode cX8_store 22 = .ok (.ireturn, 1) := by decide +kernel
theorem dX8_store_23 : decode cX8_store 23 = .ok (.iload 4, 2) := by decide +kernel
theorem dX8_store_25 : decode cX8_store 25 = .ok (.bipush 8, 2) := by decide +kernel
theorem dX8_store_27 : decode cX8_store 27 = .ok (.if_icmp .ne 40, 3) := by decide +kernel
theorem dX8_store_30 : decode cX8_store 30 = .ok (.aload_n 0, 1) := by decide +kernel
theorem dX8_store_31 : decode cX8_store 31 = .ok (.getfield 59, 3) := by decide +kernel
theorem dX8_store_34 : decode cX8_store 34 = .ok (.bipush 40, 2) := by decide +kernel
theorem dX8_store_36 : decode cX8_store 36 = .ok (.if_icmp .ne 5, 3) := by decide +kernel
theorem dX8_store_39 : decode cX8_store 39 = .ok (.iconst 5, 1) := by decide +kernel
theorem dX8_store_40 : decode cX8_store 40 = .ok (.ireturn, 1) := by decide +kernel
theorem dX8_store_41 : decode cX8_store 41 = .ok (.aload_n 0, 1) := by decide +kernel
theorem dX8_store_42 : decode cX8_store 42 = .ok (.getfield 16, 3) := by decide +kernel
theorem dX8_store_45 : decode cX8_store 45 = .ok (.aload_n 0, 1) := by decide +kernel
theorem dX8_store_46 : decode cX8_store 46 = .ok (.getfield 59, 3) := by decide +kernel
theorem dX8_store_49 : decode cX8_store 49 = .ok (.iload_n 3, 1) := by decide +kernel
theorem dX8_store_50 : decode cX8_store 50 = .ok (.iload_n 2, 1) := by decide +kernel
theorem dX8_store_51 : decode cX8_store 51 = .ok (.invokestatic 99, 3) := by decide +kernel
theorem dX8_store_54 : decode cX8_store 54 = .ok (.iastore, 1) := by decide +kernel
theorem dX8_store_55 : decode cX8_store 55 = .ok (.aload_n 0, 1) := by decide +kernel
theorem dX8_store_56 : decode cX8_store 56 = .ok (.dup, 1) := by decide +kernel
theorem dX8_store_57 : decode cX8_store 57 = .ok (.getfield 59, 3) := by decide +kernel
theorem dX8_store_60 : decode cX8_store 60 = .ok (.iconst 1, 1) := by decide +kernel
theorem dX8_store_61 : decode cX8_store 61 = .ok (.iadd, 1) := by decide +kernel
theorem dX8_store_62 : decode cX8_store 62 = .ok (.putfield 59, 3) := by decide +kernel
theorem dX8_store_65 : decode cX8_store 65 = .ok (.iconst 0, 1) := by decide +kernel
theorem dX8_store_66 : decode cX8_store 66 = .ok (.ireturn, 1) := by decide +kernel
theorem dX8_store_67 : decode cX8_store 67 = .ok (.iload 4, 2) := by decide +kernel
theorem dX8_store_69 : decode cX8_store 69 = .ok (.bipush 8, 2) := by decide +kernel
theorem dX8_store_71 : decode cX8_store 71 = .ok (.if_icmp .le 69, 3) := by decide +kernel
theorem dX8_store_74 : decode cX8_store 74 = .ok (.iload 4, 2) := by decide +kernel
theorem dX8_store_76 : decode cX8_store 76 = .ok (.bipush 12, 2) := by decide +kernel
theorem dX8_store_78 : decode cX8_store 78 = .ok (.if_icmp .ge 62, 3) := by decide +kernel
theorem dX8_store_81 : decode cX8_store 81 = .ok (.iload 5, 2) := by decide +kernel
theorem dX8_store_83 : decode cX8_store 83 = .ok (.ifCond .lt 12, 3) := by decide +kernel
theorem dX8_store_86 : decode cX8_store 86 = .ok (.iload 5, 2) := by decide +kernel
theorem dX8_store_88 : decode cX8_store 88 = .ok (.bipush 64, 2) := by decide +kernel
theorem dX8_store_90 : decode cX8_store 90 = .ok (.iload_n 2, 1) := by decide +kernel
theorem dX8_store_91 : decode cX8_store 91 = .ok (.isub, 1) := by decide +kernel
theorem dX8_store_92 : decode cX8_store 92 = .ok (.if_icmp .le 6, 3) := by decide +kernel
theorem dX8_store_95 : decode cX8_store 95 = .ok (.bipush 7, 2) := by decide +kernel
theorem dX8_store_97 : decode cX8_store 97 = .ok (.ireturn, 1) := by decide +kernel
theorem dX8_store_98 : decode cX8_store 98 = .ok (.iconst 0, 1) := by decide +kernel
theorem dX8_store_99 : decode cX8_store 99 = .ok (.istore 6, 2) := by decide +kernel
theorem dX8_store_101 : decode cX8_store 101 = .ok (.iload 6, 2) := by decide +kernel
theorem dX8_store_103 : decode cX8_store 103 = .ok (.iload_n 2, 1) := by decide +kernel
theorem dX8_store_104 : decode cX8_store 104 = .ok (.if_icmp .ge 34, 3) := by decide +kernel
theorem dX8_store_107 : decode cX8_store 107 = .ok (.aload_n 0, 1) := by decide +kernel
theorem dX8_store_108 : decode cX8_store 108 = .ok (.getfield 13, 3) := by decide +kernel
theorem dX8_store_111 : decode cX8_store 111 = .ok (.iload 5, 2) := by decide +kernel
theorem dX8_store_113 : decode cX8_store 113 = .ok (.iload 6, 2) := by decide +kernel
theorem dX8_store_115 : decode cX8_store 115 = .ok (.iadd, 1) := by decide +kernel
theorem dX8_store_116 : decode cX8_store 116 = .ok (.iload_n 3, 1) := by decide +kernel
theorem dX8_store_117 : decode cX8_store 117 = .ok (.bipush 8, 2) := by decide +kernel
theorem dX8_store_119 : decode cX8_store 119 = .ok (.iload_n 2, 1) := by decide +kernel
theorem dX8_store_120 : decode cX8_store 120 = .ok (.iconst 1, 1) := by decide +kernel
theorem dX8_store_121 : decode cX8_store 121 = .ok (.isub, 1) := by decide +kernel
theorem dX8_store_122 : decode cX8_store 122 = .ok (.iload 6, 2) := by decide +kernel
theorem dX8_store_124 : decode cX8_store 124 = .ok (.isub, 1) := by decide +kernel
theorem dX8_store_125 : decode cX8_store 125 = .ok (.imul, 1) := by decide +kernel
theorem dX8_store_126 : decode cX8_store 126 = .ok (.ishr, 1) := by decide +kernel
theorem dX8_store_127 : decode cX8_store 127 = .ok (.sipush 255, 3) := by decide +kernel
theorem dX8_store_130 : decode cX8_store 130 = .ok (.iand, 1) := by decide +kernel
theorem dX8_store_131 : decode cX8_store 131 = .ok (.iastore, 1) := by decide +kernel
theorem dX8_store_132 : decode cX8_store 132 = .ok (.iinc 6 1, 3) := by decide +kernel
theorem dX8_store_135 : decode cX8_store 135 = .ok (.goto (-34), 3) := by decide +kernel
theorem dX8_store_138 : decode cX8_store 138 = .ok (.iconst 0, 1) := by decide +kernel
theorem dX8_store_139 : decode cX8_store 139 = .ok (.ireturn, 1) := by decide +kernel
theorem dX8_store_140 : decode cX8_store 140 = .ok (.aload_n 0, 1) := by decide +kernel
theorem dX8_store_141 : decode cX8_store 141 = .ok (.iload 4, 2) := by decide +kernel
theorem dX8_store_143 : decode cX8_store 143 = .ok (.bipush 12, 2) := by decide +kernel
theorem dX8_store_145 : decode cX8_store 145 = .ok (.if_icmp .le 13, 3) := by decide +kernel
theorem dX8_store_148 : decode cX8_store 148 = .ok (.aload_n 0, 1) := by decide +kernel
theorem dX8_store_149 : decode cX8_store 149 = .ok (.getfield 22, 3) := by decide +kernel
theorem dX8_store_152 : decode cX8_store 152 = .ok (.iload 5, 2) := by decide +kernel
theorem dX8_store_154 : decode cX8_store 154 = .ok (.iadd, 1) := by decide +kernel
theorem dX8_store_155 : decode cX8_store 155 = .ok (.goto 5, 3) := by decide +kernel
theorem dX8_store_158 : decode cX8_store 158 = .ok (.iload 5, 2) := by decide +kernel
theorem dX8_store_160 : decode cX8_store 160 = .ok (.iload_n 2, 1) := by decide +kernel
theorem dX8_store_161 : decode cX8_store 161 = .ok (.iload_n 3, 1) := by decide +kernel
theorem dX8_store_162 : decode cX8_store 162 = .ok (.invokevirtual 109, 3) := by decide +kernel
theorem dX8_store_165 : decode cX8_store 165 = .ok (.ireturn, 1) := by decide +kernel
theorem dX8_gives_0 : decode cX8_gives 0 = .ok (.aload_n 0, 1) := by decide +kernel
theorem dX8_gives_1 : decode cX8_gives 1 = .ok (.iload_n 1, 1) := by decide +kernel
theorem dX8_gives_2 : decode cX8_gives 2 = .ok (.putfield 113, 3) := by decide +kernel
theorem dX8_gives_5 : decode cX8_gives 5 = .ok (.iconst 0, 1) := by decide +kernel
theorem dX8_gives_6 : decode cX8_gives 6 = .ok (.ireturn, 1) := by decide +kernel
theorem dX8_shifted_0 : decode cX8_shifted 0 = .ok (.iload_n 2, 1) := by decide +kernel
theorem dX8_shifted_1 : decode cX8_shifted 1 = .ok (.ifCond .lt 9, 3) := by decide +kernel
theorem dX8_shifted_4 : decode cX8_shifted 4 = .ok (.iload_n 2, 1) := by decide +kernel
theorem dX8_shifted_5 : decode cX8_shifted 5 = .ok (.bipush 31, 2) := by decide +kernel
theorem dX8_shifted_7 : decode cX8_shifted 7 = .ok (.if_icmp .le 19, 3) := by decide +kernel
theorem dX8_shifted_10 : decode cX8_shifted 10 = .ok (.iload_n 0, 1) := by decide +kernel
theorem dX8_shifted_11 : decode cX8_shifted 11 = .ok (.bipush 29, 2) := by decide +kernel
theorem dX8_shifted_13 : decode cX8_shifted 13 = .ok (.if_icmp .ne 11, 3) := by decide +kernel
theorem dX8_shifted_16 : decode cX8_shifted 16 = .ok (.iload_n 1, 1) := by decide +kernel
theorem dX8_shifted_17 : decode cX8_shifted 17 = .ok (.ifCond .ge 7, 3) := by decide +kernel
theorem dX8_shifted_20 : decode cX8_shifted 20 = .ok (.iconst (-1), 1) := by decide +kernel
theorem dX8_shifted_21 : decode cX8_shifted 21 = .ok (.goto 4, 3) := by decide +kernel
theorem dX8_shifted_24 : decode cX8_shifted 24 = .ok (.iconst 0, 1) := by decide +kernel
theorem dX8_shifted_25 : decode cX8_shifted 25 = .ok (.ireturn, 1) := by decide +kernel
theorem dX8_shifted_26 : decode cX8_shifted 26 = .ok (.iload_n 0, 1) := by decide +kernel
theorem dX8_shifted_27 : decode cX8_shifted 27 = .ok (.bipush 28, 2) := by decide +kernel
theorem dX8_shifted_29 : decode cX8_shifted 29 = .ok (.if_icmp .ne 9, 3) := by decide +kernel
theorem dX8_shifted_32 : decode cX8_shifted 32 = .ok (.iload_n 1, 1) := by decide +kernel
theorem dX8_shifted_33 : decode cX8_shifted 33 = .ok (.iload_n 2, 1) := by decide +kernel
theorem dX8_shifted_34 : decode cX8_shifted 34 = .ok (.ishl, 1) := by decide +kernel
theorem dX8_shifted_35 : decode cX8_shifted 35 = .ok (.goto 18, 3) := by decide +kernel
theorem dX8_shifted_38 : decode cX8_shifted 38 = .ok (.iload_n 0, 1) := by decide +kernel
theorem dX8_shifted_39 : decode cX8_shifted 39 = .ok (.bipush 29, 2) := by decide +kernel
theorem dX8_shifted_41 : decode cX8_shifted 41 = .ok (.if_icmp .ne 9, 3) := by decide +kernel
theorem dX8_shifted_44 : decode cX8_shifted 44 = .ok (.iload_n 1, 1) := by decide +kernel
theorem dX8_shifted_45 : decode cX8_shifted 45 = .ok (.iload_n 2, 1) := by decide +kernel
theorem dX8_shifted_46 : decode cX8_shifted 46 = .ok (.ishr, 1) := by decide +kernel
theorem dX8_shifted_47 : decode cX8_shifted 47 = .ok (.goto 6, 3) := by decide +kernel
theorem dX8_shifted_50 : decode cX8_shifted 50 = .ok (.iload_n 1, 1) := by decide +kernel
theorem dX8_shifted_51 : decode cX8_shifted 51 = .ok (.iload_n 2, 1) := by decide +kernel
theorem dX8_shifted_52 : decode cX8_shifted 52 = .ok (.iushr, 1) := by decide +kernel
theorem dX8_shifted_53 : decode cX8_shifted 53 = .ok (.ireturn, 1) := by decide +kernel
theorem dX8_reckons_0 : decode cX8_reckons 0 = .ok (.aload_n 0, 1) := by decide +kernel
theorem dX8_reckons_1 : decode cX8_reckons 1 = .ok (.getfield 67, 3) := by decide +kernel
theorem dX8_reckons_4 : decode cX8_reckons 4 = .ok (.tableswitch 180 16 27 #[64, 72, 80, 88, 115, 141, 180, 180, 148, 156, 164, 172], 64) := by decide +kernel
theorem dX8_reckons_68 : decode cX8_reckons 68 = .ok (.aload_n 0, 1) := by decide +kernel
theorem dX8_reckons_69 : decode cX8_reckons 69 = .ok (.iload_n 1, 1) := by decide +kernel
theorem dX8_reckons_70 : decode cX8_reckons 70 = .ok (.iload_n 2, 1) := by decide +kernel
theorem dX8_reckons_71 : decode cX8_reckons 71 = .ok (.iadd, 1) := by decide +kernel
theorem dX8_reckons_72 : decode cX8_reckons 72 = .ok (.invokevirtual 116, 3) := by decide +kernel
theorem dX8_reckons_75 : decode cX8_reckons 75 = .ok (.ireturn, 1) := by decide +kernel
theorem dX8_reckons_76 : decode cX8_reckons 76 = .ok (.aload_n 0, 1) := by decide +kernel
theorem dX8_reckons_77 : decode cX8_reckons 77 = .ok (.iload_n 1, 1) := by decide +kernel
theorem dX8_reckons_78 : decode cX8_reckons 78 = .ok (.iload_n 2, 1) := by decide +kernel
theorem dX8_reckons_79 : decode cX8_reckons 79 = .ok (.isub, 1) := by decide +kernel
theorem dX8_reckons_80 : decode cX8_reckons 80 = .ok (.invokevirtual 116, 3) := by decide +kernel
theorem dX8_reckons_83 : decode cX8_reckons 83 = .ok (.ireturn, 1) := by decide +kernel
theorem dX8_reckons_84 : decode cX8_reckons 84 = .ok (.aload_n 0, 1) := by decide +kernel
theorem dX8_reckons_85 : decode cX8_reckons 85 = .ok (.iload_n 1, 1) := by decide +kernel
theorem dX8_reckons_86 : decode cX8_reckons 86 = .ok (.iload_n 2, 1) := by decide +kernel
theorem dX8_reckons_87 : decode cX8_reckons 87 = .ok (.imul, 1) := by decide +kernel
theorem dX8_reckons_88 : decode cX8_reckons 88 = .ok (.invokevirtual 116, 3) := by decide +kernel
theorem dX8_reckons_91 : decode cX8_reckons 91 = .ok (.ireturn, 1) := by decide +kernel
theorem dX8_reckons_92 : decode cX8_reckons 92 = .ok (.iload_n 2, 1) := by decide +kernel
theorem dX8_reckons_93 : decode cX8_reckons 93 = .ok (.ifCond .ne 8, 3) := by decide +kernel
theorem dX8_reckons_96 : decode cX8_reckons 96 = .ok (.bipush 6, 2) := by decide +kernel
theorem dX8_reckons_98 : decode cX8_reckons 98 = .ok (.goto 20, 3) := by decide +kernel
theorem dX8_reckons_101 : decode cX8_reckons 101 = .ok (.aload_n 0, 1) := by decide +kernel
theorem dX8_reckons_102 : decode cX8_reckons 102 = .ok (.iload_n 2, 1) := by decide +kernel
theorem dX8_reckons_103 : decode cX8_reckons 103 = .ok (.iconst (-1), 1) := by decide +kernel
theorem dX8_reckons_104 : decode cX8_reckons 104 = .ok (.if_icmp .ne 8, 3) := by decide +kernel
theorem dX8_reckons_107 : decode cX8_reckons 107 = .ok (.iload_n 1, 1) := by decide +kernel
theorem dX8_reckons_108 : decode cX8_reckons 108 = .ok (.ineg, 1) := by decide +kernel
theorem dX8_reckons_109 : decode cX8_reckons 109 = .ok (.goto 6, 3) := by decide +kernel
theorem dX8_reckons_112 : decode cX8_reckons 112 = .ok (.iload_n 1, 1) := by decide +kernel
theorem dX8_reckons_113 : decode cX8_reckons 113 = .ok (.iload_n 2, 1) := by decide +kernel
theorem dX8_reckons_114 : decode cX8_reckons 114 = .ok (.idiv, 1) := by decide +kernel
theorem dX8_reckons_115 : decode cX8_reckons 115 = .ok (.invokevirtual 116, 3) := by decide +kernel
theorem dX8_reckons_118 : decode cX8_reckons 118 = .ok (.ireturn, 1) := by decide +kernel
theorem dX8_reckons_119 : decode cX8_reckons 119 = .ok (.iload_n 2, 1) := by decide +kernel
theorem dX8_reckons_120 : decode cX8_reckons 120 = .ok (.ifCond .ne 8, 3) := by decide +kernel
theorem dX8_reckons_123 : decode cX8_reckons 123 = .ok (.bipush 6, 2) := by decide +kernel
theorem dX8_reckons_125 : decode cX8_reckons 125 = .ok (.goto 19, 3) := by decide +kernel
theorem dX8_reckons_128 : decode cX8_reckons 128 = .ok (.aload_n 0, 1) := by decide +kernel
theorem dX8_reckons_129 : decode cX8_reckons 129 = .ok (.iload_n 2, 1) := by decide +kernel
theorem dX8_reckons_130 : decode cX8_reckons 130 = .ok (.iconst (-1), 1) := by decide +kernel
theorem dX8_reckons_131 : decode cX8_reckons 131 = .ok (.if_icmp .ne 7, 3) := by decide +kernel
theorem dX8_reckons_134 : decode cX8_reckons 134 = .ok (.iconst 0, 1) := by decide +kernel
theorem dX8_reckons_135 : decode cX8_reckons 135 = .ok (.goto 6, 3) := by decide +kernel
theorem dX8_reckons_138 : decode cX8_reckons 138 = .ok (.iload_n 1, 1) := by decide +kernel
theorem dX8_reckons_139 : decode cX8_reckons 139 = .ok (.iload_n 2, 1) := by decide +kernel
theorem dX8_reckons_140 : decode cX8_reckons 140 = .ok (.irem, 1) := by decide +kernel
theorem dX8_reckons_141 : decode cX8_reckons 141 = .ok (.invokevirtual 116, 3) := by decide +kernel
theorem dX8_reckons_144 : decode cX8_reckons 144 = .ok (.ireturn, 1) := by decide +kernel
theorem dX8_reckons_145 : decode cX8_reckons 145 = .ok (.aload_n 0, 1) := by decide +kernel
theorem dX8_reckons_146 : decode cX8_reckons 146 = .ok (.iload_n 1, 1) := by decide +kernel
theorem dX8_reckons_147 : decode cX8_reckons 147 = .ok (.ineg, 1) := by decide +kernel
theorem dX8_reckons_148 : decode cX8_reckons 148 = .ok (.invokevirtual 116, 3) := by decide +kernel
theorem dX8_reckons_151 : decode cX8_reckons 151 = .ok (.ireturn, 1) := by decide +kernel
theorem dX8_reckons_152 : decode cX8_reckons 152 = .ok (.aload_n 0, 1) := by decide +kernel
theorem dX8_reckons_153 : decode cX8_reckons 153 = .ok (.iload_n 1, 1) := by decide +kernel
theorem dX8_reckons_154 : decode cX8_reckons 154 = .ok (.iload_n 2, 1) := by decide +kernel
theorem dX8_reckons_155 : decode cX8_reckons 155 = .ok (.iand, 1) := by decide +kernel
theorem dX8_reckons_156 : decode cX8_reckons 156 = .ok (.invokevirtual 116, 3) := by decide +kernel
theorem dX8_reckons_159 : decode cX8_reckons 159 = .ok (.ireturn, 1) := by decide +kernel
theorem dX8_reckons_160 : decode cX8_reckons 160 = .ok (.aload_n 0, 1) := by decide +kernel
theorem dX8_reckons_161 : decode cX8_reckons 161 = .ok (.iload_n 1, 1) := by decide +kernel
theorem dX8_reckons_162 : decode cX8_reckons 162 = .ok (.iload_n 2, 1) := by decide +kernel
theorem dX8_reckons_163 : decode cX8_reckons 163 = .ok (.ior, 1) := by decide +kernel
theorem dX8_reckons_164 : decode cX8_reckons 164 = .ok (.invokevirtual 116, 3) := by decide +kernel
theorem dX8_reckons_167 : decode cX8_reckons 167 = .ok (.ireturn, 1) := by decide +kernel
theorem dX8_reckons_168 : decode cX8_reckons 168 = .ok (.aload_n 0, 1) := by decide +kernel
theorem dX8_reckons_169 : decode cX8_reckons 169 = .ok (.iload_n 1, 1) := by decide +kernel
theorem dX8_reckons_170 : decode cX8_reckons 170 = .ok (.iload_n 2, 1) := by decide +kernel
theorem dX8_reckons_171 : decode cX8_reckons 171 = .ok (.ixor, 1) := by decide +kernel
theorem dX8_reckons_172 : decode cX8_reckons 172 = .ok (.invokevirtual 116, 3) := by decide +kernel
theorem dX8_reckons_175 : decode cX8_reckons 175 = .ok (.ireturn, 1) := by decide +kernel
theorem dX8_reckons_176 : decode cX8_reckons 176 = .ok (.aload_n 0, 1) := by decide +kernel
theorem dX8_reckons_177 : decode cX8_reckons 177 = .ok (.iload_n 1, 1) := by decide +kernel
theorem dX8_reckons_178 : decode cX8_reckons 178 = .ok (.iconst (-1), 1) := by decide +kernel
theorem dX8_reckons_179 : decode cX8_reckons 179 = .ok (.ixor, 1) := by decide +kernel
theorem dX8_reckons_180 : decode cX8_reckons 180 = .ok (.invokevirtual 116, 3) := by decide +kernel
theorem dX8_reckons_183 : decode cX8_reckons 183 = .ok (.ireturn, 1) := by decide +kernel
theorem dX8_reckons_184 : decode cX8_reckons 184 = .ok (.aload_n 0, 1) := by decide +kernel
theorem dX8_reckons_185 : decode cX8_reckons 185 = .ok (.aload_n 0, 1) := by decide +kernel
theorem dX8_reckons_186 : decode cX8_reckons 186 = .ok (.getfield 67, 3) := by decide +kernel
theorem dX8_reckons_189 : decode cX8_reckons 189 = .ok (.iload_n 1, 1) := by decide +kernel
theorem dX8_reckons_190 : decode cX8_reckons 190 = .ok (.iload_n 2, 1) := by decide +kernel
theorem dX8_reckons_191 : decode cX8_reckons 191 = .ok (.invokestatic 119, 3) := by decide +kernel
theorem dX8_reckons_194 : decode cX8_reckons 194 = .ok (.invokevirtual 116, 3) := by decide +kernel
theorem dX8_reckons_197 : decode cX8_reckons 197 = .ok (.ireturn, 1) := by decide +kernel
theorem dX8_isSo_0 : decode cX8_isSo 0 = .ok (.iload_n 0, 1) := by decide +kernel
theorem dX8_isSo_1 : decode cX8_isSo 1 = .ok (.bipush 42, 2) := by decide +kernel
theorem dX8_isSo_3 : decode cX8_isSo 3 = .ok (.if_icmp .lt 10, 3) := by decide +kernel
theorem dX8_isSo_6 : decode cX8_isSo 6 = .ok (.iload_n 1, 1) := by decide +kernel
theorem dX8_isSo_7 : decode cX8_isSo 7 = .ok (.ldc 122, 2) := by decide +kernel
theorem dX8_isSo_9 : decode cX8_isSo 9 = .ok (.ixor, 1) := by decide +kernel
theorem dX8_isSo_10 : decode cX8_isSo 10 = .ok (.goto 4, 3) := by decide +kernel
theorem dX8_isSo_13 : decode cX8_isSo 13 = .ok (.iload_n 1, 1) := by decide +kernel
theorem dX8_isSo_14 : decode cX8_isSo 14 = .ok (.istore_n 3, 1) := by decide +kernel
theorem dX8_isSo_15 : decode cX8_isSo 15 = .ok (.iload_n 0, 1) := by decide +kernel
theorem dX8_isSo_16 : decode cX8_isSo 16 = .ok (.bipush 42, 2) := by decide +kernel
theorem dX8_isSo_18 : decode cX8_isSo 18 = .ok (.if_icmp .lt 10, 3) := by decide +kernel
theorem dX8_isSo_21 : decode cX8_isSo 21 = .ok (.iload_n 2, 1) := by decide +kernel
theorem dX8_isSo_22 : decode cX8_isSo 22 = .ok (.ldc 122, 2) := by decide +kernel
theorem dX8_isSo_24 : decode cX8_isSo 24 = .ok (.ixor, 1) := by decide +kernel
theorem dX8_isSo_25 : decode cX8_isSo 25 = .ok (.goto 4, 3) := by decide +kernel
theorem dX8_isSo_28 : decode cX8_isSo 28 = .ok (.iload_n 2, 1) := by decide +kernel
theorem dX8_isSo_29 : decode cX8_isSo 29 = .ok (.istore 4, 2) := by decide +kernel
theorem dX8_isSo_31 : decode cX8_isSo 31 = .ok (.iload_n 0, 1) := by decide +kernel
theorem dX8_isSo_32 : decode cX8_isSo 32 = .ok (.bipush 42, 2) := by decide +kernel
theorem dX8_isSo_34 : decode cX8_isSo 34 = .ok (.if_icmp .lt 9, 3) := by decide +kernel
theorem dX8_isSo_37 : decode cX8_isSo 37 = .ok (.iload_n 0, 1) := by decide +kernel
theorem dX8_isSo_38 : decode cX8_isSo 38 = .ok (.iconst 4, 1) := by decide +kernel
theorem dX8_isSo_39 : decode cX8_isSo 39 = .ok (.isub, 1) := by decide +kernel
theorem dX8_isSo_40 : decode cX8_isSo 40 = .ok (.goto 4, 3) := by decide +kernel
theorem dX8_isSo_43 : decode cX8_isSo 43 = .ok (.iload_n 0, 1) := by decide +kernel
theorem dX8_isSo_44 : decode cX8_isSo 44 = .ok (.istore 5, 2) := by decide +kernel
theorem dX8_isSo_46 : decode cX8_isSo 46 = .ok (.iload 5, 2) := by decide +kernel
theorem dX8_isSo_48 : decode cX8_isSo 48 = .ok (.tableswitch 132 32 40 #[52, 132, 54, 64, 74, 85, 96, 108, 120], 52) := by decide +kernel
theorem dX8_isSo_100 : decode cX8_isSo 100 = .ok (.iconst 1, 1) := by decide +kernel
theorem dX8_isSo_101 : decode cX8_isSo 101 = .ok (.ireturn, 1) := by decide +kernel
theorem dX8_isSo_102 : decode cX8_isSo 102 = .ok (.iload_n 1, 1) := by decide +kernel
theorem dX8_isSo_103 : decode cX8_isSo 103 = .ok (.ifCond .ne 7, 3) := by decide +kernel
theorem dX8_isSo_106 : decode cX8_isSo 106 = .ok (.iconst 1, 1) := by decide +kernel
theorem dX8_isSo_107 : decode cX8_isSo 107 = .ok (.goto 4, 3) := by decide +kernel
theorem dX8_isSo_110 : decode cX8_isSo 110 = .ok (.iconst 0, 1) := by decide +kernel
theorem dX8_isSo_111 : decode cX8_isSo 111 = .ok (.ireturn, 1) := by decide +kernel
theorem dX8_isSo_112 : decode cX8_isSo 112 = .ok (.iload_n 1, 1) := by decide +kernel
theorem dX8_isSo_113 : decode cX8_isSo 113 = .ok (.ifCond .eq 7, 3) := by decide +kernel
theorem dX8_isSo_116 : decode cX8_isSo 116 = .ok (.iconst 1, 1) := by decide +kernel
theorem dX8_isSo_117 : decode cX8_isSo 117 = .ok (.goto 4, 3) := by decide +kernel
theorem dX8_isSo_120 : decode cX8_isSo 120 = .ok (.iconst 0, 1) := by decide +kernel
theorem dX8_isSo_121 : decode cX8_isSo 121 = .ok (.ireturn, 1) := by decide +kernel
theorem dX8_isSo_122 : decode cX8_isSo 122 = .ok (.iload_n 1, 1) := by decide +kernel
theorem dX8_isSo_123 : decode cX8_isSo 123 = .ok (.iload_n 2, 1) := by decide +kernel
theorem dX8_isSo_124 : decode cX8_isSo 124 = .ok (.if_icmp .ne 7, 3) := by decide +kernel
theorem dX8_isSo_127 : decode cX8_isSo 127 = .ok (.iconst 1, 1) := by decide +kernel
theorem dX8_isSo_128 : decode cX8_isSo 128 = .ok (.goto 4, 3) := by decide +kernel
theorem dX8_isSo_131 : decode cX8_isSo 131 = .ok (.iconst 0, 1) := by decide +kernel
theorem dX8_isSo_132 : decode cX8_isSo 132 = .ok (.ireturn, 1) := by decide +kernel
theorem dX8_isSo_133 : decode cX8_isSo 133 = .ok (.iload_n 1, 1) := by decide +kernel
theorem dX8_isSo_134 : decode cX8_isSo 134 = .ok (.iload_n 2, 1) := by decide +kernel
theorem dX8_isSo_135 : decode cX8_isSo 135 = .ok (.if_icmp .eq 7, 3) := by decide +kernel
theorem dX8_isSo_138 : decode cX8_isSo 138 = .ok (.iconst 1, 1) := by decide +kernel
theorem dX8_isSo_139 : decode cX8_isSo 139 = .ok (.goto 4, 3) := by decide +kernel
theorem dX8_isSo_142 : decode cX8_isSo 142 = .ok (.iconst 0, 1) := by decide +kernel
theorem dX8_isSo_143 : decode cX8_isSo 143 = .ok (.ireturn, 1) := by decide +kernel
theorem dX8_isSo_144 : decode cX8_isSo 144 = .ok (.iload_n 3, 1) := by decide +kernel
theorem dX8_isSo_145 : decode cX8_isSo 145 = .ok (.iload 4, 2) := by decide +kernel
theorem dX8_isSo_147 : decode cX8_isSo 147 = .ok (.if_icmp .ge 7, 3) := by decide +kernel
theorem dX8_isSo_150 : decode cX8_isSo 150 = .ok (.iconst 1, 1) := by decide +kernel
theorem dX8_isSo_151 : decode cX8_isSo 151 = .ok (.goto 4, 3) := by decide +kernel
theorem dX8_isSo_154 : decode cX8_isSo 154 = .ok (.iconst 0, 1) := by decide +kernel
theorem dX8_isSo_155 : decode cX8_isSo 155 = .ok (.ireturn, 1) := by decide +kernel
theorem dX8_isSo_156 : decode cX8_isSo 156 = .ok (.iload_n 3, 1) := by decide +kernel
theorem dX8_isSo_157 : decode cX8_isSo 157 = .ok (.iload 4, 2) := by decide +kernel
theorem dX8_isSo_159 : decode cX8_isSo 159 = .ok (.if_icmp .lt 7, 3) := by decide +kernel
theorem dX8_isSo_162 : decode cX8_isSo 162 = .ok (.iconst 1, 1) := by decide +kernel
theorem dX8_isSo_163 : decode cX8_isSo 163 = .ok (.goto 4, 3) := by decide +kernel
theorem dX8_isSo_166 : decode cX8_isSo 166 = .ok (.iconst 0, 1) := by decide +kernel
theorem dX8_isSo_167 : decode cX8_isSo 167 = .ok (.ireturn, 1) := by decide +kernel
theorem dX8_isSo_168 : decode cX8_isSo 168 = .ok (.iload_n 3, 1) := by decide +kernel
theorem dX8_isSo_169 : decode cX8_isSo 169 = .ok (.iload 4, 2) := by decide +kernel
theorem dX8_isSo_171 : decode cX8_isSo 171 = .ok (.if_icmp .le 7, 3) := by decide +kernel
theorem dX8_isSo_174 : decode cX8_isSo 174 = .ok (.iconst 1, 1) := by decide +kernel
theorem dX8_isSo_175 : decode cX8_isSo 175 = .ok (.goto 4, 3) := by decide +kernel
theorem dX8_isSo_178 : decode cX8_isSo 178 = .ok (.iconst 0, 1) := by decide +kernel
theorem dX8_isSo_179 : decode cX8_isSo 179 = .ok (.ireturn, 1) := by decide +kernel
theorem dX8_isSo_180 : decode cX8_isSo 180 = .ok (.iload_n 3, 1) := by decide +kernel
theorem dX8_isSo_181 : decode cX8_isSo 181 = .ok (.iload 4, 2) := by decide +kernel
theorem dX8_isSo_183 : decode cX8_isSo 183 = .ok (.if_icmp .gt 7, 3) := by decide +kernel
theorem dX8_isSo_186 : decode cX8_isSo 186 = .ok (.iconst 1, 1) := by decide +kernel
theorem dX8_isSo_187 : decode cX8_isSo 187 = .ok (.goto 4, 3) := by decide +kernel
theorem dX8_isSo_190 : decode cX8_isSo 190 = .ok (.iconst 0, 1) := by decide +kernel
theorem dX8_isSo_191 : decode cX8_isSo 191 = .ok (.ireturn, 1) := by decide +kernel
theorem dX8_branches_0 : decode cX8_branches 0 = .ok (.iload_n 1, 1) := by decide +kernel
theorem dX8_branches_1 : decode cX8_branches 1 = .ok (.ifCond .eq 8, 3) := by decide +kernel
theorem dX8_branches_4 : decode cX8_branches 4 = .ok (.iload_n 1, 1) := by decide +kernel
theorem dX8_branches_5 : decode cX8_branches 5 = .ok (.iconst 1, 1) := by decide +kernel
theorem dX8_branches_6 : decode cX8_branches 6 = .ok (.if_icmp .ne 16, 3) := by decide +kernel
theorem dX8_branches_9 : decode cX8_branches 9 = .ok (.aload_n 0, 1) := by decide +kernel
theorem dX8_branches_10 : decode cX8_branches 10 = .ok (.iload_n 1, 1) := by decide +kernel
theorem dX8_branches_11 : decode cX8_branches 11 = .ok (.putfield 123, 3) := by decide +kernel
theorem dX8_branches_14 : decode cX8_branches 14 = .ok (.aload_n 0, 1) := by decide +kernel
theorem dX8_branches_15 : decode cX8_branches 15 = .ok (.iconst 1, 1) := by decide +kernel
theorem dX8_branches_16 : decode cX8_branches 16 = .ok (.putfield 55, 3) := by decide +kernel
theorem dX8_branches_19 : decode cX8_branches 19 = .ok (.goto 15, 3) := by decide +kernel
theorem dX8_branches_22 : decode cX8_branches 22 = .ok (.aload_n 0, 1) := by decide +kernel
theorem dX8_branches_23 : decode cX8_branches 23 = .ok (.aload_n 0, 1) := by decide +kernel
theorem dX8_branches_24 : decode cX8_branches 24 = .ok (.getfield 83, 3) := by decide +kernel
theorem dX8_branches_27 : decode cX8_branches 27 = .ok (.iload_n 1, 1) := by decide +kernel
theorem dX8_branches_28 : decode cX8_branches 28 = .ok (.iadd, 1) := by decide +kernel
theorem dX8_branches_29 : decode cX8_branches 29 = .ok (.iconst 2, 1) := by decide +kernel
theorem dX8_branches_30 : decode cX8_branches 30 = .ok (.isub, 1) := by decide +kernel
theorem dX8_branches_31 : decode cX8_branches 31 = .ok (.putfield 126, 3) := by decide +kernel
theorem dX8_branches_34 : decode cX8_branches 34 = .ok (.return_, 1) := by decide +kernel
theorem dX8_items_0 : decode cX8_items 0 = .ok (.aload_n 0, 1) := by decide +kernel
theorem dX8_items_1 : decode cX8_items 1 = .ok (.getfield 67, 3) := by decide +kernel
theorem dX8_items_4 : decode cX8_items 4 = .ok (.bipush 72, 2) := by decide +kernel
theorem dX8_items_6 : decode cX8_items 6 = .ok (.if_icmp .eq 12, 3) := by decide +kernel
theorem dX8_items_9 : decode cX8_items 9 = .ok (.aload_n 0, 1) := by decide +kernel
theorem dX8_items_10 : decode cX8_items 10 = .ok (.getfield 67, 3) := by decide +kernel
theorem dX8_items_13 : decode cX8_items 13 = .ok (.bipush 76, 2) := by decide +kernel
theorem dX8_items_15 : decode cX8_items 15 = .ok (.if_icmp .ne 11, 3) := by decide +kernel
theorem dX8_items_18 : decode cX8_items 18 = .ok (.iload_n 1, 1) := by decide +kernel
theorem dX8_items_19 : decode cX8_items 19 = .ok (.iconst 4, 1) := by decide +kernel
theorem dX8_items_20 : decode cX8_items 20 = .ok (.iload_n 2, 1) := by decide +kernel
theorem dX8_items_21 : decode cX8_items 21 = .ok (.imul, 1) := by decide +kernel
theorem dX8_items_22 : decode cX8_items 22 = .ok (.iadd, 1) := by decide +kernel
theorem dX8_items_23 : decode cX8_items 23 = .ok (.goto 58, 3) := by decide +kernel
theorem dX8_items_26 : decode cX8_items 26 = .ok (.aload_n 0, 1) := by decide +kernel
theorem dX8_items_27 : decode cX8_items 27 = .ok (.getfield 67, 3) := by decide +kernel
theorem dX8_items_30 : decode cX8_items 30 = .ok (.bipush 73, 2) := by decide +kernel
theorem dX8_items_32 : decode cX8_items 32 = .ok (.if_icmp .eq 12, 3) := by decide +kernel
theorem dX8_items_35 : decode cX8_items 35 = .ok (.aload_n 0, 1) := by decide +kernel
theorem dX8_items_36 : decode cX8_items 36 = .ok (.getfield 67, 3) := by decide +kernel
theorem dX8_items_39 : decode cX8_items 39 = .ok (.bipush 77, 2) := by decide +kernel
theorem dX8_items_41 : decode cX8_items 41 = .ok (.if_icmp .ne 11, 3) := by decide +kernel
theorem dX8_items_44 : decode cX8_items 44 = .ok (.iload_n 1, 1) := by decide +kernel
theorem dX8_items_45 : decode cX8_items 45 = .ok (.iconst 2, 1) := by decide +kernel
theorem dX8_items_46 : decode cX8_items 46 = .ok (.iload_n 2, 1) := by decide +kernel
theorem dX8_items_47 : decode cX8_items 47 = .ok (.imul, 1) := by decide +kernel
theorem dX8_items_48 : decode cX8_items 48 = .ok (.iadd, 1) := by decide +kernel
theorem dX8_items_49 : decode cX8_items 49 = .ok (.goto 32, 3) := by decide +kernel
theorem dX8_items_52 : decode cX8_items 52 = .ok (.aload_n 0, 1) := by decide +kernel
theorem dX8_items_53 : decode cX8_items 53 = .ok (.getfield 67, 3) := by decide +kernel
theorem dX8_items_56 : decode cX8_items 56 = .ok (.bipush 74, 2) := by decide +kernel
theorem dX8_items_58 : decode cX8_items 58 = .ok (.if_icmp .eq 12, 3) := by decide +kernel
theorem dX8_items_61 : decode cX8_items 61 = .ok (.aload_n 0, 1) := by decide +kernel
theorem dX8_items_62 : decode cX8_items 62 = .ok (.getfield 67, 3) := by decide +kernel
theorem dX8_items_65 : decode cX8_items 65 = .ok (.bipush 78, 2) := by decide +kernel
theorem dX8_items_67 : decode cX8_items 67 = .ok (.if_icmp .ne 9, 3) := by decide +kernel
theorem dX8_items_70 : decode cX8_items 70 = .ok (.iload_n 1, 1) := by decide +kernel
theorem dX8_items_71 : decode cX8_items 71 = .ok (.iload_n 2, 1) := by decide +kernel
theorem dX8_items_72 : decode cX8_items 72 = .ok (.iadd, 1) := by decide +kernel
theorem dX8_items_73 : decode cX8_items 73 = .ok (.goto 8, 3) := by decide +kernel
theorem dX8_items_76 : decode cX8_items 76 = .ok (.iload_n 1, 1) := by decide +kernel
theorem dX8_items_77 : decode cX8_items 77 = .ok (.iload_n 2, 1) := by decide +kernel
theorem dX8_items_78 : decode cX8_items 78 = .ok (.iconst 3, 1) := by decide +kernel
theorem dX8_items_79 : decode cX8_items 79 = .ok (.ishr, 1) := by decide +kernel
theorem dX8_items_80 : decode cX8_items 80 = .ok (.iadd, 1) := by decide +kernel
theorem dX8_items_81 : decode cX8_items 81 = .ok (.istore 4, 2) := by decide +kernel
theorem dX8_items_83 : decode cX8_items 83 = .ok (.aload_n 0, 1) := by decide +kernel
theorem dX8_items_84 : decode cX8_items 84 = .ok (.getfield 67, 3) := by decide +kernel
theorem dX8_items_87 : decode cX8_items 87 = .ok (.bipush 72, 2) := by decide +kernel
theorem dX8_items_89 : decode cX8_items 89 = .ok (.if_icmp .eq 12, 3) := by decide +kernel
theorem dX8_items_92 : decode cX8_items 92 = .ok (.aload_n 0, 1) := by decide +kernel
theorem dX8_items_93 : decode cX8_items 93 = .ok (.getfield 67, 3) := by decide +kernel
theorem dX8_items_96 : decode cX8_items 96 = .ok (.bipush 76, 2) := by decide +kernel
theorem dX8_items_98 : decode cX8_items 98 = .ok (.if_icmp .ne 7, 3) := by decide +kernel
theorem dX8_items_101 : decode cX8_items 101 = .ok (.iconst 4, 1) := by decide +kernel
theorem dX8_items_102 : decode cX8_items 102 = .ok (.goto 26, 3) := by decide +kernel
theorem dX8_items_105 : decode cX8_items 105 = .ok (.aload_n 0, 1) := by decide +kernel
theorem dX8_items_106 : decode cX8_items 106 = .ok (.getfield 67, 3) := by decide +kernel
theorem dX8_items_109 : decode cX8_items 109 = .ok (.bipush 73, 2) := by decide +kernel
theorem dX8_items_111 : decode cX8_items 111 = .ok (.if_icmp .eq 12, 3) := by decide +kernel
theorem dX8_items_114 : decode cX8_items 114 = .ok (.aload_n 0, 1) := by decide +kernel
theorem dX8_items_115 : decode cX8_items 115 = .ok (.getfield 67, 3) := by decide +kernel
theorem dX8_items_118 : decode cX8_items 118 = .ok (.bipush 77, 2) := by decide +kernel
theorem dX8_items_120 : decode cX8_items 120 = .ok (.if_icmp .ne 7, 3) := by decide +kernel
theorem dX8_items_123 : decode cX8_items 123 = .ok (.iconst 2, 1) := by decide +kernel
theorem dX8_items_124 : decode cX8_items 124 = .ok (.goto 4, 3) := by decide +kernel
theorem dX8_items_127 : decode cX8_items 127 = .ok (.iconst 1, 1) := by decide +kernel
theorem dX8_items_128 : decode cX8_items 128 = .ok (.istore 5, 2) := by decide +kernel
theorem dX8_items_130 : decode cX8_items 130 = .ok (.iload_n 2, 1) := by decide +kernel
theorem dX8_items_131 : decode cX8_items 131 = .ok (.bipush 7, 2) := by decide +kernel
theorem dX8_items_133 : decode cX8_items 133 = .ok (.iand, 1) := by decide +kernel
theorem dX8_items_134 : decode cX8_items 134 = .ok (.istore 6, 2) := by decide +kernel
theorem dX8_items_136 : decode cX8_items 136 = .ok (.aload_n 0, 1) := by decide +kernel
theorem dX8_items_137 : decode cX8_items 137 = .ok (.getfield 67, 3) := by decide +kernel
theorem dX8_items_140 : decode cX8_items 140 = .ok (.bipush 76, 2) := by decide +kernel
theorem dX8_items_142 : decode cX8_items 142 = .ok (.if_icmp .lt 70, 3) := by decide +kernel
theorem dX8_items_145 : decode cX8_items 145 = .ok (.iload_n 3, 1) := by decide +kernel
theorem dX8_items_146 : decode cX8_items 146 = .ok (.istore 7, 2) := by decide +kernel
theorem dX8_items_148 : decode cX8_items 148 = .ok (.aload_n 0, 1) := by decide +kernel
theorem dX8_items_149 : decode cX8_items 149 = .ok (.getfield 67, 3) := by decide +kernel
theorem dX8_items_152 : decode cX8_items 152 = .ok (.bipush 79, 2) := by decide +kernel
theorem dX8_items_154 : decode cX8_items 154 = .ok (.if_icmp .ne 47, 3) := by decide +kernel
theorem dX8_items_157 : decode cX8_items 157 = .ok (.iload 4, 2) := by decide +kernel
theorem dX8_items_159 : decode cX8_items 159 = .ok (.iconst 1, 1) := by decide +kernel
theorem dX8_items_160 : decode cX8_items 160 = .ok (.invokestatic 105, 3) := by decide +kernel
theorem dX8_items_163 : decode cX8_items 163 = .ok (.ifCond .eq 38, 3) := by decide +kernel
theorem dX8_items_166 : decode cX8_items 166 = .ok (.iload_n 3, 1) := by decide +kernel
theorem dX8_items_167 : decode cX8_items 167 = .ok (.ifCond .eq 18, 3) := by decide +kernel
theorem dX8_items_170 : decode cX8_items 170 = .ok (.aload_n 0, 1) := by decide +kernel
theorem dX8_items_171 : decode cX8_items 171 = .ok (.getfield 7, 3) := by decide +kernel
theorem dX8_items_174 : decode cX8_items 174 = .ok (.iload 4, 2) := by decide +kernel
theorem dX8_items_176 : decode cX8_items 176 = .ok (.iaload, 1) := by decide +kernel
theorem dX8_items_177 : decode cX8_items 177 = .ok (.iconst 1, 1) := by decide +kernel
theorem dX8_items_178 : decode cX8_items 178 = .ok (.iload 6, 2) := by decide +kernel
theorem dX8_items_180 : decode cX8_items 180 = .ok (.ishl, 1) := by decide +kernel
theorem dX8_items_181 : decode cX8_items 181 = .ok (.ior, 1) := by decide +kernel
theorem dX8_items_182 : decode cX8_items 182 = .ok (.goto 17, 3) := by decide +kernel
theorem dX8_items_185 : decode cX8_items 185 = .ok (.aload_n 0, 1) := by decide +kernel
theorem dX8_items_186 : decode cX8_items 186 = .ok (.getfield 7, 3) := by decide +kernel
theorem dX8_items_189 : decode cX8_items 189 = .ok (.iload 4, 2) := by decide +kernel
theorem dX8_items_191 : decode cX8_items 191 = .ok (.iaload, 1) := by decide +kernel
theorem dX8_items_192 : decode cX8_items 192 = .ok (.iconst 1, 1) := by decide +kernel
theorem dX8_items_193 : decode cX8_items 193 = .ok (.iload 6, 2) := by decide +kernel
theorem dX8_items_195 : decode cX8_items 195 = .ok (.ishl, 1) := by decide +kernel
theorem dX8_items_196 : decode cX8_items 196 = .ok (.iconst (-1), 1) := by decide +kernel
theorem dX8_items_197 : decode cX8_items 197 = .ok (.ixor, 1) := by decide +kernel
theorem dX8_items_198 : decode cX8_items 198 = .ok (.iand, 1) := by decide +kernel
theorem dX8_items_199 : decode cX8_items 199 = .ok (.istore 7, 2) := by decide +kernel
theorem dX8_items_201 : decode cX8_items 201 = .ok (.aload_n 0, 1) := by decide +kernel
theorem dX8_items_202 : decode cX8_items 202 = .ok (.iload 4, 2) := by decide +kernel
theorem dX8_items_204 : decode cX8_items 204 = .ok (.iload 5, 2) := by decide +kernel
theorem dX8_items_206 : decode cX8_items 206 = .ok (.iload 7, 2) := by decide +kernel
theorem dX8_items_208 : decode cX8_items 208 = .ok (.invokevirtual 109, 3) := by decide +kernel
theorem dX8_items_211 : decode cX8_items 211 = .ok (.ireturn, 1) := by decide +kernel
theorem dX8_items_212 : decode cX8_items 212 = .ok (.iload 4, 2) := by decide +kernel
theorem dX8_items_214 : decode cX8_items 214 = .ok (.iload 5, 2) := by decide +kernel
theorem dX8_items_216 : decode cX8_items 216 = .ok (.invokestatic 105, 3) := by decide +kernel
theorem dX8_items_219 : decode cX8_items 219 = .ok (.ifCond .ne 5, 3) := by decide +kernel
theorem dX8_items_222 : decode cX8_items 222 = .ok (.iconst 1, 1) := by decide +kernel
theorem dX8_items_223 : decode cX8_items 223 = .ok (.ireturn, 1) := by decide +kernel
theorem dX8_items_224 : decode cX8_items 224 = .ok (.aload_n 0, 1) := by decide +kernel
theorem dX8_items_225 : decode cX8_items 225 = .ok (.iload 4, 2) := by decide +kernel
theorem dX8_items_227 : decode cX8_items 227 = .ok (.iload 5, 2) := by decide +kernel
theorem dX8_items_229 : decode cX8_items 229 = .ok (.invokevirtual 62, 3) := by decide +kernel
theorem dX8_items_232 : decode cX8_items 232 = .ok (.istore 7, 2) := by decide +kernel
theorem dX8_items_234 : decode cX8_items 234 = .ok (.aload_n 0, 1) := by decide +kernel
theorem dX8_items_235 : decode cX8_items 235 = .ok (.aload_n 0, 1) := by decide +kernel
theorem dX8_items_236 : decode cX8_items 236 = .ok (.getfield 67, 3) := by decide +kernel
theorem dX8_items_239 : decode cX8_items 239 = .ok (.bipush 75, 2) := by decide +kernel
theorem dX8_items_241 : decode cX8_items 241 = .ok (.if_icmp .ne 13, 3) := by decide +kernel
theorem dX8_items_244 : decode cX8_items 244 = .ok (.iload 7, 2) := by decide +kernel
theorem dX8_items_246 : decode cX8_items 246 = .ok (.iload 6, 2) := by decide +kernel
theorem dX8_items_248 : decode cX8_items 248 = .ok (.ishr, 1) := by decide +kernel
theorem dX8_items_249 : decode cX8_items 249 = .ok (.iconst 1, 1) := by decide +kernel
theorem dX8_items_250 : decode cX8_items 250 = .ok (.iand, 1) := by decide +kernel
theorem dX8_items_251 : decode cX8_items 251 = .ok (.goto 5, 3) := by decide +kernel
theorem dX8_items_254 : decode cX8_items 254 = .ok (.iload 7, 2) := by decide +kernel
theorem dX8_items_256 : decode cX8_items 256 = .ok (.invokevirtual 116, 3) := by decide +kernel
theorem dX8_items_259 : decode cX8_items 259 = .ok (.ireturn, 1) := by decide +kernel
theorem dX8_turns_0 : decode cX8_turns 0 = .ok (.iload_n 1, 1) := by decide +kernel
theorem dX8_turns_1 : decode cX8_turns 1 = .ok (.ifCond .lt 11, 3) := by decide +kernel
theorem dX8_turns_4 : decode cX8_turns 4 = .ok (.iload_n 1, 1) := by decide +kernel
theorem dX8_turns_5 : decode cX8_turns 5 = .ok (.aload_n 0, 1) := by decide +kernel
theorem dX8_turns_6 : decode cX8_turns 6 = .ok (.getfield 59, 3) := by decide +kernel
theorem dX8_turns_9 : decode cX8_turns 9 = .ok (.if_icmp .le 5, 3) := by decide +kernel
theorem dX8_turns_12 : decode cX8_turns 12 = .ok (.iconst 4, 1) := by decide +kernel
theorem dX8_turns_13 : decode cX8_turns 13 = .ok (.ireturn, 1) := by decide +kernel
theorem dX8_turns_14 : decode cX8_turns 14 = .ok (.iload_n 1, 1) := by decide +kernel
theorem dX8_turns_15 : decode cX8_turns 15 = .ok (.ifCond .le 105, 3) := by decide +kernel
theorem dX8_turns_18 : decode cX8_turns 18 = .ok (.iload_n 2, 1) := by decide +kernel
theorem dX8_turns_19 : decode cX8_turns 19 = .ok (.iload_n 1, 1) := by decide +kernel
theorem dX8_turns_20 : decode cX8_turns 20 = .ok (.irem, 1) := by decide +kernel
theorem dX8_turns_21 : decode cX8_turns 21 = .ok (.ifCond .ge 11, 3) := by decide +kernel
theorem dX8_turns_24 : decode cX8_turns 24 = .ok (.iload_n 2, 1) := by decide +kernel
theorem dX8_turns_25 : decode cX8_turns 25 = .ok (.iload_n 1, 1) := by decide +kernel
theorem dX8_turns_26 : decode cX8_turns 26 = .ok (.irem, 1) := by decide +kernel
theorem dX8_turns_27 : decode cX8_turns 27 = .ok (.iload_n 1, 1) := by decide +kernel
theorem dX8_turns_28 : decode cX8_turns 28 = .ok (.iadd, 1) := by decide +kernel
theorem dX8_turns_29 : decode cX8_turns 29 = .ok (.goto 6, 3) := by decide +kernel
theorem dX8_turns_32 : decode cX8_turns 32 = .ok (.iload_n 2, 1) := by decide +kernel
theorem dX8_turns_33 : decode cX8_turns 33 = .ok (.iload_n 1, 1) := by decide +kernel
theorem dX8_turns_34 : decode cX8_turns 34 = .ok (.irem, 1) := by decide +kernel
theorem dX8_turns_35 : decode cX8_turns 35 = .ok (.istore_n 3, 1) := by decide +kernel
theorem dX8_turns_36 : decode cX8_turns 36 = .ok (.aload_n 0, 1) := by decide +kernel
theorem dX8_turns_37 : decode cX8_turns 37 = .ok (.getfield 59, 3) := by decide +kernel
theorem dX8_turns_40 : decode cX8_turns 40 = .ok (.iload_n 1, 1) := by decide +kernel
theorem dX8_turns_41 : decode cX8_turns 41 = .ok (.isub, 1) := by decide +kernel
theorem dX8_turns_42 : decode cX8_turns 42 = .ok (.istore 4, 2) := by decide +kernel
theorem dX8_turns_44 : decode cX8_turns 44 = .ok (.iconst 0, 1) := by decide +kernel
theorem dX8_turns_45 : decode cX8_turns 45 = .ok (.istore 5, 2) := by decide +kernel
theorem dX8_turns_47 : decode cX8_turns 47 = .ok (.iload 5, 2) := by decide +kernel
theorem dX8_turns_49 : decode cX8_turns 49 = .ok (.iload_n 1, 1) := by decide +kernel
theorem dX8_turns_50 : decode cX8_turns 50 = .ok (.if_icmp .ge 38, 3) := by decide +kernel
theorem dX8_turns_53 : decode cX8_turns 53 = .ok (.aload_n 0, 1) := by decide +kernel
theorem dX8_turns_54 : decode cX8_turns 54 = .ok (.getfield 41, 3) := by decide +kernel
theorem dX8_turns_57 : decode cX8_turns 57 = .ok (.iload_n 1, 1) := by decide +kernel
theorem dX8_turns_58 : decode cX8_turns 58 = .ok (.iconst 1, 1) := by decide +kernel
theorem dX8_turns_59 : decode cX8_turns 59 = .ok (.isub, 1) := by decide +kernel
theorem dX8_turns_60 : decode cX8_turns 60 = .ok (.iload 5, 2) := by decide +kernel
theorem dX8_turns_62 : decode cX8_turns 62 = .ok (.isub, 1) := by decide +kernel
theorem dX8_turns_63 : decode cX8_turns 63 = .ok (.aload_n 0, 1) := by decide +kernel
theorem dX8_turns_64 : decode cX8_turns 64 = .ok (.getfield 16, 3) := by decide +kernel
theorem dX8_turns_67 : decode cX8_turns 67 = .ok (.iload 4, 2) := by decide +kernel
theorem dX8_turns_69 : decode cX8_turns 69 = .ok (.iload_n 1, 1) := by decide +kernel
theorem dX8_turns_70 : decode cX8_turns 70 = .ok (.iadd, 1) := by decide +kernel
theorem dX8_turns_71 : decode cX8_turns 71 = .ok (.iconst 1, 1) := by decide +kernel
theorem dX8_turns_72 : decode cX8_turns 72 = .ok (.isub, 1) := by decide +kernel
theorem dX8_turns_73 : decode cX8_turns 73 = .ok (.iload 5, 2) := by decide +kernel
theorem dX8_turns_75 : decode cX8_turns 75 = .ok (.iload_n 3, 1) := by decide +kernel
theorem dX8_turns_76 : decode cX8_turns 76 = .ok (.iadd, 1) := by decide +kernel
theorem dX8_turns_77 : decode cX8_turns 77 = .ok (.iload_n 1, 1) := by decide +kernel
theorem dX8_turns_78 : decode cX8_turns 78 = .ok (.irem, 1) := by decide +kernel
theorem dX8_turns_79 : decode cX8_turns 79 = .ok (.isub, 1) := by decide +kernel
theorem dX8_turns_80 : decode cX8_turns 80 = .ok (.iaload, 1) := by decide +kernel
theorem dX8_turns_81 : decode cX8_turns 81 = .ok (.iastore, 1) := by decide +kernel
theorem dX8_turns_82 : decode cX8_turns 82 = .ok (.iinc 5 1, 3) := by decide +kernel
theorem dX8_turns_85 : decode cX8_turns 85 = .ok (.goto (-38), 3) := by decide +kernel
theorem dX8_turns_88 : decode cX8_turns 88 = .ok (.iconst 0, 1) := by decide +kernel
theorem dX8_turns_89 : decode cX8_turns 89 = .ok (.istore 5, 2) := by decide +kernel
theorem dX8_turns_91 : decode cX8_turns 91 = .ok (.iload 5, 2) := by decide +kernel
theorem dX8_turns_93 : decode cX8_turns 93 = .ok (.iload_n 1, 1) := by decide +kernel
theorem dX8_turns_94 : decode cX8_turns 94 = .ok (.if_icmp .ge 26, 3) := by decide +kernel
theorem dX8_turns_97 : decode cX8_turns 97 = .ok (.aload_n 0, 1) := by decide +kernel
theorem dX8_turns_98 : decode cX8_turns 98 = .ok (.getfield 16, 3) := by decide +kernel
theorem dX8_turns_101 : decode cX8_turns 101 = .ok (.iload 4, 2) := by decide +kernel
theorem dX8_turns_103 : decode cX8_turns 103 = .ok (.iload 5, 2) := by decide +kernel
theorem dX8_turns_105 : decode cX8_turns 105 = .ok (.iadd, 1) := by decide +kernel
theorem dX8_turns_106 : decode cX8_turns 106 = .ok (.aload_n 0, 1) := by decide +kernel
theorem dX8_turns_107 : decode cX8_turns 107 = .ok (.getfield 41, 3) := by decide +kernel
theorem dX8_turns_110 : decode cX8_turns 110 = .ok (.iload 5, 2) := by decide +kernel
theorem dX8_turns_112 : decode cX8_turns 112 = .ok (.iaload, 1) := by decide +kernel
theorem dX8_turns_113 : decode cX8_turns 113 = .ok (.iastore, 1) := by decide +kernel
theorem dX8_turns_114 : decode cX8_turns 114 = .ok (.iinc 5 1, 3) := by decide +kernel
theorem dX8_turns_117 : decode cX8_turns 117 = .ok (.goto (-26), 3) := by decide +kernel
theorem dX8_turns_120 : decode cX8_turns 120 = .ok (.iconst 0, 1) := by decide +kernel
theorem dX8_turns_121 : decode cX8_turns 121 = .ok (.ireturn, 1) := by decide +kernel
theorem dX8_onStack_0 : decode cX8_onStack 0 = .ok (.aload_n 0, 1) := by decide +kernel
theorem dX8_onStack_1 : decode cX8_onStack 1 = .ok (.getfield 67, 3) := by decide +kernel
theorem dX8_onStack_4 : decode cX8_onStack 4 = .ok (.tableswitch 140 80 83 #[32, 41, 75, 133], 32) := by decide +kernel
theorem dX8_onStack_36 : decode cX8_onStack 36 = .ok (.aload_n 0, 1) := by decide +kernel
theorem dX8_onStack_37 : decode cX8_onStack 37 = .ok (.aload_n 0, 1) := by decide +kernel
theorem dX8_onStack_38 : decode cX8_onStack 38 = .ok (.getfield 59, 3) := by decide +kernel
theorem dX8_onStack_41 : decode cX8_onStack 41 = .ok (.invokevirtual 116, 3) := by decide +kernel
theorem dX8_onStack_44 : decode cX8_onStack 44 = .ok (.ireturn, 1) := by decide +kernel
theorem dX8_onStack_45 : decode cX8_onStack 45 = .ok (.iload_n 1, 1) := by decide +kernel
theorem dX8_onStack_46 : decode cX8_onStack 46 = .ok (.ifCond .lt 11, 3) := by decide +kernel
theorem dX8_onStack_49 : decode cX8_onStack 49 = .ok (.iload_n 1, 1) := by decide +kernel
theorem dX8_onStack_50 : decode cX8_onStack 50 = .ok (.aload_n 0, 1) := by decide +kernel
theorem dX8_onStack_51 : decode cX8_onStack 51 = .ok (.getfield 59, 3) := by decide +kernel
theorem dX8_onStack_54 : decode cX8_onStack 54 = .ok (.if_icmp .lt 7, 3) := by decide +kernel
theorem dX8_onStack_57 : decode cX8_onStack 57 = .ok (.iconst 4, 1) := by decide +kernel
theorem dX8_onStack_58 : decode cX8_onStack 58 = .ok (.goto 20, 3) := by decide +kernel
theorem dX8_onStack_61 : decode cX8_onStack 61 = .ok (.aload_n 0, 1) := by decide +kernel
theorem dX8_onStack_62 : decode cX8_onStack 62 = .ok (.aload_n 0, 1) := by decide +kernel
theorem dX8_onStack_63 : decode cX8_onStack 63 = .ok (.getfield 16, 3) := by decide +kernel
theorem dX8_onStack_66 : decode cX8_onStack 66 = .ok (.aload_n 0, 1) := by decide +kernel
theorem dX8_onStack_67 : decode cX8_onStack 67 = .ok (.getfield 59, 3) := by decide +kernel
theorem dX8_onStack_70 : decode cX8_onStack 70 = .ok (.iconst 1, 1) := by decide +kernel
theorem dX8_onStack_71 : decode cX8_onStack 71 = .ok (.isub, 1) := by decide +kernel
theorem dX8_onStack_72 : decode cX8_onStack 72 = .ok (.iload_n 1, 1) := by decide +kernel
theorem dX8_onStack_73 : decode cX8_onStack 73 = .ok (.isub, 1) := by decide +kernel
theorem dX8_onStack_74 : decode cX8_onStack 74 = .ok (.iaload, 1) := by decide +kernel
theorem dX8_onStack_75 : decode cX8_onStack 75 = .ok (.invokevirtual 116, 3) := by decide +kernel
theorem dX8_onStack_78 : decode cX8_onStack 78 = .ok (.ireturn, 1) := by decide +kernel
theorem dX8_onStack_79 : decode cX8_onStack 79 = .ok (.aload_n 0, 1) := by decide +kernel
theorem dX8_onStack_80 : decode cX8_onStack 80 = .ok (.getfield 59, 3) := by decide +kernel
theorem dX8_onStack_83 : decode cX8_onStack 83 = .ok (.iconst 2, 1) := by decide +kernel
theorem dX8_onStack_84 : decode cX8_onStack 84 = .ok (.if_icmp .ge 5, 3) := by decide +kernel
theorem dX8_onStack_87 : decode cX8_onStack 87 = .ok (.iconst 4, 1) := by decide +kernel
theorem dX8_onStack_88 : decode cX8_onStack 88 = .ok (.ireturn, 1) := by decide +kernel
theorem dX8_onStack_89 : decode cX8_onStack 89 = .ok (.aload_n 0, 1) := by decide +kernel
theorem dX8_onStack_90 : decode cX8_onStack 90 = .ok (.getfield 16, 3) := by decide +kernel
theorem dX8_onStack_93 : decode cX8_onStack 93 = .ok (.aload_n 0, 1) := by decide +kernel
theorem dX8_onStack_94 : decode cX8_onStack 94 = .ok (.getfield 59, 3) := by decide +kernel
theorem dX8_onStack_97 : decode cX8_onStack 97 = .ok (.iconst 1, 1) := by decide +kernel
theorem dX8_onStack_98 : decode cX8_onStack 98 = .ok (.isub, 1) := by decide +kernel
theorem dX8_onStack_99 : decode cX8_onStack 99 = .ok (.iaload, 1) := by decide +kernel
theorem dX8_onStack_100 : decode cX8_onStack 100 = .ok (.istore_n 3, 1) := by decide +kernel
theorem dX8_onStack_101 : decode cX8_onStack 101 = .ok (.aload_n 0, 1) := by decide +kernel
theorem dX8_onStack_102 : decode cX8_onStack 102 = .ok (.getfield 16, 3) := by decide +kernel
theorem dX8_onStack_105 : decode cX8_onStack 105 = .ok (.aload_n 0, 1) := by decide +kernel
theorem dX8_onStack_106 : decode cX8_onStack 106 = .ok (.getfield 59, 3) := by decide +kernel
theorem dX8_onStack_109 : decode cX8_onStack 109 = .ok (.iconst 1, 1) := by decide +kernel
theorem dX8_onStack_110 : decode cX8_onStack 110 = .ok (.isub, 1) := by decide +kernel
theorem dX8_onStack_111 : decode cX8_onStack 111 = .ok (.aload_n 0, 1) := by decide +kernel
theorem dX8_onStack_112 : decode cX8_onStack 112 = .ok (.getfield 16, 3) := by decide +kernel
theorem dX8_onStack_115 : decode cX8_onStack 115 = .ok (.aload_n 0, 1) := by decide +kernel
theorem dX8_onStack_116 : decode cX8_onStack 116 = .ok (.getfield 59, 3) := by decide +kernel
theorem dX8_onStack_119 : decode cX8_onStack 119 = .ok (.iconst 2, 1) := by decide +kernel
theorem dX8_onStack_120 : decode cX8_onStack 120 = .ok (.isub, 1) := by decide +kernel
theorem dX8_onStack_121 : decode cX8_onStack 121 = .ok (.iaload, 1) := by decide +kernel
theorem dX8_onStack_122 : decode cX8_onStack 122 = .ok (.iastore, 1) := by decide +kernel
theorem dX8_onStack_123 : decode cX8_onStack 123 = .ok (.aload_n 0, 1) := by decide +kernel
theorem dX8_onStack_124 : decode cX8_onStack 124 = .ok (.getfield 16, 3) := by decide +kernel
theorem dX8_onStack_127 : decode cX8_onStack 127 = .ok (.aload_n 0, 1) := by decide +kernel
theorem dX8_onStack_128 : decode cX8_onStack 128 = .ok (.getfield 59, 3) := by decide +kernel
theorem dX8_onStack_131 : decode cX8_onStack 131 = .ok (.iconst 2, 1) := by decide +kernel
theorem dX8_onStack_132 : decode cX8_onStack 132 = .ok (.isub, 1) := by decide +kernel
theorem dX8_onStack_133 : decode cX8_onStack 133 = .ok (.iload_n 3, 1) := by decide +kernel
theorem dX8_onStack_134 : decode cX8_onStack 134 = .ok (.iastore, 1) := by decide +kernel
theorem dX8_onStack_135 : decode cX8_onStack 135 = .ok (.iconst 0, 1) := by decide +kernel
theorem dX8_onStack_136 : decode cX8_onStack 136 = .ok (.ireturn, 1) := by decide +kernel
theorem dX8_onStack_137 : decode cX8_onStack 137 = .ok (.aload_n 0, 1) := by decide +kernel
theorem dX8_onStack_138 : decode cX8_onStack 138 = .ok (.iload_n 1, 1) := by decide +kernel
theorem dX8_onStack_139 : decode cX8_onStack 139 = .ok (.iload_n 2, 1) := by decide +kernel
theorem dX8_onStack_140 : decode cX8_onStack 140 = .ok (.invokevirtual 129, 3) := by decide +kernel
theorem dX8_onStack_143 : decode cX8_onStack 143 = .ok (.ireturn, 1) := by decide +kernel
theorem dX8_onStack_144 : decode cX8_onStack 144 = .ok (.iload_n 1, 1) := by decide +kernel
theorem dX8_onStack_145 : decode cX8_onStack 145 = .ok (.ifCond .lt 11, 3) := by decide +kernel
theorem dX8_onStack_148 : decode cX8_onStack 148 = .ok (.iload_n 1, 1) := by decide +kernel
theorem dX8_onStack_149 : decode cX8_onStack 149 = .ok (.aload_n 0, 1) := by decide +kernel
theorem dX8_onStack_150 : decode cX8_onStack 150 = .ok (.getfield 59, 3) := by decide +kernel
theorem dX8_onStack_153 : decode cX8_onStack 153 = .ok (.if_icmp .le 5, 3) := by decide +kernel
theorem dX8_onStack_156 : decode cX8_onStack 156 = .ok (.iconst 4, 1) := by decide +kernel
theorem dX8_onStack_157 : decode cX8_onStack 157 = .ok (.ireturn, 1) := by decide +kernel
theorem dX8_onStack_158 : decode cX8_onStack 158 = .ok (.aload_n 0, 1) := by decide +kernel
theorem dX8_onStack_159 : decode cX8_onStack 159 = .ok (.getfield 59, 3) := by decide +kernel
theorem dX8_onStack_162 : decode cX8_onStack 162 = .ok (.iload_n 1, 1) := by decide +kernel
theorem dX8_onStack_163 : decode cX8_onStack 163 = .ok (.iadd, 1) := by decide +kernel
theorem dX8_onStack_164 : decode cX8_onStack 164 = .ok (.bipush 40, 2) := by decide +kernel
theorem dX8_onStack_166 : decode cX8_onStack 166 = .ok (.if_icmp .le 5, 3) := by decide +kernel
theorem dX8_onStack_169 : decode cX8_onStack 169 = .ok (.iconst 5, 1) := by decide +kernel
theorem dX8_onStack_170 : decode cX8_onStack 170 = .ok (.ireturn, 1) := by decide +kernel
theorem dX8_onStack_171 : decode cX8_onStack 171 = .ok (.iconst 0, 1) := by decide +kernel
theorem dX8_onStack_172 : decode cX8_onStack 172 = .ok (.istore_n 3, 1) := by decide +kernel
theorem dX8_onStack_173 : decode cX8_onStack 173 = .ok (.iload_n 3, 1) := by decide +kernel
theorem dX8_onStack_174 : decode cX8_onStack 174 = .ok (.iload_n 1, 1) := by decide +kernel
theorem dX8_onStack_175 : decode cX8_onStack 175 = .ok (.if_icmp .ge 33, 3) := by decide +kernel
theorem dX8_onStack_178 : decode cX8_onStack 178 = .ok (.aload_n 0, 1) := by decide +kernel
theorem dX8_onStack_179 : decode cX8_onStack 179 = .ok (.getfield 16, 3) := by decide +kernel
theorem dX8_onStack_182 : decode cX8_onStack 182 = .ok (.aload_n 0, 1) := by decide +kernel
theorem dX8_onStack_183 : decode cX8_onStack 183 = .ok (.getfield 59, 3) := by decide +kernel
theorem dX8_onStack_186 : decode cX8_onStack 186 = .ok (.iload_n 3, 1) := by decide +kernel
theorem dX8_onStack_187 : decode cX8_onStack 187 = .ok (.iadd, 1) := by decide +kernel
theorem dX8_onStack_188 : decode cX8_onStack 188 = .ok (.aload_n 0, 1) := by decide +kernel
theorem dX8_onStack_189 : decode cX8_onStack 189 = .ok (.getfield 16, 3) := by decide +kernel
theorem dX8_onStack_192 : decode cX8_onStack 192 = .ok (.aload_n 0, 1) := by decide +kernel
theorem dX8_onStack_193 : decode cX8_onStack 193 = .ok (.getfield 59, 3) := by decide +kernel
theorem dX8_onStack_196 : decode cX8_onStack 196 = .ok (.iload_n 1, 1) := by decide +kernel
theorem dX8_onStack_197 : decode cX8_onStack 197 = .ok (.isub, 1) := by decide +kernel
theorem dX8_onStack_198 : decode cX8_onStack 198 = .ok (.iload_n 3, 1) := by decide +kernel
theorem dX8_onStack_199 : decode cX8_onStack 199 = .ok (.iadd, 1) := by decide +kernel
theorem dX8_onStack_200 : decode cX8_onStack 200 = .ok (.iaload, 1) := by decide +kernel
theorem dX8_onStack_201 : decode cX8_onStack 201 = .ok (.iastore, 1) := by decide +kernel
theorem dX8_onStack_202 : decode cX8_onStack 202 = .ok (.iinc 3 1, 3) := by decide +kernel
theorem dX8_onStack_205 : decode cX8_onStack 205 = .ok (.goto (-32), 3) := by decide +kernel
theorem dX8_onStack_208 : decode cX8_onStack 208 = .ok (.aload_n 0, 1) := by decide +kernel
theorem dX8_onStack_209 : decode cX8_onStack 209 = .ok (.dup, 1) := by decide +kernel
theorem dX8_onStack_210 : decode cX8_onStack 210 = .ok (.getfield 59, 3) := by decide +kernel
theorem dX8_onStack_213 : decode cX8_onStack 213 = .ok (.iload_n 1, 1) := by decide +kernel
theorem dX8_onStack_214 : decode cX8_onStack 214 = .ok (.iadd, 1) := by decide +kernel
theorem dX8_onStack_215 : decode cX8_onStack 215 = .ok (.putfield 59, 3) := by decide +kernel
theorem dX8_onStack_218 : decode cX8_onStack 218 = .ok (.iconst 0, 1) := by decide +kernel
theorem dX8_onStack_219 : decode cX8_onStack 219 = .ok (.ireturn, 1) := by decide +kernel
theorem dX8_clears_0 : decode cX8_clears 0 = .ok (.iload_n 1, 1) := by decide +kernel
theorem dX8_clears_1 : decode cX8_clears 1 = .ok (.ifCond .ne 5, 3) := by decide +kernel
theorem dX8_clears_4 : decode cX8_clears 4 = .ok (.iconst 0, 1) := by decide +kernel
theorem dX8_clears_5 : decode cX8_clears 5 = .ok (.ireturn, 1) := by decide +kernel
theorem dX8_clears_6 : decode cX8_clears 6 = .ok (.iload_n 1, 1) := by decide +kernel
theorem dX8_clears_7 : decode cX8_clears 7 = .ok (.ifCond .lt 18, 3) := by decide +kernel
theorem dX8_clears_10 : decode cX8_clears 10 = .ok (.iload_n 1, 1) := by decide +kernel
theorem dX8_clears_11 : decode cX8_clears 11 = .ok (.sipush 1024, 3) := by decide +kernel
theorem dX8_clears_14 : decode cX8_clears 14 = .ok (.if_icmp .gt 11, 3) := by decide +kernel
theorem dX8_clears_17 : decode cX8_clears 17 = .ok (.iload_n 2, 1) := by decide +kernel
theorem dX8_clears_18 : decode cX8_clears 18 = .ok (.iload_n 1, 1) := by decide +kernel
theorem dX8_clears_19 : decode cX8_clears 19 = .ok (.invokestatic 105, 3) := by decide +kernel
theorem dX8_clears_22 : decode cX8_clears 22 = .ok (.ifCond .ne 5, 3) := by decide +kernel
theorem dX8_clears_25 : decode cX8_clears 25 = .ok (.iconst 1, 1) := by decide +kernel
theorem dX8_clears_26 : decode cX8_clears 26 = .ok (.ireturn, 1) := by decide +kernel
theorem dX8_clears_27 : decode cX8_clears 27 = .ok (.iload_n 2, 1) := by decide +kernel
theorem dX8_clears_28 : decode cX8_clears 28 = .ok (.aload_n 0, 1) := by decide +kernel
theorem dX8_clears_29 : decode cX8_clears 29 = .ok (.getfield 22, 3) := by decide +kernel
theorem dX8_clears_32 : decode cX8_clears 32 = .ok (.if_icmp .ge 6, 3) := by decide +kernel
theorem dX8_clears_35 : decode cX8_clears 35 = .ok (.bipush 8, 2) := by decide +kernel
theorem dX8_clears_37 : decode cX8_clears 37 = .ok (.ireturn, 1) := by decide +kernel
theorem dX8_clears_38 : decode cX8_clears 38 = .ok (.iconst 0, 1) := by decide +kernel
theorem dX8_clears_39 : decode cX8_clears 39 = .ok (.istore_n 3, 1) := by decide +kernel
theorem dX8_clears_40 : decode cX8_clears 40 = .ok (.iload_n 3, 1) := by decide +kernel
theorem dX8_clears_41 : decode cX8_clears 41 = .ok (.iload_n 1, 1) := by decide +kernel
theorem dX8_clears_42 : decode cX8_clears 42 = .ok (.if_icmp .ge 18, 3) := by decide +kernel
theorem dX8_clears_45 : decode cX8_clears 45 = .ok (.aload_n 0, 1) := by decide +kernel
theorem dX8_clears_46 : decode cX8_clears 46 = .ok (.getfield 7, 3) := by decide +kernel
theorem dX8_clears_49 : decode cX8_clears 49 = .ok (.iload_n 2, 1) := by decide +kernel
theorem dX8_clears_50 : decode cX8_clears 50 = .ok (.iload_n 3, 1) := by decide +kernel
theorem dX8_clears_51 : decode cX8_clears 51 = .ok (.iadd, 1) := by decide +kernel
theorem dX8_clears_52 : decode cX8_clears 52 = .ok (.iconst 0, 1) := by decide +kernel
theorem dX8_clears_53 : decode cX8_clears 53 = .ok (.iastore, 1) := by decide +kernel
theorem dX8_clears_54 : decode cX8_clears 54 = .ok (.iinc 3 1, 3) := by decide +kernel
theorem dX8_clears_57 : decode cX8_clears 57 = .ok (.goto (-17), 3) := by decide +kernel
theorem dX8_clears_60 : decode cX8_clears 60 = .ok (.iconst 0, 1) := by decide +kernel
theorem dX8_clears_61 : decode cX8_clears 61 = .ok (.ireturn, 1) := by decide +kernel
theorem dX8_copies_0 : decode cX8_copies 0 = .ok (.iload_n 1, 1) := by decide +kernel
theorem dX8_copies_1 : decode cX8_copies 1 = .ok (.ifCond .ne 5, 3) := by decide +kernel
theorem dX8_copies_4 : decode cX8_copies 4 = .ok (.iconst 0, 1) := by decide +kernel
theorem dX8_copies_5 : decode cX8_copies 5 = .ok (.ireturn, 1) := by decide +kernel
theorem dX8_copies_6 : decode cX8_copies 6 = .ok (.iload_n 1, 1) := by decide +kernel
theorem dX8_copies_7 : decode cX8_copies 7 = .ok (.ifCond .lt 26, 3) := by decide +kernel
theorem dX8_copies_10 : decode cX8_copies 10 = .ok (.iload_n 1, 1) := by decide +kernel
theorem dX8_copies_11 : decode cX8_copies 11 = .ok (.sipush 1024, 3) := by decide +kernel
theorem dX8_copies_14 : decode cX8_copies 14 = .ok (.if_icmp .gt 19, 3) := by decide +kernel
theorem dX8_copies_17 : decode cX8_copies 17 = .ok (.iload_n 2, 1) := by decide +kernel
theorem dX8_copies_18 : decode cX8_copies 18 = .ok (.iload_n 1, 1) := by decide +kernel
theorem dX8_copies_19 : decode cX8_copies 19 = .ok (.invokestatic 105, 3) := by decide +kernel
theorem dX8_copies_22 : decode cX8_copies 22 = .ok (.ifCond .eq 11, 3) := by decide +kernel
theorem dX8_copies_25 : decode cX8_copies 25 = .ok (.iload_n 3, 1) := by decide +kernel
theorem dX8_copies_26 : decode cX8_copies 26 = .ok (.iload_n 1, 1) := by decide +kernel
theorem dX8_copies_27 : decode cX8_copies 27 = .ok (.invokestatic 105, 3) := by decide +kernel
theorem dX8_copies_30 : decode cX8_copies 30 = .ok (.ifCond .ne 5, 3) := by decide +kernel
theorem dX8_copies_33 : decode cX8_copies 33 = .ok (.iconst 1, 1) := by decide +kernel
theorem dX8_copies_34 : decode cX8_copies 34 = .ok (.ireturn, 1) := by decide +kernel
theorem dX8_copies_35 : decode cX8_copies 35 = .ok (.iload_n 3, 1) := by decide +kernel
theorem dX8_copies_36 : decode cX8_copies 36 = .ok (.aload_n 0, 1) := by decide +kernel
theorem dX8_copies_37 : decode cX8_copies 37 = .ok (.getfield 22, 3) := by decide +kernel
theorem dX8_copies_40 : decode cX8_copies 40 = .ok (.if_icmp .ge 6, 3) := by decide +kernel
theorem dX8_copies_43 : decode cX8_copies 43 = .ok (.bipush 8, 2) := by decide +kernel
theorem dX8_copies_45 : decode cX8_copies 45 = .ok (.ireturn, 1) := by decide +kernel
theorem dX8_copies_46 : decode cX8_copies 46 = .ok (.iconst 0, 1) := by decide +kernel
theorem dX8_copies_47 : decode cX8_copies 47 = .ok (.istore 4, 2) := by decide +kernel
theorem dX8_copies_49 : decode cX8_copies 49 = .ok (.iload 4, 2) := by decide +kernel
theorem dX8_copies_51 : decode cX8_copies 51 = .ok (.iload_n 1, 1) := by decide +kernel
theorem dX8_copies_52 : decode cX8_copies 52 = .ok (.if_icmp .ge 25, 3) := by decide +kernel
theorem dX8_copies_55 : decode cX8_copies 55 = .ok (.aload_n 0, 1) := by decide +kernel
theorem dX8_copies_56 : decode cX8_copies 56 = .ok (.getfield 44, 3) := by decide +kernel
theorem dX8_copies_59 : decode cX8_copies 59 = .ok (.iload 4, 2) := by decide +kernel
theorem dX8_copies_61 : decode cX8_copies 61 = .ok (.aload_n 0, 1) := by decide +kernel
theorem dX8_copies_62 : decode cX8_copies 62 = .ok (.getfield 7, 3) := by decide +kernel
theorem dX8_copies_65 : decode cX8_copies 65 = .ok (.iload_n 2, 1) := by decide +kernel
theorem dX8_copies_66 : decode cX8_copies 66 = .ok (.iload 4, 2) := by decide +kernel
theorem dX8_copies_68 : decode cX8_copies 68 = .ok (.iadd, 1) := by decide +kernel
theorem dX8_copies_69 : decode cX8_copies 69 = .ok (.iaload, 1) := by decide +kernel
theorem dX8_copies_70 : decode cX8_copies 70 = .ok (.iastore, 1) := by decide +kernel
theorem dX8_copies_71 : decode cX8_copies 71 = .ok (.iinc 4 1, 3) := by decide +kernel
theorem dX8_copies_74 : decode cX8_copies 74 = .ok (.goto (-25), 3) := by decide +kernel
theorem dX8_copies_77 : decode cX8_copies 77 = .ok (.iconst 0, 1) := by decide +kernel
theorem dX8_copies_78 : decode cX8_copies 78 = .ok (.istore 4, 2) := by decide +kernel
theorem dX8_copies_80 : decode cX8_copies 80 = .ok (.iload 4, 2) := by decide +kernel
theorem dX8_copies_82 : decode cX8_copies 82 = .ok (.iload_n 1, 1) := by decide +kernel
theorem dX8_copies_83 : decode cX8_copies 83 = .ok (.if_icmp .ge 25, 3) := by decide +kernel
theorem dX8_copies_86 : decode cX8_copies 86 = .ok (.aload_n 0, 1) := by decide +kernel
theorem dX8_copies_87 : decode cX8_copies 87 = .ok (.getfield 7, 3) := by decide +kernel
theorem dX8_copies_90 : decode cX8_copies 90 = .ok (.iload_n 3, 1) := by decide +kernel
theorem dX8_copies_91 : decode cX8_copies 91 = .ok (.iload 4, 2) := by decide +kernel
theorem dX8_copies_93 : decode cX8_copies 93 = .ok (.iadd, 1) := by decide +kernel
theorem dX8_copies_94 : decode cX8_copies 94 = .ok (.aload_n 0, 1) := by decide +kernel
theorem dX8_copies_95 : decode cX8_copies 95 = .ok (.getfield 44, 3) := by decide +kernel
theorem dX8_copies_98 : decode cX8_copies 98 = .ok (.iload 4, 2) := by decide +kernel
theorem dX8_copies_100 : decode cX8_copies 100 = .ok (.iaload, 1) := by decide +kernel
theorem dX8_copies_101 : decode cX8_copies 101 = .ok (.iastore, 1) := by decide +kernel
theorem dX8_copies_102 : decode cX8_copies 102 = .ok (.iinc 4 1, 3) := by decide +kernel
theorem dX8_copies_105 : decode cX8_copies 105 = .ok (.goto (-25), 3) := by decide +kernel
theorem dX8_copies_108 : decode cX8_copies 108 = .ok (.iconst 0, 1) := by decide +kernel
theorem dX8_copies_109 : decode cX8_copies 109 = .ok (.ireturn, 1) := by decide +kernel
theorem dX8_gestalt_0 : decode cX8_gestalt 0 = .ok (.iload_n 0, 1) := by decide +kernel
theorem dX8_gestalt_1 : decode cX8_gestalt 1 = .ok (.ifCond .ne 8, 3) := by decide +kernel
theorem dX8_gestalt_4 : decode cX8_gestalt 4 = .ok (.ldc 132, 2) := by decide +kernel
theorem dX8_gestalt_6 : decode cX8_gestalt 6 = .ok (.goto 39, 3) := by decide +kernel
theorem dX8_gestalt_9 : decode cX8_gestalt 9 = .ok (.iload_n 0, 1) := by decide +kernel
theorem dX8_gestalt_10 : decode cX8_gestalt 10 = .ok (.iconst 1, 1) := by decide +kernel
theorem dX8_gestalt_11 : decode cX8_gestalt 11 = .ok (.if_icmp .ne 8, 3) := by decide +kernel
theorem dX8_gestalt_14 : decode cX8_gestalt 14 = .ok (.ldc 133, 2) := by decide +kernel
theorem dX8_gestalt_16 : decode cX8_gestalt 16 = .ok (.goto 29, 3) := by decide +kernel
theorem dX8_gestalt_19 : decode cX8_gestalt 19 = .ok (.iload_n 0, 1) := by decide +kernel
theorem dX8_gestalt_20 : decode cX8_gestalt 20 = .ok (.iconst 2, 1) := by decide +kernel
theorem dX8_gestalt_21 : decode cX8_gestalt 21 = .ok (.if_icmp .eq 19, 3) := by decide +kernel
theorem dX8_gestalt_24 : decode cX8_gestalt 24 = .ok (.iload_n 0, 1) := by decide +kernel
theorem dX8_gestalt_25 : decode cX8_gestalt 25 = .ok (.iconst 3, 1) := by decide +kernel
theorem dX8_gestalt_26 : decode cX8_gestalt 26 = .ok (.if_icmp .eq 14, 3) := by decide +kernel
theorem dX8_gestalt_29 : decode cX8_gestalt 29 = .ok (.iload_n 0, 1) := by decide +kernel
theorem dX8_gestalt_30 : decode cX8_gestalt 30 = .ok (.iconst 5, 1) := by decide +kernel
theorem dX8_gestalt_31 : decode cX8_gestalt 31 = .ok (.if_icmp .eq 9, 3) := by decide +kernel
theorem dX8_gestalt_34 : decode cX8_gestalt 34 = .ok (.iload_n 0, 1) := by decide +kernel
theorem dX8_gestalt_35 : decode cX8_gestalt 35 = .ok (.bipush 6, 2) := by decide +kernel
theorem dX8_gestalt_37 : decode cX8_gestalt 37 = .ok (.if_icmp .ne 7, 3) := by decide +kernel
theorem dX8_gestalt_40 : decode cX8_gestalt 40 = .ok (.iconst 1, 1) := by decide +kernel
theorem dX8_gestalt_41 : decode cX8_gestalt 41 = .ok (.goto 4, 3) := by decide +kernel
theorem dX8_gestalt_44 : decode cX8_gestalt 44 = .ok (.iconst 0, 1) := by decide +kernel
theorem dX8_gestalt_45 : decode cX8_gestalt 45 = .ok (.ireturn, 1) := by decide +kernel
theorem dX8_keys_0 : decode cX8_keys 0 = .ok (.iload_n 3, 1) := by decide +kernel
theorem dX8_keys_1 : decode cX8_keys 1 = .ok (.ifCond .eq 22, 3) := by decide +kernel
theorem dX8_keys_4 : decode cX8_keys 4 = .ok (.iload_n 2, 1) := by decide +kernel
theorem dX8_keys_5 : decode cX8_keys 5 = .ok (.iconst 1, 1) := by decide +kernel
theorem dX8_keys_6 : decode cX8_keys 6 = .ok (.if_icmp .lt 13, 3) := by decide +kernel
theorem dX8_keys_9 : decode cX8_keys 9 = .ok (.iload_n 2, 1) := by decide +kernel
theorem dX8_keys_10 : decode cX8_keys 10 = .ok (.bipush 64, 2) := by decide +kernel
theorem dX8_keys_12 : decode cX8_keys 12 = .ok (.if_icmp .gt 7, 3) := by decide +kernel
theorem dX8_keys_15 : decode cX8_keys 15 = .ok (.iconst 1, 1) := by decide +kernel
theorem dX8_keys_16 : decode cX8_keys 16 = .ok (.goto 27, 3) := by decide +kernel
theorem dX8_keys_19 : decode cX8_keys 19 = .ok (.iconst 0, 1) := by decide +kernel
theorem dX8_keys_20 : decode cX8_keys 20 = .ok (.goto 23, 3) := by decide +kernel
theorem dX8_keys_23 : decode cX8_keys 23 = .ok (.iload_n 2, 1) := by decide +kernel
theorem dX8_keys_24 : decode cX8_keys 24 = .ok (.iconst 1, 1) := by decide +kernel
theorem dX8_keys_25 : decode cX8_keys 25 = .ok (.if_icmp .eq 13, 3) := by decide +kernel
theorem dX8_keys_28 : decode cX8_keys 28 = .ok (.iload_n 2, 1) := by decide +kernel
theorem dX8_keys_29 : decode cX8_keys 29 = .ok (.iconst 2, 1) := by decide +kernel
theorem dX8_keys_30 : decode cX8_keys 30 = .ok (.if_icmp .eq 8, 3) := by decide +kernel
theorem dX8_keys_33 : decode cX8_keys 33 = .ok (.iload_n 2, 1) := by decide +kernel
theorem dX8_keys_34 : decode cX8_keys 34 = .ok (.iconst 4, 1) := by decide +kernel
theorem dX8_keys_35 : decode cX8_keys 35 = .ok (.if_icmp .ne 7, 3) := by decide +kernel
theorem dX8_keys_38 : decode cX8_keys 38 = .ok (.iconst 1, 1) := by decide +kernel
theorem dX8_keys_39 : decode cX8_keys 39 = .ok (.goto 4, 3) := by decide +kernel
theorem dX8_keys_42 : decode cX8_keys 42 = .ok (.iconst 0, 1) := by decide +kernel
theorem dX8_keys_43 : decode cX8_keys 43 = .ok (.istore 4, 2) := by decide +kernel
theorem dX8_keys_45 : decode cX8_keys 45 = .ok (.iload 4, 2) := by decide +kernel
theorem dX8_keys_47 : decode cX8_keys 47 = .ok (.ifCond .ne 6, 3) := by decide +kernel
theorem dX8_keys_50 : decode cX8_keys 50 = .ok (.bipush 9, 2) := by decide +kernel
theorem dX8_keys_52 : decode cX8_keys 52 = .ok (.ireturn, 1) := by decide +kernel
theorem dX8_keys_53 : decode cX8_keys 53 = .ok (.iload_n 3, 1) := by decide +kernel
theorem dX8_keys_54 : decode cX8_keys 54 = .ok (.ifCond .eq 13, 3) := by decide +kernel
theorem dX8_keys_57 : decode cX8_keys 57 = .ok (.iload_n 1, 1) := by decide +kernel
theorem dX8_keys_58 : decode cX8_keys 58 = .ok (.iload_n 2, 1) := by decide +kernel
theorem dX8_keys_59 : decode cX8_keys 59 = .ok (.invokestatic 105, 3) := by decide +kernel
theorem dX8_keys_62 : decode cX8_keys 62 = .ok (.ifCond .ne 5, 3) := by decide +kernel
theorem dX8_keys_65 : decode cX8_keys 65 = .ok (.iconst 1, 1) := by decide +kernel
theorem dX8_keys_66 : decode cX8_keys 66 = .ok (.ireturn, 1) := by decide +kernel
theorem dX8_keys_67 : decode cX8_keys 67 = .ok (.aload_n 0, 1) := by decide +kernel
theorem dX8_keys_68 : decode cX8_keys 68 = .ok (.iload_n 2, 1) := by decide +kernel
theorem dX8_keys_69 : decode cX8_keys 69 = .ok (.putfield 134, 3) := by decide +kernel
theorem dX8_keys_72 : decode cX8_keys 72 = .ok (.iconst 0, 1) := by decide +kernel
theorem dX8_keys_73 : decode cX8_keys 73 = .ok (.istore 5, 2) := by decide +kernel
theorem dX8_keys_75 : decode cX8_keys 75 = .ok (.iload 5, 2) := by decide +kernel
theorem dX8_keys_77 : decode cX8_keys 77 = .ok (.iload_n 2, 1) := by decide +kernel
theorem dX8_keys_78 : decode cX8_keys 78 = .ok (.if_icmp .ge 47, 3) := by decide +kernel
theorem dX8_keys_81 : decode cX8_keys 81 = .ok (.aload_n 0, 1) := by decide +kernel
theorem dX8_keys_82 : decode cX8_keys 82 = .ok (.getfield 47, 3) := by decide +kernel
theorem dX8_keys_85 : decode cX8_keys 85 = .ok (.iload 5, 2) := by decide +kernel
theorem dX8_keys_87 : decode cX8_keys 87 = .ok (.iload_n 3, 1) := by decide +kernel
theorem dX8_keys_88 : decode cX8_keys 88 = .ok (.ifCond .eq 15, 3) := by decide +kernel
theorem dX8_keys_91 : decode cX8_keys 91 = .ok (.aload_n 0, 1) := by decide +kernel
theorem dX8_keys_92 : decode cX8_keys 92 = .ok (.getfield 7, 3) := by decide +kernel
theorem dX8_keys_95 : decode cX8_keys 95 = .ok (.iload_n 1, 1) := by decide +kernel
theorem dX8_keys_96 : decode cX8_keys 96 = .ok (.iload 5, 2) := by decide +kernel
theorem dX8_keys_98 : decode cX8_keys 98 = .ok (.iadd, 1) := by decide +kernel
theorem dX8_keys_99 : decode cX8_keys 99 = .ok (.iaload, 1) := by decide +kernel
theorem dX8_keys_100 : decode cX8_keys 100 = .ok (.goto 18, 3) := by decide +kernel
theorem dX8_keys_103 : decode cX8_keys 103 = .ok (.iload_n 1, 1) := by decide +kernel
theorem dX8_keys_104 : decode cX8_keys 104 = .ok (.bipush 8, 2) := by decide +kernel
theorem dX8_keys_106 : decode cX8_keys 106 = .ok (.iload_n 2, 1) := by decide +kernel
theorem dX8_keys_107 : decode cX8_keys 107 = .ok (.iconst 1, 1) := by decide +kernel
theorem dX8_keys_108 : decode cX8_keys 108 = .ok (.isub, 1) := by decide +kernel
theorem dX8_keys_109 : decode cX8_keys 109 = .ok (.iload 5, 2) := by decide +kernel
theorem dX8_keys_111 : decode cX8_keys 111 = .ok (.isub, 1) := by decide +kernel
theorem dX8_keys_112 : decode cX8_keys 112 = .ok (.imul, 1) := by decide +kernel
theorem dX8_keys_113 : decode cX8_keys 113 = .ok (.ishr, 1) := by decide +kernel
theorem dX8_keys_114 : decode cX8_keys 114 = .ok (.sipush 255, 3) := by decide +kernel
theorem dX8_keys_117 : decode cX8_keys 117 = .ok (.iand, 1) := by decide +kernel
theorem dX8_keys_118 : decode cX8_keys 118 = .ok (.iastore, 1) := by decide +kernel
theorem dX8_keys_119 : decode cX8_keys 119 = .ok (.iinc 5 1, 3) := by decide +kernel
theorem dX8_keys_122 : decode cX8_keys 122 = .ok (.goto (-47), 3) := by decide +kernel
theorem dX8_keys_125 : decode cX8_keys 125 = .ok (.iconst 0, 1) := by decide +kernel
theorem dX8_keys_126 : decode cX8_keys 126 = .ok (.ireturn, 1) := by decide +kernel
theorem dX8_beside_0 : decode cX8_beside 0 = .ok (.iconst 0, 1) := by decide +kernel
theorem dX8_beside_1 : decode cX8_beside 1 = .ok (.istore_n 2, 1) := by decide +kernel
theorem dX8_beside_2 : decode cX8_beside 2 = .ok (.iload_n 2, 1) := by decide +kernel
theorem dX8_beside_3 : decode cX8_beside 3 = .ok (.aload_n 0, 1) := by decide +kernel
theorem dX8_beside_4 : decode cX8_beside 4 = .ok (.getfield 134, 3) := by decide +kernel
theorem dX8_beside_7 : decode cX8_beside 7 = .ok (.if_icmp .ge 49, 3) := by decide +kernel
theorem dX8_beside_10 : decode cX8_beside 10 = .ok (.aload_n 0, 1) := by decide +kernel
theorem dX8_beside_11 : decode cX8_beside 11 = .ok (.getfield 7, 3) := by decide +kernel
theorem dX8_beside_14 : decode cX8_beside 14 = .ok (.iload_n 1, 1) := by decide +kernel
theorem dX8_beside_15 : decode cX8_beside 15 = .ok (.iload_n 2, 1) := by decide +kernel
theorem dX8_beside_16 : decode cX8_beside 16 = .ok (.iadd, 1) := by decide +kernel
theorem dX8_beside_17 : decode cX8_beside 17 = .ok (.iaload, 1) := by decide +kernel
theorem dX8_beside_18 : decode cX8_beside 18 = .ok (.aload_n 0, 1) := by decide +kernel
theorem dX8_beside_19 : decode cX8_beside 19 = .ok (.getfield 47, 3) := by decide +kernel
theorem dX8_beside_22 : decode cX8_beside 22 = .ok (.iload_n 2, 1) := by decide +kernel
theorem dX8_beside_23 : decode cX8_beside 23 = .ok (.iaload, 1) := by decide +kernel
theorem dX8_beside_24 : decode cX8_beside 24 = .ok (.if_icmp .eq 26, 3) := by decide +kernel
theorem dX8_beside_27 : decode cX8_beside 27 = .ok (.aload_n 0, 1) := by decide +kernel
theorem dX8_beside_28 : decode cX8_beside 28 = .ok (.getfield 7, 3) := by decide +kernel
theorem dX8_beside_31 : decode cX8_beside 31 = .ok (.iload_n 1, 1) := by decide +kernel
theorem dX8_beside_32 : decode cX8_beside 32 = .ok (.iload_n 2, 1) := by decide +kernel
theorem dX8_beside_33 : decode cX8_beside 33 = .ok (.iadd, 1) := by decide +kernel
theorem dX8_beside_34 : decode cX8_beside 34 = .ok (.iaload, 1) := by decide +kernel
theorem dX8_beside_35 : decode cX8_beside 35 = .ok (.aload_n 0, 1) := by decide +kernel
theorem dX8_beside_36 : decode cX8_beside 36 = .ok (.getfield 47, 3) := by decide +kernel
theorem dX8_beside_39 : decode cX8_beside 39 = .ok (.iload_n 2, 1) := by decide +kernel
theorem dX8_beside_40 : decode cX8_beside 40 = .ok (.iaload, 1) := by decide +kernel
theorem dX8_beside_41 : decode cX8_beside 41 = .ok (.if_icmp .ge 7, 3) := by decide +kernel
theorem dX8_beside_44 : decode cX8_beside 44 = .ok (.iconst 0, 1) := by decide +kernel
theorem dX8_beside_45 : decode cX8_beside 45 = .ok (.goto 4, 3) := by decide +kernel
theorem dX8_beside_48 : decode cX8_beside 48 = .ok (.iconst 2, 1) := by decide +kernel
theorem dX8_beside_49 : decode cX8_beside 49 = .ok (.ireturn, 1) := by decide +kernel
theorem dX8_beside_50 : decode cX8_beside 50 = .ok (.iinc 2 1, 3) := by decide +kernel
theorem dX8_beside_53 : decode cX8_beside 53 = .ok (.goto (-51), 3) := by decide +kernel
theorem dX8_beside_56 : decode cX8_beside 56 = .ok (.iconst 1, 1) := by decide +kernel
theorem dX8_beside_57 : decode cX8_beside 57 = .ok (.ireturn, 1) := by decide +kernel
theorem dX8_isNought_0 : decode cX8_isNought 0 = .ok (.iconst 1, 1) := by decide +kernel
theorem dX8_isNought_1 : decode cX8_isNought 1 = .ok (.istore_n 2, 1) := by decide +kernel
theorem dX8_isNought_2 : decode cX8_isNought 2 = .ok (.iconst 0, 1) := by decide +kernel
theorem dX8_isNought_3 : decode cX8_isNought 3 = .ok (.istore_n 3, 1) := by decide +kernel
theorem dX8_isNought_4 : decode cX8_isNought 4 = .ok (.iload_n 3, 1) := by decide +kernel
theorem dX8_isNought_5 : decode cX8_isNought 5 = .ok (.aload_n 0, 1) := by decide +kernel
theorem dX8_isNought_6 : decode cX8_isNought 6 = .ok (.getfield 134, 3) := by decide +kernel
theorem dX8_isNought_9 : decode cX8_isNought 9 = .ok (.if_icmp .ge 28, 3) := by decide +kernel
theorem dX8_isNought_12 : decode cX8_isNought 12 = .ok (.iload_n 2, 1) := by decide +kernel
theorem dX8_isNought_13 : decode cX8_isNought 13 = .ok (.aload_n 0, 1) := by decide +kernel
theorem dX8_isNought_14 : decode cX8_isNought 14 = .ok (.getfield 7, 3) := by decide +kernel
theorem dX8_isNought_17 : decode cX8_isNought 17 = .ok (.iload_n 1, 1) := by decide +kernel
theorem dX8_isNought_18 : decode cX8_isNought 18 = .ok (.iload_n 3, 1) := by decide +kernel
theorem dX8_isNought_19 : decode cX8_isNought 19 = .ok (.iadd, 1) := by decide +kernel
theorem dX8_isNought_20 : decode cX8_isNought 20 = .ok (.iaload, 1) := by decide +kernel
theorem dX8_isNought_21 : decode cX8_isNought 21 = .ok (.ifCond .ne 7, 3) := by decide +kernel
theorem dX8_isNought_24 : decode cX8_isNought 24 = .ok (.iconst 1, 1) := by decide +kernel
theorem dX8_isNought_25 : decode cX8_isNought 25 = .ok (.goto 4, 3) := by decide +kernel
theorem dX8_isNought_28 : decode cX8_isNought 28 = .ok (.iconst 0, 1) := by decide +kernel
theorem dX8_isNought_29 : decode cX8_isNought 29 = .ok (.iand, 1) := by decide +kernel
theorem dX8_isNought_30 : decode cX8_isNought 30 = .ok (.istore_n 2, 1) := by decide +kernel
theorem dX8_isNought_31 : decode cX8_isNought 31 = .ok (.iinc 3 1, 3) := by decide +kernel
theorem dX8_isNought_34 : decode cX8_isNought 34 = .ok (.goto (-30), 3) := by decide +kernel
theorem dX8_isNought_37 : decode cX8_isNought 37 = .ok (.iload_n 2, 1) := by decide +kernel
theorem dX8_isNought_38 : decode cX8_isNought 38 = .ok (.ireturn, 1) := by decide +kernel
theorem dX8_searches_0 : decode cX8_searches 0 = .ok (.aload_n 0, 1) := by decide +kernel
theorem dX8_searches_1 : decode cX8_searches 1 = .ok (.getfield 38, 3) := by decide +kernel
theorem dX8_searches_4 : decode cX8_searches 4 = .ok (.bipush 6, 2) := by decide +kernel
theorem dX8_searches_6 : decode cX8_searches 6 = .ok (.iaload, 1) := by decide +kernel
theorem dX8_searches_7 : decode cX8_searches 7 = .ok (.istore_n 1, 1) := by decide +kernel
theorem dX8_searches_8 : decode cX8_searches 8 = .ok (.aload_n 0, 1) := by decide +kernel
theorem dX8_searches_9 : decode cX8_searches 9 = .ok (.aload_n 0, 1) := by decide +kernel
theorem dX8_searches_10 : decode cX8_searches 10 = .ok (.getfield 38, 3) := by decide +kernel
theorem dX8_searches_13 : decode cX8_searches 13 = .ok (.iconst 0, 1) := by decide +kernel
theorem dX8_searches_14 : decode cX8_searches 14 = .ok (.iaload, 1) := by decide +kernel
theorem dX8_searches_15 : decode cX8_searches 15 = .ok (.aload_n 0, 1) := by decide +kernel
theorem dX8_searches_16 : decode cX8_searches 16 = .ok (.getfield 38, 3) := by decide +kernel
theorem dX8_searches_19 : decode cX8_searches 19 = .ok (.iconst 1, 1) := by decide +kernel
theorem dX8_searches_20 : decode cX8_searches 20 = .ok (.iaload, 1) := by decide +kernel
theorem dX8_searches_21 : decode cX8_searches 21 = .ok (.iload_n 1, 1) := by decide +kernel
theorem dX8_searches_22 : decode cX8_searches 22 = .ok (.iconst 1, 1) := by decide +kernel
theorem dX8_searches_23 : decode cX8_searches 23 = .ok (.iand, 1) := by decide +kernel
theorem dX8_searches_24 : decode cX8_searches 24 = .ok (.iconst 1, 1) := by decide +kernel
theorem dX8_searches_25 : decode cX8_searches 25 = .ok (.if_icmp .ne 7, 3) := by decide +kernel
theorem dX8_searches_28 : decode cX8_searches 28 = .ok (.iconst 1, 1) := by decide +kernel
theorem dX8_searches_29 : decode cX8_searches 29 = .ok (.goto 4, 3) := by decide +kernel
theorem dX8_searches_32 : decode cX8_searches 32 = .ok (.iconst 0, 1) := by decide +kernel
theorem dX8_searches_33 : decode cX8_searches 33 = .ok (.invokevirtual 137, 3) := by decide +kernel
theorem dX8_searches_36 : decode cX8_searches 36 = .ok (.istore_n 2, 1) := by decide +kernel
theorem dX8_searches_37 : decode cX8_searches 37 = .ok (.iload_n 2, 1) := by decide +kernel
theorem dX8_searches_38 : decode cX8_searches 38 = .ok (.ifCond .eq 5, 3) := by decide +kernel
theorem dX8_searches_41 : decode cX8_searches 41 = .ok (.iload_n 2, 1) := by decide +kernel
theorem dX8_searches_42 : decode cX8_searches 42 = .ok (.ireturn, 1) := by decide +kernel
theorem dX8_searches_43 : decode cX8_searches 43 = .ok (.aload_n 0, 1) := by decide +kernel
theorem dX8_searches_44 : decode cX8_searches 44 = .ok (.getfield 38, 3) := by decide +kernel
theorem dX8_searches_47 : decode cX8_searches 47 = .ok (.iconst 2, 1) := by decide +kernel
theorem dX8_searches_48 : decode cX8_searches 48 = .ok (.iaload, 1) := by decide +kernel
theorem dX8_searches_49 : decode cX8_searches 49 = .ok (.istore_n 3, 1) := by decide +kernel
theorem dX8_searches_50 : decode cX8_searches 50 = .ok (.aload_n 0, 1) := by decide +kernel
theorem dX8_searches_51 : decode cX8_searches 51 = .ok (.getfield 38, 3) := by decide +kernel
theorem dX8_searches_54 : decode cX8_searches 54 = .ok (.iconst 3, 1) := by decide +kernel
theorem dX8_searches_55 : decode cX8_searches 55 = .ok (.iaload, 1) := by decide +kernel
theorem dX8_searches_56 : decode cX8_searches 56 = .ok (.istore 4, 2) := by decide +kernel
theorem dX8_searches_58 : decode cX8_searches 58 = .ok (.aload_n 0, 1) := by decide +kernel
theorem dX8_searches_59 : decode cX8_searches 59 = .ok (.getfield 38, 3) := by decide +kernel
theorem dX8_searches_62 : decode cX8_searches 62 = .ok (.iconst 4, 1) := by decide +kernel
theorem dX8_searches_63 : decode cX8_searches 63 = .ok (.iaload, 1) := by decide +kernel
theorem dX8_searches_64 : decode cX8_searches 64 = .ok (.ifCond .lt 15, 3) := by decide +kernel
theorem dX8_searches_67 : decode cX8_searches 67 = .ok (.aload_n 0, 1) := by decide +kernel
theorem dX8_searches_68 : decode cX8_searches 68 = .ok (.getfield 38, 3) := by decide +kernel
theorem dX8_searches_71 : decode cX8_searches 71 = .ok (.iconst 4, 1) := by decide +kernel
theorem dX8_searches_72 : decode cX8_searches 72 = .ok (.iaload, 1) := by decide +kernel
theorem dX8_searches_73 : decode cX8_searches 73 = .ok (.sipush 1024, 3) := by decide +kernel
theorem dX8_searches_76 : decode cX8_searches 76 = .ok (.if_icmp .le 9, 3) := by decide +kernel
theorem dX8_searches_79 : decode cX8_searches 79 = .ok (.sipush 1024, 3) := by decide +kernel
theorem dX8_searches_82 : decode cX8_searches 82 = .ok (.goto 9, 3) := by decide +kernel
theorem dX8_searches_85 : decode cX8_searches 85 = .ok (.aload_n 0, 1) := by decide +kernel
theorem dX8_searches_86 : decode cX8_searches 86 = .ok (.getfield 38, 3) := by decide +kernel
theorem dX8_searches_89 : decode cX8_searches 89 = .ok (.iconst 4, 1) := by decide +kernel
theorem dX8_searches_90 : decode cX8_searches 90 = .ok (.iaload, 1) := by decide +kernel
theorem dX8_searches_91 : decode cX8_searches 91 = .ok (.istore 5, 2) := by decide +kernel
theorem dX8_searches_93 : decode cX8_searches 93 = .ok (.iload_n 1, 1) := by decide +kernel
theorem dX8_searches_94 : decode cX8_searches 94 = .ok (.iconst 4, 1) := by decide +kernel
theorem dX8_searches_95 : decode cX8_searches 95 = .ok (.iand, 1) := by decide +kernel
theorem dX8_searches_96 : decode cX8_searches 96 = .ok (.iconst 4, 1) := by decide +kernel
theorem dX8_searches_97 : decode cX8_searches 97 = .ok (.if_icmp .ne 7, 3) := by decide +kernel
theorem dX8_searches_100 : decode cX8_searches 100 = .ok (.iconst 1, 1) := by decide +kernel
theorem dX8_searches_101 : decode cX8_searches 101 = .ok (.goto 4, 3) := by decide +kernel
theorem dX8_searches_104 : decode cX8_searches 104 = .ok (.iconst 0, 1) := by decide +kernel
theorem dX8_searches_105 : decode cX8_searches 105 = .ok (.istore 6, 2) := by decide +kernel
theorem dX8_searches_107 : decode cX8_searches 107 = .ok (.aload_n 0, 1) := by decide +kernel
theorem dX8_searches_108 : decode cX8_searches 108 = .ok (.getfield 67, 3) := by decide +kernel
theorem dX8_searches_111 : decode cX8_searches 111 = .ok (.sipush 336, 3) := by decide +kernel
theorem dX8_searches_114 : decode cX8_searches 114 = .ok (.if_icmp .ne 27, 3) := by decide +kernel
theorem dX8_searches_117 : decode cX8_searches 117 = .ok (.aload_n 0, 1) := by decide +kernel
theorem dX8_searches_118 : decode cX8_searches 118 = .ok (.iload_n 3, 1) := by decide +kernel
theorem dX8_searches_119 : decode cX8_searches 119 = .ok (.iload 4, 2) := by decide +kernel
theorem dX8_searches_121 : decode cX8_searches 121 = .ok (.iload 5, 2) := by decide +kernel
theorem dX8_searches_123 : decode cX8_searches 123 = .ok (.iload_n 1, 1) := by decide +kernel
theorem dX8_searches_124 : decode cX8_searches 124 = .ok (.iconst 2, 1) := by decide +kernel
theorem dX8_searches_125 : decode cX8_searches 125 = .ok (.iand, 1) := by decide +kernel
theorem dX8_searches_126 : decode cX8_searches 126 = .ok (.iconst 2, 1) := by decide +kernel
theorem dX8_searches_127 : decode cX8_searches 127 = .ok (.if_icmp .ne 7, 3) := by decide +kernel
theorem dX8_searches_130 : decode cX8_searches 130 = .ok (.iconst 1, 1) := by decide +kernel
theorem dX8_searches_131 : decode cX8_searches 131 = .ok (.goto 4, 3) := by decide +kernel
theorem dX8_searches_134 : decode cX8_searches 134 = .ok (.iconst 0, 1) := by decide +kernel
theorem dX8_searches_135 : decode cX8_searches 135 = .ok (.invokevirtual 141, 3) := by decide +kernel
theorem dX8_searches_138 : decode cX8_searches 138 = .ok (.goto 12, 3) := by decide +kernel
theorem dX8_searches_141 : decode cX8_searches 141 = .ok (.aload_n 0, 1) := by decide +kernel
theorem dX8_searches_142 : decode cX8_searches 142 = .ok (.iload_n 3, 1) := by decide +kernel
theorem dX8_searches_143 : decode cX8_searches 143 = .ok (.iload 4, 2) := by decide +kernel
theorem dX8_searches_145 : decode cX8_searches 145 = .ok (.iload 5, 2) := by decide +kernel
theorem dX8_searches_147 : decode cX8_searches 147 = .ok (.invokevirtual 145, 3) := by decide +kernel
theorem dX8_searches_150 : decode cX8_searches 150 = .ok (.istore 7, 2) := by decide +kernel
theorem dX8_searches_152 : decode cX8_searches 152 = .ok (.iload 7, 2) := by decide +kernel
theorem dX8_searches_154 : decode cX8_searches 154 = .ok (.bipush (-9), 2) := by decide +kernel
theorem dX8_searches_156 : decode cX8_searches 156 = .ok (.if_icmp .ne 5, 3) := by decide +kernel
theorem dX8_searches_159 : decode cX8_searches 159 = .ok (.iconst 1, 1) := by decide +kernel
theorem dX8_searches_160 : decode cX8_searches 160 = .ok (.ireturn, 1) := by decide +kernel
theorem dX8_searches_161 : decode cX8_searches 161 = .ok (.aload_n 0, 1) := by decide +kernel
theorem dX8_searches_162 : decode cX8_searches 162 = .ok (.iload 7, 2) := by decide +kernel
theorem dX8_searches_164 : decode cX8_searches 164 = .ok (.ifCond .ge 16, 3) := by decide +kernel
theorem dX8_searches_167 : decode cX8_searches 167 = .ok (.iload 6, 2) := by decide +kernel
theorem dX8_searches_169 : decode cX8_searches 169 = .ok (.ifCond .eq 7, 3) := by decide +kernel
theorem dX8_searches_172 : decode cX8_searches 172 = .ok (.iconst (-1), 1) := by decide +kernel
theorem dX8_searches_173 : decode cX8_searches 173 = .ok (.goto 24, 3) := by decide +kernel
theorem dX8_searches_176 : decode cX8_searches 176 = .ok (.iconst 0, 1) := by decide +kernel
theorem dX8_searches_177 : decode cX8_searches 177 = .ok (.goto 20, 3) := by decide +kernel
theorem dX8_searches_180 : decode cX8_searches 180 = .ok (.iload 6, 2) := by decide +kernel
theorem dX8_searches_182 : decode cX8_searches 182 = .ok (.ifCond .eq 8, 3) := by decide +kernel
theorem dX8_searches_185 : decode cX8_searches 185 = .ok (.iload 7, 2) := by decide +kernel
theorem dX8_searches_187 : decode cX8_searches 187 = .ok (.goto 10, 3) := by decide +kernel
theorem dX8_searches_190 : decode cX8_searches 190 = .ok (.iload_n 3, 1) := by decide +kernel
theorem dX8_searches_191 : decode cX8_searches 191 = .ok (.iload 7, 2) := by decide +kernel
theorem dX8_searches_193 : decode cX8_searches 193 = .ok (.iload 4, 2) := by decide +kernel
theorem dX8_searches_195 : decode cX8_searches 195 = .ok (.imul, 1) := by decide +kernel
theorem dX8_searches_196 : decode cX8_searches 196 = .ok (.iadd, 1) := by decide +kernel
theorem dX8_searches_197 : decode cX8_searches 197 = .ok (.invokevirtual 116, 3) := by decide +kernel
theorem dX8_searches_200 : decode cX8_searches 200 = .ok (.ireturn, 1) := by decide +kernel
theorem dX8_oneByOne_0 : decode cX8_oneByOne 0 = .ok (.iconst 0, 1) := by decide +kernel
theorem dX8_oneByOne_1 : decode cX8_oneByOne 1 = .ok (.istore 5, 2) := by decide +kernel
theorem dX8_oneByOne_3 : decode cX8_oneByOne 3 = .ok (.iload 5, 2) := by decide +kernel
theorem dX8_oneByOne_5 : decode cX8_oneByOne 5 = .ok (.iload_n 3, 1) := by decide +kernel
theorem dX8_oneByOne_6 : decode cX8_oneByOne 6 = .ok (.if_icmp .ge 69, 3) := by decide +kernel
theorem dX8_oneByOne_9 : decode cX8_oneByOne 9 = .ok (.iload_n 1, 1) := by decide +kernel
theorem dX8_oneByOne_10 : decode cX8_oneByOne 10 = .ok (.iload 5, 2) := by decide +kernel
theorem dX8_oneByOne_12 : decode cX8_oneByOne 12 = .ok (.iload_n 2, 1) := by decide +kernel
theorem dX8_oneByOne_13 : decode cX8_oneByOne 13 = .ok (.imul, 1) := by decide +kernel
theorem dX8_oneByOne_14 : decode cX8_oneByOne 14 = .ok (.iadd, 1) := by decide +kernel
theorem dX8_oneByOne_15 : decode cX8_oneByOne 15 = .ok (.aload_n 0, 1) := by decide +kernel
theorem dX8_oneByOne_16 : decode cX8_oneByOne 16 = .ok (.getfield 38, 3) := by decide +kernel
theorem dX8_oneByOne_19 : decode cX8_oneByOne 19 = .ok (.iconst 5, 1) := by decide +kernel
theorem dX8_oneByOne_20 : decode cX8_oneByOne 20 = .ok (.iaload, 1) := by decide +kernel
theorem dX8_oneByOne_21 : decode cX8_oneByOne 21 = .ok (.iadd, 1) := by decide +kernel
theorem dX8_oneByOne_22 : decode cX8_oneByOne 22 = .ok (.istore 6, 2) := by decide +kernel
theorem dX8_oneByOne_24 : decode cX8_oneByOne 24 = .ok (.iload 6, 2) := by decide +kernel
theorem dX8_oneByOne_26 : decode cX8_oneByOne 26 = .ok (.aload_n 0, 1) := by decide +kernel
theorem dX8_oneByOne_27 : decode cX8_oneByOne 27 = .ok (.getfield 134, 3) := by decide +kernel
theorem dX8_oneByOne_30 : decode cX8_oneByOne 30 = .ok (.invokestatic 105, 3) := by decide +kernel
theorem dX8_oneByOne_33 : decode cX8_oneByOne 33 = .ok (.ifCond .ne 6, 3) := by decide +kernel
theorem dX8_oneByOne_36 : decode cX8_oneByOne 36 = .ok (.bipush (-9), 2) := by decide +kernel
theorem dX8_oneByOne_38 : decode cX8_oneByOne 38 = .ok (.ireturn, 1) := by decide +kernel
theorem dX8_oneByOne_39 : decode cX8_oneByOne 39 = .ok (.aload_n 0, 1) := by decide +kernel
theorem dX8_oneByOne_40 : decode cX8_oneByOne 40 = .ok (.iload 6, 2) := by decide +kernel
theorem dX8_oneByOne_42 : decode cX8_oneByOne 42 = .ok (.invokevirtual 148, 3) := by decide +kernel
theorem dX8_oneByOne_45 : decode cX8_oneByOne 45 = .ok (.iconst 1, 1) := by decide +kernel
theorem dX8_oneByOne_46 : decode cX8_oneByOne 46 = .ok (.if_icmp .ne 6, 3) := by decide +kernel
theorem dX8_oneByOne_49 : decode cX8_oneByOne 49 = .ok (.iload 5, 2) := by decide +kernel
theorem dX8_oneByOne_51 : decode cX8_oneByOne 51 = .ok (.ireturn, 1) := by decide +kernel
theorem dX8_oneByOne_52 : decode cX8_oneByOne 52 = .ok (.iload 4, 2) := by decide +kernel
theorem dX8_oneByOne_54 : decode cX8_oneByOne 54 = .ok (.ifCond .eq 15, 3) := by decide +kernel
theorem dX8_oneByOne_57 : decode cX8_oneByOne 57 = .ok (.aload_n 0, 1) := by decide +kernel
theorem dX8_oneByOne_58 : decode cX8_oneByOne 58 = .ok (.iload 6, 2) := by decide +kernel
theorem dX8_oneByOne_60 : decode cX8_oneByOne 60 = .ok (.invokevirtual 151, 3) := by decide +kernel
theorem dX8_oneByOne_63 : decode cX8_oneByOne 63 = .ok (.ifCond .eq 6, 3) := by decide +kernel
theorem dX8_oneByOne_66 : decode cX8_oneByOne 66 = .ok (.bipush (-2), 2) := by decide +kernel
theorem dX8_oneByOne_68 : decode cX8_oneByOne 68 = .ok (.ireturn, 1) := by decide +kernel
theorem dX8_oneByOne_69 : decode cX8_oneByOne 69 = .ok (.iinc 5 1, 3) := by decide +kernel
theorem dX8_oneByOne_72 : decode cX8_oneByOne 72 = .ok (.goto (-69), 3) := by decide +kernel
theorem dX8_oneByOne_75 : decode cX8_oneByOne 75 = .ok (.bipush (-2), 2) := by decide +kernel
theorem dX8_oneByOne_77 : decode cX8_oneByOne 77 = .ok (.ireturn, 1) := by decide +kernel
theorem dX8_byHalves_0 : decode cX8_byHalves 0 = .ok (.iconst 0, 1) := by decide +kernel
theorem dX8_byHalves_1 : decode cX8_byHalves 1 = .ok (.istore 4, 2) := by decide +kernel
theorem dX8_byHalves_3 : decode cX8_byHalves 3 = .ok (.iload_n 3, 1) := by decide +kernel
theorem dX8_byHalves_4 : decode cX8_byHalves 4 = .ok (.istore 5, 2) := by decide +kernel
theorem dX8_byHalves_6 : decode cX8_byHalves 6 = .ok (.iload 4, 2) := by decide +kernel
theorem dX8_byHalves_8 : decode cX8_byHalves 8 = .ok (.iload 5, 2) := by decide +kernel
theorem dX8_byHalves_10 : decode cX8_byHalves 10 = .ok (.if_icmp .ge 92, 3) := by decide +kernel
theorem dX8_byHalves_13 : decode cX8_byHalves 13 = .ok (.iload 4, 2) := by decide +kernel
theorem dX8_byHalves_15 : decode cX8_byHalves 15 = .ok (.iload 5, 2) := by decide +kernel
theorem dX8_byHalves_17 : decode cX8_byHalves 17 = .ok (.iadd, 1) := by decide +kernel
theorem dX8_byHalves_18 : decode cX8_byHalves 18 = .ok (.iconst 2, 1) := by decide +kernel
theorem dX8_byHalves_19 : decode cX8_byHalves 19 = .ok (.idiv, 1) := by decide +kernel
theorem dX8_byHalves_20 : decode cX8_byHalves 20 = .ok (.istore 6, 2) := by decide +kernel
theorem dX8_byHalves_22 : decode cX8_byHalves 22 = .ok (.iload_n 1, 1) := by decide +kernel
theorem dX8_byHalves_23 : decode cX8_byHalves 23 = .ok (.iload 6, 2) := by decide +kernel
theorem dX8_byHalves_25 : decode cX8_byHalves 25 = .ok (.iload_n 2, 1) := by decide +kernel
theorem dX8_byHalves_26 : decode cX8_byHalves 26 = .ok (.imul, 1) := by decide +kernel
theorem dX8_byHalves_27 : decode cX8_byHalves 27 = .ok (.iadd, 1) := by decide +kernel
theorem dX8_byHalves_28 : decode cX8_byHalves 28 = .ok (.aload_n 0, 1) := by decide +kernel
theorem dX8_byHalves_29 : decode cX8_byHalves 29 = .ok (.getfield 38, 3) := by decide +kernel
theorem dX8_byHalves_32 : decode cX8_byHalves 32 = .ok (.iconst 5, 1) := by decide +kernel
theorem dX8_byHalves_33 : decode cX8_byHalves 33 = .ok (.iaload, 1) := by decide +kernel
theorem dX8_byHalves_34 : decode cX8_byHalves 34 = .ok (.iadd, 1) := by decide +kernel
theorem dX8_byHalves_35 : decode cX8_byHalves 35 = .ok (.istore 7, 2) := by decide +kernel
theorem dX8_byHalves_37 : decode cX8_byHalves 37 = .ok (.iload 7, 2) := by decide +kernel
theorem dX8_byHalves_39 : decode cX8_byHalves 39 = .ok (.aload_n 0, 1) := by decide +kernel
theorem dX8_byHalves_40 : decode cX8_byHalves 40 = .ok (.getfield 134, 3) := by decide +kernel
theorem dX8_byHalves_43 : decode cX8_byHalves 43 = .ok (.invokestatic 105, 3) := by decide +kernel
theorem dX8_byHalves_46 : decode cX8_byHalves 46 = .ok (.ifCond .ne 6, 3) := by decide +kernel
theorem dX8_byHalves_49 : decode cX8_byHalves 49 = .ok (.bipush (-9), 2) := by decide +kernel
theorem dX8_byHalves_51 : decode cX8_byHalves 51 = .ok (.ireturn, 1) := by decide +kernel
theorem dX8_byHalves_52 : decode cX8_byHalves 52 = .ok (.aload_n 0, 1) := by decide +kernel
theorem dX8_byHalves_53 : decode cX8_byHalves 53 = .ok (.iload 7, 2) := by decide +kernel
theorem dX8_byHalves_55 : decode cX8_byHalves 55 = .ok (.invokevirtual 148, 3) := by decide +kernel
theorem dX8_byHalves_58 : decode cX8_byHalves 58 = .ok (.istore 8, 2) := by decide +kernel
theorem dX8_byHalves_60 : decode cX8_byHalves 60 = .ok (.iload 8, 2) := by decide +kernel
theorem dX8_byHalves_62 : decode cX8_byHalves 62 = .ok (.iconst 1, 1) := by decide +kernel
theorem dX8_byHalves_63 : decode cX8_byHalves 63 = .ok (.if_icmp .ne 6, 3) := by decide +kernel
theorem dX8_byHalves_66 : decode cX8_byHalves 66 = .ok (.iload 6, 2) := by decide +kernel
theorem dX8_byHalves_68 : decode cX8_byHalves 68 = .ok (.ireturn, 1) := by decide +kernel
theorem dX8_byHalves_69 : decode cX8_byHalves 69 = .ok (.iload 8, 2) := by decide +kernel
theorem dX8_byHalves_71 : decode cX8_byHalves 71 = .ok (.ifCond .ne 10, 3) := by decide +kernel
theorem dX8_byHalves_74 : decode cX8_byHalves 74 = .ok (.iload 6, 2) := by decide +kernel
theorem dX8_byHalves_76 : decode cX8_byHalves 76 = .ok (.iconst 1, 1) := by decide +kernel
theorem dX8_byHalves_77 : decode cX8_byHalves 77 = .ok (.iadd, 1) := by decide +kernel
theorem dX8_byHalves_78 : decode cX8_byHalves 78 = .ok (.goto 5, 3) := by decide +kernel
theorem dX8_byHalves_81 : decode cX8_byHalves 81 = .ok (.iload 4, 2) := by decide +kernel
theorem dX8_byHalves_83 : decode cX8_byHalves 83 = .ok (.istore 4, 2) := by decide +kernel
theorem dX8_byHalves_85 : decode cX8_byHalves 85 = .ok (.iload 8, 2) := by decide +kernel
theorem dX8_byHalves_87 : decode cX8_byHalves 87 = .ok (.ifCond .ne 8, 3) := by decide +kernel
theorem dX8_byHalves_90 : decode cX8_byHalves 90 = .ok (.iload 5, 2) := by decide +kernel
theorem dX8_byHalves_92 : decode cX8_byHalves 92 = .ok (.goto 5, 3) := by decide +kernel
theorem dX8_byHalves_95 : decode cX8_byHalves 95 = .ok (.iload 6, 2) := by decide +kernel
theorem dX8_byHalves_97 : decode cX8_byHalves 97 = .ok (.istore 5, 2) := by decide +kernel
theorem dX8_byHalves_99 : decode cX8_byHalves 99 = .ok (.goto (-93), 3) := by decide +kernel
theorem dX8_byHalves_102 : decode cX8_byHalves 102 = .ok (.bipush (-2), 2) := by decide +kernel
theorem dX8_byHalves_104 : decode cX8_byHalves 104 = .ok (.ireturn, 1) := by decide +kernel
theorem dX8_does_0 : decode cX8_does 0 = .ok (.aload_n 0, 1) := by decide +kernel
theorem dX8_does_1 : decode cX8_does 1 = .ok (.getfield 38, 3) := by decide +kernel
theorem dX8_does_4 : decode cX8_does 4 = .ok (.iconst 0, 1) := by decide +kernel
theorem dX8_does_5 : decode cX8_does 5 = .ok (.iaload, 1) := by decide +kernel
theorem dX8_does_6 : decode cX8_does 6 = .ok (.istore_n 1, 1) := by decide +kernel
theorem dX8_does_7 : decode cX8_does 7 = .ok (.aload_n 0, 1) := by decide +kernel
theorem dX8_does_8 : decode cX8_does 8 = .ok (.getfield 38, 3) := by decide +kernel
theorem dX8_does_11 : decode cX8_does 11 = .ok (.iconst 1, 1) := by decide +kernel
theorem dX8_does_12 : decode cX8_does 12 = .ok (.iaload, 1) := by decide +kernel
theorem dX8_does_13 : decode cX8_does 13 = .ok (.istore_n 2, 1) := by decide +kernel
theorem dX8_does_14 : decode cX8_does 14 = .ok (.aload_n 0, 1) := by decide +kernel
theorem dX8_does_15 : decode cX8_does 15 = .ok (.getfield 38, 3) := by decide +kernel
theorem dX8_does_18 : decode cX8_does 18 = .ok (.iconst 2, 1) := by decide +kernel
theorem dX8_does_19 : decode cX8_does 19 = .ok (.iaload, 1) := by decide +kernel
theorem dX8_does_20 : decode cX8_does 20 = .ok (.istore_n 3, 1) := by decide +kernel
theorem dX8_does_21 : decode cX8_does 21 = .ok (.aload_n 0, 1) := by decide +kernel
theorem dX8_does_22 : decode cX8_does 22 = .ok (.getfield 67, 3) := by decide +kernel
theorem dX8_does_25 : decode cX8_does 25 = .ok (.bipush 16, 2) := by decide +kernel
theorem dX8_does_27 : decode cX8_does 27 = .ok (.if_icmp .lt 19, 3) := by decide +kernel
theorem dX8_does_30 : decode cX8_does 30 = .ok (.aload_n 0, 1) := by decide +kernel
theorem dX8_does_31 : decode cX8_does 31 = .ok (.getfield 67, 3) := by decide +kernel
theorem dX8_does_34 : decode cX8_does 34 = .ok (.bipush 30, 2) := by decide +kernel
theorem dX8_does_36 : decode cX8_does 36 = .ok (.if_icmp .gt 10, 3) := by decide +kernel
theorem dX8_does_39 : decode cX8_does 39 = .ok (.aload_n 0, 1) := by decide +kernel
theorem dX8_does_40 : decode cX8_does 40 = .ok (.iload_n 1, 1) := by decide +kernel
theorem dX8_does_41 : decode cX8_does 41 = .ok (.iload_n 2, 1) := by decide +kernel
theorem dX8_does_42 : decode cX8_does 42 = .ok (.invokevirtual 155, 3) := by decide +kernel
theorem dX8_does_45 : decode cX8_does 45 = .ok (.ireturn, 1) := by decide +kernel
theorem dX8_does_46 : decode cX8_does 46 = .ok (.aload_n 0, 1) := by decide +kernel
theorem dX8_does_47 : decode cX8_does 47 = .ok (.getfield 67, 3) := by decide +kernel
theorem dX8_does_50 : decode cX8_does 50 = .ok (.bipush 32, 2) := by decide +kernel
theorem dX8_does_52 : decode cX8_does 52 = .ok (.if_icmp .lt 41, 3) := by decide +kernel
theorem dX8_does_55 : decode cX8_does 55 = .ok (.aload_n 0, 1) := by decide +kernel
theorem dX8_does_56 : decode cX8_does 56 = .ok (.getfield 67, 3) := by decide +kernel
theorem dX8_does_59 : decode cX8_does 59 = .ok (.bipush 45, 2) := by decide +kernel
theorem dX8_does_61 : decode cX8_does 61 = .ok (.if_icmp .gt 32, 3) := by decide +kernel
theorem dX8_does_64 : decode cX8_does 64 = .ok (.aload_n 0, 1) := by decide +kernel
theorem dX8_does_65 : decode cX8_does 65 = .ok (.getfield 67, 3) := by decide +kernel
theorem dX8_does_68 : decode cX8_does 68 = .ok (.iload_n 1, 1) := by decide +kernel
theorem dX8_does_69 : decode cX8_does 69 = .ok (.iload_n 2, 1) := by decide +kernel
theorem dX8_does_70 : decode cX8_does 70 = .ok (.invokestatic 158, 3) := by decide +kernel
theorem dX8_does_73 : decode cX8_does 73 = .ok (.ifCond .eq 18, 3) := by decide +kernel
theorem dX8_does_76 : decode cX8_does 76 = .ok (.aload_n 0, 1) := by decide +kernel
theorem dX8_does_77 : decode cX8_does 77 = .ok (.aload_n 0, 1) := by decide +kernel
theorem dX8_does_78 : decode cX8_does 78 = .ok (.getfield 38, 3) := by decide +kernel
theorem dX8_does_81 : decode cX8_does 81 = .ok (.aload_n 0, 1) := by decide +kernel
theorem dX8_does_82 : decode cX8_does 82 = .ok (.getfield 74, 3) := by decide +kernel
theorem dX8_does_85 : decode cX8_does 85 = .ok (.iconst 1, 1) := by decide +kernel
theorem dX8_does_86 : decode cX8_does 86 = .ok (.isub, 1) := by decide +kernel
theorem dX8_does_87 : decode cX8_does 87 = .ok (.iaload, 1) := by decide +kernel
theorem dX8_does_88 : decode cX8_does 88 = .ok (.invokevirtual 162, 3) := by decide +kernel
theorem dX8_does_91 : decode cX8_does 91 = .ok (.iconst 0, 1) := by decide +kernel
theorem dX8_does_92 : decode cX8_does 92 = .ok (.ireturn, 1) := by decide +kernel
theorem dX8_does_93 : decode cX8_does 93 = .ok (.aload_n 0, 1) := by decide +kernel
theorem dX8_does_94 : decode cX8_does 94 = .ok (.getfield 67, 3) := by decide +kernel
theorem dX8_does_97 : decode cX8_does 97 = .ok (.bipush 72, 2) := by decide +kernel
theorem dX8_does_99 : decode cX8_does 99 = .ok (.if_icmp .lt 20, 3) := by decide +kernel
theorem dX8_does_102 : decode cX8_does 102 = .ok (.aload_n 0, 1) := by decide +kernel
theorem dX8_does_103 : decode cX8_does 103 = .ok (.getfield 67, 3) := by decide +kernel
theorem dX8_does_106 : decode cX8_does 106 = .ok (.bipush 79, 2) := by decide +kernel
theorem dX8_does_108 : decode cX8_does 108 = .ok (.if_icmp .gt 11, 3) := by decide +kernel
theorem dX8_does_111 : decode cX8_does 111 = .ok (.aload_n 0, 1) := by decide +kernel
theorem dX8_does_112 : decode cX8_does 112 = .ok (.iload_n 1, 1) := by decide +kernel
theorem dX8_does_113 : decode cX8_does 113 = .ok (.iload_n 2, 1) := by decide +kernel
theorem dX8_does_114 : decode cX8_does 114 = .ok (.iload_n 3, 1) := by decide +kernel
theorem dX8_does_115 : decode cX8_does 115 = .ok (.invokevirtual 166, 3) := by decide +kernel
theorem dX8_does_118 : decode cX8_does 118 = .ok (.ireturn, 1) := by decide +kernel
theorem dX8_does_119 : decode cX8_does 119 = .ok (.aload_n 0, 1) := by decide +kernel
theorem dX8_does_120 : decode cX8_does 120 = .ok (.getfield 67, 3) := by decide +kernel
theorem dX8_does_123 : decode cX8_does 123 = .ok (.bipush 80, 2) := by decide +kernel
theorem dX8_does_125 : decode cX8_does 125 = .ok (.if_icmp .lt 19, 3) := by decide +kernel
theorem dX8_does_128 : decode cX8_does 128 = .ok (.aload_n 0, 1) := by decide +kernel
theorem dX8_does_129 : decode cX8_does 129 = .ok (.getfield 67, 3) := by decide +kernel
theorem dX8_does_132 : decode cX8_does 132 = .ok (.bipush 84, 2) := by decide +kernel
theorem dX8_does_134 : decode cX8_does 134 = .ok (.if_icmp .gt 10, 3) := by decide +kernel
theorem dX8_does_137 : decode cX8_does 137 = .ok (.aload_n 0, 1) := by decide +kernel
theorem dX8_does_138 : decode cX8_does 138 = .ok (.iload_n 1, 1) := by decide +kernel
theorem dX8_does_139 : decode cX8_does 139 = .ok (.iload_n 2, 1) := by decide +kernel
theorem dX8_does_140 : decode cX8_does 140 = .ok (.invokevirtual 169, 3) := by decide +kernel
theorem dX8_does_143 : decode cX8_does 143 = .ok (.ireturn, 1) := by decide +kernel
theorem dX8_does_144 : decode cX8_does 144 = .ok (.aload_n 0, 1) := by decide +kernel
theorem dX8_does_145 : decode cX8_does 145 = .ok (.getfield 67, 3) := by decide +kernel
theorem dX8_does_148 : decode cX8_does 148 = .ok (.lookupswitch 197 #[(49, 116), (64, 141), (65, 141), (66, 141), (68, 147), (69, 154), (256, 161), (260, 170), (288, 116), (336, 177), (337, 177), (368, 182), (369, 189)], 116) := by decide +kernel
theorem dX8_does_264 : decode cX8_does 264 = .ok (.aload_n 0, 1) := by decide +kernel
theorem dX8_does_265 : decode cX8_does 265 = .ok (.aload_n 0, 1) := by decide +kernel
theorem dX8_does_266 : decode cX8_does 266 = .ok (.getfield 67, 3) := by decide +kernel
theorem dX8_does_269 : decode cX8_does 269 = .ok (.bipush 49, 2) := by decide +kernel
theorem dX8_does_271 : decode cX8_does 271 = .ok (.if_icmp .ne 7, 3) := by decide +kernel
theorem dX8_does_274 : decode cX8_does 274 = .ok (.iload_n 1, 1) := by decide +kernel
theorem dX8_does_275 : decode cX8_does 275 = .ok (.goto 4, 3) := by decide +kernel
theorem dX8_does_278 : decode cX8_does 278 = .ok (.iconst 0, 1) := by decide +kernel
theorem dX8_does_279 : decode cX8_does 279 = .ok (.putfield 123, 3) := by decide +kernel
theorem dX8_does_282 : decode cX8_does 282 = .ok (.aload_n 0, 1) := by decide +kernel
theorem dX8_does_283 : decode cX8_does 283 = .ok (.iconst 1, 1) := by decide +kernel
theorem dX8_does_284 : decode cX8_does 284 = .ok (.putfield 55, 3) := by decide +kernel
theorem dX8_does_287 : decode cX8_does 287 = .ok (.iconst 0, 1) := by decide +kernel
theorem dX8_does_288 : decode cX8_does 288 = .ok (.ireturn, 1) := by decide +kernel
theorem dX8_does_289 : decode cX8_does 289 = .ok (.aload_n 0, 1) := by decide +kernel
theorem dX8_does_290 : decode cX8_does 290 = .ok (.iload_n 1, 1) := by decide +kernel
theorem dX8_does_291 : decode cX8_does 291 = .ok (.invokevirtual 116, 3) := by decide +kernel
theorem dX8_does_294 : decode cX8_does 294 = .ok (.ireturn, 1) := by decide +kernel
theorem dX8_does_295 : decode cX8_does 295 = .ok (.aload_n 0, 1) := by decide +kernel
theorem dX8_does_296 : decode cX8_does 296 = .ok (.iload_n 1, 1) := by decide +kernel
theorem dX8_does_297 : decode cX8_does 297 = .ok (.i2s, 1) := by decide +kernel
theorem dX8_does_298 : decode cX8_does 298 = .ok (.invokevirtual 116, 3) := by decide +kernel
theorem dX8_does_301 : decode cX8_does 301 = .ok (.ireturn, 1) := by decide +kernel
theorem dX8_does_302 : decode cX8_does 302 = .ok (.aload_n 0, 1) := by decide +kernel
theorem dX8_does_303 : decode cX8_does 303 = .ok (.iload_n 1, 1) := by decide +kernel
theorem dX8_does_304 : decode cX8_does 304 = .ok (.i2b, 1) := by decide +kernel
theorem dX8_does_305 : decode cX8_does 305 = .ok (.invokevirtual 116, 3) := by decide +kernel
theorem dX8_does_308 : decode cX8_does 308 = .ok (.ireturn, 1) := by decide +kernel
theorem dX8_does_309 : decode cX8_does 309 = .ok (.aload_n 0, 1) := by decide +kernel
theorem dX8_does_310 : decode cX8_does 310 = .ok (.iload_n 1, 1) := by decide +kernel
theorem dX8_does_311 : decode cX8_does 311 = .ok (.invokestatic 172, 3) := by decide +kernel
theorem dX8_does_314 : decode cX8_does 314 = .ok (.invokevirtual 116, 3) := by decide +kernel
theorem dX8_does_317 : decode cX8_does 317 = .ok (.ireturn, 1) := by decide +kernel
theorem dX8_does_318 : decode cX8_does 318 = .ok (.aload_n 0, 1) := by decide +kernel
theorem dX8_does_319 : decode cX8_does 319 = .ok (.iload_n 1, 1) := by decide +kernel
theorem dX8_does_320 : decode cX8_does 320 = .ok (.putfield 126, 3) := by decide +kernel
theorem dX8_does_323 : decode cX8_does 323 = .ok (.iconst 0, 1) := by decide +kernel
theorem dX8_does_324 : decode cX8_does 324 = .ok (.ireturn, 1) := by decide +kernel
theorem dX8_does_325 : decode cX8_does 325 = .ok (.aload_n 0, 1) := by decide +kernel
theorem dX8_does_326 : decode cX8_does 326 = .ok (.invokevirtual 175, 3) := by decide +kernel
theorem dX8_does_329 : decode cX8_does 329 = .ok (.ireturn, 1) := by decide +kernel
theorem dX8_does_330 : decode cX8_does 330 = .ok (.aload_n 0, 1) := by decide +kernel
theorem dX8_does_331 : decode cX8_does 331 = .ok (.iload_n 1, 1) := by decide +kernel
theorem dX8_does_332 : decode cX8_does 332 = .ok (.iload_n 2, 1) := by decide +kernel
theorem dX8_does_333 : decode cX8_does 333 = .ok (.invokevirtual 179, 3) := by decide +kernel
theorem dX8_does_336 : decode cX8_does 336 = .ok (.ireturn, 1) := by decide +kernel
theorem dX8_does_337 : decode cX8_does 337 = .ok (.aload_n 0, 1) := by decide +kernel
theorem dX8_does_338 : decode cX8_does 338 = .ok (.iload_n 1, 1) := by decide +kernel
theorem dX8_does_339 : decode cX8_does 339 = .ok (.iload_n 2, 1) := by decide +kernel
theorem dX8_does_340 : decode cX8_does 340 = .ok (.iload_n 3, 1) := by decide +kernel
theorem dX8_does_341 : decode cX8_does 341 = .ok (.invokevirtual 182, 3) := by decide +kernel
theorem dX8_does_344 : decode cX8_does 344 = .ok (.ireturn, 1) := by decide +kernel
theorem dX8_does_345 : decode cX8_does 345 = .ok (.iconst 0, 1) := by decide +kernel
theorem dX8_does_346 : decode cX8_does 346 = .ok (.ireturn, 1) := by decide +kernel
theorem dX8_doesRow_0 : decode cX8_doesRow 0 = .ok (.aload_n 0, 1) := by decide +kernel
theorem dX8_doesRow_1 : decode cX8_doesRow 1 = .ok (.aload_n 0, 1) := by decide +kernel
theorem dX8_doesRow_2 : decode cX8_doesRow 2 = .ok (.getfield 52, 3) := by decide +kernel
theorem dX8_doesRow_5 : decode cX8_doesRow 5 = .ok (.invokevirtual 86, 3) := by decide +kernel
theorem dX8_doesRow_8 : decode cX8_doesRow 8 = .ok (.istore_n 1, 1) := by decide +kernel
theorem dX8_doesRow_9 : decode cX8_doesRow 9 = .ok (.iload_n 1, 1) := by decide +kernel
theorem dX8_doesRow_10 : decode cX8_doesRow 10 = .ok (.ifCond .eq 5, 3) := by decide +kernel
theorem dX8_doesRow_13 : decode cX8_doesRow 13 = .ok (.iload_n 1, 1) := by decide +kernel
theorem dX8_doesRow_14 : decode cX8_doesRow 14 = .ok (.ireturn, 1) := by decide +kernel
theorem dX8_doesRow_15 : decode cX8_doesRow 15 = .ok (.aload_n 0, 1) := by decide +kernel
theorem dX8_doesRow_16 : decode cX8_doesRow 16 = .ok (.getfield 59, 3) := by decide +kernel
theorem dX8_doesRow_19 : decode cX8_doesRow 19 = .ok (.istore_n 2, 1) := by decide +kernel
theorem dX8_doesRow_20 : decode cX8_doesRow 20 = .ok (.iconst 0, 1) := by decide +kernel
theorem dX8_doesRow_21 : decode cX8_doesRow 21 = .ok (.istore_n 3, 1) := by decide +kernel
theorem dX8_doesRow_22 : decode cX8_doesRow 22 = .ok (.iload_n 3, 1) := by decide +kernel
theorem dX8_doesRow_23 : decode cX8_doesRow 23 = .ok (.aload_n 0, 1) := by decide +kernel
theorem dX8_doesRow_24 : decode cX8_doesRow 24 = .ok (.getfield 59, 3) := by decide +kernel
theorem dX8_doesRow_27 : decode cX8_doesRow 27 = .ok (.if_icmp .ge 21, 3) := by decide +kernel
theorem dX8_doesRow_30 : decode cX8_doesRow 30 = .ok (.aload_n 0, 1) := by decide +kernel
theorem dX8_doesRow_31 : decode cX8_doesRow 31 = .ok (.getfield 19, 3) := by decide +kernel
theorem dX8_doesRow_34 : decode cX8_doesRow 34 = .ok (.iload_n 3, 1) := by decide +kernel
theorem dX8_doesRow_35 : decode cX8_doesRow 35 = .ok (.aload_n 0, 1) := by decide +kernel
theorem dX8_doesRow_36 : decode cX8_doesRow 36 = .ok (.getfield 16, 3) := by decide +kernel
theorem dX8_doesRow_39 : decode cX8_doesRow 39 = .ok (.iload_n 3, 1) := by decide +kernel
theorem dX8_doesRow_40 : decode cX8_doesRow 40 = .ok (.iaload, 1) := by decide +kernel
theorem dX8_doesRow_41 : decode cX8_doesRow 41 = .ok (.iastore, 1) := by decide +kernel
theorem dX8_doesRow_42 : decode cX8_doesRow 42 = .ok (.iinc 3 1, 3) := by decide +kernel
theorem dX8_doesRow_45 : decode cX8_doesRow 45 = .ok (.goto (-23), 3) := by decide +kernel
theorem dX8_doesRow_48 : decode cX8_doesRow 48 = .ok (.aload_n 0, 1) := by decide +kernel
theorem dX8_doesRow_49 : decode cX8_doesRow 49 = .ok (.getfield 67, 3) := by decide +kernel
theorem dX8_doesRow_52 : decode cX8_doesRow 52 = .ok (.invokestatic 80, 3) := by decide +kernel
theorem dX8_doesRow_55 : decode cX8_doesRow 55 = .ok (.istore_n 3, 1) := by decide +kernel
theorem dX8_doesRow_56 : decode cX8_doesRow 56 = .ok (.aload_n 0, 1) := by decide +kernel
theorem dX8_doesRow_57 : decode cX8_doesRow 57 = .ok (.getfield 67, 3) := by decide +kernel
theorem dX8_doesRow_60 : decode cX8_doesRow 60 = .ok (.bipush 65, 2) := by decide +kernel
theorem dX8_doesRow_62 : decode cX8_doesRow 62 = .ok (.if_icmp .ne 7, 3) := by decide +kernel
theorem dX8_doesRow_65 : decode cX8_doesRow 65 = .ok (.iconst 2, 1) := by decide +kernel
theorem dX8_doesRow_66 : decode cX8_doesRow 66 = .ok (.goto 17, 3) := by decide +kernel
theorem dX8_doesRow_69 : decode cX8_doesRow 69 = .ok (.aload_n 0, 1) := by decide +kernel
theorem dX8_doesRow_70 : decode cX8_doesRow 70 = .ok (.getfield 67, 3) := by decide +kernel
theorem dX8_doesRow_73 : decode cX8_doesRow 73 = .ok (.bipush 66, 2) := by decide +kernel
theorem dX8_doesRow_75 : decode cX8_doesRow 75 = .ok (.if_icmp .ne 7, 3) := by decide +kernel
theorem dX8_doesRow_78 : decode cX8_doesRow 78 = .ok (.iconst 1, 1) := by decide +kernel
theorem dX8_doesRow_79 : decode cX8_doesRow 79 = .ok (.goto 4, 3) := by decide +kernel
theorem dX8_doesRow_82 : decode cX8_doesRow 82 = .ok (.iconst 4, 1) := by decide +kernel
theorem dX8_doesRow_83 : decode cX8_doesRow 83 = .ok (.istore 4, 2) := by decide +kernel
theorem dX8_doesRow_85 : decode cX8_doesRow 85 = .ok (.aload_n 0, 1) := by decide +kernel
theorem dX8_doesRow_86 : decode cX8_doesRow 86 = .ok (.aload_n 0, 1) := by decide +kernel
theorem dX8_doesRow_87 : decode cX8_doesRow 87 = .ok (.getfield 83, 3) := by decide +kernel
theorem dX8_doesRow_90 : decode cX8_doesRow 90 = .ok (.putfield 126, 3) := by decide +kernel
theorem dX8_doesRow_93 : decode cX8_doesRow 93 = .ok (.iconst 0, 1) := by decide +kernel
theorem dX8_doesRow_94 : decode cX8_doesRow 94 = .ok (.istore 5, 2) := by decide +kernel
theorem dX8_doesRow_96 : decode cX8_doesRow 96 = .ok (.iload 5, 2) := by decide +kernel
theorem dX8_doesRow_98 : decode cX8_doesRow 98 = .ok (.aload_n 0, 1) := by decide +kernel
theorem dX8_doesRow_99 : decode cX8_doesRow 99 = .ok (.getfield 74, 3) := by decide +kernel
theorem dX8_doesRow_102 : decode cX8_doesRow 102 = .ok (.if_icmp .ge 32, 3) := by decide +kernel
theorem dX8_doesRow_105 : decode cX8_doesRow 105 = .ok (.iload_n 1, 1) := by decide +kernel
theorem dX8_doesRow_106 : decode cX8_doesRow 106 = .ok (.ifCond .ne 28, 3) := by decide +kernel
theorem dX8_doesRow_109 : decode cX8_doesRow 109 = .ok (.iload 5, 2) := by decide +kernel
theorem dX8_doesRow_111 : decode cX8_doesRow 111 = .ok (.iload_n 3, 1) := by decide +kernel
theorem dX8_doesRow_112 : decode cX8_doesRow 112 = .ok (.if_icmp .ne 7, 3) := by decide +kernel
theorem dX8_doesRow_115 : decode cX8_doesRow 115 = .ok (.iconst 0, 1) := by decide +kernel
theorem dX8_doesRow_116 : decode cX8_doesRow 116 = .ok (.goto 11, 3) := by decide +kernel
theorem dX8_doesRow_119 : decode cX8_doesRow 119 = .ok (.aload_n 0, 1) := by decide +kernel
theorem dX8_doesRow_120 : decode cX8_doesRow 120 = .ok (.iload 5, 2) := by decide +kernel
theorem dX8_doesRow_122 : decode cX8_doesRow 122 = .ok (.iload 4, 2) := by decide +kernel
theorem dX8_doesRow_124 : decode cX8_doesRow 124 = .ok (.invokevirtual 185, 3) := by decide +kernel
theorem dX8_doesRow_127 : decode cX8_doesRow 127 = .ok (.istore_n 1, 1) := by decide +kernel
theorem dX8_doesRow_128 : decode cX8_doesRow 128 = .ok (.iinc 5 1, 3) := by decide +kernel
theorem dX8_doesRow_131 : decode cX8_doesRow 131 = .ok (.goto (-35), 3) := by decide +kernel
theorem dX8_doesRow_134 : decode cX8_doesRow 134 = .ok (.iload_n 1, 1) := by decide +kernel
theorem dX8_doesRow_135 : decode cX8_doesRow 135 = .ok (.ifCond .eq 7, 3) := by decide +kernel
theorem dX8_doesRow_138 : decode cX8_doesRow 138 = .ok (.iload_n 1, 1) := by decide +kernel
theorem dX8_doesRow_139 : decode cX8_doesRow 139 = .ok (.goto 7, 3) := by decide +kernel
theorem dX8_doesRow_142 : decode cX8_doesRow 142 = .ok (.aload_n 0, 1) := by decide +kernel
theorem dX8_doesRow_143 : decode cX8_doesRow 143 = .ok (.invokevirtual 188, 3) := by decide +kernel
theorem dX8_doesRow_146 : decode cX8_doesRow 146 = .ok (.istore_n 1, 1) := by decide +kernel
theorem dX8_doesRow_147 : decode cX8_doesRow 147 = .ok (.iload_n 1, 1) := by decide +kernel
theorem dX8_doesRow_148 : decode cX8_doesRow 148 = .ok (.ifCond .ne 7, 3) := by decide +kernel
theorem dX8_doesRow_151 : decode cX8_doesRow 151 = .ok (.iload_n 3, 1) := by decide +kernel
theorem dX8_doesRow_152 : decode cX8_doesRow 152 = .ok (.ifCond .ge 7, 3) := by decide +kernel
theorem dX8_doesRow_155 : decode cX8_doesRow 155 = .ok (.iload_n 1, 1) := by decide +kernel
theorem dX8_doesRow_156 : decode cX8_doesRow 156 = .ok (.goto 14, 3) := by decide +kernel
theorem dX8_doesRow_159 : decode cX8_doesRow 159 = .ok (.aload_n 0, 1) := by decide +kernel
theorem dX8_doesRow_160 : decode cX8_doesRow 160 = .ok (.iload_n 3, 1) := by decide +kernel
theorem dX8_doesRow_161 : decode cX8_doesRow 161 = .ok (.iload 4, 2) := by decide +kernel
theorem dX8_doesRow_163 : decode cX8_doesRow 163 = .ok (.aload_n 0, 1) := by decide +kernel
theorem dX8_doesRow_164 : decode cX8_doesRow 164 = .ok (.getfield 113, 3) := by decide +kernel
theorem dX8_doesRow_167 : decode cX8_doesRow 167 = .ok (.invokevirtual 191, 3) := by decide +kernel
theorem dX8_doesRow_170 : decode cX8_doesRow 170 = .ok (.istore_n 1, 1) := by decide +kernel
theorem dX8_doesRow_171 : decode cX8_doesRow 171 = .ok (.iload_n 1, 1) := by decide +kernel
theorem dX8_doesRow_172 : decode cX8_doesRow 172 = .ok (.ifCond .eq 39, 3) := by decide +kernel
theorem dX8_doesRow_175 : decode cX8_doesRow 175 = .ok (.aload_n 0, 1) := by decide +kernel
theorem dX8_doesRow_176 : decode cX8_doesRow 176 = .ok (.iload_n 2, 1) := by decide +kernel
theorem dX8_doesRow_177 : decode cX8_doesRow 177 = .ok (.putfield 59, 3) := by decide +kernel
theorem dX8_doesRow_180 : decode cX8_doesRow 180 = .ok (.iconst 0, 1) := by decide +kernel
theorem dX8_doesRow_181 : decode cX8_doesRow 181 = .ok (.istore 5, 2) := by decide +kernel
theorem dX8_doesRow_183 : decode cX8_doesRow 183 = .ok (.iload 5, 2) := by decide +kernel
theorem dX8_doesRow_185 : decode cX8_doesRow 185 = .ok (.iload_n 2, 1) := by decide +kernel
theorem dX8_doesRow_186 : decode cX8_doesRow 186 = .ok (.if_icmp .ge 23, 3) := by decide +kernel
theorem dX8_doesRow_189 : decode cX8_doesRow 189 = .ok (.aload_n 0, 1) := by decide +kernel
theorem dX8_doesRow_190 : decode cX8_doesRow 190 = .ok (.getfield 16, 3) := by decide +kernel
theorem dX8_doesRow_193 : decode cX8_doesRow 193 = .ok (.iload 5, 2) := by decide +kernel
theorem dX8_doesRow_195 : decode cX8_doesRow 195 = .ok (.aload_n 0, 1) := by decide +kernel
theorem dX8_doesRow_196 : decode cX8_doesRow 196 = .ok (.getfield 19, 3) := by decide +kernel
theorem dX8_doesRow_199 : decode cX8_doesRow 199 = .ok (.iload 5, 2) := by decide +kernel
theorem dX8_doesRow_201 : decode cX8_doesRow 201 = .ok (.iaload, 1) := by decide +kernel
theorem dX8_doesRow_202 : decode cX8_doesRow 202 = .ok (.iastore, 1) := by decide +kernel
theorem dX8_doesRow_203 : decode cX8_doesRow 203 = .ok (.iinc 5 1, 3) := by decide +kernel
theorem dX8_doesRow_206 : decode cX8_doesRow 206 = .ok (.goto (-23), 3) := by decide +kernel
theorem dX8_doesRow_209 : decode cX8_doesRow 209 = .ok (.iload_n 1, 1) := by decide +kernel
theorem dX8_doesRow_210 : decode cX8_doesRow 210 = .ok (.ireturn, 1) := by decide +kernel
theorem dX8_doesRow_211 : decode cX8_doesRow 211 = .ok (.aload_n 0, 1) := by decide +kernel
theorem dX8_doesRow_212 : decode cX8_doesRow 212 = .ok (.aload_n 0, 1) := by decide +kernel
theorem dX8_doesRow_213 : decode cX8_doesRow 213 = .ok (.getfield 126, 3) := by decide +kernel
theorem dX8_doesRow_216 : decode cX8_doesRow 216 = .ok (.putfield 52, 3) := by decide +kernel
theorem dX8_doesRow_219 : decode cX8_doesRow 219 = .ok (.aload_n 0, 1) := by decide +kernel
theorem dX8_doesRow_220 : decode cX8_doesRow 220 = .ok (.aload_n 0, 1) := by decide +kernel
theorem dX8_doesRow_221 : decode cX8_doesRow 221 = .ok (.getfield 55, 3) := by decide +kernel
theorem dX8_doesRow_224 : decode cX8_doesRow 224 = .ok (.ifCond .eq 10, 3) := by decide +kernel
theorem dX8_doesRow_227 : decode cX8_doesRow 227 = .ok (.aload_n 0, 1) := by decide +kernel
theorem dX8_doesRow_228 : decode cX8_doesRow 228 = .ok (.getfield 123, 3) := by decide +kernel
theorem dX8_doesRow_231 : decode cX8_doesRow 231 = .ok (.goto 7, 3) := by decide +kernel
theorem dX8_doesRow_234 : decode cX8_doesRow 234 = .ok (.aload_n 0, 1) := by decide +kernel
theorem dX8_doesRow_235 : decode cX8_doesRow 235 = .ok (.getfield 194, 3) := by decide +kernel
theorem dX8_doesRow_238 : decode cX8_doesRow 238 = .ok (.putfield 194, 3) := by decide +kernel
theorem dX8_doesRow_241 : decode cX8_doesRow 241 = .ok (.aload_n 0, 1) := by decide +kernel
theorem dX8_doesRow_242 : decode cX8_doesRow 242 = .ok (.dup, 1) := by decide +kernel
theorem dX8_doesRow_243 : decode cX8_doesRow 243 = .ok (.getfield 197, 3) := by decide +kernel
theorem dX8_doesRow_246 : decode cX8_doesRow 246 = .ok (.iconst 1, 1) := by decide +kernel
theorem dX8_doesRow_247 : decode cX8_doesRow 247 = .ok (.iadd, 1) := by decide +kernel
theorem dX8_doesRow_248 : decode cX8_doesRow 248 = .ok (.putfield 197, 3) := by decide +kernel
theorem dX8_doesRow_251 : decode cX8_doesRow 251 = .ok (.iconst 0, 1) := by decide +kernel
theorem dX8_doesRow_252 : decode cX8_doesRow 252 = .ok (.ireturn, 1) := by decide +kernel
theorem dX8_step_0 : decode cX8_step 0 = .ok (.aload_n 0, 1) := by decide +kernel
theorem dX8_step_1 : decode cX8_step 1 = .ok (.iconst 0, 1) := by decide +kernel
theorem dX8_step_2 : decode cX8_step 2 = .ok (.putfield 200, 3) := by decide +kernel
theorem dX8_step_5 : decode cX8_step 5 = .ok (.aload_n 0, 1) := by decide +kernel
theorem dX8_step_6 : decode cX8_step 6 = .ok (.getfield 55, 3) := by decide +kernel
theorem dX8_step_9 : decode cX8_step 9 = .ok (.ifCond .eq 5, 3) := by decide +kernel
theorem dX8_step_12 : decode cX8_step 12 = .ok (.iconst 0, 1) := by decide +kernel
theorem dX8_step_13 : decode cX8_step 13 = .ok (.ireturn, 1) := by decide +kernel
theorem dX8_step_14 : decode cX8_step 14 = .ok (.aload_n 0, 1) := by decide +kernel
theorem dX8_step_15 : decode cX8_step 15 = .ok (.aload_n 0, 1) := by decide +kernel
theorem dX8_step_16 : decode cX8_step 16 = .ok (.invokevirtual 203, 3) := by decide +kernel
theorem dX8_step_19 : decode cX8_step 19 = .ok (.putfield 200, 3) := by decide +kernel
theorem dX8_step_22 : decode cX8_step 22 = .ok (.aload_n 0, 1) := by decide +kernel
theorem dX8_step_23 : decode cX8_step 23 = .ok (.getfield 200, 3) := by decide +kernel
theorem dX8_step_26 : decode cX8_step 26 = .ok (.ifCond .eq 13, 3) := by decide +kernel
theorem dX8_step_29 : decode cX8_step 29 = .ok (.bipush (-10), 2) := by decide +kernel
theorem dX8_step_31 : decode cX8_step 31 = .ok (.aload_n 0, 1) := by decide +kernel
theorem dX8_step_32 : decode cX8_step 32 = .ok (.getfield 200, 3) := by decide +kernel
theorem dX8_step_35 : decode cX8_step 35 = .ok (.isub, 1) := by decide +kernel
theorem dX8_step_36 : decode cX8_step 36 = .ok (.goto 15, 3) := by decide +kernel
theorem dX8_step_39 : decode cX8_step 39 = .ok (.aload_n 0, 1) := by decide +kernel
theorem dX8_step_40 : decode cX8_step 40 = .ok (.getfield 55, 3) := by decide +kernel
theorem dX8_step_43 : decode cX8_step 43 = .ok (.ifCond .eq 7, 3) := by decide +kernel
theorem dX8_step_46 : decode cX8_step 46 = .ok (.iconst 0, 1) := by decide +kernel
theorem dX8_step_47 : decode cX8_step 47 = .ok (.goto 4, 3) := by decide +kernel
theorem dX8_step_50 : decode cX8_step 50 = .ok (.iconst 1, 1) := by decide +kernel
theorem dX8_step_51 : decode cX8_step 51 = .ok (.ireturn, 1) := by decide +kernel
theorem dX8_run_0 : decode cX8_run 0 = .ok (.iload_n 1, 1) := by decide +kernel
theorem dX8_run_1 : decode cX8_run 1 = .ok (.ifCond .lt 10, 3) := by decide +kernel
theorem dX8_run_4 : decode cX8_run 4 = .ok (.iload_n 1, 1) := by decide +kernel
theorem dX8_run_5 : decode cX8_run 5 = .ok (.sipush 2000, 3) := by decide +kernel
theorem dX8_run_8 : decode cX8_run 8 = .ok (.if_icmp .le 5, 3) := by decide +kernel
theorem dX8_run_11 : decode cX8_run 11 = .ok (.iconst (-1), 1) := by decide +kernel
theorem dX8_run_12 : decode cX8_run 12 = .ok (.ireturn, 1) := by decide +kernel
theorem dX8_run_13 : decode cX8_run 13 = .ok (.iconst 0, 1) := by decide +kernel
theorem dX8_run_14 : decode cX8_run 14 = .ok (.istore_n 2, 1) := by decide +kernel
theorem dX8_run_15 : decode cX8_run 15 = .ok (.aload_n 0, 1) := by decide +kernel
theorem dX8_run_16 : decode cX8_run 16 = .ok (.iconst 0, 1) := by decide +kernel
theorem dX8_run_17 : decode cX8_run 17 = .ok (.putfield 200, 3) := by decide +kernel
theorem dX8_run_20 : decode cX8_run 20 = .ok (.iload_n 2, 1) := by decide +kernel
theorem dX8_run_21 : decode cX8_run 21 = .ok (.iload_n 1, 1) := by decide +kernel
theorem dX8_run_22 : decode cX8_run 22 = .ok (.if_icmp .ge 43, 3) := by decide +kernel
theorem dX8_run_25 : decode cX8_run 25 = .ok (.aload_n 0, 1) := by decide +kernel
theorem dX8_run_26 : decode cX8_run 26 = .ok (.getfield 55, 3) := by decide +kernel
theorem dX8_run_29 : decode cX8_run 29 = .ok (.ifCond .ne 36, 3) := by decide +kernel
theorem dX8_run_32 : decode cX8_run 32 = .ok (.aload_n 0, 1) := by decide +kernel
theorem dX8_run_33 : decode cX8_run 33 = .ok (.getfield 200, 3) := by decide +kernel
theorem dX8_run_36 : decode cX8_run 36 = .ok (.ifCond .ne 29, 3) := by decide +kernel
theorem dX8_run_39 : decode cX8_run 39 = .ok (.aload_n 0, 1) := by decide +kernel
theorem dX8_run_40 : decode cX8_run 40 = .ok (.aload_n 0, 1) := by decide +kernel
theorem dX8_run_41 : decode cX8_run 41 = .ok (.invokevirtual 203, 3) := by decide +kernel
theorem dX8_run_44 : decode cX8_run 44 = .ok (.putfield 200, 3) := by decide +kernel
theorem dX8_run_47 : decode cX8_run 47 = .ok (.iload_n 2, 1) := by decide +kernel
theorem dX8_run_48 : decode cX8_run 48 = .ok (.aload_n 0, 1) := by decide +kernel
theorem dX8_run_49 : decode cX8_run 49 = .ok (.getfield 200, 3) := by decide +kernel
theorem dX8_run_52 : decode cX8_run 52 = .ok (.ifCond .ne 7, 3) := by decide +kernel
theorem dX8_run_55 : decode cX8_run 55 = .ok (.iconst 1, 1) := by decide +kernel
theorem dX8_run_56 : decode cX8_run 56 = .ok (.goto 4, 3) := by decide +kernel
theorem dX8_run_59 : decode cX8_run 59 = .ok (.iconst 0, 1) := by decide +kernel
theorem dX8_run_60 : decode cX8_run 60 = .ok (.iadd, 1) := by decide +kernel
theorem dX8_run_61 : decode cX8_run 61 = .ok (.istore_n 2, 1) := by decide +kernel
theorem dX8_run_62 : decode cX8_run 62 = .ok (.goto (-42), 3) := by decide +kernel
theorem dX8_run_65 : decode cX8_run 65 = .ok (.iload_n 2, 1) := by decide +kernel
theorem dX8_run_66 : decode cX8_run 66 = .ok (.ireturn, 1) := by decide +kernel
theorem dX8_told_0 : decode cX8_told 0 = .ok (.iload_n 1, 1) := by decide +kernel
theorem dX8_told_1 : decode cX8_told 1 = .ok (.tableswitch 86 0 6 #[43, 48, 61, 66, 71, 76, 81], 43) := by decide +kernel
theorem dX8_told_44 : decode cX8_told 44 = .ok (.aload_n 0, 1) := by decide +kernel
theorem dX8_told_45 : decode cX8_told 45 = .ok (.getfield 52, 3) := by decide +kernel
theorem dX8_told_48 : decode cX8_told 48 = .ok (.ireturn, 1) := by decide +kernel
theorem dX8_told_49 : decode cX8_told 49 = .ok (.aload_n 0, 1) := by decide +kernel
theorem dX8_told_50 : decode cX8_told 50 = .ok (.getfield 55, 3) := by decide +kernel
theorem dX8_told_53 : decode cX8_told 53 = .ok (.ifCond .eq 7, 3) := by decide +kernel
theorem dX8_told_56 : decode cX8_told 56 = .ok (.iconst 1, 1) := by decide +kernel
theorem dX8_told_57 : decode cX8_told 57 = .ok (.goto 4, 3) := by decide +kernel
theorem dX8_told_60 : decode cX8_told 60 = .ok (.iconst 0, 1) := by decide +kernel
theorem dX8_told_61 : decode cX8_told 61 = .ok (.ireturn, 1) := by decide +kernel
theorem dX8_told_62 : decode cX8_told 62 = .ok (.aload_n 0, 1) := by decide +kernel
theorem dX8_told_63 : decode cX8_told 63 = .ok (.getfield 194, 3) := by decide +kernel
theorem dX8_told_66 : decode cX8_told 66 = .ok (.ireturn, 1) := by decide +kernel
theorem dX8_told_67 : decode cX8_told 67 = .ok (.aload_n 0, 1) := by decide +kernel
theorem dX8_told_68 : decode cX8_told 68 = .ok (.getfield 59, 3) := by decide +kernel
theorem dX8_told_71 : decode cX8_told 71 = .ok (.ireturn, 1) := by decide +kernel
theorem dX8_told_72 : decode cX8_told 72 = .ok (.aload_n 0, 1) := by decide +kernel
theorem dX8_told_73 : decode cX8_told 73 = .ok (.getfield 22, 3) := by decide +kernel
theorem dX8_told_76 : decode cX8_told 76 = .ok (.ireturn, 1) := by decide +kernel
theorem dX8_told_77 : decode cX8_told 77 = .ok (.aload_n 0, 1) := by decide +kernel
theorem dX8_told_78 : decode cX8_told 78 = .ok (.getfield 200, 3) := by decide +kernel
theorem dX8_told_81 : decode cX8_told 81 = .ok (.ireturn, 1) := by decide +kernel
theorem dX8_told_82 : decode cX8_told 82 = .ok (.aload_n 0, 1) := by decide +kernel
theorem dX8_told_83 : decode cX8_told 83 = .ok (.getfield 197, 3) := by decide +kernel
theorem dX8_told_86 : decode cX8_told 86 = .ok (.ireturn, 1) := by decide +kernel
theorem dX8_told_87 : decode cX8_told 87 = .ok (.iconst (-1), 1) := by decide +kernel
theorem dX8_told_88 : decode cX8_told 88 = .ok (.ireturn, 1) := by decide +kernel
theorem dX8_octet_0 : decode cX8_octet 0 = .ok (.iload_n 1, 1) := by decide +kernel
theorem dX8_octet_1 : decode cX8_octet 1 = .ok (.iconst 1, 1) := by decide +kernel
theorem dX8_octet_2 : decode cX8_octet 2 = .ok (.invokestatic 105, 3) := by decide +kernel
theorem dX8_octet_5 : decode cX8_octet 5 = .ok (.ifCond .eq 12, 3) := by decide +kernel
theorem dX8_octet_8 : decode cX8_octet 8 = .ok (.aload_n 0, 1) := by decide +kernel
theorem dX8_octet_9 : decode cX8_octet 9 = .ok (.getfield 7, 3) := by decide +kernel
theorem dX8_octet_12 : decode cX8_octet 12 = .ok (.iload_n 1, 1) := by decide +kernel
theorem dX8_octet_13 : decode cX8_octet 13 = .ok (.iaload, 1) := by decide +kernel
theorem dX8_octet_14 : decode cX8_octet 14 = .ok (.goto 4, 3) := by decide +kernel
theorem dX8_octet_17 : decode cX8_octet 17 = .ok (.iconst (-1), 1) := by decide +kernel
theorem dX8_octet_18 : decode cX8_octet 18 = .ok (.ireturn, 1) := by decide +kernel
theorem dX8_local_0 : decode cX8_local 0 = .ok (.iload_n 1, 1) := by decide +kernel
theorem dX8_local_1 : decode cX8_local 1 = .ok (.ifCond .lt 18, 3) := by decide +kernel
theorem dX8_local_4 : decode cX8_local 4 = .ok (.iload_n 1, 1) := by decide +kernel
theorem dX8_local_5 : decode cX8_local 5 = .ok (.bipush 60, 2) := by decide +kernel
theorem dX8_local_7 : decode cX8_local 7 = .ok (.if_icmp .gt 12, 3) := by decide +kernel
theorem dX8_local_10 : decode cX8_local 10 = .ok (.aload_n 0, 1) := by decide +kernel
theorem dX8_local_11 : decode cX8_local 11 = .ok (.iload_n 1, 1) := by decide +kernel
theorem dX8_local_12 : decode cX8_local 12 = .ok (.iconst 4, 1) := by decide +kernel
theorem dX8_local_13 : decode cX8_local 13 = .ok (.invokevirtual 102, 3) := by decide +kernel
theorem dX8_local_16 : decode cX8_local 16 = .ok (.goto 4, 3) := by decide +kernel
theorem dX8_local_19 : decode cX8_local 19 = .ok (.iconst 0, 1) := by decide +kernel
theorem dX8_local_20 : decode cX8_local 20 = .ok (.ireturn, 1) := by decide +kernel
theorem dX8_stack_0 : decode cX8_stack 0 = .ok (.iload_n 1, 1) := by decide +kernel
theorem dX8_stack_1 : decode cX8_stack 1 = .ok (.ifCond .lt 27, 3) := by decide +kernel
theorem dX8_stack_4 : decode cX8_stack 4 = .ok (.iload_n 1, 1) := by decide +kernel
theorem dX8_stack_5 : decode cX8_stack 5 = .ok (.aload_n 0, 1) := by decide +kernel
theorem dX8_stack_6 : decode cX8_stack 6 = .ok (.getfield 59, 3) := by decide +kernel
theorem dX8_stack_9 : decode cX8_stack 9 = .ok (.if_icmp .ge 19, 3) := by decide +kernel
theorem dX8_stack_12 : decode cX8_stack 12 = .ok (.aload_n 0, 1) := by decide +kernel
theorem dX8_stack_13 : decode cX8_stack 13 = .ok (.getfield 16, 3) := by decide +kernel
theorem dX8_stack_16 : decode cX8_stack 16 = .ok (.aload_n 0, 1) := by decide +kernel
theorem dX8_stack_17 : decode cX8_stack 17 = .ok (.getfield 59, 3) := by decide +kernel
theorem dX8_stack_20 : decode cX8_stack 20 = .ok (.iconst 1, 1) := by decide +kernel
theorem dX8_stack_21 : decode cX8_stack 21 = .ok (.isub, 1) := by decide +kernel
theorem dX8_stack_22 : decode cX8_stack 22 = .ok (.iload_n 1, 1) := by decide +kernel
theorem dX8_stack_23 : decode cX8_stack 23 = .ok (.isub, 1) := by decide +kernel
theorem dX8_stack_24 : decode cX8_stack 24 = .ok (.iaload, 1) := by decide +kernel
theorem dX8_stack_25 : decode cX8_stack 25 = .ok (.goto 4, 3) := by decide +kernel
theorem dX8_stack_28 : decode cX8_stack 28 = .ok (.iconst 0, 1) := by decide +kernel
theorem dX8_stack_29 : decode cX8_stack 29 = .ok (.ireturn, 1) := by decide +kernel
