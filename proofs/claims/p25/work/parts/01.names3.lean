theorem dL_holds_206 : decode cL_holds 206 = .ok (.iload 5, 2) := by decide +kernel
theorem dL_holds_208 : decode cL_holds 208 = .ok (.invokevirtual 55, 3) := by decide +kernel
theorem dL_holds_211 : decode cL_holds 211 = .ok (.if_icmp .gt 39, 3) := by decide +kernel
theorem dL_holds_214 : decode cL_holds 214 = .ok (.aload_n 0, 1) := by decide +kernel
theorem dL_holds_215 : decode cL_holds 215 = .ok (.iload 5, 2) := by decide +kernel
theorem dL_holds_217 : decode cL_holds 217 = .ok (.invokevirtual 55, 3) := by decide +kernel
theorem dL_holds_220 : decode cL_holds 220 = .ok (.aload_n 0, 1) := by decide +kernel
theorem dL_holds_221 : decode cL_holds 221 = .ok (.invokevirtual 32, 3) := by decide +kernel
theorem dL_holds_224 : decode cL_holds 224 = .ok (.if_icmp .gt 26, 3) := by decide +kernel
theorem dL_holds_227 : decode cL_holds 227 = .ok (.aload_n 0, 1) := by decide +kernel
theorem dL_holds_228 : decode cL_holds 228 = .ok (.iload 5, 2) := by decide +kernel
theorem dL_holds_230 : decode cL_holds 230 = .ok (.invokevirtual 42, 3) := by decide +kernel
theorem dL_holds_233 : decode cL_holds 233 = .ok (.iload_n 1, 1) := by decide +kernel
theorem dL_holds_234 : decode cL_holds 234 = .ok (.if_icmp .gt 16, 3) := by decide +kernel
theorem dL_holds_237 : decode cL_holds 237 = .ok (.aload_n 0, 1) := by decide +kernel
theorem dL_holds_238 : decode cL_holds 238 = .ok (.iload 5, 2) := by decide +kernel
theorem dL_holds_240 : decode cL_holds 240 = .ok (.invokevirtual 58, 3) := by decide +kernel
theorem dL_holds_243 : decode cL_holds 243 = .ok (.ifCond .lt 7, 3) := by decide +kernel
theorem dL_holds_246 : decode cL_holds 246 = .ok (.iconst 1, 1) := by decide +kernel
theorem dL_holds_247 : decode cL_holds 247 = .ok (.goto 4, 3) := by decide +kernel
theorem dL_holds_250 : decode cL_holds 250 = .ok (.iconst 0, 1) := by decide +kernel
theorem dL_holds_251 : decode cL_holds 251 = .ok (.istore_n 3, 1) := by decide +kernel
theorem dL_holds_252 : decode cL_holds 252 = .ok (.iinc 5 1, 3) := by decide +kernel
theorem dL_holds_255 : decode cL_holds 255 = .ok (.goto (-105), 3) := by decide +kernel
theorem dL_holds_258 : decode cL_holds 258 = .ok (.iload_n 3, 1) := by decide +kernel
theorem dL_holds_259 : decode cL_holds 259 = .ok (.ifCond .eq 20, 3) := by decide +kernel
theorem dL_holds_262 : decode cL_holds 262 = .ok (.iload 4, 2) := by decide +kernel
theorem dL_holds_264 : decode cL_holds 264 = .ok (.bipush 8, 2) := by decide +kernel
theorem dL_holds_266 : decode cL_holds 266 = .ok (.iload_n 1, 1) := by decide +kernel
theorem dL_holds_267 : decode cL_holds 267 = .ok (.imul, 1) := by decide +kernel
theorem dL_holds_268 : decode cL_holds 268 = .ok (.iconst 3, 1) := by decide +kernel
theorem dL_holds_269 : decode cL_holds 269 = .ok (.iload_n 2, 1) := by decide +kernel
theorem dL_holds_270 : decode cL_holds 270 = .ok (.imul, 1) := by decide +kernel
theorem dL_holds_271 : decode cL_holds 271 = .ok (.isub, 1) := by decide +kernel
theorem dL_holds_272 : decode cL_holds 272 = .ok (.if_icmp .gt 7, 3) := by decide +kernel
theorem dL_holds_275 : decode cL_holds 275 = .ok (.iconst 1, 1) := by decide +kernel
theorem dL_holds_276 : decode cL_holds 276 = .ok (.goto 4, 3) := by decide +kernel
theorem dL_holds_279 : decode cL_holds 279 = .ok (.iconst 0, 1) := by decide +kernel
theorem dL_holds_280 : decode cL_holds 280 = .ok (.ireturn, 1) := by decide +kernel
set_option maxRecDepth 20000 in
theorem ggL_melodies_X4_areAlike : GoodIn wsL_melodies wsX4_areAlike := goodIn_ca (goodIn_r _ [6, 7, 8, 9, 5, 10, 11, 12, 13, 14, 15, 16, 17, 18, 19, 20, 21, 22, 23, 24, 25, 26, 27, 28, 49, 50, 51, 52, 53, 54, 55, 56, 57, 58, 59] (by decide +kernel) (by decide +kernel)) (goodIn_sub (fun _ h => List.mem_cons_of_mem _ (List.mem_append_left _ (List.mem_append_right _ h))) (by decide +kernel))
set_option maxRecDepth 20000 in
theorem gL_melodies_X4_areAlike : GoodIn wsL_melodies (wsV RL 61 RX4 yX4_areAlike wsX4_areAlike) := goodIn_app (goodIn_of _ (by decide +kernel)) ggL_melodies_X4_areAlike
set_option maxRecDepth 20000 in
theorem ggL_melodies_X4_shifted : GoodIn wsL_melodies wsX4_shifted := goodIn_ca (goodIn_ca (goodIn_r _ [32, 33, 34, 7, 8, 9, 5, 10, 11, 12, 13, 35, 26, 27, 17, 28, 19, 21, 22, 23, 24, 20, 49, 50, 51, 52, 53, 54, 55, 56, 57, 58, 59] (by decide +kernel) (by decide +kernel)) (goodIn_sub (fun _ h => List.mem_cons_of_mem _ (List.mem_append_right _ h)) (by decide +kernel))) (goodIn_sub (fun _ h => List.mem_cons_of_mem _ (List.mem_append_left _ (List.mem_append_right _ h))) (by decide +kernel))
set_option maxRecDepth 20000 in
theorem gL_melodies_X4_shifted : GoodIn wsL_melodies (wsV RL 65 RX4 yX4_shifted wsX4_shifted) := goodIn_app (goodIn_of _ (by decide +kernel)) ggL_melodies_X4_shifted
set_option maxRecDepth 20000 in
theorem ggL_melodies_X4_toneAt : GoodIn wsL_melodies wsX4_toneAt := goodIn_ca (goodIn_r _ [39, 11, 12, 7, 8, 9, 5, 10, 13, 40, 22, 23, 17, 24, 20, 56, 57, 58, 59, 49, 50, 51, 52, 53, 54, 55] (by decide +kernel) (by decide +kernel)) (goodIn_sub (fun _ h => List.mem_cons_of_mem _ (List.mem_append_left _ (List.mem_append_right _ h))) (by decide +kernel))
set_option maxRecDepth 20000 in
theorem gL_melodies_X4_toneAt : GoodIn wsL_melodies (wsV RL 69 RX4 yX4_toneAt wsX4_toneAt) := goodIn_app (goodIn_of _ (by decide +kernel)) ggL_melodies_X4_toneAt
set_option maxRecDepth 20000 in
theorem ggL_melodies_X4_turned : GoodIn wsL_melodies wsX4_turned := goodIn_ca (goodIn_r _ [44, 7, 8, 9, 5, 10, 11, 12, 13, 45, 46, 47, 17, 48, 19, 21, 22, 23, 24, 20, 49, 50, 51, 52, 53, 54, 55, 56, 57, 58, 59] (by decide +kernel) (by decide +kernel)) (goodIn_sub (fun _ h => List.mem_cons_of_mem _ (List.mem_append_left _ (List.mem_append_right _ h))) (by decide +kernel))
set_option maxRecDepth 20000 in
theorem gL_melodies_X4_turned : GoodIn wsL_melodies (wsV RL 74 RX4 yX4_turned wsX4_turned) := goodIn_app (goodIn_of _ (by decide +kernel)) ggL_melodies_X4_turned
theorem dL_melodies_0 : decode cL_melodies 0 = .ok (.aload_n 0, 1) := by decide +kernel
theorem dL_melodies_1 : decode cL_melodies 1 = .ok (.iload_n 1, 1) := by decide +kernel
theorem dL_melodies_2 : decode cL_melodies 2 = .ok (.iload_n 1, 1) := by decide +kernel
theorem dL_melodies_3 : decode cL_melodies 3 = .ok (.invokevirtual 61, 3) := by decide +kernel
theorem dL_melodies_6 : decode cL_melodies 6 = .ok (.ifCond .eq 18, 3) := by decide +kernel
theorem dL_melodies_9 : decode cL_melodies 9 = .ok (.aload_n 0, 1) := by decide +kernel
theorem dL_melodies_10 : decode cL_melodies 10 = .ok (.iload_n 1, 1) := by decide +kernel
theorem dL_melodies_11 : decode cL_melodies 11 = .ok (.iconst 0, 1) := by decide +kernel
theorem dL_melodies_12 : decode cL_melodies 12 = .ok (.invokevirtual 65, 3) := by decide +kernel
theorem dL_melodies_15 : decode cL_melodies 15 = .ok (.lload_n 3, 1) := by decide +kernel
theorem dL_melodies_16 : decode cL_melodies 16 = .ok (.lcmp, 1) := by decide +kernel
theorem dL_melodies_17 : decode cL_melodies 17 = .ok (.ifCond .ne 7, 3) := by decide +kernel
theorem dL_melodies_20 : decode cL_melodies 20 = .ok (.iconst 1, 1) := by decide +kernel
theorem dL_melodies_21 : decode cL_melodies 21 = .ok (.goto 4, 3) := by decide +kernel
theorem dL_melodies_24 : decode cL_melodies 24 = .ok (.iconst 0, 1) := by decide +kernel
theorem dL_melodies_25 : decode cL_melodies 25 = .ok (.istore 6, 2) := by decide +kernel
theorem dL_melodies_27 : decode cL_melodies 27 = .ok (.lconst 0, 1) := by decide +kernel
theorem dL_melodies_28 : decode cL_melodies 28 = .ok (.lstore 7, 2) := by decide +kernel
theorem dL_melodies_30 : decode cL_melodies 30 = .ok (.iconst 0, 1) := by decide +kernel
theorem dL_melodies_31 : decode cL_melodies 31 = .ok (.istore 9, 2) := by decide +kernel
theorem dL_melodies_33 : decode cL_melodies 33 = .ok (.iload 9, 2) := by decide +kernel
theorem dL_melodies_35 : decode cL_melodies 35 = .ok (.iload_n 2, 1) := by decide +kernel
theorem dL_melodies_36 : decode cL_melodies 36 = .ok (.if_icmp .ge 91, 3) := by decide +kernel
theorem dL_melodies_39 : decode cL_melodies 39 = .ok (.iload 6, 2) := by decide +kernel
theorem dL_melodies_41 : decode cL_melodies 41 = .ok (.ifCond .eq 86, 3) := by decide +kernel
theorem dL_melodies_44 : decode cL_melodies 44 = .ok (.aload_n 0, 1) := by decide +kernel
theorem dL_melodies_45 : decode cL_melodies 45 = .ok (.iload_n 1, 1) := by decide +kernel
theorem dL_melodies_46 : decode cL_melodies 46 = .ok (.iload 9, 2) := by decide +kernel
theorem dL_melodies_48 : decode cL_melodies 48 = .ok (.invokevirtual 69, 3) := by decide +kernel
theorem dL_melodies_51 : decode cL_melodies 51 = .ok (.lload_n 3, 1) := by decide +kernel
theorem dL_melodies_52 : decode cL_melodies 52 = .ok (.iconst 4, 1) := by decide +kernel
theorem dL_melodies_53 : decode cL_melodies 53 = .ok (.iload 9, 2) := by decide +kernel
theorem dL_melodies_55 : decode cL_melodies 55 = .ok (.imul, 1) := by decide +kernel
theorem dL_melodies_56 : decode cL_melodies 56 = .ok (.lshr, 1) := by decide +kernel
theorem dL_melodies_57 : decode cL_melodies 57 = .ok (.ldc2_w 72, 3) := by decide +kernel
theorem dL_melodies_60 : decode cL_melodies 60 = .ok (.land, 1) := by decide +kernel
theorem dL_melodies_61 : decode cL_melodies 61 = .ok (.l2i, 1) := by decide +kernel
theorem dL_melodies_62 : decode cL_melodies 62 = .ok (.if_icmp .ne 41, 3) := by decide +kernel
theorem dL_melodies_65 : decode cL_melodies 65 = .ok (.aload_n 0, 1) := by decide +kernel
theorem dL_melodies_66 : decode cL_melodies 66 = .ok (.iload_n 1, 1) := by decide +kernel
theorem dL_melodies_67 : decode cL_melodies 67 = .ok (.iload 5, 2) := by decide +kernel
theorem dL_melodies_69 : decode cL_melodies 69 = .ok (.invokevirtual 65, 3) := by decide +kernel
theorem dL_melodies_72 : decode cL_melodies 72 = .ok (.iconst 4, 1) := by decide +kernel
theorem dL_melodies_73 : decode cL_melodies 73 = .ok (.iload 9, 2) := by decide +kernel
theorem dL_melodies_75 : decode cL_melodies 75 = .ok (.imul, 1) := by decide +kernel
theorem dL_melodies_76 : decode cL_melodies 76 = .ok (.lshr, 1) := by decide +kernel
theorem dL_melodies_77 : decode cL_melodies 77 = .ok (.ldc2_w 72, 3) := by decide +kernel
theorem dL_melodies_80 : decode cL_melodies 80 = .ok (.land, 1) := by decide +kernel
theorem dL_melodies_81 : decode cL_melodies 81 = .ok (.aload_n 0, 1) := by decide +kernel
theorem dL_melodies_82 : decode cL_melodies 82 = .ok (.iload_n 1, 1) := by decide +kernel
theorem dL_melodies_83 : decode cL_melodies 83 = .ok (.iload 9, 2) := by decide +kernel
theorem dL_melodies_85 : decode cL_melodies 85 = .ok (.invokevirtual 69, 3) := by decide +kernel
theorem dL_melodies_88 : decode cL_melodies 88 = .ok (.iload 5, 2) := by decide +kernel
theorem dL_melodies_90 : decode cL_melodies 90 = .ok (.iadd, 1) := by decide +kernel
theorem dL_melodies_91 : decode cL_melodies 91 = .ok (.bipush 16, 2) := by decide +kernel
theorem dL_melodies_93 : decode cL_melodies 93 = .ok (.irem, 1) := by decide +kernel
theorem dL_melodies_94 : decode cL_melodies 94 = .ok (.i2l, 1) := by decide +kernel
theorem dL_melodies_95 : decode cL_melodies 95 = .ok (.lcmp, 1) := by decide +kernel
theorem dL_melodies_96 : decode cL_melodies 96 = .ok (.ifCond .ne 7, 3) := by decide +kernel
theorem dL_melodies_99 : decode cL_melodies 99 = .ok (.iconst 1, 1) := by decide +kernel
theorem dL_melodies_100 : decode cL_melodies 100 = .ok (.goto 4, 3) := by decide +kernel
theorem dL_melodies_103 : decode cL_melodies 103 = .ok (.iconst 0, 1) := by decide +kernel
theorem dL_melodies_104 : decode cL_melodies 104 = .ok (.istore 6, 2) := by decide +kernel
theorem dL_melodies_106 : decode cL_melodies 106 = .ok (.lload 7, 2) := by decide +kernel
theorem dL_melodies_108 : decode cL_melodies 108 = .ok (.iconst 4, 1) := by decide +kernel
theorem dL_melodies_109 : decode cL_melodies 109 = .ok (.lshl, 1) := by decide +kernel
theorem dL_melodies_110 : decode cL_melodies 110 = .ok (.aload_n 0, 1) := by decide +kernel
theorem dL_melodies_111 : decode cL_melodies 111 = .ok (.iload_n 1, 1) := by decide +kernel
theorem dL_melodies_112 : decode cL_melodies 112 = .ok (.iload 9, 2) := by decide +kernel
theorem dL_melodies_114 : decode cL_melodies 114 = .ok (.invokevirtual 69, 3) := by decide +kernel
theorem dL_melodies_117 : decode cL_melodies 117 = .ok (.i2l, 1) := by decide +kernel
theorem dL_melodies_118 : decode cL_melodies 118 = .ok (.lor, 1) := by decide +kernel
theorem dL_melodies_119 : decode cL_melodies 119 = .ok (.lstore 7, 2) := by decide +kernel
theorem dL_melodies_121 : decode cL_melodies 121 = .ok (.iinc 9 1, 3) := by decide +kernel
theorem dL_melodies_124 : decode cL_melodies 124 = .ok (.goto (-91), 3) := by decide +kernel
theorem dL_melodies_127 : decode cL_melodies 127 = .ok (.iload 6, 2) := by decide +kernel
theorem dL_melodies_129 : decode cL_melodies 129 = .ok (.ifCond .eq 18, 3) := by decide +kernel
theorem dL_melodies_132 : decode cL_melodies 132 = .ok (.aload_n 0, 1) := by decide +kernel
theorem dL_melodies_133 : decode cL_melodies 133 = .ok (.iload_n 1, 1) := by decide +kernel
theorem dL_melodies_134 : decode cL_melodies 134 = .ok (.invokevirtual 74, 3) := by decide +kernel
theorem dL_melodies_137 : decode cL_melodies 137 = .ok (.lload 7, 2) := by decide +kernel
theorem dL_melodies_139 : decode cL_melodies 139 = .ok (.lcmp, 1) := by decide +kernel
theorem dL_melodies_140 : decode cL_melodies 140 = .ok (.ifCond .ne 7, 3) := by decide +kernel
theorem dL_melodies_143 : decode cL_melodies 143 = .ok (.iconst 1, 1) := by decide +kernel
theorem dL_melodies_144 : decode cL_melodies 144 = .ok (.goto 4, 3) := by decide +kernel
theorem dL_melodies_147 : decode cL_melodies 147 = .ok (.iconst 0, 1) := by decide +kernel
theorem dL_melodies_148 : decode cL_melodies 148 = .ok (.ireturn, 1) := by decide +kernel
set_option maxRecDepth 20000 in
theorem ggL_presses_X4_ringing : GoodIn wsL_presses wsX4_ringing := goodIn_ca (goodIn_r _ [5, 6, 7, 8, 4, 9, 10, 11, 12, 13, 14, 15, 16, 17, 18, 19, 20, 21, 22, 99, 100, 101, 102, 103, 104, 105, 106, 107, 108, 109, 110, 111, 112, 113, 114, 115, 116, 117, 118, 119, 120, 121, 122] (by decide +kernel) (by decide +kernel)) (goodIn_sub (fun _ h => List.mem_cons_of_mem _ (List.mem_append_left _ (List.mem_append_right _ h))) (by decide +kernel))
set_option maxRecDepth 20000 in
theorem gL_presses_X4_ringing : GoodIn wsL_presses (wsV RL 49 RX4 yX4_ringing wsX4_ringing) := goodIn_app (goodIn_of _ (by decide +kernel)) ggL_presses_X4_ringing
set_option maxRecDepth 20000 in
theorem ggL_presses_X4_hushed : GoodIn wsL_presses wsX4_hushed := goodIn_ca (goodIn_r _ [26, 6, 7, 8, 4, 9, 10, 11, 12, 13, 14, 15, 16, 106, 107, 108, 109, 110, 111, 112, 113, 114, 115, 116, 117, 118, 99, 100, 101, 102, 103, 104, 105] (by decide +kernel) (by decide +kernel)) (goodIn_sub (fun _ h => List.mem_cons_of_mem _ (List.mem_append_left _ (List.mem_append_right _ h))) (by decide +kernel))
set_option maxRecDepth 20000 in
theorem gL_presses_X4_hushed : GoodIn wsL_presses (wsV RL 58 RX4 yX4_hushed wsX4_hushed) := goodIn_app (goodIn_of _ (by decide +kernel)) ggL_presses_X4_hushed
set_option maxRecDepth 20000 in
theorem ggL_presses_X4_isSound : GoodIn wsL_presses wsX4_isSound := goodIn_ca (goodIn_r _ [30, 6, 7, 8, 4, 9, 10, 11, 12, 13, 14, 15, 16, 106, 107, 108, 109, 110, 111, 112, 113, 114, 115, 116, 117, 118, 99, 100, 101, 102, 103, 104, 105] (by decide +kernel) (by decide +kernel)) (goodIn_sub (fun _ h => List.mem_cons_of_mem _ (List.mem_append_left _ (List.mem_append_right _ h))) (by decide +kernel))
set_option maxRecDepth 20000 in
theorem gL_presses_X4_isSound : GoodIn wsL_presses (wsV RL 45 RX4 yX4_isSound wsX4_isSound) := goodIn_app (goodIn_of _ (by decide +kernel)) ggL_presses_X4_isSound
set_option maxRecDepth 20000 in
theorem ggL_presses_L_press : GoodIn wsL_presses wsL_press := goodIn_ca (goodIn_ca (goodIn_r _ [34, 35, 36, 37, 38, 4, 39, 40, 41, 42, 6, 7, 8, 9, 10, 11, 12, 13, 14, 15, 16, 43, 44, 45, 46, 47, 48, 49, 20, 50, 51, 52, 53, 54, 55, 56, 57, 58, 59, 60, 61, 62, 63, 64, 65, 66, 67, 68, 69, 70, 71, 72, 73, 74, 75, 76, 22, 77, 78, 79, 80, 81, 82, 83, 84, 85, 86, 87, 88, 89, 90, 91, 92, 93, 94, 95, 96, 97, 98, 119, 120, 121, 122, 106, 107, 108, 109, 110, 111, 112, 113, 114, 115, 116, 117, 118, 99, 100, 101, 102, 103, 104, 105, 123, 124, 125, 126] (by decide +kernel) (by decide +kernel)) (goodIn_sub (fun _ h => List.mem_cons_of_mem _ (List.mem_append_right _ h)) (by decide +kernel))) (goodIn_sub (fun _ h => List.mem_cons_of_mem _ (List.mem_append_left _ (List.mem_append_right _ h))) (by decide +kernel))
set_option maxRecDepth 20000 in
theorem gL_presses_L_press : GoodIn wsL_presses (va_wsS RL 78 yL_press wsL_press) := goodIn_app (goodIn_of _ (by decide +kernel)) ggL_presses_L_press
theorem dL_presses_0 : decode cL_presses 0 = .ok (.aload_n 0, 1) := by decide +kernel
theorem dL_presses_1 : decode cL_presses 1 = .ok (.iload_n 1, 1) := by decide +kernel
theorem dL_presses_2 : decode cL_presses 2 = .ok (.invokevirtual 49, 3) := by decide +kernel
theorem dL_presses_5 : decode cL_presses 5 = .ok (.istore_n 3, 1) := by decide +kernel
theorem dL_presses_6 : decode cL_presses 6 = .ok (.aload_n 0, 1) := by decide +kernel
theorem dL_presses_7 : decode cL_presses 7 = .ok (.iload_n 1, 1) := by decide +kernel
theorem dL_presses_8 : decode cL_presses 8 = .ok (.invokevirtual 58, 3) := by decide +kernel
theorem dL_presses_11 : decode cL_presses 11 = .ok (.istore 4, 2) := by decide +kernel
theorem dL_presses_13 : decode cL_presses 13 = .ok (.aload_n 0, 1) := by decide +kernel
theorem dL_presses_14 : decode cL_presses 14 = .ok (.iload_n 1, 1) := by decide +kernel
theorem dL_presses_15 : decode cL_presses 15 = .ok (.invokevirtual 45, 3) := by decide +kernel
theorem dL_presses_18 : decode cL_presses 18 = .ok (.istore 5, 2) := by decide +kernel
theorem dL_presses_20 : decode cL_presses 20 = .ok (.aload_n 0, 1) := by decide +kernel
theorem dL_presses_21 : decode cL_presses 21 = .ok (.iload_n 1, 1) := by decide +kernel
theorem dL_presses_22 : decode cL_presses 22 = .ok (.iload_n 2, 1) := by decide +kernel
theorem dL_presses_23 : decode cL_presses 23 = .ok (.invokestatic 78, 3) := by decide +kernel
theorem dL_presses_26 : decode cL_presses 26 = .ok (.istore 6, 2) := by decide +kernel
theorem dL_presses_28 : decode cL_presses 28 = .ok (.aload_n 0, 1) := by decide +kernel
theorem dL_presses_29 : decode cL_presses 29 = .ok (.iload_n 1, 1) := by decide +kernel
theorem dL_presses_30 : decode cL_presses 30 = .ok (.invokevirtual 58, 3) := by decide +kernel
theorem dL_presses_33 : decode cL_presses 33 = .ok (.iload 4, 2) := by decide +kernel
theorem dL_presses_35 : decode cL_presses 35 = .ok (.iload 6, 2) := by decide +kernel
theorem dL_presses_37 : decode cL_presses 37 = .ok (.iconst 2, 1) := by decide +kernel
theorem dL_presses_38 : decode cL_presses 38 = .ok (.if_icmp .ne 7, 3) := by decide +kernel
theorem dL_presses_41 : decode cL_presses 41 = .ok (.iconst 1, 1) := by decide +kernel
theorem dL_presses_42 : decode cL_presses 42 = .ok (.goto 4, 3) := by decide +kernel
theorem dL_presses_45 : decode cL_presses 45 = .ok (.iconst 0, 1) := by decide +kernel
theorem dL_presses_46 : decode cL_presses 46 = .ok (.iadd, 1) := by decide +kernel
theorem dL_presses_47 : decode cL_presses 47 = .ok (.if_icmp .ne 31, 3) := by decide +kernel
theorem dL_presses_50 : decode cL_presses 50 = .ok (.aload_n 0, 1) := by decide +kernel
theorem dL_presses_51 : decode cL_presses 51 = .ok (.iload_n 1, 1) := by decide +kernel
theorem dL_presses_52 : decode cL_presses 52 = .ok (.invokevirtual 45, 3) := by decide +kernel
theorem dL_presses_55 : decode cL_presses 55 = .ok (.iload 5, 2) := by decide +kernel
theorem dL_presses_57 : decode cL_presses 57 = .ok (.ifCond .eq 13, 3) := by decide +kernel
theorem dL_presses_60 : decode cL_presses 60 = .ok (.iload 6, 2) := by decide +kernel
theorem dL_presses_62 : decode cL_presses 62 = .ok (.iconst 3, 1) := by decide +kernel
theorem dL_presses_63 : decode cL_presses 63 = .ok (.if_icmp .eq 7, 3) := by decide +kernel
theorem dL_presses_66 : decode cL_presses 66 = .ok (.iconst 1, 1) := by decide +kernel
theorem dL_presses_67 : decode cL_presses 67 = .ok (.goto 4, 3) := by decide +kernel
theorem dL_presses_70 : decode cL_presses 70 = .ok (.iconst 0, 1) := by decide +kernel
theorem dL_presses_71 : decode cL_presses 71 = .ok (.if_icmp .ne 7, 3) := by decide +kernel
theorem dL_presses_74 : decode cL_presses 74 = .ok (.iconst 1, 1) := by decide +kernel
theorem dL_presses_75 : decode cL_presses 75 = .ok (.goto 4, 3) := by decide +kernel
theorem dL_presses_78 : decode cL_presses 78 = .ok (.iconst 0, 1) := by decide +kernel
theorem dL_presses_79 : decode cL_presses 79 = .ok (.istore 7, 2) := by decide +kernel
theorem dL_presses_81 : decode cL_presses 81 = .ok (.iload 7, 2) := by decide +kernel
theorem dL_presses_83 : decode cL_presses 83 = .ok (.ifCond .eq 72, 3) := by decide +kernel
theorem dL_presses_86 : decode cL_presses 86 = .ok (.iload 6, 2) := by decide +kernel
theorem dL_presses_88 : decode cL_presses 88 = .ok (.iconst 1, 1) := by decide +kernel
theorem dL_presses_89 : decode cL_presses 89 = .ok (.if_icmp .ne 36, 3) := by decide +kernel
theorem dL_presses_92 : decode cL_presses 92 = .ok (.iload_n 3, 1) := by decide +kernel
theorem dL_presses_93 : decode cL_presses 93 = .ok (.iload_n 2, 1) := by decide +kernel
theorem dL_presses_94 : decode cL_presses 94 = .ok (.ishr, 1) := by decide +kernel
theorem dL_presses_95 : decode cL_presses 95 = .ok (.iconst 1, 1) := by decide +kernel
theorem dL_presses_96 : decode cL_presses 96 = .ok (.iand, 1) := by decide +kernel
theorem dL_presses_97 : decode cL_presses 97 = .ok (.ifCond .ne 58, 3) := by decide +kernel
theorem dL_presses_100 : decode cL_presses 100 = .ok (.aload_n 0, 1) := by decide +kernel
theorem dL_presses_101 : decode cL_presses 101 = .ok (.iload_n 1, 1) := by decide +kernel
theorem dL_presses_102 : decode cL_presses 102 = .ok (.invokevirtual 49, 3) := by decide +kernel
theorem dL_presses_105 : decode cL_presses 105 = .ok (.iload_n 3, 1) := by decide +kernel
theorem dL_presses_106 : decode cL_presses 106 = .ok (.iconst 1, 1) := by decide +kernel
theorem dL_presses_107 : decode cL_presses 107 = .ok (.iload_n 2, 1) := by decide +kernel
theorem dL_presses_108 : decode cL_presses 108 = .ok (.ishl, 1) := by decide +kernel
theorem dL_presses_109 : decode cL_presses 109 = .ok (.ior, 1) := by decide +kernel
theorem dL_presses_110 : decode cL_presses 110 = .ok (.if_icmp .ne 45, 3) := by decide +kernel
theorem dL_presses_113 : decode cL_presses 113 = .ok (.aload_n 0, 1) := by decide +kernel
theorem dL_presses_114 : decode cL_presses 114 = .ok (.iload_n 1, 1) := by decide +kernel
theorem dL_presses_115 : decode cL_presses 115 = .ok (.iload_n 2, 1) := by decide +kernel
theorem dL_presses_116 : decode cL_presses 116 = .ok (.invokestatic 78, 3) := by decide +kernel
theorem dL_presses_119 : decode cL_presses 119 = .ok (.ifCond .ne 36, 3) := by decide +kernel
theorem dL_presses_122 : decode cL_presses 122 = .ok (.goto 29, 3) := by decide +kernel
theorem dL_presses_125 : decode cL_presses 125 = .ok (.iload 6, 2) := by decide +kernel
theorem dL_presses_127 : decode cL_presses 127 = .ok (.iconst 3, 1) := by decide +kernel
theorem dL_presses_128 : decode cL_presses 128 = .ok (.if_icmp .ne 14, 3) := by decide +kernel
theorem dL_presses_131 : decode cL_presses 131 = .ok (.aload_n 0, 1) := by decide +kernel
theorem dL_presses_132 : decode cL_presses 132 = .ok (.iload_n 1, 1) := by decide +kernel
theorem dL_presses_133 : decode cL_presses 133 = .ok (.invokevirtual 49, 3) := by decide +kernel
theorem dL_presses_136 : decode cL_presses 136 = .ok (.ifCond .ne 19, 3) := by decide +kernel
theorem dL_presses_139 : decode cL_presses 139 = .ok (.goto 12, 3) := by decide +kernel
theorem dL_presses_142 : decode cL_presses 142 = .ok (.aload_n 0, 1) := by decide +kernel
theorem dL_presses_143 : decode cL_presses 143 = .ok (.iload_n 1, 1) := by decide +kernel
theorem dL_presses_144 : decode cL_presses 144 = .ok (.invokevirtual 49, 3) := by decide +kernel
theorem dL_presses_147 : decode cL_presses 147 = .ok (.iload_n 3, 1) := by decide +kernel
theorem dL_presses_148 : decode cL_presses 148 = .ok (.if_icmp .ne 7, 3) := by decide +kernel
theorem dL_presses_151 : decode cL_presses 151 = .ok (.iconst 1, 1) := by decide +kernel
theorem dL_presses_152 : decode cL_presses 152 = .ok (.goto 4, 3) := by decide +kernel
theorem dL_presses_155 : decode cL_presses 155 = .ok (.iconst 0, 1) := by decide +kernel
theorem dL_presses_156 : decode cL_presses 156 = .ok (.ireturn, 1) := by decide +kernel
set_option maxRecDepth 20000 in
theorem ggL_faulty_X4_faults : GoodIn wsL_faulty wsX4_faults := goodIn_r _ [5, 6, 78, 79, 80, 81, 82, 83, 84] (by decide +kernel) (by decide +kernel)
set_option maxRecDepth 20000 in
theorem gL_faulty_X4_faults : GoodIn wsL_faulty (wsV RL 36 RX4 yX4_faults wsX4_faults) := goodIn_app (goodIn_of _ (by decide +kernel)) ggL_faulty_X4_faults
set_option maxRecDepth 20000 in
theorem ggL_faulty_X4_isSound : GoodIn wsL_faulty wsX4_isSound := goodIn_ca (goodIn_r _ [10, 11, 12, 13, 4, 14, 15, 16, 17, 18, 19, 20, 21, 85, 86, 87, 88, 89, 90, 91, 92, 93, 94, 95, 96, 97, 78, 79, 80, 81, 82, 83, 84] (by decide +kernel) (by decide +kernel)) (goodIn_sub (fun _ h => List.mem_cons_of_mem _ (List.mem_append_left _ (List.mem_append_right _ h))) (by decide +kernel))
set_option maxRecDepth 20000 in
theorem gL_faulty_X4_isSound : GoodIn wsL_faulty (wsV RL 45 RX4 yX4_isSound wsX4_isSound) := goodIn_app (goodIn_of _ (by decide +kernel)) ggL_faulty_X4_isSound
set_option maxRecDepth 20000 in
theorem ggL_faulty_X4_ringing : GoodIn wsL_faulty wsX4_ringing := goodIn_ca (goodIn_r _ [25, 11, 12, 13, 4, 14, 15, 16, 17, 18, 19, 20, 21, 26, 27, 28, 29, 30, 31, 78, 79, 80, 81, 82, 83, 84, 85, 86, 87, 88, 89, 90, 91, 92, 93, 94, 95, 96, 97, 98, 99, 100, 101] (by decide +kernel) (by decide +kernel)) (goodIn_sub (fun _ h => List.mem_cons_of_mem _ (List.mem_append_left _ (List.mem_append_right _ h))) (by decide +kernel))
set_option maxRecDepth 20000 in
theorem gL_faulty_X4_ringing : GoodIn wsL_faulty (wsV RL 49 RX4 yX4_ringing wsX4_ringing) := goodIn_app (goodIn_of _ (by decide +kernel)) ggL_faulty_X4_ringing
set_option maxRecDepth 20000 in
theorem ggL_faulty_L_bits : GoodIn wsL_faulty wsL_bits := goodIn_r _ [35] (by decide +kernel) (by decide +kernel)
set_option maxRecDepth 20000 in
theorem gL_faulty_L_bits : GoodIn wsL_faulty (va_wsS RL 83 yL_bits wsL_bits) := goodIn_app (goodIn_of _ (by decide +kernel)) ggL_faulty_L_bits
set_option maxRecDepth 20000 in
theorem ggL_faulty_L_fault : GoodIn wsL_faulty wsL_fault := goodIn_ca (goodIn_ca (goodIn_r _ [38, 39, 40, 41, 42, 4, 43, 44, 45, 6, 15, 46, 47, 11, 12, 13, 14, 16, 17, 18, 19, 20, 21, 48, 49, 50, 29, 51, 31, 52, 53, 54, 55, 56, 57, 58, 59, 60, 61, 62, 63, 64, 65, 66, 67, 68, 69, 85, 86, 87, 88, 89, 90, 91, 92, 93, 94, 95, 96, 97, 78, 79, 80, 81, 82, 83, 84, 98, 99, 100, 101, 102, 103, 104, 105] (by decide +kernel) (by decide +kernel)) (goodIn_sub (fun _ h => List.mem_cons_of_mem _ (List.mem_append_right _ h)) (by decide +kernel))) (goodIn_sub (fun _ h => List.mem_cons_of_mem _ (List.mem_append_left _ (List.mem_append_right _ h))) (by decide +kernel))
set_option maxRecDepth 20000 in
theorem gL_faulty_L_fault : GoodIn wsL_faulty (va_wsS RL 86 yL_fault wsL_fault) := goodIn_app (goodIn_of _ (by decide +kernel)) ggL_faulty_L_fault
set_option maxRecDepth 20000 in
theorem ggL_faulty_X4_faultAt : GoodIn wsL_faulty wsX4_faultAt := goodIn_ca (goodIn_r _ [73, 20, 21, 6, 47, 78, 79, 80, 81, 82, 83, 84] (by decide +kernel) (by decide +kernel)) (goodIn_sub (fun _ h => List.mem_cons_of_mem _ (List.mem_append_left _ (List.mem_append_right _ h))) (by decide +kernel))
set_option maxRecDepth 20000 in
theorem gL_faulty_X4_faultAt : GoodIn wsL_faulty (wsV RL 39 RX4 yX4_faultAt wsX4_faultAt) := goodIn_app (goodIn_of _ (by decide +kernel)) ggL_faulty_X4_faultAt
set_option maxRecDepth 20000 in
theorem ggL_faulty_X4_time : GoodIn wsL_faulty wsX4_time := goodIn_r _ [77, 46, 78, 79, 80, 81, 82, 83, 84] (by decide +kernel) (by decide +kernel)
set_option maxRecDepth 20000 in
theorem gL_faulty_X4_time : GoodIn wsL_faulty (wsV RL 32 RX4 yX4_time wsX4_time) := goodIn_app (goodIn_of _ (by decide +kernel)) ggL_faulty_X4_time
theorem dL_faulty_0 : decode cL_faulty 0 = .ok (.aload_n 0, 1) := by decide +kernel
theorem dL_faulty_1 : decode cL_faulty 1 = .ok (.invokevirtual 36, 3) := by decide +kernel
theorem dL_faulty_4 : decode cL_faulty 4 = .ok (.istore_n 2, 1) := by decide +kernel
theorem dL_faulty_5 : decode cL_faulty 5 = .ok (.iconst 0, 1) := by decide +kernel
theorem dL_faulty_6 : decode cL_faulty 6 = .ok (.istore_n 3, 1) := by decide +kernel
theorem dL_faulty_7 : decode cL_faulty 7 = .ok (.iconst 0, 1) := by decide +kernel
theorem dL_faulty_8 : decode cL_faulty 8 = .ok (.istore 4, 2) := by decide +kernel
theorem dL_faulty_10 : decode cL_faulty 10 = .ok (.aload_n 0, 1) := by decide +kernel
theorem dL_faulty_11 : decode cL_faulty 11 = .ok (.iload_n 1, 1) := by decide +kernel
theorem dL_faulty_12 : decode cL_faulty 12 = .ok (.invokevirtual 45, 3) := by decide +kernel
theorem dL_faulty_15 : decode cL_faulty 15 = .ok (.istore 5, 2) := by decide +kernel
theorem dL_faulty_17 : decode cL_faulty 17 = .ok (.iload_n 1, 1) := by decide +kernel
theorem dL_faulty_18 : decode cL_faulty 18 = .ok (.iconst 4, 1) := by decide +kernel
theorem dL_faulty_19 : decode cL_faulty 19 = .ok (.idiv, 1) := by decide +kernel
theorem dL_faulty_20 : decode cL_faulty 20 = .ok (.iconst 4, 1) := by decide +kernel
theorem dL_faulty_21 : decode cL_faulty 21 = .ok (.imul, 1) := by decide +kernel
theorem dL_faulty_22 : decode cL_faulty 22 = .ok (.istore 6, 2) := by decide +kernel
theorem dL_faulty_24 : decode cL_faulty 24 = .ok (.iload 6, 2) := by decide +kernel
theorem dL_faulty_26 : decode cL_faulty 26 = .ok (.iload_n 1, 1) := by decide +kernel
theorem dL_faulty_27 : decode cL_faulty 27 = .ok (.iconst 4, 1) := by decide +kernel
theorem dL_faulty_28 : decode cL_faulty 28 = .ok (.idiv, 1) := by decide +kernel
theorem dL_faulty_29 : decode cL_faulty 29 = .ok (.iconst 4, 1) := by decide +kernel
theorem dL_faulty_30 : decode cL_faulty 30 = .ok (.imul, 1) := by decide +kernel
theorem dL_faulty_31 : decode cL_faulty 31 = .ok (.iconst 4, 1) := by decide +kernel
theorem dL_faulty_32 : decode cL_faulty 32 = .ok (.iadd, 1) := by decide +kernel
theorem dL_faulty_33 : decode cL_faulty 33 = .ok (.if_icmp .ge 31, 3) := by decide +kernel
theorem dL_faulty_36 : decode cL_faulty 36 = .ok (.iload_n 3, 1) := by decide +kernel
theorem dL_faulty_37 : decode cL_faulty 37 = .ok (.iload 6, 2) := by decide +kernel
theorem dL_faulty_39 : decode cL_faulty 39 = .ok (.iload_n 1, 1) := by decide +kernel
theorem dL_faulty_40 : decode cL_faulty 40 = .ok (.if_icmp .ne 7, 3) := by decide +kernel
theorem dL_faulty_43 : decode cL_faulty 43 = .ok (.iconst 0, 1) := by decide +kernel
theorem dL_faulty_44 : decode cL_faulty 44 = .ok (.goto 12, 3) := by decide +kernel
theorem dL_faulty_47 : decode cL_faulty 47 = .ok (.aload_n 0, 1) := by decide +kernel
theorem dL_faulty_48 : decode cL_faulty 48 = .ok (.iload 6, 2) := by decide +kernel
theorem dL_faulty_50 : decode cL_faulty 50 = .ok (.invokevirtual 49, 3) := by decide +kernel
theorem dL_faulty_53 : decode cL_faulty 53 = .ok (.invokestatic 83, 3) := by decide +kernel
theorem dL_faulty_56 : decode cL_faulty 56 = .ok (.iadd, 1) := by decide +kernel
theorem dL_faulty_57 : decode cL_faulty 57 = .ok (.istore_n 3, 1) := by decide +kernel
theorem dL_faulty_58 : decode cL_faulty 58 = .ok (.iinc 6 1, 3) := by decide +kernel
theorem dL_faulty_61 : decode cL_faulty 61 = .ok (.goto (-37), 3) := by decide +kernel
theorem dL_faulty_64 : decode cL_faulty 64 = .ok (.aload_n 0, 1) := by decide +kernel
theorem dL_faulty_65 : decode cL_faulty 65 = .ok (.iload_n 1, 1) := by decide +kernel
theorem dL_faulty_66 : decode cL_faulty 66 = .ok (.invokestatic 86, 3) := by decide +kernel
theorem dL_faulty_69 : decode cL_faulty 69 = .ok (.istore 6, 2) := by decide +kernel
theorem dL_faulty_71 : decode cL_faulty 71 = .ok (.iload_n 1, 1) := by decide +kernel
theorem dL_faulty_72 : decode cL_faulty 72 = .ok (.iconst 4, 1) := by decide +kernel
theorem dL_faulty_73 : decode cL_faulty 73 = .ok (.idiv, 1) := by decide +kernel
theorem dL_faulty_74 : decode cL_faulty 74 = .ok (.iconst 4, 1) := by decide +kernel
theorem dL_faulty_75 : decode cL_faulty 75 = .ok (.imul, 1) := by decide +kernel
theorem dL_faulty_76 : decode cL_faulty 76 = .ok (.istore 7, 2) := by decide +kernel
theorem dL_faulty_78 : decode cL_faulty 78 = .ok (.iload 7, 2) := by decide +kernel
theorem dL_faulty_80 : decode cL_faulty 80 = .ok (.iload_n 1, 1) := by decide +kernel
theorem dL_faulty_81 : decode cL_faulty 81 = .ok (.iconst 4, 1) := by decide +kernel
theorem dL_faulty_82 : decode cL_faulty 82 = .ok (.idiv, 1) := by decide +kernel
theorem dL_faulty_83 : decode cL_faulty 83 = .ok (.iconst 4, 1) := by decide +kernel
theorem dL_faulty_84 : decode cL_faulty 84 = .ok (.imul, 1) := by decide +kernel
theorem dL_faulty_85 : decode cL_faulty 85 = .ok (.iconst 4, 1) := by decide +kernel
theorem dL_faulty_86 : decode cL_faulty 86 = .ok (.iadd, 1) := by decide +kernel
theorem dL_faulty_87 : decode cL_faulty 87 = .ok (.if_icmp .ge 33, 3) := by decide +kernel
theorem dL_faulty_90 : decode cL_faulty 90 = .ok (.iload 4, 2) := by decide +kernel
theorem dL_faulty_92 : decode cL_faulty 92 = .ok (.iload 7, 2) := by decide +kernel
theorem dL_faulty_94 : decode cL_faulty 94 = .ok (.iload_n 1, 1) := by decide +kernel
theorem dL_faulty_95 : decode cL_faulty 95 = .ok (.if_icmp .ne 7, 3) := by decide +kernel
theorem dL_faulty_98 : decode cL_faulty 98 = .ok (.iconst 0, 1) := by decide +kernel
theorem dL_faulty_99 : decode cL_faulty 99 = .ok (.goto 12, 3) := by decide +kernel
theorem dL_faulty_102 : decode cL_faulty 102 = .ok (.aload_n 0, 1) := by decide +kernel
theorem dL_faulty_103 : decode cL_faulty 103 = .ok (.iload 7, 2) := by decide +kernel
theorem dL_faulty_105 : decode cL_faulty 105 = .ok (.invokevirtual 49, 3) := by decide +kernel
theorem dL_faulty_108 : decode cL_faulty 108 = .ok (.invokestatic 83, 3) := by decide +kernel
theorem dL_faulty_111 : decode cL_faulty 111 = .ok (.iadd, 1) := by decide +kernel
theorem dL_faulty_112 : decode cL_faulty 112 = .ok (.istore 4, 2) := by decide +kernel
theorem dL_faulty_114 : decode cL_faulty 114 = .ok (.iinc 7 1, 3) := by decide +kernel
theorem dL_faulty_117 : decode cL_faulty 117 = .ok (.goto (-39), 3) := by decide +kernel
theorem dL_faulty_120 : decode cL_faulty 120 = .ok (.iload 6, 2) := by decide +kernel
theorem dL_faulty_122 : decode cL_faulty 122 = .ok (.bipush (-3), 2) := by decide +kernel
theorem dL_faulty_124 : decode cL_faulty 124 = .ok (.if_icmp .ne 30, 3) := by decide +kernel
theorem dL_faulty_127 : decode cL_faulty 127 = .ok (.aload_n 0, 1) := by decide +kernel
theorem dL_faulty_128 : decode cL_faulty 128 = .ok (.invokevirtual 36, 3) := by decide +kernel
theorem dL_faulty_131 : decode cL_faulty 131 = .ok (.iload_n 2, 1) := by decide +kernel
theorem dL_faulty_132 : decode cL_faulty 132 = .ok (.if_icmp .ne 18, 3) := by decide +kernel
theorem dL_faulty_135 : decode cL_faulty 135 = .ok (.iload 5, 2) := by decide +kernel
theorem dL_faulty_137 : decode cL_faulty 137 = .ok (.ifCond .eq 9, 3) := by decide +kernel
theorem dL_faulty_140 : decode cL_faulty 140 = .ok (.iload_n 2, 1) := by decide +kernel
theorem dL_faulty_141 : decode cL_faulty 141 = .ok (.bipush 100, 2) := by decide +kernel
theorem dL_faulty_143 : decode cL_faulty 143 = .ok (.if_icmp .ne 7, 3) := by decide +kernel
theorem dL_faulty_146 : decode cL_faulty 146 = .ok (.iconst 1, 1) := by decide +kernel
theorem dL_faulty_147 : decode cL_faulty 147 = .ok (.goto 61, 3) := by decide +kernel
theorem dL_faulty_150 : decode cL_faulty 150 = .ok (.iconst 0, 1) := by decide +kernel
theorem dL_faulty_151 : decode cL_faulty 151 = .ok (.goto 57, 3) := by decide +kernel
theorem dL_faulty_154 : decode cL_faulty 154 = .ok (.iload 5, 2) := by decide +kernel
theorem dL_faulty_156 : decode cL_faulty 156 = .ok (.ifCond .eq 51, 3) := by decide +kernel
theorem dL_faulty_159 : decode cL_faulty 159 = .ok (.iload 4, 2) := by decide +kernel
theorem dL_faulty_161 : decode cL_faulty 161 = .ok (.iload_n 3, 1) := by decide +kernel
theorem dL_faulty_162 : decode cL_faulty 162 = .ok (.isub, 1) := by decide +kernel
theorem dL_faulty_163 : decode cL_faulty 163 = .ok (.iload 6, 2) := by decide +kernel
theorem dL_faulty_165 : decode cL_faulty 165 = .ok (.if_icmp .ne 42, 3) := by decide +kernel
theorem dL_faulty_168 : decode cL_faulty 168 = .ok (.aload_n 0, 1) := by decide +kernel
theorem dL_faulty_169 : decode cL_faulty 169 = .ok (.iload_n 1, 1) := by decide +kernel
theorem dL_faulty_170 : decode cL_faulty 170 = .ok (.invokevirtual 45, 3) := by decide +kernel
theorem dL_faulty_173 : decode cL_faulty 173 = .ok (.ifCond .ne 34, 3) := by decide +kernel
theorem dL_faulty_176 : decode cL_faulty 176 = .ok (.aload_n 0, 1) := by decide +kernel
theorem dL_faulty_177 : decode cL_faulty 177 = .ok (.invokevirtual 36, 3) := by decide +kernel
theorem dL_faulty_180 : decode cL_faulty 180 = .ok (.iload_n 2, 1) := by decide +kernel
theorem dL_faulty_181 : decode cL_faulty 181 = .ok (.iconst 1, 1) := by decide +kernel
theorem dL_faulty_182 : decode cL_faulty 182 = .ok (.iadd, 1) := by decide +kernel
theorem dL_faulty_183 : decode cL_faulty 183 = .ok (.if_icmp .ne 24, 3) := by decide +kernel
theorem dL_faulty_186 : decode cL_faulty 186 = .ok (.aload_n 0, 1) := by decide +kernel
theorem dL_faulty_187 : decode cL_faulty 187 = .ok (.iload_n 2, 1) := by decide +kernel
theorem dL_faulty_188 : decode cL_faulty 188 = .ok (.invokevirtual 39, 3) := by decide +kernel
theorem dL_faulty_191 : decode cL_faulty 191 = .ok (.bipush 10, 2) := by decide +kernel
theorem dL_faulty_193 : decode cL_faulty 193 = .ok (.aload_n 0, 1) := by decide +kernel
theorem dL_faulty_194 : decode cL_faulty 194 = .ok (.invokevirtual 32, 3) := by decide +kernel
theorem dL_faulty_197 : decode cL_faulty 197 = .ok (.imul, 1) := by decide +kernel
theorem dL_faulty_198 : decode cL_faulty 198 = .ok (.iload_n 1, 1) := by decide +kernel
theorem dL_faulty_199 : decode cL_faulty 199 = .ok (.iadd, 1) := by decide +kernel
theorem dL_faulty_200 : decode cL_faulty 200 = .ok (.if_icmp .ne 7, 3) := by decide +kernel
theorem dL_faulty_203 : decode cL_faulty 203 = .ok (.iconst 1, 1) := by decide +kernel
theorem dL_faulty_204 : decode cL_faulty 204 = .ok (.goto 4, 3) := by decide +kernel
theorem dL_faulty_207 : decode cL_faulty 207 = .ok (.iconst 0, 1) := by decide +kernel
theorem dL_faulty_208 : decode cL_faulty 208 = .ok (.ireturn, 1) := by decide +kernel
set_option maxRecDepth 20000 in
theorem ggL_law_X4_init : GoodIn wsL_law wsX4_init := goodIn_r _ [6, 7, 8, 9, 10, 11, 12, 13, 14, 15, 16, 17, 18, 19, 20, 21, 22, 23, 24, 25, 26, 27, 28, 29, 30, 31, 32, 33, 34, 35, 36, 37, 38, 39, 40, 41, 42, 43, 44, 45, 46, 47, 48, 49, 50, 51, 52, 53, 54, 55, 56, 319, 320, 321, 322, 323, 324, 325, 326, 327, 328, 329, 330, 331, 332, 333, 334, 335, 336, 337, 338, 339, 340, 341, 342, 343, 344] (by decide +kernel) (by decide +kernel)
set_option maxRecDepth 20000 in
theorem gL_law_X4_init : GoodIn wsL_law (wsX4_init) := ggL_law_X4_init
set_option maxRecDepth 20000 in
theorem ggL_law_L_holds : GoodIn wsL_law wsL_holds := goodIn_ca (goodIn_r _ [60, 61, 62, 63, 2, 64, 20, 65, 66, 67, 68, 19, 69, 70, 71, 72, 73, 74, 17, 75, 76, 77, 78, 79, 80, 81, 82, 11, 83, 84, 85, 86, 87, 88, 89, 90, 91, 92, 93, 94, 95, 96, 97, 22, 98, 30, 99, 100, 101, 102, 103, 104, 105, 106, 107, 108, 109, 110, 319, 320, 321, 322, 323, 324, 325, 326, 327, 328, 329, 330, 331, 332, 333, 334, 335, 336, 337, 338, 341, 342, 343, 344] (by decide +kernel) (by decide +kernel)) (goodIn_sub (fun _ h => List.mem_append_left _ (List.mem_append_left _ (List.mem_append_right _ h))) (by decide +kernel))
set_option maxRecDepth 20000 in
theorem gL_law_L_holds : GoodIn wsL_law (va_wsS RL 90 yL_holds wsL_holds) := goodIn_app (goodIn_of _ (by decide +kernel)) ggL_law_L_holds
set_option maxRecDepth 20000 in
theorem ggL_law_X4_time : GoodIn wsL_law wsX4_time := goodIn_r _ [64, 20, 319, 320, 321, 322, 323, 324, 325] (by decide +kernel) (by decide +kernel)
set_option maxRecDepth 20000 in
theorem gL_law_X4_time : GoodIn wsL_law (wsV RL 32 RX4 yX4_time wsX4_time) := goodIn_app (goodIn_of _ (by decide +kernel)) ggL_law_X4_time
set_option maxRecDepth 20000 in
theorem ggL_law_L_cell : GoodIn wsL_law wsL_cell := goodIn_r _ [113, 114] (by decide +kernel) (by decide +kernel)
set_option maxRecDepth 20000 in
theorem gL_law_L_cell : GoodIn wsL_law (va_wsS RL 94 yL_cell wsL_cell) := goodIn_app (goodIn_of _ (by decide +kernel)) ggL_law_L_cell
set_option maxRecDepth 20000 in
theorem ggL_law_L_low : GoodIn wsL_law wsL_low := goodIn_r _ [117, 118] (by decide +kernel) (by decide +kernel)
set_option maxRecDepth 20000 in
theorem gL_law_L_low : GoodIn wsL_law (va_wsS RL 98 yL_low wsL_low) := goodIn_app (goodIn_of _ (by decide +kernel)) ggL_law_L_low
set_option maxRecDepth 20000 in
theorem ggL_law_L_melody : GoodIn wsL_law wsL_melody := goodIn_ca (goodIn_ca (goodIn_ca (goodIn_r _ [121, 122, 123, 124, 125, 2, 126, 127, 128, 129, 130, 18, 15, 14, 131, 132, 83, 84, 85, 86, 73, 74, 133, 134, 135, 136, 8, 9, 137, 138, 139, 140, 319, 320, 321, 322, 323, 324, 325, 345, 346, 347, 348] (by decide +kernel) (by decide +kernel)) (goodIn_sub (fun _ h => List.mem_append_left _ (List.mem_append_right _ h)) (by decide +kernel))) (goodIn_sub (fun _ h => List.mem_append_right _ h) (by decide +kernel))) (goodIn_sub (fun _ h => List.mem_append_left _ (List.mem_append_left _ (List.mem_append_right _ h))) (by decide +kernel))
set_option maxRecDepth 20000 in
theorem gL_law_L_melody : GoodIn wsL_law (va_wsS RL 102 yL_melody wsL_melody) := goodIn_app (goodIn_of _ (by decide +kernel)) ggL_law_L_melody
set_option maxRecDepth 20000 in
theorem ggL_law_L_melodies : GoodIn wsL_law wsL_melodies := goodIn_ca (goodIn_ca (goodIn_r _ [143, 144, 145, 146, 147, 2, 148, 149, 150, 151, 152, 73, 74, 15, 153, 154, 155, 132, 156, 139, 140, 157, 158, 159, 160, 161, 162, 163, 164, 165, 166, 167, 168, 127, 128, 169, 170, 171, 172, 173, 174, 175, 176, 177, 178, 179, 180, 181, 182, 319, 320, 321, 322, 323, 324, 325, 345, 346, 347, 348] (by decide +kernel) (by decide +kernel)) (goodIn_sub (fun _ h => List.mem_append_left _ (List.mem_append_left _ (List.mem_append_right _ h))) (by decide +kernel))) (goodIn_sub (fun _ h => List.mem_append_left _ (List.mem_append_right _ h)) (by decide +kernel))
set_option maxRecDepth 20000 in
theorem gL_law_L_melodies : GoodIn wsL_law (va_wsS RL 106 yL_melodies wsL_melodies) := goodIn_app (goodIn_of _ (by decide +kernel)) ggL_law_L_melodies
set_option maxRecDepth 20000 in
theorem ggL_law_X4_ringsLeft : GoodIn wsL_law wsX4_ringsLeft := goodIn_ca (goodIn_r _ [186, 79, 80, 81, 2, 82, 11, 83, 84, 85, 86, 73, 74, 149, 150, 151, 152, 15, 345, 346, 347, 348, 326, 327, 328, 329, 330, 331, 332, 333, 334, 335, 336, 337, 338, 319, 320, 321, 322, 323, 324, 325] (by decide +kernel) (by decide +kernel)) (goodIn_sub (fun _ h => List.mem_append_left _ (List.mem_append_left _ (List.mem_append_right _ h))) (by decide +kernel))
set_option maxRecDepth 20000 in
theorem gL_law_X4_ringsLeft : GoodIn wsL_law (wsV RL 110 RX4 yX4_ringsLeft wsX4_ringsLeft) := goodIn_app (goodIn_of _ (by decide +kernel)) ggL_law_X4_ringsLeft
set_option maxRecDepth 20000 in
theorem ggL_law_L_license : GoodIn wsL_law wsL_license := goodIn_ca (goodIn_ca (goodIn_ca (goodIn_r _ [189, 122, 190, 191, 192, 2, 193, 127, 128, 129, 130, 79, 80, 81, 82, 11, 83, 84, 85, 86, 73, 74, 149, 150, 151, 152, 15, 345, 346, 347, 348, 326, 327, 328, 329, 330, 331, 332, 333, 334, 335, 336, 337, 338, 319, 320, 321, 322, 323, 324, 325] (by decide +kernel) (by decide +kernel)) (goodIn_sub (fun _ h => List.mem_append_left _ (List.mem_append_right _ h)) (by decide +kernel))) (goodIn_sub (fun _ h => List.mem_append_right _ h) (by decide +kernel))) (goodIn_sub (fun _ h => List.mem_append_left _ (List.mem_append_left _ (List.mem_append_right _ h))) (by decide +kernel))
set_option maxRecDepth 20000 in
theorem gL_law_L_license : GoodIn wsL_law (va_wsS RL 113 yL_license wsL_license) := goodIn_app (goodIn_of _ (by decide +kernel)) ggL_law_L_license
set_option maxRecDepth 20000 in
theorem ggL_law_X4_lay : GoodIn wsL_law wsX4_lay := goodIn_ca (goodIn_ca (goodIn_r _ [197, 127, 128, 198, 199, 200, 2, 201, 73, 74, 79, 80, 81, 82, 11, 83, 84, 85, 86, 149, 150, 151, 152, 15, 341, 342, 343, 344, 345, 346, 347, 348, 326, 327, 328, 329, 330, 331, 332, 333, 334, 335, 336, 337, 338, 319, 320, 321, 322, 323, 324, 325] (by decide +kernel) (by decide +kernel)) (goodIn_sub (fun _ h => List.mem_append_left _ (List.mem_append_right _ h)) (by decide +kernel))) (goodIn_sub (fun _ h => List.mem_append_left _ (List.mem_append_left _ (List.mem_append_right _ h))) (by decide +kernel))
set_option maxRecDepth 20000 in
theorem gL_law_X4_lay : GoodIn wsL_law (wsV RL 116 RX4 yX4_lay wsX4_lay) := goodIn_app (goodIn_of _ (by decide +kernel)) ggL_law_X4_lay
set_option maxRecDepth 20000 in
theorem ggL_law_X4_ringing : GoodIn wsL_law wsX4_ringing := goodIn_ca (goodIn_r _ [94, 79, 80, 81, 2, 82, 11, 83, 84, 85, 86, 73, 74, 95, 96, 97, 22, 98, 30, 319, 320, 321, 322, 323, 324, 325, 326, 327, 328, 329, 330, 331, 332, 333, 334, 335, 336, 337, 338, 341, 342, 343, 344] (by decide +kernel) (by decide +kernel)) (goodIn_sub (fun _ h => List.mem_append_left _ (List.mem_append_left _ (List.mem_append_right _ h))) (by decide +kernel))
set_option maxRecDepth 20000 in
theorem gL_law_X4_ringing : GoodIn wsL_law (wsV RL 49 RX4 yX4_ringing wsX4_ringing) := goodIn_app (goodIn_of _ (by decide +kernel)) ggL_law_X4_ringing
set_option maxRecDepth 20000 in
theorem ggL_law_L_presses : GoodIn wsL_law wsL_presses := goodIn_ca (goodIn_ca (goodIn_r _ [204, 91, 92, 93, 2, 94, 79, 80, 81, 82, 11, 83, 84, 85, 86, 73, 74, 95, 96, 97, 22, 98, 30, 107, 108, 109, 110, 87, 88, 89, 90, 205, 206, 59, 207, 122, 208, 209, 210, 211, 129, 130, 20, 198, 199, 200, 201, 212, 213, 214, 215, 216, 217, 218, 219, 33, 34, 220, 221, 222, 223, 224, 225, 226, 227, 228, 229, 230, 231, 232, 233, 41, 31, 234, 235, 236, 237, 238, 239, 240, 241, 32, 242, 243, 244, 245, 246, 247, 248, 132, 249, 139, 250, 251, 252, 44, 253, 50, 51, 319, 320, 321, 322, 323, 324, 325, 326, 327, 328, 329, 330, 331, 332, 333, 334, 335, 336, 337, 338, 341, 342, 343, 344, 345, 346, 347, 348] (by decide +kernel) (by decide +kernel)) (goodIn_sub (fun _ h => List.mem_append_left _ (List.mem_append_left _ (List.mem_append_right _ h))) (by decide +kernel))) (goodIn_sub (fun _ h => List.mem_append_right _ h) (by decide +kernel))
set_option maxRecDepth 20000 in
theorem gL_law_L_presses : GoodIn wsL_law (va_wsS RL 120 yL_presses wsL_presses) := goodIn_app (goodIn_of _ (by decide +kernel)) ggL_law_L_presses
set_option maxRecDepth 20000 in
theorem ggL_law_L_faulty : GoodIn wsL_law wsL_faulty := goodIn_ca (goodIn_ca (goodIn_r _ [256, 65, 66, 67, 2, 68, 19, 87, 88, 89, 90, 79, 80, 81, 82, 11, 83, 84, 85, 86, 73, 74, 91, 92, 93, 94, 95, 96, 97, 22, 98, 30, 257, 258, 59, 259, 260, 261, 262, 122, 263, 264, 265, 266, 129, 130, 20, 17, 267, 268, 269, 270, 271, 247, 248, 132, 249, 139, 272, 251, 252, 44, 253, 50, 51, 238, 239, 240, 241, 32, 69, 70, 71, 72, 61, 62, 63, 64, 319, 320, 321, 322, 323, 324, 325, 326, 327, 328, 329, 330, 331, 332, 333, 334, 335, 336, 337, 338, 341, 342, 343, 344, 345, 346, 347, 348] (by decide +kernel) (by decide +kernel)) (goodIn_sub (fun _ h => List.mem_append_left _ (List.mem_append_left _ (List.mem_append_right _ h))) (by decide +kernel))) (goodIn_sub (fun _ h => List.mem_append_right _ h) (by decide +kernel))
set_option maxRecDepth 20000 in
theorem gL_law_L_faulty : GoodIn wsL_law (va_wsS RL 124 yL_faulty wsL_faulty) := goodIn_app (goodIn_of _ (by decide +kernel)) ggL_law_L_faulty
set_option maxRecDepth 20000 in
theorem ggL_law_X4_isSound : GoodIn wsL_law wsX4_isSound := goodIn_ca (goodIn_r _ [90, 79, 80, 81, 2, 82, 11, 83, 84, 85, 86, 73, 74, 326, 327, 328, 329, 330, 331, 332, 333, 334, 335, 336, 337, 338, 319, 320, 321, 322, 323, 324, 325] (by decide +kernel) (by decide +kernel)) (goodIn_sub (fun _ h => List.mem_append_left _ (List.mem_append_left _ (List.mem_append_right _ h))) (by decide +kernel))
set_option maxRecDepth 20000 in
theorem gL_law_X4_isSound : GoodIn wsL_law (wsV RL 45 RX4 yX4_isSound wsX4_isSound) := goodIn_app (goodIn_of _ (by decide +kernel)) ggL_law_X4_isSound
set_option maxRecDepth 20000 in
theorem ggL_law_L_repair : GoodIn wsL_law wsL_repair := goodIn_ca (goodIn_ca (goodIn_r _ [275, 122, 276, 277, 278, 2, 279, 129, 130, 13, 20, 79, 80, 81, 82, 11, 83, 84, 85, 86, 73, 74, 319, 320, 321, 322, 323, 324, 325, 326, 327, 328, 329, 330, 331, 332, 333, 334, 335, 336, 337, 338, 339, 340] (by decide +kernel) (by decide +kernel)) (goodIn_sub (fun _ h => List.mem_append_right _ h) (by decide +kernel))) (goodIn_sub (fun _ h => List.mem_append_left _ (List.mem_append_left _ (List.mem_append_right _ h))) (by decide +kernel))
set_option maxRecDepth 20000 in
theorem gL_law_L_repair : GoodIn wsL_law (va_wsS RL 128 yL_repair wsL_repair) := goodIn_app (goodIn_of _ (by decide +kernel)) ggL_law_L_repair
set_option maxRecDepth 20000 in
theorem ggL_law_X4_setQuiet : GoodIn wsL_law wsX4_setQuiet := goodIn_ca (goodIn_ca (goodIn_r _ [283, 127, 128, 20, 79, 80, 81, 2, 82, 11, 83, 84, 85, 86, 73, 74, 212, 213, 214, 22, 215, 216, 217, 218, 219, 33, 34, 220, 221, 222, 223, 224, 225, 226, 227, 228, 229, 326, 327, 328, 329, 330, 331, 332, 333, 334, 335, 336, 337, 338, 319, 320, 321, 322, 323, 324, 325] (by decide +kernel) (by decide +kernel)) (goodIn_sub (fun _ h => List.mem_append_left _ (List.mem_append_right _ h)) (by decide +kernel))) (goodIn_sub (fun _ h => List.mem_append_left _ (List.mem_append_left _ (List.mem_append_right _ h))) (by decide +kernel))
set_option maxRecDepth 20000 in
theorem gL_law_X4_setQuiet : GoodIn wsL_law (wsV RL 130 RX4 yX4_setQuiet wsX4_setQuiet) := goodIn_app (goodIn_of _ (by decide +kernel)) ggL_law_X4_setQuiet
set_option maxRecDepth 20000 in
theorem ggL_law_X4_pass : GoodIn wsL_law wsX4_pass := goodIn_ca (goodIn_ca (goodIn_r _ [287, 127, 128, 129, 130, 20, 288, 289, 290, 291, 2, 292, 293, 224, 225, 226, 11, 13, 294, 295, 296, 22, 297, 30, 298, 299, 300, 301, 302, 303, 304, 305, 36, 37, 40, 306, 96, 97, 98, 216, 217, 218, 219, 33, 34, 220, 221, 222, 223, 227, 228, 229, 307, 308, 309, 310, 311, 312, 313, 24, 314, 55, 56, 315, 316, 317, 318, 35, 39, 319, 320, 321, 322, 323, 324, 325, 339, 340, 326, 327, 328, 329, 330, 331, 332, 333, 334, 335, 336, 337, 338, 341, 342, 343, 344] (by decide +kernel) (by decide +kernel)) (goodIn_sub (fun _ h => List.mem_append_left _ (List.mem_append_right _ h)) (by decide +kernel))) (goodIn_sub (fun _ h => List.mem_append_right _ h) (by decide +kernel))
set_option maxRecDepth 20000 in
theorem gL_law_X4_pass : GoodIn wsL_law (wsV RL 134 RX4 yX4_pass wsX4_pass) := goodIn_app (goodIn_of _ (by decide +kernel)) ggL_law_X4_pass
theorem dL_law_0 : decode cL_law 0 = .ok (.new 10, 3) := by decide +kernel
theorem dL_law_3 : decode cL_law 3 = .ok (.dup, 1) := by decide +kernel
theorem dL_law_4 : decode cL_law 4 = .ok (.invokespecial 89, 3) := by decide +kernel
theorem dL_law_7 : decode cL_law 7 = .ok (.astore_n 1, 1) := by decide +kernel
theorem dL_law_8 : decode cL_law 8 = .ok (.iconst 0, 1) := by decide +kernel
theorem dL_law_9 : decode cL_law 9 = .ok (.istore_n 2, 1) := by decide +kernel
theorem dL_law_10 : decode cL_law 10 = .ok (.aload_n 1, 1) := by decide +kernel
theorem dL_law_11 : decode cL_law 11 = .ok (.invokestatic 90, 3) := by decide +kernel
theorem dL_law_14 : decode cL_law 14 = .ok (.ifCond .eq 14, 3) := by decide +kernel
theorem dL_law_17 : decode cL_law 17 = .ok (.aload_n 1, 1) := by decide +kernel
theorem dL_law_18 : decode cL_law 18 = .ok (.invokevirtual 32, 3) := by decide +kernel
theorem dL_law_21 : decode cL_law 21 = .ok (.ifCond .ne 7, 3) := by decide +kernel
theorem dL_law_24 : decode cL_law 24 = .ok (.iconst 1, 1) := by decide +kernel
theorem dL_law_25 : decode cL_law 25 = .ok (.goto 4, 3) := by decide +kernel
theorem dL_law_28 : decode cL_law 28 = .ok (.iconst 0, 1) := by decide +kernel
theorem dL_law_29 : decode cL_law 29 = .ok (.istore_n 3, 1) := by decide +kernel
theorem dL_law_30 : decode cL_law 30 = .ok (.bipush 6, 2) := by decide +kernel
theorem dL_law_32 : decode cL_law 32 = .ok (.aload_n 0, 1) := by decide +kernel
theorem dL_law_33 : decode cL_law 33 = .ok (.iconst 0, 1) := by decide +kernel
theorem dL_law_34 : decode cL_law 34 = .ok (.invokestatic 94, 3) := by decide +kernel
theorem dL_law_37 : decode cL_law 37 = .ok (.bipush 50, 2) := by decide +kernel
theorem dL_law_39 : decode cL_law 39 = .ok (.invokestatic 98, 3) := by decide +kernel
theorem dL_law_42 : decode cL_law 42 = .ok (.iadd, 1) := by decide +kernel
theorem dL_law_43 : decode cL_law 43 = .ok (.istore 4, 2) := by decide +kernel
theorem dL_law_45 : decode cL_law 45 = .ok (.iconst 0, 1) := by decide +kernel
theorem dL_law_46 : decode cL_law 46 = .ok (.istore 5, 2) := by decide +kernel
theorem dL_law_48 : decode cL_law 48 = .ok (.iload 5, 2) := by decide +kernel
theorem dL_law_50 : decode cL_law 50 = .ok (.iload 4, 2) := by decide +kernel
theorem dL_law_52 : decode cL_law 52 = .ok (.if_icmp .ge 692, 3) := by decide +kernel
theorem dL_law_55 : decode cL_law 55 = .ok (.iload_n 3, 1) := by decide +kernel
theorem dL_law_56 : decode cL_law 56 = .ok (.ifCond .eq 688, 3) := by decide +kernel
theorem dL_law_59 : decode cL_law 59 = .ok (.aload_n 0, 1) := by decide +kernel
theorem dL_law_60 : decode cL_law 60 = .ok (.iconst 1, 1) := by decide +kernel
theorem dL_law_61 : decode cL_law 61 = .ok (.iload 5, 2) := by decide +kernel
theorem dL_law_63 : decode cL_law 63 = .ok (.iadd, 1) := by decide +kernel
theorem dL_law_64 : decode cL_law 64 = .ok (.invokestatic 94, 3) := by decide +kernel
theorem dL_law_67 : decode cL_law 67 = .ok (.istore 6, 2) := by decide +kernel
theorem dL_law_69 : decode cL_law 69 = .ok (.iload 6, 2) := by decide +kernel
theorem dL_law_71 : decode cL_law 71 = .ok (.iconst 3, 1) := by decide +kernel
theorem dL_law_72 : decode cL_law 72 = .ok (.ishr, 1) := by decide +kernel
theorem dL_law_73 : decode cL_law 73 = .ok (.iload 6, 2) := by decide +kernel
theorem dL_law_75 : decode cL_law 75 = .ok (.bipush 17, 2) := by decide +kernel
theorem dL_law_77 : decode cL_law 77 = .ok (.ishr, 1) := by decide +kernel
theorem dL_law_78 : decode cL_law 78 = .ok (.iconst 2, 1) := by decide +kernel
theorem dL_law_79 : decode cL_law 79 = .ok (.invokestatic 98, 3) := by decide +kernel
theorem dL_law_82 : decode cL_law 82 = .ok (.ifCond .ne 8, 3) := by decide +kernel
theorem dL_law_85 : decode cL_law 85 = .ok (.bipush 8, 2) := by decide +kernel
theorem dL_law_87 : decode cL_law 87 = .ok (.goto 4, 3) := by decide +kernel
theorem dL_law_90 : decode cL_law 90 = .ok (.iconst 2, 1) := by decide +kernel
theorem dL_law_91 : decode cL_law 91 = .ok (.invokestatic 98, 3) := by decide +kernel
theorem dL_law_94 : decode cL_law 94 = .ok (.istore 7, 2) := by decide +kernel
theorem dL_law_96 : decode cL_law 96 = .ok (.iload 6, 2) := by decide +kernel
theorem dL_law_98 : decode cL_law 98 = .ok (.bipush 6, 2) := by decide +kernel
theorem dL_law_100 : decode cL_law 100 = .ok (.ishr, 1) := by decide +kernel
theorem dL_law_101 : decode cL_law 101 = .ok (.iconst 3, 1) := by decide +kernel
theorem dL_law_102 : decode cL_law 102 = .ok (.invokestatic 98, 3) := by decide +kernel
theorem dL_law_105 : decode cL_law 105 = .ok (.istore 8, 2) := by decide +kernel
theorem dL_law_107 : decode cL_law 107 = .ok (.iload_n 2, 1) := by decide +kernel
theorem dL_law_108 : decode cL_law 108 = .ok (.ifCond .ne 7, 3) := by decide +kernel
theorem dL_law_111 : decode cL_law 111 = .ok (.iconst 0, 1) := by decide +kernel
theorem dL_law_112 : decode cL_law 112 = .ok (.goto 12, 3) := by decide +kernel
theorem dL_law_115 : decode cL_law 115 = .ok (.iload 6, 2) := by decide +kernel
theorem dL_law_117 : decode cL_law 117 = .ok (.bipush 8, 2) := by decide +kernel
theorem dL_law_119 : decode cL_law 119 = .ok (.ishr, 1) := by decide +kernel
theorem dL_law_120 : decode cL_law 120 = .ok (.iload_n 2, 1) := by decide +kernel
theorem dL_law_121 : decode cL_law 121 = .ok (.invokestatic 98, 3) := by decide +kernel
theorem dL_law_124 : decode cL_law 124 = .ok (.istore 9, 2) := by decide +kernel
theorem dL_law_126 : decode cL_law 126 = .ok (.iload 6, 2) := by decide +kernel
theorem dL_law_128 : decode cL_law 128 = .ok (.bipush 20, 2) := by decide +kernel
theorem dL_law_130 : decode cL_law 130 = .ok (.ishr, 1) := by decide +kernel
theorem dL_law_131 : decode cL_law 131 = .ok (.bipush 18, 2) := by decide +kernel
theorem dL_law_133 : decode cL_law 133 = .ok (.invokestatic 98, 3) := by decide +kernel
theorem dL_law_136 : decode cL_law 136 = .ok (.istore 10, 2) := by decide +kernel
theorem dL_law_138 : decode cL_law 138 = .ok (.iload_n 2, 1) := by decide +kernel
theorem dL_law_139 : decode cL_law 139 = .ok (.ifCond .eq 9, 3) := by decide +kernel
theorem dL_law_142 : decode cL_law 142 = .ok (.iload 10, 2) := by decide +kernel
theorem dL_law_144 : decode cL_law 144 = .ok (.iconst 2, 1) := by decide +kernel
theorem dL_law_145 : decode cL_law 145 = .ok (.if_icmp .ge 132, 3) := by decide +kernel
theorem dL_law_148 : decode cL_law 148 = .ok (.iconst 1, 1) := by decide +kernel
theorem dL_law_149 : decode cL_law 149 = .ok (.iload 6, 2) := by decide +kernel
theorem dL_law_151 : decode cL_law 151 = .ok (.bipush 12, 2) := by decide +kernel
theorem dL_law_153 : decode cL_law 153 = .ok (.invokestatic 98, 3) := by decide +kernel
theorem dL_law_156 : decode cL_law 156 = .ok (.iadd, 1) := by decide +kernel
theorem dL_law_157 : decode cL_law 157 = .ok (.istore 11, 2) := by decide +kernel
theorem dL_law_159 : decode cL_law 159 = .ok (.iload 6, 2) := by decide +kernel
theorem dL_law_161 : decode cL_law 161 = .ok (.iconst 2, 1) := by decide +kernel
theorem dL_law_162 : decode cL_law 162 = .ok (.ishr, 1) := by decide +kernel
theorem dL_law_163 : decode cL_law 163 = .ok (.ldc 101, 2) := by decide +kernel
theorem dL_law_165 : decode cL_law 165 = .ok (.invokestatic 98, 3) := by decide +kernel
theorem dL_law_168 : decode cL_law 168 = .ok (.i2l, 1) := by decide +kernel
theorem dL_law_169 : decode cL_law 169 = .ok (.bipush 24, 2) := by decide +kernel
theorem dL_law_171 : decode cL_law 171 = .ok (.lshl, 1) := by decide +kernel
theorem dL_law_172 : decode cL_law 172 = .ok (.iload 6, 2) := by decide +kernel
theorem dL_law_174 : decode cL_law 174 = .ok (.iconst 5, 1) := by decide +kernel
theorem dL_law_175 : decode cL_law 175 = .ok (.ishr, 1) := by decide +kernel
theorem dL_law_176 : decode cL_law 176 = .ok (.ldc 101, 2) := by decide +kernel
theorem dL_law_178 : decode cL_law 178 = .ok (.invokestatic 98, 3) := by decide +kernel
theorem dL_law_181 : decode cL_law 181 = .ok (.i2l, 1) := by decide +kernel
theorem dL_law_182 : decode cL_law 182 = .ok (.lor, 1) := by decide +kernel
theorem dL_law_183 : decode cL_law 183 = .ok (.lconst 1, 1) := by decide +kernel
theorem dL_law_184 : decode cL_law 184 = .ok (.iconst 4, 1) := by decide +kernel
theorem dL_law_185 : decode cL_law 185 = .ok (.iload 11, 2) := by decide +kernel
theorem dL_law_187 : decode cL_law 187 = .ok (.imul, 1) := by decide +kernel
theorem dL_law_188 : decode cL_law 188 = .ok (.lshl, 1) := by decide +kernel
theorem dL_law_189 : decode cL_law 189 = .ok (.lconst 1, 1) := by decide +kernel
theorem dL_law_190 : decode cL_law 190 = .ok (.lsub, 1) := by decide +kernel
theorem dL_law_191 : decode cL_law 191 = .ok (.land, 1) := by decide +kernel
theorem dL_law_192 : decode cL_law 192 = .ok (.lstore 12, 2) := by decide +kernel
theorem dL_law_194 : decode cL_law 194 = .ok (.aload_n 1, 1) := by decide +kernel
theorem dL_law_195 : decode cL_law 195 = .ok (.iload 7, 2) := by decide +kernel
theorem dL_law_197 : decode cL_law 197 = .ok (.iload 11, 2) := by decide +kernel
theorem dL_law_199 : decode cL_law 199 = .ok (.lload 12, 2) := by decide +kernel
theorem dL_law_201 : decode cL_law 201 = .ok (.invokestatic 102, 3) := by decide +kernel
theorem dL_law_204 : decode cL_law 204 = .ok (.istore 14, 2) := by decide +kernel
theorem dL_law_206 : decode cL_law 206 = .ok (.iload 14, 2) := by decide +kernel
theorem dL_law_208 : decode cL_law 208 = .ok (.bipush (-3), 2) := by decide +kernel
theorem dL_law_210 : decode cL_law 210 = .ok (.if_icmp .ne 17, 3) := by decide +kernel
theorem dL_law_213 : decode cL_law 213 = .ok (.iload_n 2, 1) := by decide +kernel
theorem dL_law_214 : decode cL_law 214 = .ok (.bipush 12, 2) := by decide +kernel
theorem dL_law_216 : decode cL_law 216 = .ok (.if_icmp .ne 7, 3) := by decide +kernel
theorem dL_law_219 : decode cL_law 219 = .ok (.iconst 1, 1) := by decide +kernel
theorem dL_law_220 : decode cL_law 220 = .ok (.goto 38, 3) := by decide +kernel
theorem dL_law_223 : decode cL_law 223 = .ok (.iconst 0, 1) := by decide +kernel
theorem dL_law_224 : decode cL_law 224 = .ok (.goto 34, 3) := by decide +kernel
theorem dL_law_227 : decode cL_law 227 = .ok (.iload 14, 2) := by decide +kernel
theorem dL_law_229 : decode cL_law 229 = .ok (.iload_n 2, 1) := by decide +kernel
theorem dL_law_230 : decode cL_law 230 = .ok (.if_icmp .ne 27, 3) := by decide +kernel
theorem dL_law_233 : decode cL_law 233 = .ok (.aload_n 1, 1) := by decide +kernel
theorem dL_law_234 : decode cL_law 234 = .ok (.iload 14, 2) := by decide +kernel
theorem dL_law_236 : decode cL_law 236 = .ok (.iload 11, 2) := by decide +kernel
theorem dL_law_238 : decode cL_law 238 = .ok (.lload 12, 2) := by decide +kernel
theorem dL_law_240 : decode cL_law 240 = .ok (.iload 6, 2) := by decide +kernel
theorem dL_law_242 : decode cL_law 242 = .ok (.bipush 16, 2) := by decide +kernel
theorem dL_law_244 : decode cL_law 244 = .ok (.invokestatic 98, 3) := by decide +kernel
theorem dL_law_247 : decode cL_law 247 = .ok (.invokestatic 106, 3) := by decide +kernel
theorem dL_law_250 : decode cL_law 250 = .ok (.ifCond .eq 7, 3) := by decide +kernel
theorem dL_law_253 : decode cL_law 253 = .ok (.iconst 1, 1) := by decide +kernel
theorem dL_law_254 : decode cL_law 254 = .ok (.goto 4, 3) := by decide +kernel
theorem dL_law_257 : decode cL_law 257 = .ok (.iconst 0, 1) := by decide +kernel
theorem dL_law_258 : decode cL_law 258 = .ok (.istore_n 3, 1) := by decide +kernel
theorem dL_law_259 : decode cL_law 259 = .ok (.iload_n 2, 1) := by decide +kernel
theorem dL_law_260 : decode cL_law 260 = .ok (.iload 14, 2) := by decide +kernel
theorem dL_law_262 : decode cL_law 262 = .ok (.bipush (-3), 2) := by decide +kernel
theorem dL_law_264 : decode cL_law 264 = .ok (.if_icmp .ne 7, 3) := by decide +kernel
theorem dL_law_267 : decode cL_law 267 = .ok (.iconst 0, 1) := by decide +kernel
theorem dL_law_268 : decode cL_law 268 = .ok (.goto 4, 3) := by decide +kernel
theorem dL_law_271 : decode cL_law 271 = .ok (.iconst 1, 1) := by decide +kernel
theorem dL_law_272 : decode cL_law 272 = .ok (.iadd, 1) := by decide +kernel
theorem dL_law_273 : decode cL_law 273 = .ok (.istore_n 2, 1) := by decide +kernel
theorem dL_law_274 : decode cL_law 274 = .ok (.goto 447, 3) := by decide +kernel
theorem dL_law_277 : decode cL_law 277 = .ok (.iload 10, 2) := by decide +kernel
theorem dL_law_279 : decode cL_law 279 = .ok (.iconst 4, 1) := by decide +kernel
theorem dL_law_280 : decode cL_law 280 = .ok (.if_icmp .ge 117, 3) := by decide +kernel
theorem dL_law_283 : decode cL_law 283 = .ok (.aload_n 1, 1) := by decide +kernel
theorem dL_law_284 : decode cL_law 284 = .ok (.iload 7, 2) := by decide +kernel
theorem dL_law_286 : decode cL_law 286 = .ok (.iload 9, 2) := by decide +kernel
theorem dL_law_288 : decode cL_law 288 = .ok (.invokevirtual 110, 3) := by decide +kernel
theorem dL_law_291 : decode cL_law 291 = .ok (.istore 11, 2) := by decide +kernel
theorem dL_law_293 : decode cL_law 293 = .ok (.iconst 1, 1) := by decide +kernel
theorem dL_law_294 : decode cL_law 294 = .ok (.iload 6, 2) := by decide +kernel
theorem dL_law_296 : decode cL_law 296 = .ok (.iload 6, 2) := by decide +kernel
theorem dL_law_298 : decode cL_law 298 = .ok (.bipush 11, 2) := by decide +kernel
theorem dL_law_300 : decode cL_law 300 = .ok (.ishr, 1) := by decide +kernel
theorem dL_law_301 : decode cL_law 301 = .ok (.iconst 2, 1) := by decide +kernel
theorem dL_law_302 : decode cL_law 302 = .ok (.invokestatic 98, 3) := by decide +kernel
theorem dL_law_305 : decode cL_law 305 = .ok (.ifCond .ne 9, 3) := by decide +kernel
theorem dL_law_308 : decode cL_law 308 = .ok (.sipush 1000, 3) := by decide +kernel
theorem dL_law_311 : decode cL_law 311 = .ok (.goto 4, 3) := by decide +kernel
theorem dL_law_314 : decode cL_law 314 = .ok (.iconst 3, 1) := by decide +kernel
theorem dL_law_315 : decode cL_law 315 = .ok (.invokestatic 98, 3) := by decide +kernel
theorem dL_law_318 : decode cL_law 318 = .ok (.iadd, 1) := by decide +kernel
theorem dL_law_319 : decode cL_law 319 = .ok (.istore 12, 2) := by decide +kernel
theorem dL_law_321 : decode cL_law 321 = .ok (.aload_n 1, 1) := by decide +kernel
theorem dL_law_322 : decode cL_law 322 = .ok (.iload 7, 2) := by decide +kernel
theorem dL_law_324 : decode cL_law 324 = .ok (.iload 9, 2) := by decide +kernel
theorem dL_law_326 : decode cL_law 326 = .ok (.iload 12, 2) := by decide +kernel
theorem dL_law_328 : decode cL_law 328 = .ok (.invokestatic 113, 3) := by decide +kernel
theorem dL_law_331 : decode cL_law 331 = .ok (.istore 13, 2) := by decide +kernel
theorem dL_law_333 : decode cL_law 333 = .ok (.iload 13, 2) := by decide +kernel
theorem dL_law_335 : decode cL_law 335 = .ok (.bipush (-3), 2) := by decide +kernel
theorem dL_law_337 : decode cL_law 337 = .ok (.if_icmp .ne 28, 3) := by decide +kernel
theorem dL_law_340 : decode cL_law 340 = .ok (.iload 11, 2) := by decide +kernel
theorem dL_law_342 : decode cL_law 342 = .ok (.iconst (-1), 1) := by decide +kernel
theorem dL_law_343 : decode cL_law 343 = .ok (.if_icmp .eq 14, 3) := by decide +kernel
theorem dL_law_346 : decode cL_law 346 = .ok (.iload 11, 2) := by decide +kernel
theorem dL_law_348 : decode cL_law 348 = .ok (.iload 12, 2) := by decide +kernel
theorem dL_law_350 : decode cL_law 350 = .ok (.iadd, 1) := by decide +kernel
theorem dL_law_351 : decode cL_law 351 = .ok (.sipush 1000, 3) := by decide +kernel
theorem dL_law_354 : decode cL_law 354 = .ok (.if_icmp .le 7, 3) := by decide +kernel
theorem dL_law_357 : decode cL_law 357 = .ok (.iconst 1, 1) := by decide +kernel
theorem dL_law_358 : decode cL_law 358 = .ok (.goto 35, 3) := by decide +kernel
theorem dL_law_361 : decode cL_law 361 = .ok (.iconst 0, 1) := by decide +kernel
theorem dL_law_362 : decode cL_law 362 = .ok (.goto 31, 3) := by decide +kernel
theorem dL_law_365 : decode cL_law 365 = .ok (.iload 13, 2) := by decide +kernel
theorem dL_law_367 : decode cL_law 367 = .ok (.iload 11, 2) := by decide +kernel
theorem dL_law_369 : decode cL_law 369 = .ok (.iload 12, 2) := by decide +kernel
theorem dL_law_371 : decode cL_law 371 = .ok (.iadd, 1) := by decide +kernel
theorem dL_law_372 : decode cL_law 372 = .ok (.if_icmp .ne 20, 3) := by decide +kernel
theorem dL_law_375 : decode cL_law 375 = .ok (.aload_n 1, 1) := by decide +kernel
theorem dL_law_376 : decode cL_law 376 = .ok (.iload 7, 2) := by decide +kernel
theorem dL_law_378 : decode cL_law 378 = .ok (.iload 9, 2) := by decide +kernel
theorem dL_law_380 : decode cL_law 380 = .ok (.invokevirtual 110, 3) := by decide +kernel
theorem dL_law_383 : decode cL_law 383 = .ok (.iload 13, 2) := by decide +kernel
theorem dL_law_385 : decode cL_law 385 = .ok (.if_icmp .ne 7, 3) := by decide +kernel
theorem dL_law_388 : decode cL_law 388 = .ok (.iconst 1, 1) := by decide +kernel
theorem dL_law_389 : decode cL_law 389 = .ok (.goto 4, 3) := by decide +kernel
theorem dL_law_392 : decode cL_law 392 = .ok (.iconst 0, 1) := by decide +kernel
theorem dL_law_393 : decode cL_law 393 = .ok (.istore_n 3, 1) := by decide +kernel
theorem dL_law_394 : decode cL_law 394 = .ok (.goto 327, 3) := by decide +kernel
theorem dL_law_397 : decode cL_law 397 = .ok (.iload 10, 2) := by decide +kernel
theorem dL_law_399 : decode cL_law 399 = .ok (.bipush 7, 2) := by decide +kernel
theorem dL_law_401 : decode cL_law 401 = .ok (.if_icmp .ge 70, 3) := by decide +kernel
theorem dL_law_404 : decode cL_law 404 = .ok (.aload_n 1, 1) := by decide +kernel
theorem dL_law_405 : decode cL_law 405 = .ok (.iload 7, 2) := by decide +kernel
theorem dL_law_407 : decode cL_law 407 = .ok (.iload 8, 2) := by decide +kernel
theorem dL_law_409 : decode cL_law 409 = .ok (.iload 9, 2) := by decide +kernel
theorem dL_law_411 : decode cL_law 411 = .ok (.iconst 1, 1) := by decide +kernel
theorem dL_law_412 : decode cL_law 412 = .ok (.iload 6, 2) := by decide +kernel
theorem dL_law_414 : decode cL_law 414 = .ok (.bipush 9, 2) := by decide +kernel
theorem dL_law_416 : decode cL_law 416 = .ok (.invokestatic 98, 3) := by decide +kernel
theorem dL_law_419 : decode cL_law 419 = .ok (.iadd, 1) := by decide +kernel
theorem dL_law_420 : decode cL_law 420 = .ok (.invokevirtual 116, 3) := by decide +kernel
theorem dL_law_423 : decode cL_law 423 = .ok (.pop, 1) := by decide +kernel
theorem dL_law_424 : decode cL_law 424 = .ok (.aload_n 1, 1) := by decide +kernel
theorem dL_law_425 : decode cL_law 425 = .ok (.iload 7, 2) := by decide +kernel
theorem dL_law_427 : decode cL_law 427 = .ok (.invokevirtual 49, 3) := by decide +kernel
theorem dL_law_430 : decode cL_law 430 = .ok (.iload 8, 2) := by decide +kernel
theorem dL_law_432 : decode cL_law 432 = .ok (.ishr, 1) := by decide +kernel
theorem dL_law_433 : decode cL_law 433 = .ok (.iconst 1, 1) := by decide +kernel
theorem dL_law_434 : decode cL_law 434 = .ok (.iand, 1) := by decide +kernel
theorem dL_law_435 : decode cL_law 435 = .ok (.ifCond .ne 31, 3) := by decide +kernel
theorem dL_law_438 : decode cL_law 438 = .ok (.aload_n 1, 1) := by decide +kernel
theorem dL_law_439 : decode cL_law 439 = .ok (.iload 7, 2) := by decide +kernel
theorem dL_law_441 : decode cL_law 441 = .ok (.iload 8, 2) := by decide +kernel
theorem dL_law_443 : decode cL_law 443 = .ok (.iload 9, 2) := by decide +kernel
theorem dL_law_445 : decode cL_law 445 = .ok (.iconst 1, 1) := by decide +kernel
theorem dL_law_446 : decode cL_law 446 = .ok (.iload 6, 2) := by decide +kernel
theorem dL_law_448 : decode cL_law 448 = .ok (.bipush 9, 2) := by decide +kernel
theorem dL_law_450 : decode cL_law 450 = .ok (.invokestatic 98, 3) := by decide +kernel
theorem dL_law_453 : decode cL_law 453 = .ok (.iadd, 1) := by decide +kernel
theorem dL_law_454 : decode cL_law 454 = .ok (.invokevirtual 116, 3) := by decide +kernel
theorem dL_law_457 : decode cL_law 457 = .ok (.iload 9, 2) := by decide +kernel
theorem dL_law_459 : decode cL_law 459 = .ok (.if_icmp .ne 7, 3) := by decide +kernel
theorem dL_law_462 : decode cL_law 462 = .ok (.iconst 1, 1) := by decide +kernel
theorem dL_law_463 : decode cL_law 463 = .ok (.goto 4, 3) := by decide +kernel
theorem dL_law_466 : decode cL_law 466 = .ok (.iconst 0, 1) := by decide +kernel
theorem dL_law_467 : decode cL_law 467 = .ok (.istore_n 3, 1) := by decide +kernel
theorem dL_law_468 : decode cL_law 468 = .ok (.goto 253, 3) := by decide +kernel
theorem dL_law_471 : decode cL_law 471 = .ok (.iload 10, 2) := by decide +kernel
theorem dL_law_473 : decode cL_law 473 = .ok (.bipush 12, 2) := by decide +kernel
theorem dL_law_475 : decode cL_law 475 = .ok (.if_icmp .ge 15, 3) := by decide +kernel
theorem dL_law_478 : decode cL_law 478 = .ok (.aload_n 1, 1) := by decide +kernel
theorem dL_law_479 : decode cL_law 479 = .ok (.iload 7, 2) := by decide +kernel
theorem dL_law_481 : decode cL_law 481 = .ok (.iload 8, 2) := by decide +kernel
theorem dL_law_483 : decode cL_law 483 = .ok (.invokestatic 120, 3) := by decide +kernel
theorem dL_law_486 : decode cL_law 486 = .ok (.istore_n 3, 1) := by decide +kernel
theorem dL_law_487 : decode cL_law 487 = .ok (.goto 234, 3) := by decide +kernel
theorem dL_law_490 : decode cL_law 490 = .ok (.iload 10, 2) := by decide +kernel
theorem dL_law_492 : decode cL_law 492 = .ok (.bipush 13, 2) := by decide +kernel
theorem dL_law_494 : decode cL_law 494 = .ok (.if_icmp .ge 13, 3) := by decide +kernel
theorem dL_law_497 : decode cL_law 497 = .ok (.aload_n 1, 1) := by decide +kernel
theorem dL_law_498 : decode cL_law 498 = .ok (.iload 7, 2) := by decide +kernel
theorem dL_law_500 : decode cL_law 500 = .ok (.invokestatic 124, 3) := by decide +kernel
theorem dL_law_503 : decode cL_law 503 = .ok (.istore_n 3, 1) := by decide +kernel
theorem dL_law_504 : decode cL_law 504 = .ok (.goto 217, 3) := by decide +kernel
theorem dL_law_507 : decode cL_law 507 = .ok (.iload 10, 2) := by decide +kernel
theorem dL_law_509 : decode cL_law 509 = .ok (.bipush 14, 2) := by decide +kernel
theorem dL_law_511 : decode cL_law 511 = .ok (.if_icmp .ge 63, 3) := by decide +kernel
theorem dL_law_514 : decode cL_law 514 = .ok (.aload_n 1, 1) := by decide +kernel
theorem dL_law_515 : decode cL_law 515 = .ok (.iload 7, 2) := by decide +kernel
theorem dL_law_517 : decode cL_law 517 = .ok (.invokevirtual 45, 3) := by decide +kernel
theorem dL_law_520 : decode cL_law 520 = .ok (.istore 11, 2) := by decide +kernel
theorem dL_law_522 : decode cL_law 522 = .ok (.aload_n 1, 1) := by decide +kernel
theorem dL_law_523 : decode cL_law 523 = .ok (.iload 7, 2) := by decide +kernel
theorem dL_law_525 : decode cL_law 525 = .ok (.invokestatic 128, 3) := by decide +kernel
theorem dL_law_528 : decode cL_law 528 = .ok (.istore 12, 2) := by decide +kernel
theorem dL_law_530 : decode cL_law 530 = .ok (.iload 12, 2) := by decide +kernel
theorem dL_law_532 : decode cL_law 532 = .ok (.bipush (-3), 2) := by decide +kernel
theorem dL_law_534 : decode cL_law 534 = .ok (.if_icmp .eq 31, 3) := by decide +kernel
theorem dL_law_537 : decode cL_law 537 = .ok (.iload 11, 2) := by decide +kernel
theorem dL_law_539 : decode cL_law 539 = .ok (.ifCond .ne 30, 3) := by decide +kernel
theorem dL_law_542 : decode cL_law 542 = .ok (.iload 12, 2) := by decide +kernel
theorem dL_law_544 : decode cL_law 544 = .ok (.aload_n 1, 1) := by decide +kernel
theorem dL_law_545 : decode cL_law 545 = .ok (.invokevirtual 32, 3) := by decide +kernel
theorem dL_law_548 : decode cL_law 548 = .ok (.bipush 50, 2) := by decide +kernel
theorem dL_law_550 : decode cL_law 550 = .ok (.iadd, 1) := by decide +kernel
theorem dL_law_551 : decode cL_law 551 = .ok (.if_icmp .ne 18, 3) := by decide +kernel
theorem dL_law_554 : decode cL_law 554 = .ok (.aload_n 1, 1) := by decide +kernel
theorem dL_law_555 : decode cL_law 555 = .ok (.iload 7, 2) := by decide +kernel
theorem dL_law_557 : decode cL_law 557 = .ok (.invokestatic 128, 3) := by decide +kernel
theorem dL_law_560 : decode cL_law 560 = .ok (.bipush (-3), 2) := by decide +kernel
theorem dL_law_562 : decode cL_law 562 = .ok (.if_icmp .ne 7, 3) := by decide +kernel
theorem dL_law_565 : decode cL_law 565 = .ok (.iconst 1, 1) := by decide +kernel
theorem dL_law_566 : decode cL_law 566 = .ok (.goto 4, 3) := by decide +kernel
theorem dL_law_569 : decode cL_law 569 = .ok (.iconst 0, 1) := by decide +kernel
theorem dL_law_570 : decode cL_law 570 = .ok (.istore_n 3, 1) := by decide +kernel
theorem dL_law_571 : decode cL_law 571 = .ok (.goto 150, 3) := by decide +kernel
theorem dL_law_574 : decode cL_law 574 = .ok (.iload 10, 2) := by decide +kernel
theorem dL_law_576 : decode cL_law 576 = .ok (.bipush 15, 2) := by decide +kernel
theorem dL_law_578 : decode cL_law 578 = .ok (.if_icmp .ge 76, 3) := by decide +kernel
theorem dL_law_581 : decode cL_law 581 = .ok (.iload 6, 2) := by decide +kernel
theorem dL_law_583 : decode cL_law 583 = .ok (.sipush 1000, 3) := by decide +kernel
theorem dL_law_586 : decode cL_law 586 = .ok (.invokestatic 98, 3) := by decide +kernel
theorem dL_law_589 : decode cL_law 589 = .ok (.istore 11, 2) := by decide +kernel
theorem dL_law_591 : decode cL_law 591 = .ok (.aload_n 1, 1) := by decide +kernel
theorem dL_law_592 : decode cL_law 592 = .ok (.iload 7, 2) := by decide +kernel
theorem dL_law_594 : decode cL_law 594 = .ok (.iload 11, 2) := by decide +kernel
theorem dL_law_596 : decode cL_law 596 = .ok (.iload 11, 2) := by decide +kernel
theorem dL_law_598 : decode cL_law 598 = .ok (.invokevirtual 130, 3) := by decide +kernel
theorem dL_law_601 : decode cL_law 601 = .ok (.ifCond .ne 48, 3) := by decide +kernel
theorem dL_law_604 : decode cL_law 604 = .ok (.aload_n 1, 1) := by decide +kernel
theorem dL_law_605 : decode cL_law 605 = .ok (.iload 7, 2) := by decide +kernel
theorem dL_law_607 : decode cL_law 607 = .ok (.iload 11, 2) := by decide +kernel
theorem dL_law_609 : decode cL_law 609 = .ok (.iload 6, 2) := by decide +kernel
theorem dL_law_611 : decode cL_law 611 = .ok (.bipush 7, 2) := by decide +kernel
theorem dL_law_613 : decode cL_law 613 = .ok (.ishr, 1) := by decide +kernel
theorem dL_law_614 : decode cL_law 614 = .ok (.sipush 1000, 3) := by decide +kernel
theorem dL_law_617 : decode cL_law 617 = .ok (.invokestatic 98, 3) := by decide +kernel
theorem dL_law_620 : decode cL_law 620 = .ok (.invokevirtual 130, 3) := by decide +kernel
theorem dL_law_623 : decode cL_law 623 = .ok (.aload_n 1, 1) := by decide +kernel
theorem dL_law_624 : decode cL_law 624 = .ok (.iload 7, 2) := by decide +kernel
theorem dL_law_626 : decode cL_law 626 = .ok (.iload 11, 2) := by decide +kernel
theorem dL_law_628 : decode cL_law 628 = .ok (.iload 6, 2) := by decide +kernel
theorem dL_law_630 : decode cL_law 630 = .ok (.bipush 7, 2) := by decide +kernel
theorem dL_law_632 : decode cL_law 632 = .ok (.ishr, 1) := by decide +kernel
theorem dL_law_633 : decode cL_law 633 = .ok (.sipush 1000, 3) := by decide +kernel
theorem dL_law_636 : decode cL_law 636 = .ok (.invokestatic 98, 3) := by decide +kernel
theorem dL_law_639 : decode cL_law 639 = .ok (.invokevirtual 130, 3) := by decide +kernel
theorem dL_law_642 : decode cL_law 642 = .ok (.if_icmp .ne 7, 3) := by decide +kernel
theorem dL_law_645 : decode cL_law 645 = .ok (.iconst 1, 1) := by decide +kernel
theorem dL_law_646 : decode cL_law 646 = .ok (.goto 4, 3) := by decide +kernel
theorem dL_law_649 : decode cL_law 649 = .ok (.iconst 0, 1) := by decide +kernel
theorem dL_law_650 : decode cL_law 650 = .ok (.istore_n 3, 1) := by decide +kernel
theorem dL_law_651 : decode cL_law 651 = .ok (.goto 70, 3) := by decide +kernel
theorem dL_law_654 : decode cL_law 654 = .ok (.aload_n 1, 1) := by decide +kernel
theorem dL_law_655 : decode cL_law 655 = .ok (.invokevirtual 32, 3) := by decide +kernel
theorem dL_law_658 : decode cL_law 658 = .ok (.istore 11, 2) := by decide +kernel
theorem dL_law_660 : decode cL_law 660 = .ok (.iconst 1, 1) := by decide +kernel
theorem dL_law_661 : decode cL_law 661 = .ok (.iload 6, 2) := by decide +kernel
theorem dL_law_663 : decode cL_law 663 = .ok (.iload 6, 2) := by decide +kernel
theorem dL_law_665 : decode cL_law 665 = .ok (.bipush 9, 2) := by decide +kernel
theorem dL_law_667 : decode cL_law 667 = .ok (.ishr, 1) := by decide +kernel
theorem dL_law_668 : decode cL_law 668 = .ok (.iconst 3, 1) := by decide +kernel
theorem dL_law_669 : decode cL_law 669 = .ok (.invokestatic 98, 3) := by decide +kernel
theorem dL_law_672 : decode cL_law 672 = .ok (.ifCond .ne 9, 3) := by decide +kernel
theorem dL_law_675 : decode cL_law 675 = .ok (.sipush 1100, 3) := by decide +kernel
theorem dL_law_678 : decode cL_law 678 = .ok (.goto 5, 3) := by decide +kernel
theorem dL_law_681 : decode cL_law 681 = .ok (.bipush 30, 2) := by decide +kernel
theorem dL_law_683 : decode cL_law 683 = .ok (.invokestatic 98, 3) := by decide +kernel
theorem dL_law_686 : decode cL_law 686 = .ok (.iadd, 1) := by decide +kernel
theorem dL_law_687 : decode cL_law 687 = .ok (.istore 12, 2) := by decide +kernel
theorem dL_law_689 : decode cL_law 689 = .ok (.aload_n 1, 1) := by decide +kernel
theorem dL_law_690 : decode cL_law 690 = .ok (.iload 12, 2) := by decide +kernel
theorem dL_law_692 : decode cL_law 692 = .ok (.invokevirtual 134, 3) := by decide +kernel
theorem dL_law_695 : decode cL_law 695 = .ok (.iload 11, 2) := by decide +kernel
theorem dL_law_697 : decode cL_law 697 = .ok (.iload 12, 2) := by decide +kernel
theorem dL_law_699 : decode cL_law 699 = .ok (.iadd, 1) := by decide +kernel
theorem dL_law_700 : decode cL_law 700 = .ok (.if_icmp .ne 19, 3) := by decide +kernel
theorem dL_law_703 : decode cL_law 703 = .ok (.aload_n 1, 1) := by decide +kernel
theorem dL_law_704 : decode cL_law 704 = .ok (.invokevirtual 32, 3) := by decide +kernel
theorem dL_law_707 : decode cL_law 707 = .ok (.iload 11, 2) := by decide +kernel
theorem dL_law_709 : decode cL_law 709 = .ok (.iload 12, 2) := by decide +kernel
theorem dL_law_711 : decode cL_law 711 = .ok (.iadd, 1) := by decide +kernel
theorem dL_law_712 : decode cL_law 712 = .ok (.if_icmp .ne 7, 3) := by decide +kernel
theorem dL_law_715 : decode cL_law 715 = .ok (.iconst 1, 1) := by decide +kernel
theorem dL_law_716 : decode cL_law 716 = .ok (.goto 4, 3) := by decide +kernel
theorem dL_law_719 : decode cL_law 719 = .ok (.iconst 0, 1) := by decide +kernel
theorem dL_law_720 : decode cL_law 720 = .ok (.istore_n 3, 1) := by decide +kernel
theorem dL_law_721 : decode cL_law 721 = .ok (.iload_n 3, 1) := by decide +kernel
theorem dL_law_722 : decode cL_law 722 = .ok (.ifCond .eq 14, 3) := by decide +kernel
theorem dL_law_725 : decode cL_law 725 = .ok (.aload_n 1, 1) := by decide +kernel
theorem dL_law_726 : decode cL_law 726 = .ok (.invokestatic 90, 3) := by decide +kernel
theorem dL_law_729 : decode cL_law 729 = .ok (.ifCond .eq 7, 3) := by decide +kernel
theorem dL_law_732 : decode cL_law 732 = .ok (.iconst 1, 1) := by decide +kernel
theorem dL_law_733 : decode cL_law 733 = .ok (.goto 4, 3) := by decide +kernel
theorem dL_law_736 : decode cL_law 736 = .ok (.iconst 0, 1) := by decide +kernel
theorem dL_law_737 : decode cL_law 737 = .ok (.istore_n 3, 1) := by decide +kernel
theorem dL_law_738 : decode cL_law 738 = .ok (.iinc 5 1, 3) := by decide +kernel
theorem dL_law_741 : decode cL_law 741 = .ok (.goto (-693), 3) := by decide +kernel
theorem dL_law_744 : decode cL_law 744 = .ok (.iload_n 3, 1) := by decide +kernel
theorem dL_law_745 : decode cL_law 745 = .ok (.ireturn, 1) := by decide +kernel
abbrev vwCl : List vw_C := [(RX0, TX0, 4), (RX1, TX1, 2), (RX2, TX2, 13), (RX3, TX3, 4), (RX4, TX4, 7)]
