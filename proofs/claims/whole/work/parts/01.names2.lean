def wsL_law0_r22 : List Cond := [Cond.code yX4_faultAt cX4_faultAt 2 (some .int), Cond.methodLink RL 169 yX5_faultAt, Cond.instanceMethod yX5_faultAt, Cond.selects RX5 yX5_faultAt yX5_faultAt, Cond.code yX5_faultAt cX5_faultAt 2 (some .int)]
def wsL_law0 : List Cond := (wsL_law0_r1 ++ (wsL_law0_r2 ++ (wsL_law0_r3 ++ (wsL_law0_r4 ++ (wsL_law0_r5 ++ (wsL_law0_r6 ++ (wsL_law0_r7 ++ (wsL_law0_r8 ++ (wsL_law0_r9 ++ (wsL_law0_r10 ++ (wsL_law0_r11 ++ (wsL_law0_r12 ++ (wsL_law0_r13 ++ (wsL_law0_r14 ++ (wsL_law0_r15 ++ (wsL_law0_r16 ++ (wsL_law0_r17 ++ (wsL_law0_r18 ++ (wsL_law0_r19 ++ (wsL_law0_r20 ++ (wsL_law0_r21 ++ wsL_law0_r22))))))))))))))))))))) ++ wsX40 ++ wsX50 ++ wsX20 ++ wsX10 ++ wsX00 ++ wsX30 ++ ([] : List Cond)
def wsL_law : List Cond := wsL_law0 ++ (vx_atS RX4 52 "java/lang/IllegalArgumentException" ["java/lang/RuntimeException", "java/lang/Exception"]).filter goodWord ++ (vx_atS RX4 61 "java/lang/IllegalStateException" ["java/lang/RuntimeException", "java/lang/Exception"]).filter goodWord ++ (vx_atS RX4 76 "java/lang/IndexOutOfBoundsException" ["java/lang/RuntimeException", "java/lang/Exception"]).filter goodWord
theorem wsL_in_r1 : ∀ w ∈ wsL_law0_r1, w ∈ lw_tbl := fun w h => (goodIn_p wsL_law0_r1 [35, 38] (by decide +kernel) (by decide +kernel) w h).1
theorem wsL_in_r2 : ∀ w ∈ wsL_law0_r2, w ∈ lw_tbl := fun w h => (goodIn_p wsL_law0_r2 [48] (by decide +kernel) (by decide +kernel) w h).1
theorem wsL_in_r3 : ∀ w ∈ wsL_law0_r3, w ∈ lw_tbl := fun w h => (goodIn_p wsL_law0_r3 [55, 133, 578] (by decide +kernel) (by decide +kernel) w h).1
theorem wsL_in_r4 : ∀ w ∈ wsL_law0_r4, w ∈ lw_tbl := fun w h => (goodIn_p wsL_law0_r4 [183] (by decide +kernel) (by decide +kernel) w h).1
theorem wsL_in_r5 : ∀ w ∈ wsL_law0_r5, w ∈ lw_tbl := fun w h => (goodIn_p wsL_law0_r5 [187, 292, 658] (by decide +kernel) (by decide +kernel) w h).1
theorem wsL_in_r6 : ∀ w ∈ wsL_law0_r6, w ∈ lw_tbl := fun w h => (goodIn_p wsL_law0_r6 [661, 664, 668, 654, 318] (by decide +kernel) (by decide +kernel) w h).1
theorem wsL_in_r7 : ∀ w ∈ wsL_law0_r7, w ∈ lw_tbl := fun w h => (goodIn_p wsL_law0_r7 [322, 328, 672, 676, 680] (by decide +kernel) (by decide +kernel) w h).1
theorem wsL_in_r8 : ∀ w ∈ wsL_law0_r8, w ∈ lw_tbl := fun w h => (goodIn_p wsL_law0_r8 [335, 340, 685, 348, 352] (by decide +kernel) (by decide +kernel) w h).1
theorem wsL_in_r9 : ∀ w ∈ wsL_law0_r9, w ∈ lw_tbl := fun w h => (goodIn_p wsL_law0_r9 [689, 359, 363, 693] (by decide +kernel) (by decide +kernel) w h).1
theorem wsL_in_r10 : ∀ w ∈ wsL_law0_r10, w ∈ lw_tbl := fun w h => (goodIn_p wsL_law0_r10 [371, 375, 697, 385, 390, 394] (by decide +kernel) (by decide +kernel) w h).1
theorem wsL_in_r11 : ∀ w ∈ wsL_law0_r11, w ∈ lw_tbl := fun w h => (goodIn_p wsL_law0_r11 [397, 400, 403, 701, 705] (by decide +kernel) (by decide +kernel) w h).1
theorem wsL_in_r12 : ∀ w ∈ wsL_law0_r12, w ∈ lw_tbl := fun w h => (goodIn_p wsL_law0_r12 [410, 414, 709, 423, 428] (by decide +kernel) (by decide +kernel) w h).1
theorem wsL_in_r13 : ∀ w ∈ wsL_law0_r13, w ∈ lw_tbl := fun w h => (goodIn_p wsL_law0_r13 [432, 436, 440, 444, 448, 713] (by decide +kernel) (by decide +kernel) w h).1
theorem wsL_in_r14 : ∀ w ∈ wsL_law0_r14, w ∈ lw_tbl := fun w h => (goodIn_p wsL_law0_r14 [717, 721, 455, 461, 725] (by decide +kernel) (by decide +kernel) w h).1
theorem wsL_in_r15 : ∀ w ∈ wsL_law0_r15, w ∈ lw_tbl := fun w h => (goodIn_p wsL_law0_r15 [470, 729, 479, 486] (by decide +kernel) (by decide +kernel) w h).1
theorem wsL_in_r16 : ∀ w ∈ wsL_law0_r16, w ∈ lw_tbl := fun w h => (goodIn_p wsL_law0_r16 [491, 495, 499, 503, 507, 511] (by decide +kernel) (by decide +kernel) w h).1
theorem wsL_in_r17 : ∀ w ∈ wsL_law0_r17, w ∈ lw_tbl := fun w h => (goodIn_p wsL_law0_r17 [515, 733, 738, 742, 169, 746] (by decide +kernel) (by decide +kernel) w h).1
theorem wsL_in_r18 : ∀ w ∈ wsL_law0_r18, w ∈ lw_tbl := fun w h => (goodIn_p wsL_law0_r18 [522, 750, 754, 530] (by decide +kernel) (by decide +kernel) w h).1
theorem wsL_in_r19 : ∀ w ∈ wsL_law0_r19, w ∈ lw_tbl := fun w h => (goodIn_p wsL_law0_r19 [758, 537, 762, 544] (by decide +kernel) (by decide +kernel) w h).1
theorem wsL_in_r20 : ∀ w ∈ wsL_law0_r20, w ∈ lw_tbl := fun w h => (goodIn_p wsL_law0_r20 [766, 551, 770, 558, 774] (by decide +kernel) (by decide +kernel) w h).1
theorem wsL_in_r21 : ∀ w ∈ wsL_law0_r21, w ∈ lw_tbl := fun w h => (goodIn_p wsL_law0_r21 [565, 778, 173, 782] (by decide +kernel) (by decide +kernel) w h).1
theorem wsL_in_r22 : ∀ w ∈ wsL_law0_r22, w ∈ lw_tbl := fun w h => (goodIn_p wsL_law0_r22 [572, 786] (by decide +kernel) (by decide +kernel) w h).1
theorem in_ap {a b T : List Cond} (ha : ∀ w ∈ a, w ∈ T) (hb : ∀ w ∈ b, w ∈ T) : ∀ w ∈ a ++ b, w ∈ T := fun w h => (List.mem_append.mp h).elim (ha w) (hb w)
theorem wsL_in_x4 : ∀ w ∈ wsX40, w ∈ lw_tbl := by decide +kernel
theorem wsL_in_x5 : ∀ w ∈ wsX50, w ∈ lw_tbl := by decide +kernel
theorem wsL_in_x2 : ∀ w ∈ wsX20, w ∈ lw_tbl := by decide +kernel
theorem wsL_in_x1 : ∀ w ∈ wsX10, w ∈ lw_tbl := by decide +kernel
theorem wsL_in_x0 : ∀ w ∈ wsX00, w ∈ lw_tbl := by decide +kernel
theorem wsL_in_x3 : ∀ w ∈ wsX30, w ∈ lw_tbl := by decide +kernel
theorem wsL_law_in0 : ∀ w ∈ wsL_law0, w ∈ lw_tbl := in_ap (in_ap (in_ap (in_ap (in_ap (in_ap (in_ap (in_ap wsL_in_r1 (in_ap wsL_in_r2 (in_ap wsL_in_r3 (in_ap wsL_in_r4 (in_ap wsL_in_r5 (in_ap wsL_in_r6 (in_ap wsL_in_r7 (in_ap wsL_in_r8 (in_ap wsL_in_r9 (in_ap wsL_in_r10 (in_ap wsL_in_r11 (in_ap wsL_in_r12 (in_ap wsL_in_r13 (in_ap wsL_in_r14 (in_ap wsL_in_r15 (in_ap wsL_in_r16 (in_ap wsL_in_r17 (in_ap wsL_in_r18 (in_ap wsL_in_r19 (in_ap wsL_in_r20 (in_ap wsL_in_r21 (wsL_in_r22)))))))))))))))))))))) wsL_in_x4) wsL_in_x5) wsL_in_x2) wsL_in_x1) wsL_in_x0) wsL_in_x3) (fun _ h => absurd h List.not_mem_nil)
theorem wsL_law_x0 : ∀ w ∈ (vx_atS RX4 52 "java/lang/IllegalArgumentException" ["java/lang/RuntimeException", "java/lang/Exception"]).filter goodWord, w ∈ lw_tbl := by decide +kernel
theorem wsL_law_x1 : ∀ w ∈ (vx_atS RX4 61 "java/lang/IllegalStateException" ["java/lang/RuntimeException", "java/lang/Exception"]).filter goodWord, w ∈ lw_tbl := by decide +kernel
theorem wsL_law_x2 : ∀ w ∈ (vx_atS RX4 76 "java/lang/IndexOutOfBoundsException" ["java/lang/RuntimeException", "java/lang/Exception"]).filter goodWord, w ∈ lw_tbl := by decide +kernel
theorem wsL_law_in : ∀ w ∈ wsL_law, w ∈ lw_tbl := fun w h => (List.mem_append.mp h).elim (fun h => (List.mem_append.mp h).elim (fun h => (List.mem_append.mp h).elim (fun h => wsL_law_in0 w h) (fun h => wsL_law_x0 w h)) (fun h => wsL_law_x1 w h)) (fun h => wsL_law_x2 w h)
theorem inlX0 : ∀ w ∈ wsX00, w ∈ wsL_law := fun _ h => List.mem_append_left _ (List.mem_append_left _ (List.mem_append_left _ (List.mem_append_left _ (List.mem_append_left _ (List.mem_append_right _ h)))))
theorem inX0 : ∀ w ∈ wsX00, w ∈ lw_tbl := fun w h => wsL_law_in w (inlX0 w h)
theorem inlX1 : ∀ w ∈ wsX10, w ∈ wsL_law := fun _ h => List.mem_append_left _ (List.mem_append_left _ (List.mem_append_left _ (List.mem_append_left _ (List.mem_append_left _ (List.mem_append_left _ (List.mem_append_right _ h))))))
theorem inX1 : ∀ w ∈ wsX10, w ∈ lw_tbl := fun w h => wsL_law_in w (inlX1 w h)
theorem inlX2 : ∀ w ∈ wsX20, w ∈ wsL_law := fun _ h => List.mem_append_left _ (List.mem_append_left _ (List.mem_append_left _ (List.mem_append_left _ (List.mem_append_left _ (List.mem_append_left _ (List.mem_append_left _ (List.mem_append_right _ h)))))))
theorem inX2 : ∀ w ∈ wsX20, w ∈ lw_tbl := fun w h => wsL_law_in w (inlX2 w h)
theorem inlX3 : ∀ w ∈ wsX30, w ∈ wsL_law := fun _ h => List.mem_append_left _ (List.mem_append_left _ (List.mem_append_left _ (List.mem_append_left _ (List.mem_append_right _ h))))
theorem inX3 : ∀ w ∈ wsX30, w ∈ lw_tbl := fun w h => wsL_law_in w (inlX3 w h)
theorem inlX4 : ∀ w ∈ wsX40, w ∈ wsL_law := fun _ h => List.mem_append_left _ (List.mem_append_left _ (List.mem_append_left _ (List.mem_append_left _ (List.mem_append_left _ (List.mem_append_left _ (List.mem_append_left _ (List.mem_append_left _ (List.mem_append_left _ (List.mem_append_right _ h)))))))))
theorem inX4 : ∀ w ∈ wsX40, w ∈ lw_tbl := fun w h => wsL_law_in w (inlX4 w h)
theorem inlX5 : ∀ w ∈ wsX50, w ∈ wsL_law := fun _ h => List.mem_append_left _ (List.mem_append_left _ (List.mem_append_left _ (List.mem_append_left _ (List.mem_append_left _ (List.mem_append_left _ (List.mem_append_left _ (List.mem_append_left _ (List.mem_append_right _ h))))))))
theorem inX5 : ∀ w ∈ wsX50, w ∈ lw_tbl := fun w h => wsL_law_in w (inlX5 w h)
theorem inJ9 : ∀ w ∈ wsJ90, w ∈ lw_tbl := by decide +kernel
theorem inJ0 : ∀ w ∈ wsJ00, w ∈ lw_tbl := by decide +kernel
theorem dX0_init_0 : decode cX0_init 0 = .ok (.aload_n 0, 1) := by decide +kernel
theorem dX0_init_1 : decode cX0_init 1 = .ok (.invokespecial 1, 3) := by decide +kernel
theorem dX0_init_4 : decode cX0_init 4 = .ok (.aload_n 0, 1) := by decide +kernel
theorem dX0_init_5 : decode cX0_init 5 = .ok (.aconst_null, 1) := by decide +kernel
theorem dX0_init_6 : decode cX0_init 6 = .ok (.putfield 7, 3) := by decide +kernel
theorem dX0_init_9 : decode cX0_init 9 = .ok (.aload_n 0, 1) := by decide +kernel
theorem dX0_init_10 : decode cX0_init 10 = .ok (.iconst 1, 1) := by decide +kernel
theorem dX0_init_11 : decode cX0_init 11 = .ok (.putfield 13, 3) := by decide +kernel
theorem dX0_init_14 : decode cX0_init 14 = .ok (.aload_n 0, 1) := by decide +kernel
theorem dX0_init_15 : decode cX0_init 15 = .ok (.iconst 0, 1) := by decide +kernel
theorem dX0_init_16 : decode cX0_init 16 = .ok (.putfield 17, 3) := by decide +kernel
theorem dX0_init_19 : decode cX0_init 19 = .ok (.aload_n 0, 1) := by decide +kernel
theorem dX0_init_20 : decode cX0_init 20 = .ok (.iconst 0, 1) := by decide +kernel
theorem dX0_init_21 : decode cX0_init 21 = .ok (.putfield 21, 3) := by decide +kernel
theorem dX0_init_24 : decode cX0_init 24 = .ok (.return_, 1) := by decide +kernel
theorem dX0_ringUntil_0 : decode cX0_ringUntil 0 = .ok (.aload_n 0, 1) := by decide +kernel
theorem dX0_ringUntil_1 : decode cX0_ringUntil 1 = .ok (.iconst 1, 1) := by decide +kernel
theorem dX0_ringUntil_2 : decode cX0_ringUntil 2 = .ok (.putfield 17, 3) := by decide +kernel
theorem dX0_ringUntil_5 : decode cX0_ringUntil 5 = .ok (.aload_n 0, 1) := by decide +kernel
theorem dX0_ringUntil_6 : decode cX0_ringUntil 6 = .ok (.iload_n 1, 1) := by decide +kernel
theorem dX0_ringUntil_7 : decode cX0_ringUntil 7 = .ok (.putfield 21, 3) := by decide +kernel
theorem dX0_ringUntil_10 : decode cX0_ringUntil 10 = .ok (.return_, 1) := by decide +kernel
theorem dX1_init_0 : decode cX1_init 0 = .ok (.aload_n 0, 1) := by decide +kernel
theorem dX1_init_1 : decode cX1_init 1 = .ok (.invokespecial 1, 3) := by decide +kernel
theorem dX1_init_4 : decode cX1_init 4 = .ok (.aload_n 0, 1) := by decide +kernel
theorem dX1_init_5 : decode cX1_init 5 = .ok (.aconst_null, 1) := by decide +kernel
theorem dX1_init_6 : decode cX1_init 6 = .ok (.putfield 7, 3) := by decide +kernel
theorem dX1_init_9 : decode cX1_init 9 = .ok (.aload_n 0, 1) := by decide +kernel
theorem dX1_init_10 : decode cX1_init 10 = .ok (.iconst 0, 1) := by decide +kernel
theorem dX1_init_11 : decode cX1_init 11 = .ok (.putfield 13, 3) := by decide +kernel
theorem dX1_init_14 : decode cX1_init 14 = .ok (.return_, 1) := by decide +kernel
theorem dX1_finish_0 : decode cX1_finish 0 = .ok (.aload_n 0, 1) := by decide +kernel
theorem dX1_finish_1 : decode cX1_finish 1 = .ok (.getfield 7, 3) := by decide +kernel
theorem dX1_finish_4 : decode cX1_finish 4 = .ok (.ifnull 24, 3) := by decide +kernel
theorem dX1_finish_7 : decode cX1_finish 7 = .ok (.aload_n 0, 1) := by decide +kernel
theorem dX1_finish_8 : decode cX1_finish 8 = .ok (.getfield 13, 3) := by decide +kernel
theorem dX1_finish_11 : decode cX1_finish 11 = .ok (.iload_n 1, 1) := by decide +kernel
theorem dX1_finish_12 : decode cX1_finish 12 = .ok (.if_icmp .gt 16, 3) := by decide +kernel
theorem dX1_finish_15 : decode cX1_finish 15 = .ok (.aload_n 0, 1) := by decide +kernel
theorem dX1_finish_16 : decode cX1_finish 16 = .ok (.getfield 7, 3) := by decide +kernel
theorem dX1_finish_19 : decode cX1_finish 19 = .ok (.iconst 1, 1) := by decide +kernel
theorem dX1_finish_20 : decode cX1_finish 20 = .ok (.putfield 17, 3) := by decide +kernel
theorem dX1_finish_23 : decode cX1_finish 23 = .ok (.aload_n 0, 1) := by decide +kernel
theorem dX1_finish_24 : decode cX1_finish 24 = .ok (.aconst_null, 1) := by decide +kernel
theorem dX1_finish_25 : decode cX1_finish 25 = .ok (.putfield 7, 3) := by decide +kernel
theorem dX1_finish_28 : decode cX1_finish 28 = .ok (.return_, 1) := by decide +kernel
set_option maxRecDepth 20000 in
theorem ggX2_init_X0_init : GoodIn wsX2_init wsX0_init := goodIn_r _ [22, 23, 2, 3, 24, 25, 26, 27, 41, 42, 43, 44] (by decide +kernel) (by decide +kernel)
set_option maxRecDepth 20000 in
theorem gX2_init_X0_init_n56 : GoodIn wsX2_init (wsX0_init) := ggX2_init_X0_init
theorem dX2_init_0 : decode cX2_init 0 = .ok (.aload_n 0, 1) := by decide +kernel
theorem dX2_init_1 : decode cX2_init 1 = .ok (.invokespecial 3, 3) := by decide +kernel
theorem dX2_init_4 : decode cX2_init 4 = .ok (.aload_n 0, 1) := by decide +kernel
theorem dX2_init_5 : decode cX2_init 5 = .ok (.iconst 3, 1) := by decide +kernel
theorem dX2_init_6 : decode cX2_init 6 = .ok (.anewarray 9, 3) := by decide +kernel
theorem dX2_init_9 : decode cX2_init 9 = .ok (.putfield 11, 3) := by decide +kernel
theorem dX2_init_12 : decode cX2_init 12 = .ok (.aload_n 0, 1) := by decide +kernel
theorem dX2_init_13 : decode cX2_init 13 = .ok (.bipush 12, 2) := by decide +kernel
theorem dX2_init_15 : decode cX2_init 15 = .ok (.newarray .int, 2) := by decide +kernel
theorem dX2_init_17 : decode cX2_init 17 = .ok (.putfield 17, 3) := by decide +kernel
theorem dX2_init_20 : decode cX2_init 20 = .ok (.aload_n 0, 1) := by decide +kernel
theorem dX2_init_21 : decode cX2_init 21 = .ok (.iconst 1, 1) := by decide +kernel
theorem dX2_init_22 : decode cX2_init 22 = .ok (.putfield 21, 3) := by decide +kernel
theorem dX2_init_25 : decode cX2_init 25 = .ok (.aload_n 0, 1) := by decide +kernel
theorem dX2_init_26 : decode cX2_init 26 = .ok (.iconst 0, 1) := by decide +kernel
theorem dX2_init_27 : decode cX2_init 27 = .ok (.putfield 25, 3) := by decide +kernel
theorem dX2_init_30 : decode cX2_init 30 = .ok (.aload_n 0, 1) := by decide +kernel
theorem dX2_init_31 : decode cX2_init 31 = .ok (.iconst 0, 1) := by decide +kernel
theorem dX2_init_32 : decode cX2_init 32 = .ok (.putfield 29, 3) := by decide +kernel
theorem dX2_init_35 : decode cX2_init 35 = .ok (.aload_n 0, 1) := by decide +kernel
theorem dX2_init_36 : decode cX2_init 36 = .ok (.iconst 0, 1) := by decide +kernel
theorem dX2_init_37 : decode cX2_init 37 = .ok (.putfield 32, 3) := by decide +kernel
theorem dX2_init_40 : decode cX2_init 40 = .ok (.aload_n 0, 1) := by decide +kernel
theorem dX2_init_41 : decode cX2_init 41 = .ok (.iconst 0, 1) := by decide +kernel
theorem dX2_init_42 : decode cX2_init 42 = .ok (.putfield 35, 3) := by decide +kernel
theorem dX2_init_45 : decode cX2_init 45 = .ok (.aload_n 0, 1) := by decide +kernel
theorem dX2_init_46 : decode cX2_init 46 = .ok (.iconst 0, 1) := by decide +kernel
theorem dX2_init_47 : decode cX2_init 47 = .ok (.putfield 38, 3) := by decide +kernel
theorem dX2_init_50 : decode cX2_init 50 = .ok (.aload_n 0, 1) := by decide +kernel
theorem dX2_init_51 : decode cX2_init 51 = .ok (.iconst 0, 1) := by decide +kernel
theorem dX2_init_52 : decode cX2_init 52 = .ok (.putfield 41, 3) := by decide +kernel
theorem dX2_init_55 : decode cX2_init 55 = .ok (.aload_n 0, 1) := by decide +kernel
theorem dX2_init_56 : decode cX2_init 56 = .ok (.iconst 0, 1) := by decide +kernel
theorem dX2_init_57 : decode cX2_init 57 = .ok (.putfield 44, 3) := by decide +kernel
theorem dX2_init_60 : decode cX2_init 60 = .ok (.aload_n 0, 1) := by decide +kernel
theorem dX2_init_61 : decode cX2_init 61 = .ok (.iconst 1, 1) := by decide +kernel
theorem dX2_init_62 : decode cX2_init 62 = .ok (.putfield 47, 3) := by decide +kernel
theorem dX2_init_65 : decode cX2_init 65 = .ok (.aload_n 0, 1) := by decide +kernel
theorem dX2_init_66 : decode cX2_init 66 = .ok (.iload_n 1, 1) := by decide +kernel
theorem dX2_init_67 : decode cX2_init 67 = .ok (.putfield 50, 3) := by decide +kernel
theorem dX2_init_70 : decode cX2_init 70 = .ok (.aload_n 0, 1) := by decide +kernel
theorem dX2_init_71 : decode cX2_init 71 = .ok (.iload_n 1, 1) := by decide +kernel
theorem dX2_init_72 : decode cX2_init 72 = .ok (.iconst 4, 1) := by decide +kernel
theorem dX2_init_73 : decode cX2_init 73 = .ok (.idiv, 1) := by decide +kernel
theorem dX2_init_74 : decode cX2_init 74 = .ok (.putfield 53, 3) := by decide +kernel
theorem dX2_init_77 : decode cX2_init 77 = .ok (.iconst 0, 1) := by decide +kernel
theorem dX2_init_78 : decode cX2_init 78 = .ok (.istore_n 2, 1) := by decide +kernel
theorem dX2_init_79 : decode cX2_init 79 = .ok (.iload_n 2, 1) := by decide +kernel
theorem dX2_init_80 : decode cX2_init 80 = .ok (.iconst 3, 1) := by decide +kernel
theorem dX2_init_81 : decode cX2_init 81 = .ok (.if_icmp .ge 22, 3) := by decide +kernel
theorem dX2_init_84 : decode cX2_init 84 = .ok (.aload_n 0, 1) := by decide +kernel
theorem dX2_init_85 : decode cX2_init 85 = .ok (.getfield 11, 3) := by decide +kernel
theorem dX2_init_88 : decode cX2_init 88 = .ok (.iload_n 2, 1) := by decide +kernel
theorem dX2_init_89 : decode cX2_init 89 = .ok (.new 9, 3) := by decide +kernel
theorem dX2_init_92 : decode cX2_init 92 = .ok (.dup, 1) := by decide +kernel
theorem dX2_init_93 : decode cX2_init 93 = .ok (.invokespecial 56, 3) := by decide +kernel
theorem dX2_init_96 : decode cX2_init 96 = .ok (.aastore, 1) := by decide +kernel
theorem dX2_init_97 : decode cX2_init 97 = .ok (.iinc 2 1, 3) := by decide +kernel
theorem dX2_init_100 : decode cX2_init 100 = .ok (.goto (-21), 3) := by decide +kernel
theorem dX2_init_103 : decode cX2_init 103 = .ok (.return_, 1) := by decide +kernel
set_option maxRecDepth 20000 in
theorem ggX2_isQuietAt_X2_quietSeconds : GoodIn wsX2_isQuietAt wsX2_quietSeconds := goodIn_r _ [5, 6, 7, 8, 9, 4, 10, 11, 12, 13, 14, 15, 16, 17, 18, 19, 20, 21, 22, 23, 24, 25, 26, 27, 28, 29, 30] (by decide +kernel) (by decide +kernel)
set_option maxRecDepth 20000 in
theorem gX2_isQuietAt_X2_quietSeconds : GoodIn wsX2_isQuietAt (wsV RX2 57 RX2 yX2_quietSeconds wsX2_quietSeconds) := goodIn_app (goodIn_of _ (by decide +kernel)) ggX2_isQuietAt_X2_quietSeconds
theorem dX2_isQuietAt_0 : decode cX2_isQuietAt 0 = .ok (.aload_n 0, 1) := by decide +kernel
theorem dX2_isQuietAt_1 : decode cX2_isQuietAt 1 = .ok (.iload_n 1, 1) := by decide +kernel
theorem dX2_isQuietAt_2 : decode cX2_isQuietAt 2 = .ok (.iload_n 1, 1) := by decide +kernel
theorem dX2_isQuietAt_3 : decode cX2_isQuietAt 3 = .ok (.iconst 1, 1) := by decide +kernel
theorem dX2_isQuietAt_4 : decode cX2_isQuietAt 4 = .ok (.iadd, 1) := by decide +kernel
theorem dX2_isQuietAt_5 : decode cX2_isQuietAt 5 = .ok (.invokevirtual 57, 3) := by decide +kernel
theorem dX2_isQuietAt_8 : decode cX2_isQuietAt 8 = .ok (.ifCond .le 7, 3) := by decide +kernel
theorem dX2_isQuietAt_11 : decode cX2_isQuietAt 11 = .ok (.iconst 1, 1) := by decide +kernel
theorem dX2_isQuietAt_12 : decode cX2_isQuietAt 12 = .ok (.goto 4, 3) := by decide +kernel
theorem dX2_isQuietAt_15 : decode cX2_isQuietAt 15 = .ok (.iconst 0, 1) := by decide +kernel
theorem dX2_isQuietAt_16 : decode cX2_isQuietAt 16 = .ok (.ireturn, 1) := by decide +kernel
set_option maxRecDepth 20000 in
theorem ggX2_quietSeconds_X2_shared : GoodIn wsX2_quietSeconds wsX2_shared := goodIn_r _ [6, 7, 8, 9, 10, 11, 12, 13] (by decide +kernel) (by decide +kernel)
set_option maxRecDepth 20000 in
theorem gX2_quietSeconds_X2_shared : GoodIn wsX2_quietSeconds (va_wsS RX2 61 yX2_shared wsX2_shared) := goodIn_app (goodIn_of _ (by decide +kernel)) ggX2_quietSeconds_X2_shared
theorem dX2_quietSeconds_0 : decode cX2_quietSeconds 0 = .ok (.iload_n 1, 1) := by decide +kernel
theorem dX2_quietSeconds_1 : decode cX2_quietSeconds 1 = .ok (.sipush 1000, 3) := by decide +kernel
theorem dX2_quietSeconds_4 : decode cX2_quietSeconds 4 = .ok (.irem, 1) := by decide +kernel
theorem dX2_quietSeconds_5 : decode cX2_quietSeconds 5 = .ok (.istore_n 3, 1) := by decide +kernel
theorem dX2_quietSeconds_6 : decode cX2_quietSeconds 6 = .ok (.iload_n 3, 1) := by decide +kernel
theorem dX2_quietSeconds_7 : decode cX2_quietSeconds 7 = .ok (.iload_n 2, 1) := by decide +kernel
theorem dX2_quietSeconds_8 : decode cX2_quietSeconds 8 = .ok (.iadd, 1) := by decide +kernel
theorem dX2_quietSeconds_9 : decode cX2_quietSeconds 9 = .ok (.iload_n 1, 1) := by decide +kernel
theorem dX2_quietSeconds_10 : decode cX2_quietSeconds 10 = .ok (.isub, 1) := by decide +kernel
theorem dX2_quietSeconds_11 : decode cX2_quietSeconds 11 = .ok (.istore 4, 2) := by decide +kernel
theorem dX2_quietSeconds_13 : decode cX2_quietSeconds 13 = .ok (.aload_n 0, 1) := by decide +kernel
theorem dX2_quietSeconds_14 : decode cX2_quietSeconds 14 = .ok (.getfield 25, 3) := by decide +kernel
theorem dX2_quietSeconds_17 : decode cX2_quietSeconds 17 = .ok (.aload_n 0, 1) := by decide +kernel
theorem dX2_quietSeconds_18 : decode cX2_quietSeconds 18 = .ok (.getfield 29, 3) := by decide +kernel
theorem dX2_quietSeconds_21 : decode cX2_quietSeconds 21 = .ok (.if_icmp .gt 18, 3) := by decide +kernel
theorem dX2_quietSeconds_24 : decode cX2_quietSeconds 24 = .ok (.iload_n 3, 1) := by decide +kernel
theorem dX2_quietSeconds_25 : decode cX2_quietSeconds 25 = .ok (.iload 4, 2) := by decide +kernel
theorem dX2_quietSeconds_27 : decode cX2_quietSeconds 27 = .ok (.aload_n 0, 1) := by decide +kernel
theorem dX2_quietSeconds_28 : decode cX2_quietSeconds 28 = .ok (.getfield 25, 3) := by decide +kernel
theorem dX2_quietSeconds_31 : decode cX2_quietSeconds 31 = .ok (.aload_n 0, 1) := by decide +kernel
theorem dX2_quietSeconds_32 : decode cX2_quietSeconds 32 = .ok (.getfield 29, 3) := by decide +kernel
theorem dX2_quietSeconds_35 : decode cX2_quietSeconds 35 = .ok (.invokestatic 61, 3) := by decide +kernel
theorem dX2_quietSeconds_38 : decode cX2_quietSeconds 38 = .ok (.ireturn, 1) := by decide +kernel
theorem dX2_quietSeconds_39 : decode cX2_quietSeconds 39 = .ok (.iload_n 3, 1) := by decide +kernel
theorem dX2_quietSeconds_40 : decode cX2_quietSeconds 40 = .ok (.iload 4, 2) := by decide +kernel
theorem dX2_quietSeconds_42 : decode cX2_quietSeconds 42 = .ok (.iconst 0, 1) := by decide +kernel
theorem dX2_quietSeconds_43 : decode cX2_quietSeconds 43 = .ok (.aload_n 0, 1) := by decide +kernel
theorem dX2_quietSeconds_44 : decode cX2_quietSeconds 44 = .ok (.getfield 29, 3) := by decide +kernel
theorem dX2_quietSeconds_47 : decode cX2_quietSeconds 47 = .ok (.invokestatic 61, 3) := by decide +kernel
theorem dX2_quietSeconds_50 : decode cX2_quietSeconds 50 = .ok (.iload_n 3, 1) := by decide +kernel
theorem dX2_quietSeconds_51 : decode cX2_quietSeconds 51 = .ok (.iload 4, 2) := by decide +kernel
theorem dX2_quietSeconds_53 : decode cX2_quietSeconds 53 = .ok (.aload_n 0, 1) := by decide +kernel
theorem dX2_quietSeconds_54 : decode cX2_quietSeconds 54 = .ok (.getfield 25, 3) := by decide +kernel
theorem dX2_quietSeconds_57 : decode cX2_quietSeconds 57 = .ok (.sipush 1000, 3) := by decide +kernel
theorem dX2_quietSeconds_60 : decode cX2_quietSeconds 60 = .ok (.invokestatic 61, 3) := by decide +kernel
theorem dX2_quietSeconds_63 : decode cX2_quietSeconds 63 = .ok (.iadd, 1) := by decide +kernel
theorem dX2_quietSeconds_64 : decode cX2_quietSeconds 64 = .ok (.ireturn, 1) := by decide +kernel
theorem dX2_shared_0 : decode cX2_shared 0 = .ok (.iconst 0, 1) := by decide +kernel
theorem dX2_shared_1 : decode cX2_shared 1 = .ok (.iload_n 1, 1) := by decide +kernel
theorem dX2_shared_2 : decode cX2_shared 2 = .ok (.iload_n 3, 1) := by decide +kernel
theorem dX2_shared_3 : decode cX2_shared 3 = .ok (.invokestatic 65, 3) := by decide +kernel
theorem dX2_shared_6 : decode cX2_shared 6 = .ok (.iload_n 0, 1) := by decide +kernel
theorem dX2_shared_7 : decode cX2_shared 7 = .ok (.iload_n 2, 1) := by decide +kernel
theorem dX2_shared_8 : decode cX2_shared 8 = .ok (.invokestatic 70, 3) := by decide +kernel
theorem dX2_shared_11 : decode cX2_shared 11 = .ok (.isub, 1) := by decide +kernel
theorem dX2_shared_12 : decode cX2_shared 12 = .ok (.invokestatic 70, 3) := by decide +kernel
theorem dX2_shared_15 : decode cX2_shared 15 = .ok (.ireturn, 1) := by decide +kernel
theorem dX2_mayRing_0 : decode cX2_mayRing 0 = .ok (.aload_n 1, 1) := by decide +kernel
theorem dX2_mayRing_1 : decode cX2_mayRing 1 = .ok (.getfield 73, 3) := by decide +kernel
theorem dX2_mayRing_4 : decode cX2_mayRing 4 = .ok (.aload_n 0, 1) := by decide +kernel
theorem dX2_mayRing_5 : decode cX2_mayRing 5 = .ok (.getfield 50, 3) := by decide +kernel
theorem dX2_mayRing_8 : decode cX2_mayRing 8 = .ok (.if_icmp .eq 15, 3) := by decide +kernel
theorem dX2_mayRing_11 : decode cX2_mayRing 11 = .ok (.aload_n 0, 1) := by decide +kernel
theorem dX2_mayRing_12 : decode cX2_mayRing 12 = .ok (.getfield 17, 3) := by decide +kernel
theorem dX2_mayRing_15 : decode cX2_mayRing 15 = .ok (.aload_n 1, 1) := by decide +kernel
theorem dX2_mayRing_16 : decode cX2_mayRing 16 = .ok (.getfield 78, 3) := by decide +kernel
theorem dX2_mayRing_19 : decode cX2_mayRing 19 = .ok (.iaload, 1) := by decide +kernel
theorem dX2_mayRing_20 : decode cX2_mayRing 20 = .ok (.ifCond .le 7, 3) := by decide +kernel
theorem dX2_mayRing_23 : decode cX2_mayRing 23 = .ok (.iconst 1, 1) := by decide +kernel
theorem dX2_mayRing_24 : decode cX2_mayRing 24 = .ok (.goto 4, 3) := by decide +kernel
theorem dX2_mayRing_27 : decode cX2_mayRing 27 = .ok (.iconst 0, 1) := by decide +kernel
theorem dX2_mayRing_28 : decode cX2_mayRing 28 = .ok (.ireturn, 1) := by decide +kernel
theorem dX2_useRight_0 : decode cX2_useRight 0 = .ok (.aload_n 1, 1) := by decide +kernel
theorem dX2_useRight_1 : decode cX2_useRight 1 = .ok (.getfield 73, 3) := by decide +kernel
theorem dX2_useRight_4 : decode cX2_useRight 4 = .ok (.aload_n 0, 1) := by decide +kernel
theorem dX2_useRight_5 : decode cX2_useRight 5 = .ok (.getfield 50, 3) := by decide +kernel
theorem dX2_useRight_8 : decode cX2_useRight 8 = .ok (.if_icmp .eq 16, 3) := by decide +kernel
theorem dX2_useRight_11 : decode cX2_useRight 11 = .ok (.aload_n 0, 1) := by decide +kernel
theorem dX2_useRight_12 : decode cX2_useRight 12 = .ok (.getfield 17, 3) := by decide +kernel
theorem dX2_useRight_15 : decode cX2_useRight 15 = .ok (.aload_n 1, 1) := by decide +kernel
theorem dX2_useRight_16 : decode cX2_useRight 16 = .ok (.getfield 78, 3) := by decide +kernel
theorem dX2_useRight_19 : decode cX2_useRight 19 = .ok (.dup2, 1) := by decide +kernel
theorem dX2_useRight_20 : decode cX2_useRight 20 = .ok (.iaload, 1) := by decide +kernel
theorem dX2_useRight_21 : decode cX2_useRight 21 = .ok (.iconst 1, 1) := by decide +kernel
theorem dX2_useRight_22 : decode cX2_useRight 22 = .ok (.isub, 1) := by decide +kernel
theorem dX2_useRight_23 : decode cX2_useRight 23 = .ok (.iastore, 1) := by decide +kernel
theorem dX2_useRight_24 : decode cX2_useRight 24 = .ok (.return_, 1) := by decide +kernel
theorem dX2_ringingSet_0 : decode cX2_ringingSet 0 = .ok (.iconst 0, 1) := by decide +kernel
theorem dX2_ringingSet_1 : decode cX2_ringingSet 1 = .ok (.istore_n 1, 1) := by decide +kernel
theorem dX2_ringingSet_2 : decode cX2_ringingSet 2 = .ok (.iconst 0, 1) := by decide +kernel
theorem dX2_ringingSet_3 : decode cX2_ringingSet 3 = .ok (.istore_n 2, 1) := by decide +kernel
theorem dX2_ringingSet_4 : decode cX2_ringingSet 4 = .ok (.iload_n 2, 1) := by decide +kernel
theorem dX2_ringingSet_5 : decode cX2_ringingSet 5 = .ok (.iconst 3, 1) := by decide +kernel
theorem dX2_ringingSet_6 : decode cX2_ringingSet 6 = .ok (.if_icmp .ge 27, 3) := by decide +kernel
theorem dX2_ringingSet_9 : decode cX2_ringingSet 9 = .ok (.aload_n 0, 1) := by decide +kernel
theorem dX2_ringingSet_10 : decode cX2_ringingSet 10 = .ok (.getfield 11, 3) := by decide +kernel
theorem dX2_ringingSet_13 : decode cX2_ringingSet 13 = .ok (.iload_n 2, 1) := by decide +kernel
theorem dX2_ringingSet_14 : decode cX2_ringingSet 14 = .ok (.aaload, 1) := by decide +kernel
theorem dX2_ringingSet_15 : decode cX2_ringingSet 15 = .ok (.getfield 79, 3) := by decide +kernel
theorem dX2_ringingSet_18 : decode cX2_ringingSet 18 = .ok (.ifCond .eq 9, 3) := by decide +kernel
theorem dX2_ringingSet_21 : decode cX2_ringingSet 21 = .ok (.iload_n 1, 1) := by decide +kernel
theorem dX2_ringingSet_22 : decode cX2_ringingSet 22 = .ok (.iconst 1, 1) := by decide +kernel
theorem dX2_ringingSet_23 : decode cX2_ringingSet 23 = .ok (.iload_n 2, 1) := by decide +kernel
theorem dX2_ringingSet_24 : decode cX2_ringingSet 24 = .ok (.ishl, 1) := by decide +kernel
theorem dX2_ringingSet_25 : decode cX2_ringingSet 25 = .ok (.ior, 1) := by decide +kernel
theorem dX2_ringingSet_26 : decode cX2_ringingSet 26 = .ok (.istore_n 1, 1) := by decide +kernel
theorem dX2_ringingSet_27 : decode cX2_ringingSet 27 = .ok (.iinc 2 1, 3) := by decide +kernel
theorem dX2_ringingSet_30 : decode cX2_ringingSet 30 = .ok (.goto (-26), 3) := by decide +kernel
theorem dX2_ringingSet_33 : decode cX2_ringingSet 33 = .ok (.iload_n 1, 1) := by decide +kernel
theorem dX2_ringingSet_34 : decode cX2_ringingSet 34 = .ok (.ireturn, 1) := by decide +kernel
theorem dX2_ringingLoad_0 : decode cX2_ringingLoad 0 = .ok (.iconst 0, 1) := by decide +kernel
theorem dX2_ringingLoad_1 : decode cX2_ringingLoad 1 = .ok (.istore_n 1, 1) := by decide +kernel
theorem dX2_ringingLoad_2 : decode cX2_ringingLoad 2 = .ok (.aload_n 0, 1) := by decide +kernel
theorem dX2_ringingLoad_3 : decode cX2_ringingLoad 3 = .ok (.getfield 11, 3) := by decide +kernel
theorem dX2_ringingLoad_6 : decode cX2_ringingLoad 6 = .ok (.astore_n 2, 1) := by decide +kernel
theorem dX2_ringingLoad_7 : decode cX2_ringingLoad 7 = .ok (.aload_n 2, 1) := by decide +kernel
theorem dX2_ringingLoad_8 : decode cX2_ringingLoad 8 = .ok (.arraylength, 1) := by decide +kernel
theorem dX2_ringingLoad_9 : decode cX2_ringingLoad 9 = .ok (.istore_n 3, 1) := by decide +kernel
theorem dX2_ringingLoad_10 : decode cX2_ringingLoad 10 = .ok (.iconst 0, 1) := by decide +kernel
theorem dX2_ringingLoad_11 : decode cX2_ringingLoad 11 = .ok (.istore 4, 2) := by decide +kernel
theorem dX2_ringingLoad_13 : decode cX2_ringingLoad 13 = .ok (.iload 4, 2) := by decide +kernel
theorem dX2_ringingLoad_15 : decode cX2_ringingLoad 15 = .ok (.iload_n 3, 1) := by decide +kernel
theorem dX2_ringingLoad_16 : decode cX2_ringingLoad 16 = .ok (.if_icmp .ge 31, 3) := by decide +kernel
theorem dX2_ringingLoad_19 : decode cX2_ringingLoad 19 = .ok (.aload_n 2, 1) := by decide +kernel
theorem dX2_ringingLoad_20 : decode cX2_ringingLoad 20 = .ok (.iload 4, 2) := by decide +kernel
theorem dX2_ringingLoad_22 : decode cX2_ringingLoad 22 = .ok (.aaload, 1) := by decide +kernel
theorem dX2_ringingLoad_23 : decode cX2_ringingLoad 23 = .ok (.astore 5, 2) := by decide +kernel
theorem dX2_ringingLoad_25 : decode cX2_ringingLoad 25 = .ok (.aload 5, 2) := by decide +kernel
theorem dX2_ringingLoad_27 : decode cX2_ringingLoad 27 = .ok (.getfield 79, 3) := by decide +kernel
theorem dX2_ringingLoad_30 : decode cX2_ringingLoad 30 = .ok (.ifCond .eq 11, 3) := by decide +kernel
theorem dX2_ringingLoad_33 : decode cX2_ringingLoad 33 = .ok (.iload_n 1, 1) := by decide +kernel
theorem dX2_ringingLoad_34 : decode cX2_ringingLoad 34 = .ok (.aload 5, 2) := by decide +kernel
theorem dX2_ringingLoad_36 : decode cX2_ringingLoad 36 = .ok (.getfield 82, 3) := by decide +kernel
theorem dX2_ringingLoad_39 : decode cX2_ringingLoad 39 = .ok (.iadd, 1) := by decide +kernel
theorem dX2_ringingLoad_40 : decode cX2_ringingLoad 40 = .ok (.istore_n 1, 1) := by decide +kernel
theorem dX2_ringingLoad_41 : decode cX2_ringingLoad 41 = .ok (.iinc 4 1, 3) := by decide +kernel
theorem dX2_ringingLoad_44 : decode cX2_ringingLoad 44 = .ok (.goto (-31), 3) := by decide +kernel
theorem dX2_ringingLoad_47 : decode cX2_ringingLoad 47 = .ok (.iload_n 1, 1) := by decide +kernel
theorem dX2_ringingLoad_48 : decode cX2_ringingLoad 48 = .ok (.ireturn, 1) := by decide +kernel
set_option maxRecDepth 20000 in
theorem ggX2_startBells_X3_lasts : GoodIn wsX2_startBells wsX3_lasts := goodIn_r _ [6, 7, 32, 33, 34, 35] (by decide +kernel) (by decide +kernel)
set_option maxRecDepth 20000 in
theorem gX2_startBells_X3_lasts : GoodIn wsX2_startBells (wsV RX2 89 RX3 yX3_lasts wsX3_lasts) := goodIn_app (goodIn_of _ (by decide +kernel)) ggX2_startBells_X3_lasts
set_option maxRecDepth 20000 in
theorem ggX2_startBells_X0_ringUntil : GoodIn wsX2_startBells wsX0_ringUntil := goodIn_r _ [12, 13, 14, 28, 29, 30, 31] (by decide +kernel) (by decide +kernel)
set_option maxRecDepth 20000 in
theorem gX2_startBells_X0_ringUntil : GoodIn wsX2_startBells (wsV RX2 93 RX0 yX0_ringUntil wsX0_ringUntil) := goodIn_app (goodIn_of _ (by decide +kernel)) ggX2_startBells_X0_ringUntil
theorem dX2_startBells_0 : decode cX2_startBells 0 = .ok (.iconst 0, 1) := by decide +kernel
theorem dX2_startBells_1 : decode cX2_startBells 1 = .ok (.istore_n 2, 1) := by decide +kernel
theorem dX2_startBells_2 : decode cX2_startBells 2 = .ok (.aload_n 0, 1) := by decide +kernel
theorem dX2_startBells_3 : decode cX2_startBells 3 = .ok (.getfield 11, 3) := by decide +kernel
theorem dX2_startBells_6 : decode cX2_startBells 6 = .ok (.astore_n 3, 1) := by decide +kernel
theorem dX2_startBells_7 : decode cX2_startBells 7 = .ok (.aload_n 3, 1) := by decide +kernel
theorem dX2_startBells_8 : decode cX2_startBells 8 = .ok (.arraylength, 1) := by decide +kernel
theorem dX2_startBells_9 : decode cX2_startBells 9 = .ok (.istore 4, 2) := by decide +kernel
theorem dX2_startBells_11 : decode cX2_startBells 11 = .ok (.iconst 0, 1) := by decide +kernel
theorem dX2_startBells_12 : decode cX2_startBells 12 = .ok (.istore 5, 2) := by decide +kernel
theorem dX2_startBells_14 : decode cX2_startBells 14 = .ok (.iload 5, 2) := by decide +kernel
theorem dX2_startBells_16 : decode cX2_startBells 16 = .ok (.iload 4, 2) := by decide +kernel
theorem dX2_startBells_18 : decode cX2_startBells 18 = .ok (.if_icmp .ge 49, 3) := by decide +kernel
theorem dX2_startBells_21 : decode cX2_startBells 21 = .ok (.aload_n 3, 1) := by decide +kernel
theorem dX2_startBells_22 : decode cX2_startBells 22 = .ok (.iload 5, 2) := by decide +kernel
theorem dX2_startBells_24 : decode cX2_startBells 24 = .ok (.aaload, 1) := by decide +kernel
theorem dX2_startBells_25 : decode cX2_startBells 25 = .ok (.astore 6, 2) := by decide +kernel
theorem dX2_startBells_27 : decode cX2_startBells 27 = .ok (.aload 6, 2) := by decide +kernel
theorem dX2_startBells_29 : decode cX2_startBells 29 = .ok (.getfield 85, 3) := by decide +kernel
theorem dX2_startBells_32 : decode cX2_startBells 32 = .ok (.ifnull 29, 3) := by decide +kernel
theorem dX2_startBells_35 : decode cX2_startBells 35 = .ok (.aload 6, 2) := by decide +kernel
theorem dX2_startBells_37 : decode cX2_startBells 37 = .ok (.getfield 79, 3) := by decide +kernel
theorem dX2_startBells_40 : decode cX2_startBells 40 = .ok (.ifCond .ne 21, 3) := by decide +kernel
theorem dX2_startBells_43 : decode cX2_startBells 43 = .ok (.aload 6, 2) := by decide +kernel
theorem dX2_startBells_45 : decode cX2_startBells 45 = .ok (.iload_n 1, 1) := by decide +kernel
theorem dX2_startBells_46 : decode cX2_startBells 46 = .ok (.aload 6, 2) := by decide +kernel
theorem dX2_startBells_48 : decode cX2_startBells 48 = .ok (.getfield 85, 3) := by decide +kernel
theorem dX2_startBells_51 : decode cX2_startBells 51 = .ok (.invokevirtual 89, 3) := by decide +kernel
theorem dX2_startBells_54 : decode cX2_startBells 54 = .ok (.iadd, 1) := by decide +kernel
theorem dX2_startBells_55 : decode cX2_startBells 55 = .ok (.invokevirtual 93, 3) := by decide +kernel
theorem dX2_startBells_58 : decode cX2_startBells 58 = .ok (.iinc 2 1, 3) := by decide +kernel
theorem dX2_startBells_61 : decode cX2_startBells 61 = .ok (.iinc 5 1, 3) := by decide +kernel
theorem dX2_startBells_64 : decode cX2_startBells 64 = .ok (.goto (-50), 3) := by decide +kernel
theorem dX2_startBells_67 : decode cX2_startBells 67 = .ok (.iload_n 2, 1) := by decide +kernel
theorem dX2_startBells_68 : decode cX2_startBells 68 = .ok (.ireturn, 1) := by decide +kernel
theorem dX2_breakDown_0 : decode cX2_breakDown 0 = .ok (.aload_n 0, 1) := by decide +kernel
theorem dX2_breakDown_1 : decode cX2_breakDown 1 = .ok (.iconst 0, 1) := by decide +kernel
theorem dX2_breakDown_2 : decode cX2_breakDown 2 = .ok (.putfield 21, 3) := by decide +kernel
theorem dX2_breakDown_5 : decode cX2_breakDown 5 = .ok (.aload_n 0, 1) := by decide +kernel
theorem dX2_breakDown_6 : decode cX2_breakDown 6 = .ok (.getfield 11, 3) := by decide +kernel
theorem dX2_breakDown_9 : decode cX2_breakDown 9 = .ok (.astore_n 1, 1) := by decide +kernel
theorem dX2_breakDown_10 : decode cX2_breakDown 10 = .ok (.aload_n 1, 1) := by decide +kernel
theorem dX2_breakDown_11 : decode cX2_breakDown 11 = .ok (.arraylength, 1) := by decide +kernel
theorem dX2_breakDown_12 : decode cX2_breakDown 12 = .ok (.istore_n 2, 1) := by decide +kernel
theorem dX2_breakDown_13 : decode cX2_breakDown 13 = .ok (.iconst 0, 1) := by decide +kernel
theorem dX2_breakDown_14 : decode cX2_breakDown 14 = .ok (.istore_n 3, 1) := by decide +kernel
theorem dX2_breakDown_15 : decode cX2_breakDown 15 = .ok (.iload_n 3, 1) := by decide +kernel
theorem dX2_breakDown_16 : decode cX2_breakDown 16 = .ok (.iload_n 2, 1) := by decide +kernel
theorem dX2_breakDown_17 : decode cX2_breakDown 17 = .ok (.if_icmp .ge 20, 3) := by decide +kernel
theorem dX2_breakDown_20 : decode cX2_breakDown 20 = .ok (.aload_n 1, 1) := by decide +kernel
theorem dX2_breakDown_21 : decode cX2_breakDown 21 = .ok (.iload_n 3, 1) := by decide +kernel
theorem dX2_breakDown_22 : decode cX2_breakDown 22 = .ok (.aaload, 1) := by decide +kernel
theorem dX2_breakDown_23 : decode cX2_breakDown 23 = .ok (.astore 4, 2) := by decide +kernel
theorem dX2_breakDown_25 : decode cX2_breakDown 25 = .ok (.aload 4, 2) := by decide +kernel
theorem dX2_breakDown_27 : decode cX2_breakDown 27 = .ok (.iconst 0, 1) := by decide +kernel
theorem dX2_breakDown_28 : decode cX2_breakDown 28 = .ok (.putfield 79, 3) := by decide +kernel
theorem dX2_breakDown_31 : decode cX2_breakDown 31 = .ok (.iinc 3 1, 3) := by decide +kernel
theorem dX2_breakDown_34 : decode cX2_breakDown 34 = .ok (.goto (-19), 3) := by decide +kernel
theorem dX2_breakDown_37 : decode cX2_breakDown 37 = .ok (.return_, 1) := by decide +kernel
theorem dX2_firstStop_0 : decode cX2_firstStop 0 = .ok (.iload_n 1, 1) := by decide +kernel
theorem dX2_firstStop_1 : decode cX2_firstStop 1 = .ok (.istore_n 2, 1) := by decide +kernel
theorem dX2_firstStop_2 : decode cX2_firstStop 2 = .ok (.aload_n 0, 1) := by decide +kernel
theorem dX2_firstStop_3 : decode cX2_firstStop 3 = .ok (.getfield 11, 3) := by decide +kernel
theorem dX2_firstStop_6 : decode cX2_firstStop 6 = .ok (.astore_n 3, 1) := by decide +kernel
theorem dX2_firstStop_7 : decode cX2_firstStop 7 = .ok (.aload_n 3, 1) := by decide +kernel
theorem dX2_firstStop_8 : decode cX2_firstStop 8 = .ok (.arraylength, 1) := by decide +kernel
theorem dX2_firstStop_9 : decode cX2_firstStop 9 = .ok (.istore 4, 2) := by decide +kernel
theorem dX2_firstStop_11 : decode cX2_firstStop 11 = .ok (.iconst 0, 1) := by decide +kernel
theorem dX2_firstStop_12 : decode cX2_firstStop 12 = .ok (.istore 5, 2) := by decide +kernel
theorem dX2_firstStop_14 : decode cX2_firstStop 14 = .ok (.iload 5, 2) := by decide +kernel
theorem dX2_firstStop_16 : decode cX2_firstStop 16 = .ok (.iload 4, 2) := by decide +kernel
theorem dX2_firstStop_18 : decode cX2_firstStop 18 = .ok (.if_icmp .ge 38, 3) := by decide +kernel
theorem dX2_firstStop_21 : decode cX2_firstStop 21 = .ok (.aload_n 3, 1) := by decide +kernel
theorem dX2_firstStop_22 : decode cX2_firstStop 22 = .ok (.iload 5, 2) := by decide +kernel
theorem dX2_firstStop_24 : decode cX2_firstStop 24 = .ok (.aaload, 1) := by decide +kernel
theorem dX2_firstStop_25 : decode cX2_firstStop 25 = .ok (.astore 6, 2) := by decide +kernel
theorem dX2_firstStop_27 : decode cX2_firstStop 27 = .ok (.aload 6, 2) := by decide +kernel
theorem dX2_firstStop_29 : decode cX2_firstStop 29 = .ok (.getfield 79, 3) := by decide +kernel
theorem dX2_firstStop_32 : decode cX2_firstStop 32 = .ok (.ifCond .eq 18, 3) := by decide +kernel
theorem dX2_firstStop_35 : decode cX2_firstStop 35 = .ok (.aload 6, 2) := by decide +kernel
theorem dX2_firstStop_37 : decode cX2_firstStop 37 = .ok (.getfield 97, 3) := by decide +kernel
theorem dX2_firstStop_40 : decode cX2_firstStop 40 = .ok (.iload_n 2, 1) := by decide +kernel
theorem dX2_firstStop_41 : decode cX2_firstStop 41 = .ok (.if_icmp .ge 9, 3) := by decide +kernel
theorem dX2_firstStop_44 : decode cX2_firstStop 44 = .ok (.aload 6, 2) := by decide +kernel
theorem dX2_firstStop_46 : decode cX2_firstStop 46 = .ok (.getfield 97, 3) := by decide +kernel
theorem dX2_firstStop_49 : decode cX2_firstStop 49 = .ok (.istore_n 2, 1) := by decide +kernel
theorem dX2_firstStop_50 : decode cX2_firstStop 50 = .ok (.iinc 5 1, 3) := by decide +kernel
theorem dX2_firstStop_53 : decode cX2_firstStop 53 = .ok (.goto (-39), 3) := by decide +kernel
theorem dX2_firstStop_56 : decode cX2_firstStop 56 = .ok (.iload_n 2, 1) := by decide +kernel
theorem dX2_firstStop_57 : decode cX2_firstStop 57 = .ok (.ireturn, 1) := by decide +kernel
theorem dX2_stopEndedBells_0 : decode cX2_stopEndedBells 0 = .ok (.aload_n 0, 1) := by decide +kernel
theorem dX2_stopEndedBells_1 : decode cX2_stopEndedBells 1 = .ok (.getfield 11, 3) := by decide +kernel
theorem dX2_stopEndedBells_4 : decode cX2_stopEndedBells 4 = .ok (.astore_n 2, 1) := by decide +kernel
theorem dX2_stopEndedBells_5 : decode cX2_stopEndedBells 5 = .ok (.aload_n 2, 1) := by decide +kernel
theorem dX2_stopEndedBells_6 : decode cX2_stopEndedBells 6 = .ok (.arraylength, 1) := by decide +kernel
theorem dX2_stopEndedBells_7 : decode cX2_stopEndedBells 7 = .ok (.istore_n 3, 1) := by decide +kernel
theorem dX2_stopEndedBells_8 : decode cX2_stopEndedBells 8 = .ok (.iconst 0, 1) := by decide +kernel
theorem dX2_stopEndedBells_9 : decode cX2_stopEndedBells 9 = .ok (.istore 4, 2) := by decide +kernel
theorem dX2_stopEndedBells_11 : decode cX2_stopEndedBells 11 = .ok (.iload 4, 2) := by decide +kernel
theorem dX2_stopEndedBells_13 : decode cX2_stopEndedBells 13 = .ok (.iload_n 3, 1) := by decide +kernel
theorem dX2_stopEndedBells_14 : decode cX2_stopEndedBells 14 = .ok (.if_icmp .ge 30, 3) := by decide +kernel
theorem dX2_stopEndedBells_17 : decode cX2_stopEndedBells 17 = .ok (.aload_n 2, 1) := by decide +kernel
theorem dX2_stopEndedBells_18 : decode cX2_stopEndedBells 18 = .ok (.iload 4, 2) := by decide +kernel
theorem dX2_stopEndedBells_20 : decode cX2_stopEndedBells 20 = .ok (.aaload, 1) := by decide +kernel
theorem dX2_stopEndedBells_21 : decode cX2_stopEndedBells 21 = .ok (.astore 5, 2) := by decide +kernel
theorem dX2_stopEndedBells_23 : decode cX2_stopEndedBells 23 = .ok (.aload 5, 2) := by decide +kernel
theorem dX2_stopEndedBells_25 : decode cX2_stopEndedBells 25 = .ok (.getfield 97, 3) := by decide +kernel
theorem dX2_stopEndedBells_28 : decode cX2_stopEndedBells 28 = .ok (.iload_n 1, 1) := by decide +kernel
theorem dX2_stopEndedBells_29 : decode cX2_stopEndedBells 29 = .ok (.if_icmp .gt 9, 3) := by decide +kernel
theorem dX2_stopEndedBells_32 : decode cX2_stopEndedBells 32 = .ok (.aload 5, 2) := by decide +kernel
theorem dX2_stopEndedBells_34 : decode cX2_stopEndedBells 34 = .ok (.iconst 0, 1) := by decide +kernel
theorem dX2_stopEndedBells_35 : decode cX2_stopEndedBells 35 = .ok (.putfield 79, 3) := by decide +kernel
theorem dX2_stopEndedBells_38 : decode cX2_stopEndedBells 38 = .ok (.iinc 4 1, 3) := by decide +kernel
theorem dX2_stopEndedBells_41 : decode cX2_stopEndedBells 41 = .ok (.goto (-30), 3) := by decide +kernel
theorem dX2_stopEndedBells_44 : decode cX2_stopEndedBells 44 = .ok (.return_, 1) := by decide +kernel
set_option maxRecDepth 20000 in
theorem ggX2_spend_X2_ringingSet : GoodIn wsX2_spend wsX2_ringingSet := goodIn_r _ [8, 9, 26, 27, 28, 29, 30, 31, 32, 33, 34, 35, 36, 37, 38, 39, 40, 41, 42] (by decide +kernel) (by decide +kernel)
set_option maxRecDepth 20000 in
theorem gX2_spend_X2_ringingSet : GoodIn wsX2_spend (wsV RX2 100 RX2 yX2_ringingSet wsX2_ringingSet) := goodIn_app (goodIn_of _ (by decide +kernel)) ggX2_spend_X2_ringingSet
set_option maxRecDepth 20000 in
theorem ggX2_spend_X2_quietSeconds : GoodIn wsX2_spend wsX2_quietSeconds := goodIn_r _ [13, 14, 15, 16, 17, 7, 18, 19, 20, 21, 22, 23, 24, 25, 26, 27, 28, 29, 30, 31, 32, 33, 34, 35, 36, 37, 38] (by decide +kernel) (by decide +kernel)
set_option maxRecDepth 20000 in
theorem gX2_spend_X2_quietSeconds : GoodIn wsX2_spend (wsV RX2 57 RX2 yX2_quietSeconds wsX2_quietSeconds) := goodIn_app (goodIn_of _ (by decide +kernel)) ggX2_spend_X2_quietSeconds
theorem dX2_spend_0 : decode cX2_spend 0 = .ok (.aload_n 0, 1) := by decide +kernel
theorem dX2_spend_1 : decode cX2_spend 1 = .ok (.invokevirtual 100, 3) := by decide +kernel
theorem dX2_spend_4 : decode cX2_spend 4 = .ok (.ifCond .ne 4, 3) := by decide +kernel
theorem dX2_spend_7 : decode cX2_spend 7 = .ok (.return_, 1) := by decide +kernel
theorem dX2_spend_8 : decode cX2_spend 8 = .ok (.aload_n 0, 1) := by decide +kernel
theorem dX2_spend_9 : decode cX2_spend 9 = .ok (.iload_n 1, 1) := by decide +kernel
theorem dX2_spend_10 : decode cX2_spend 10 = .ok (.iload_n 2, 1) := by decide +kernel
theorem dX2_spend_11 : decode cX2_spend 11 = .ok (.invokevirtual 57, 3) := by decide +kernel
theorem dX2_spend_14 : decode cX2_spend 14 = .ok (.istore_n 3, 1) := by decide +kernel
theorem dX2_spend_15 : decode cX2_spend 15 = .ok (.aload_n 0, 1) := by decide +kernel
theorem dX2_spend_16 : decode cX2_spend 16 = .ok (.dup, 1) := by decide +kernel
theorem dX2_spend_17 : decode cX2_spend 17 = .ok (.getfield 35, 3) := by decide +kernel
theorem dX2_spend_20 : decode cX2_spend 20 = .ok (.iload_n 2, 1) := by decide +kernel
theorem dX2_spend_21 : decode cX2_spend 21 = .ok (.iload_n 1, 1) := by decide +kernel
theorem dX2_spend_22 : decode cX2_spend 22 = .ok (.isub, 1) := by decide +kernel
theorem dX2_spend_23 : decode cX2_spend 23 = .ok (.iadd, 1) := by decide +kernel
theorem dX2_spend_24 : decode cX2_spend 24 = .ok (.putfield 35, 3) := by decide +kernel
theorem dX2_spend_27 : decode cX2_spend 27 = .ok (.aload_n 0, 1) := by decide +kernel
theorem dX2_spend_28 : decode cX2_spend 28 = .ok (.dup, 1) := by decide +kernel
theorem dX2_spend_29 : decode cX2_spend 29 = .ok (.getfield 38, 3) := by decide +kernel
theorem dX2_spend_32 : decode cX2_spend 32 = .ok (.iload_n 3, 1) := by decide +kernel
theorem dX2_spend_33 : decode cX2_spend 33 = .ok (.iadd, 1) := by decide +kernel
theorem dX2_spend_34 : decode cX2_spend 34 = .ok (.putfield 38, 3) := by decide +kernel
theorem dX2_spend_37 : decode cX2_spend 37 = .ok (.iload_n 3, 1) := by decide +kernel
theorem dX2_spend_38 : decode cX2_spend 38 = .ok (.ifCond .le 8, 3) := by decide +kernel
theorem dX2_spend_41 : decode cX2_spend 41 = .ok (.aload_n 0, 1) := by decide +kernel
theorem dX2_spend_42 : decode cX2_spend 42 = .ok (.iconst 0, 1) := by decide +kernel
theorem dX2_spend_43 : decode cX2_spend 43 = .ok (.putfield 47, 3) := by decide +kernel
theorem dX2_spend_46 : decode cX2_spend 46 = .ok (.return_, 1) := by decide +kernel
theorem dX2_closeDay_0 : decode cX2_closeDay 0 = .ok (.aload_n 0, 1) := by decide +kernel
theorem dX2_closeDay_1 : decode cX2_closeDay 1 = .ok (.getfield 47, 3) := by decide +kernel
theorem dX2_closeDay_4 : decode cX2_closeDay 4 = .ok (.ifCond .eq 13, 3) := by decide +kernel
theorem dX2_closeDay_7 : decode cX2_closeDay 7 = .ok (.aload_n 0, 1) := by decide +kernel
theorem dX2_closeDay_8 : decode cX2_closeDay 8 = .ok (.dup, 1) := by decide +kernel
theorem dX2_closeDay_9 : decode cX2_closeDay 9 = .ok (.getfield 32, 3) := by decide +kernel
theorem dX2_closeDay_12 : decode cX2_closeDay 12 = .ok (.iconst 1, 1) := by decide +kernel
theorem dX2_closeDay_13 : decode cX2_closeDay 13 = .ok (.iadd, 1) := by decide +kernel
theorem dX2_closeDay_14 : decode cX2_closeDay 14 = .ok (.putfield 32, 3) := by decide +kernel
theorem dX2_closeDay_17 : decode cX2_closeDay 17 = .ok (.aload_n 0, 1) := by decide +kernel
theorem dX2_closeDay_18 : decode cX2_closeDay 18 = .ok (.dup, 1) := by decide +kernel
theorem dX2_closeDay_19 : decode cX2_closeDay 19 = .ok (.getfield 32, 3) := by decide +kernel
theorem dX2_closeDay_22 : decode cX2_closeDay 22 = .ok (.iconst 3, 1) := by decide +kernel
theorem dX2_closeDay_23 : decode cX2_closeDay 23 = .ok (.aload_n 0, 1) := by decide +kernel
theorem dX2_closeDay_24 : decode cX2_closeDay 24 = .ok (.getfield 44, 3) := by decide +kernel
theorem dX2_closeDay_27 : decode cX2_closeDay 27 = .ok (.imul, 1) := by decide +kernel
theorem dX2_closeDay_28 : decode cX2_closeDay 28 = .ok (.isub, 1) := by decide +kernel
theorem dX2_closeDay_29 : decode cX2_closeDay 29 = .ok (.putfield 32, 3) := by decide +kernel
theorem dX2_closeDay_32 : decode cX2_closeDay 32 = .ok (.aload_n 0, 1) := by decide +kernel
theorem dX2_closeDay_33 : decode cX2_closeDay 33 = .ok (.iconst 1, 1) := by decide +kernel
theorem dX2_closeDay_34 : decode cX2_closeDay 34 = .ok (.putfield 47, 3) := by decide +kernel
theorem dX2_closeDay_37 : decode cX2_closeDay 37 = .ok (.aload_n 0, 1) := by decide +kernel
theorem dX2_closeDay_38 : decode cX2_closeDay 38 = .ok (.iconst 0, 1) := by decide +kernel
theorem dX2_closeDay_39 : decode cX2_closeDay 39 = .ok (.putfield 44, 3) := by decide +kernel
theorem dX2_closeDay_42 : decode cX2_closeDay 42 = .ok (.return_, 1) := by decide +kernel
theorem dX3_init_0 : decode cX3_init 0 = .ok (.aload_n 0, 1) := by decide +kernel
theorem dX3_init_1 : decode cX3_init 1 = .ok (.invokespecial 3, 3) := by decide +kernel
theorem dX3_init_4 : decode cX3_init 4 = .ok (.aload_n 0, 1) := by decide +kernel
theorem dX3_init_5 : decode cX3_init 5 = .ok (.iload_n 1, 1) := by decide +kernel
theorem dX3_init_6 : decode cX3_init 6 = .ok (.putfield 9, 3) := by decide +kernel
theorem dX3_init_9 : decode cX3_init 9 = .ok (.aload_n 0, 1) := by decide +kernel
theorem dX3_init_10 : decode cX3_init 10 = .ok (.iload_n 2, 1) := by decide +kernel
theorem dX3_init_11 : decode cX3_init 11 = .ok (.putfield 15, 3) := by decide +kernel
theorem dX3_init_14 : decode cX3_init 14 = .ok (.aload_n 0, 1) := by decide +kernel
theorem dX3_init_15 : decode cX3_init 15 = .ok (.iload_n 3, 1) := by decide +kernel
theorem dX3_init_16 : decode cX3_init 16 = .ok (.putfield 18, 3) := by decide +kernel
theorem dX3_init_19 : decode cX3_init 19 = .ok (.aload_n 0, 1) := by decide +kernel
theorem dX3_init_20 : decode cX3_init 20 = .ok (.lload 4, 2) := by decide +kernel
theorem dX3_init_22 : decode cX3_init 22 = .ok (.putfield 21, 3) := by decide +kernel
theorem dX3_init_25 : decode cX3_init 25 = .ok (.return_, 1) := by decide +kernel
theorem dX3_lasts_0 : decode cX3_lasts 0 = .ok (.iconst 2, 1) := by decide +kernel
theorem dX3_lasts_1 : decode cX3_lasts 1 = .ok (.aload_n 0, 1) := by decide +kernel
theorem dX3_lasts_2 : decode cX3_lasts 2 = .ok (.getfield 18, 3) := by decide +kernel
theorem dX3_lasts_5 : decode cX3_lasts 5 = .ok (.imul, 1) := by decide +kernel
theorem dX3_lasts_6 : decode cX3_lasts 6 = .ok (.ireturn, 1) := by decide +kernel
theorem dX3_tone_0 : decode cX3_tone 0 = .ok (.aload_n 0, 1) := by decide +kernel
theorem dX3_tone_1 : decode cX3_tone 1 = .ok (.getfield 21, 3) := by decide +kernel
theorem dX3_tone_4 : decode cX3_tone 4 = .ok (.iconst 4, 1) := by decide +kernel
theorem dX3_tone_5 : decode cX3_tone 5 = .ok (.iload_n 1, 1) := by decide +kernel
theorem dX3_tone_6 : decode cX3_tone 6 = .ok (.imul, 1) := by decide +kernel
theorem dX3_tone_7 : decode cX3_tone 7 = .ok (.lshr, 1) := by decide +kernel
theorem dX3_tone_8 : decode cX3_tone 8 = .ok (.l2i, 1) := by decide +kernel
theorem dX3_tone_9 : decode cX3_tone 9 = .ok (.bipush 15, 2) := by decide +kernel
theorem dX3_tone_11 : decode cX3_tone 11 = .ok (.iand, 1) := by decide +kernel
theorem dX3_tone_12 : decode cX3_tone 12 = .ok (.ireturn, 1) := by decide +kernel
set_option maxRecDepth 20000 in
theorem ggX3_tonesShifted_X3_tone : GoodIn wsX3_tonesShifted wsX3_tone := goodIn_r _ [6, 7, 8, 9, 10, 11] (by decide +kernel) (by decide +kernel)
set_option maxRecDepth 20000 in
theorem gX3_tonesShifted_X3_tone : GoodIn wsX3_tonesShifted (wsV RX3 25 RX3 yX3_tone wsX3_tone) := goodIn_app (goodIn_of _ (by decide +kernel)) ggX3_tonesShifted_X3_tone
theorem dX3_tonesShifted_0 : decode cX3_tonesShifted 0 = .ok (.lconst 0, 1) := by decide +kernel
theorem dX3_tonesShifted_1 : decode cX3_tonesShifted 1 = .ok (.lstore_n 2, 1) := by decide +kernel
theorem dX3_tonesShifted_2 : decode cX3_tonesShifted 2 = .ok (.aload_n 0, 1) := by decide +kernel
theorem dX3_tonesShifted_3 : decode cX3_tonesShifted 3 = .ok (.getfield 18, 3) := by decide +kernel
theorem dX3_tonesShifted_6 : decode cX3_tonesShifted 6 = .ok (.iconst 1, 1) := by decide +kernel
theorem dX3_tonesShifted_7 : decode cX3_tonesShifted 7 = .ok (.isub, 1) := by decide +kernel
theorem dX3_tonesShifted_8 : decode cX3_tonesShifted 8 = .ok (.istore 4, 2) := by decide +kernel
theorem dX3_tonesShifted_10 : decode cX3_tonesShifted 10 = .ok (.iload 4, 2) := by decide +kernel
theorem dX3_tonesShifted_12 : decode cX3_tonesShifted 12 = .ok (.ifCond .lt 26, 3) := by decide +kernel
theorem dX3_tonesShifted_15 : decode cX3_tonesShifted 15 = .ok (.lload_n 2, 1) := by decide +kernel
theorem dX3_tonesShifted_16 : decode cX3_tonesShifted 16 = .ok (.iconst 4, 1) := by decide +kernel
theorem dX3_tonesShifted_17 : decode cX3_tonesShifted 17 = .ok (.lshl, 1) := by decide +kernel
theorem dX3_tonesShifted_18 : decode cX3_tonesShifted 18 = .ok (.aload_n 0, 1) := by decide +kernel
theorem dX3_tonesShifted_19 : decode cX3_tonesShifted 19 = .ok (.iload 4, 2) := by decide +kernel
theorem dX3_tonesShifted_21 : decode cX3_tonesShifted 21 = .ok (.invokevirtual 25, 3) := by decide +kernel
theorem dX3_tonesShifted_24 : decode cX3_tonesShifted 24 = .ok (.iload_n 1, 1) := by decide +kernel
theorem dX3_tonesShifted_25 : decode cX3_tonesShifted 25 = .ok (.iadd, 1) := by decide +kernel
theorem dX3_tonesShifted_26 : decode cX3_tonesShifted 26 = .ok (.bipush 15, 2) := by decide +kernel
theorem dX3_tonesShifted_28 : decode cX3_tonesShifted 28 = .ok (.iand, 1) := by decide +kernel
theorem dX3_tonesShifted_29 : decode cX3_tonesShifted 29 = .ok (.i2l, 1) := by decide +kernel
theorem dX3_tonesShifted_30 : decode cX3_tonesShifted 30 = .ok (.lor, 1) := by decide +kernel
theorem dX3_tonesShifted_31 : decode cX3_tonesShifted 31 = .ok (.lstore_n 2, 1) := by decide +kernel
theorem dX3_tonesShifted_32 : decode cX3_tonesShifted 32 = .ok (.iinc 4 (-1), 3) := by decide +kernel
theorem dX3_tonesShifted_35 : decode cX3_tonesShifted 35 = .ok (.goto (-25), 3) := by decide +kernel
theorem dX3_tonesShifted_38 : decode cX3_tonesShifted 38 = .ok (.lload_n 2, 1) := by decide +kernel
theorem dX3_tonesShifted_39 : decode cX3_tonesShifted 39 = .ok (.lreturn, 1) := by decide +kernel
set_option maxRecDepth 20000 in
theorem ggX3_tonesTurned_X3_tone : GoodIn wsX3_tonesTurned wsX3_tone := goodIn_r _ [6, 7, 8, 9, 10, 11] (by decide +kernel) (by decide +kernel)
set_option maxRecDepth 20000 in
theorem gX3_tonesTurned_X3_tone : GoodIn wsX3_tonesTurned (wsV RX3 25 RX3 yX3_tone wsX3_tone) := goodIn_app (goodIn_of _ (by decide +kernel)) ggX3_tonesTurned_X3_tone
theorem dX3_tonesTurned_0 : decode cX3_tonesTurned 0 = .ok (.lconst 0, 1) := by decide +kernel
theorem dX3_tonesTurned_1 : decode cX3_tonesTurned 1 = .ok (.lstore_n 1, 1) := by decide +kernel
theorem dX3_tonesTurned_2 : decode cX3_tonesTurned 2 = .ok (.iconst 0, 1) := by decide +kernel
theorem dX3_tonesTurned_3 : decode cX3_tonesTurned 3 = .ok (.istore_n 3, 1) := by decide +kernel
theorem dX3_tonesTurned_4 : decode cX3_tonesTurned 4 = .ok (.iload_n 3, 1) := by decide +kernel
theorem dX3_tonesTurned_5 : decode cX3_tonesTurned 5 = .ok (.aload_n 0, 1) := by decide +kernel
theorem dX3_tonesTurned_6 : decode cX3_tonesTurned 6 = .ok (.getfield 18, 3) := by decide +kernel
theorem dX3_tonesTurned_9 : decode cX3_tonesTurned 9 = .ok (.if_icmp .ge 20, 3) := by decide +kernel
theorem dX3_tonesTurned_12 : decode cX3_tonesTurned 12 = .ok (.lload_n 1, 1) := by decide +kernel
theorem dX3_tonesTurned_13 : decode cX3_tonesTurned 13 = .ok (.iconst 4, 1) := by decide +kernel
theorem dX3_tonesTurned_14 : decode cX3_tonesTurned 14 = .ok (.lshl, 1) := by decide +kernel
theorem dX3_tonesTurned_15 : decode cX3_tonesTurned 15 = .ok (.aload_n 0, 1) := by decide +kernel
theorem dX3_tonesTurned_16 : decode cX3_tonesTurned 16 = .ok (.iload_n 3, 1) := by decide +kernel
theorem dX3_tonesTurned_17 : decode cX3_tonesTurned 17 = .ok (.invokevirtual 25, 3) := by decide +kernel
theorem dX3_tonesTurned_20 : decode cX3_tonesTurned 20 = .ok (.i2l, 1) := by decide +kernel
theorem dX3_tonesTurned_21 : decode cX3_tonesTurned 21 = .ok (.lor, 1) := by decide +kernel
theorem dX3_tonesTurned_22 : decode cX3_tonesTurned 22 = .ok (.lstore_n 1, 1) := by decide +kernel
theorem dX3_tonesTurned_23 : decode cX3_tonesTurned 23 = .ok (.iinc 3 1, 3) := by decide +kernel
theorem dX3_tonesTurned_26 : decode cX3_tonesTurned 26 = .ok (.goto (-22), 3) := by decide +kernel
theorem dX3_tonesTurned_29 : decode cX3_tonesTurned 29 = .ok (.lload_n 1, 1) := by decide +kernel
theorem dX3_tonesTurned_30 : decode cX3_tonesTurned 30 = .ok (.lreturn, 1) := by decide +kernel
set_option maxRecDepth 20000 in
theorem ggX3_isShiftOf_X3_tone : GoodIn wsX3_isShiftOf wsX3_tone := goodIn_r _ [7, 2, 12, 13, 14, 15] (by decide +kernel) (by decide +kernel)
set_option maxRecDepth 20000 in
theorem gX3_isShiftOf_X3_tone : GoodIn wsX3_isShiftOf (wsV RX3 25 RX3 yX3_tone wsX3_tone) := goodIn_app (goodIn_of _ (by decide +kernel)) ggX3_isShiftOf_X3_tone
set_option maxRecDepth 20000 in
theorem ggX3_isShiftOf_X3_tonesShifted : GoodIn wsX3_isShiftOf wsX3_tonesShifted := goodIn_r _ [11, 1, 3, 4, 5, 6, 7, 2, 12, 13, 14, 15] (by decide +kernel) (by decide +kernel)
set_option maxRecDepth 20000 in
theorem gX3_isShiftOf_X3_tonesShifted : GoodIn wsX3_isShiftOf (wsV RX3 29 RX3 yX3_tonesShifted wsX3_tonesShifted) := goodIn_app (goodIn_of _ (by decide +kernel)) ggX3_isShiftOf_X3_tonesShifted
theorem dX3_isShiftOf_0 : decode cX3_isShiftOf 0 = .ok (.aload_n 0, 1) := by decide +kernel
theorem dX3_isShiftOf_1 : decode cX3_isShiftOf 1 = .ok (.iconst 0, 1) := by decide +kernel
theorem dX3_isShiftOf_2 : decode cX3_isShiftOf 2 = .ok (.invokevirtual 25, 3) := by decide +kernel
theorem dX3_isShiftOf_5 : decode cX3_isShiftOf 5 = .ok (.aload_n 1, 1) := by decide +kernel
theorem dX3_isShiftOf_6 : decode cX3_isShiftOf 6 = .ok (.iconst 0, 1) := by decide +kernel
theorem dX3_isShiftOf_7 : decode cX3_isShiftOf 7 = .ok (.invokevirtual 25, 3) := by decide +kernel
theorem dX3_isShiftOf_10 : decode cX3_isShiftOf 10 = .ok (.isub, 1) := by decide +kernel
theorem dX3_isShiftOf_11 : decode cX3_isShiftOf 11 = .ok (.bipush 15, 2) := by decide +kernel
theorem dX3_isShiftOf_13 : decode cX3_isShiftOf 13 = .ok (.iand, 1) := by decide +kernel
theorem dX3_isShiftOf_14 : decode cX3_isShiftOf 14 = .ok (.istore_n 2, 1) := by decide +kernel
theorem dX3_isShiftOf_15 : decode cX3_isShiftOf 15 = .ok (.aload_n 0, 1) := by decide +kernel
theorem dX3_isShiftOf_16 : decode cX3_isShiftOf 16 = .ok (.getfield 18, 3) := by decide +kernel
theorem dX3_isShiftOf_19 : decode cX3_isShiftOf 19 = .ok (.aload_n 1, 1) := by decide +kernel
theorem dX3_isShiftOf_20 : decode cX3_isShiftOf 20 = .ok (.getfield 18, 3) := by decide +kernel
theorem dX3_isShiftOf_23 : decode cX3_isShiftOf 23 = .ok (.if_icmp .ne 20, 3) := by decide +kernel
theorem dX3_isShiftOf_26 : decode cX3_isShiftOf 26 = .ok (.aload_n 0, 1) := by decide +kernel
theorem dX3_isShiftOf_27 : decode cX3_isShiftOf 27 = .ok (.getfield 21, 3) := by decide +kernel
theorem dX3_isShiftOf_30 : decode cX3_isShiftOf 30 = .ok (.aload_n 1, 1) := by decide +kernel
theorem dX3_isShiftOf_31 : decode cX3_isShiftOf 31 = .ok (.iload_n 2, 1) := by decide +kernel
theorem dX3_isShiftOf_32 : decode cX3_isShiftOf 32 = .ok (.invokevirtual 29, 3) := by decide +kernel
theorem dX3_isShiftOf_35 : decode cX3_isShiftOf 35 = .ok (.lcmp, 1) := by decide +kernel
theorem dX3_isShiftOf_36 : decode cX3_isShiftOf 36 = .ok (.ifCond .ne 7, 3) := by decide +kernel
theorem dX3_isShiftOf_39 : decode cX3_isShiftOf 39 = .ok (.iconst 1, 1) := by decide +kernel
theorem dX3_isShiftOf_40 : decode cX3_isShiftOf 40 = .ok (.goto 4, 3) := by decide +kernel
theorem dX3_isShiftOf_43 : decode cX3_isShiftOf 43 = .ok (.iconst 0, 1) := by decide +kernel
theorem dX3_isShiftOf_44 : decode cX3_isShiftOf 44 = .ok (.ireturn, 1) := by decide +kernel
set_option maxRecDepth 20000 in
theorem ggX4_init_X2_init : GoodIn wsX4_init wsX2_init := goodIn_r _ [21, 22, 2, 3, 23, 24, 10, 25, 26, 27, 28, 29, 30, 31, 32, 33, 34, 35, 36, 37, 38, 39, 40, 41, 42, 43, 44, 45, 58, 59, 60, 61, 62, 63, 64, 65, 66, 67, 68, 69, 70, 73, 74, 75, 76] (by decide +kernel) (by decide +kernel)
set_option maxRecDepth 20000 in
theorem gX4_init_X2_init : GoodIn wsX4_init (wsX2_init) := ggX4_init_X2_init
set_option maxRecDepth 20000 in
theorem ggX4_init_X1_init : GoodIn wsX4_init wsX1_init := goodIn_r _ [47, 48, 2, 3, 49, 50, 71, 72] (by decide +kernel) (by decide +kernel)
set_option maxRecDepth 20000 in
theorem gX4_init_X1_init_n44 : GoodIn wsX4_init (wsX1_init) := ggX4_init_X1_init
theorem dX4_init_0 : decode cX4_init 0 = .ok (.aload_n 0, 1) := by decide +kernel
theorem dX4_init_1 : decode cX4_init 1 = .ok (.invokespecial 1, 3) := by decide +kernel
theorem dX4_init_4 : decode cX4_init 4 = .ok (.aload_n 0, 1) := by decide +kernel
theorem dX4_init_5 : decode cX4_init 5 = .ok (.bipush 8, 2) := by decide +kernel
theorem dX4_init_7 : decode cX4_init 7 = .ok (.anewarray 9, 3) := by decide +kernel
theorem dX4_init_10 : decode cX4_init 10 = .ok (.putfield 11, 3) := by decide +kernel
theorem dX4_init_13 : decode cX4_init 13 = .ok (.aload_n 0, 1) := by decide +kernel
theorem dX4_init_14 : decode cX4_init 14 = .ok (.iconst 2, 1) := by decide +kernel
theorem dX4_init_15 : decode cX4_init 15 = .ok (.anewarray 15, 3) := by decide +kernel
theorem dX4_init_18 : decode cX4_init 18 = .ok (.putfield 17, 3) := by decide +kernel
theorem dX4_init_21 : decode cX4_init 21 = .ok (.aload_n 0, 1) := by decide +kernel
theorem dX4_init_22 : decode cX4_init 22 = .ok (.bipush 12, 2) := by decide +kernel
theorem dX4_init_24 : decode cX4_init 24 = .ok (.anewarray 21, 3) := by decide +kernel
theorem dX4_init_27 : decode cX4_init 27 = .ok (.putfield 23, 3) := by decide +kernel
theorem dX4_init_30 : decode cX4_init 30 = .ok (.aload_n 0, 1) := by decide +kernel
theorem dX4_init_31 : decode cX4_init 31 = .ok (.bipush 100, 2) := by decide +kernel
theorem dX4_init_33 : decode cX4_init 33 = .ok (.newarray .int, 2) := by decide +kernel
theorem dX4_init_35 : decode cX4_init 35 = .ok (.putfield 27, 3) := by decide +kernel
theorem dX4_init_38 : decode cX4_init 38 = .ok (.aload_n 0, 1) := by decide +kernel
theorem dX4_init_39 : decode cX4_init 39 = .ok (.iconst 0, 1) := by decide +kernel
theorem dX4_init_40 : decode cX4_init 40 = .ok (.putfield 31, 3) := by decide +kernel
theorem dX4_init_43 : decode cX4_init 43 = .ok (.aload_n 0, 1) := by decide +kernel
theorem dX4_init_44 : decode cX4_init 44 = .ok (.iconst 0, 1) := by decide +kernel
theorem dX4_init_45 : decode cX4_init 45 = .ok (.putfield 35, 3) := by decide +kernel
theorem dX4_init_48 : decode cX4_init 48 = .ok (.aload_n 0, 1) := by decide +kernel
theorem dX4_init_49 : decode cX4_init 49 = .ok (.iconst 0, 1) := by decide +kernel
theorem dX4_init_50 : decode cX4_init 50 = .ok (.putfield 38, 3) := by decide +kernel
theorem dX4_init_53 : decode cX4_init 53 = .ok (.iconst 0, 1) := by decide +kernel
theorem dX4_init_54 : decode cX4_init 54 = .ok (.istore_n 1, 1) := by decide +kernel
theorem dX4_init_55 : decode cX4_init 55 = .ok (.iload_n 1, 1) := by decide +kernel
theorem dX4_init_56 : decode cX4_init 56 = .ok (.bipush 8, 2) := by decide +kernel
theorem dX4_init_58 : decode cX4_init 58 = .ok (.if_icmp .ge 23, 3) := by decide +kernel
theorem dX4_init_61 : decode cX4_init 61 = .ok (.aload_n 0, 1) := by decide +kernel
theorem dX4_init_62 : decode cX4_init 62 = .ok (.getfield 11, 3) := by decide +kernel
theorem dX4_init_65 : decode cX4_init 65 = .ok (.iload_n 1, 1) := by decide +kernel
theorem dX4_init_66 : decode cX4_init 66 = .ok (.new 9, 3) := by decide +kernel
theorem dX4_init_69 : decode cX4_init 69 = .ok (.dup, 1) := by decide +kernel
theorem dX4_init_70 : decode cX4_init 70 = .ok (.iload_n 1, 1) := by decide +kernel
theorem dX4_init_71 : decode cX4_init 71 = .ok (.invokespecial 41, 3) := by decide +kernel
theorem dX4_init_74 : decode cX4_init 74 = .ok (.aastore, 1) := by decide +kernel
theorem dX4_init_75 : decode cX4_init 75 = .ok (.iinc 1 1, 3) := by decide +kernel
theorem dX4_init_78 : decode cX4_init 78 = .ok (.goto (-23), 3) := by decide +kernel
theorem dX4_init_81 : decode cX4_init 81 = .ok (.iconst 0, 1) := by decide +kernel
theorem dX4_init_82 : decode cX4_init 82 = .ok (.istore_n 1, 1) := by decide +kernel
theorem dX4_init_83 : decode cX4_init 83 = .ok (.iload_n 1, 1) := by decide +kernel
theorem dX4_init_84 : decode cX4_init 84 = .ok (.iconst 2, 1) := by decide +kernel
theorem dX4_init_85 : decode cX4_init 85 = .ok (.if_icmp .ge 22, 3) := by decide +kernel
theorem dX4_init_88 : decode cX4_init 88 = .ok (.aload_n 0, 1) := by decide +kernel
theorem dX4_init_89 : decode cX4_init 89 = .ok (.getfield 17, 3) := by decide +kernel
theorem dX4_init_92 : decode cX4_init 92 = .ok (.iload_n 1, 1) := by decide +kernel
theorem dX4_init_93 : decode cX4_init 93 = .ok (.new 15, 3) := by decide +kernel
theorem dX4_init_96 : decode cX4_init 96 = .ok (.dup, 1) := by decide +kernel
theorem dX4_init_97 : decode cX4_init 97 = .ok (.invokespecial 44, 3) := by decide +kernel
theorem dX4_init_100 : decode cX4_init 100 = .ok (.aastore, 1) := by decide +kernel
theorem dX4_init_101 : decode cX4_init 101 = .ok (.iinc 1 1, 3) := by decide +kernel
theorem dX4_init_104 : decode cX4_init 104 = .ok (.goto (-21), 3) := by decide +kernel
theorem dX4_init_107 : decode cX4_init 107 = .ok (.return_, 1) := by decide +kernel
set_option maxRecDepth 20000 in
theorem ggX4_addMelody_X4_checkHouse : GoodIn wsX4_addMelody wsX4_checkHouse := goodIn_ca (goodIn_r _ [14, 15, 16] (by decide +kernel) (by decide +kernel)) (goodIn_sub (fun _ h => List.mem_cons_of_mem _ (List.mem_append_right _ h)) (by decide +kernel))
set_option maxRecDepth 20000 in
theorem gX4_addMelody_X4_checkHouse : GoodIn wsX4_addMelody (wsV RX4 45 RX4 yX4_checkHouse wsX4_checkHouse) := goodIn_app (goodIn_of _ (by decide +kernel)) ggX4_addMelody_X4_checkHouse
set_option maxRecDepth 20000 in
theorem ggX4_addMelody_X3_init : GoodIn wsX4_addMelody wsX3_init := goodIn_r _ [19, 20, 21, 22, 23, 24, 25, 26, 34, 35, 36, 37] (by decide +kernel) (by decide +kernel)
set_option maxRecDepth 20000 in
theorem gX4_addMelody_X3_init : GoodIn wsX4_addMelody (wsX3_init) := ggX4_addMelody_X3_init
theorem dX4_addMelody_0 : decode cX4_addMelody 0 = .ok (.aload_n 0, 1) := by decide +kernel
theorem dX4_addMelody_1 : decode cX4_addMelody 1 = .ok (.iload_n 1, 1) := by decide +kernel
theorem dX4_addMelody_2 : decode cX4_addMelody 2 = .ok (.invokevirtual 45, 3) := by decide +kernel
theorem dX4_addMelody_5 : decode cX4_addMelody 5 = .ok (.iload_n 2, 1) := by decide +kernel
theorem dX4_addMelody_6 : decode cX4_addMelody 6 = .ok (.iconst 1, 1) := by decide +kernel
theorem dX4_addMelody_7 : decode cX4_addMelody 7 = .ok (.if_icmp .lt 9, 3) := by decide +kernel
theorem dX4_addMelody_10 : decode cX4_addMelody 10 = .ok (.iload_n 2, 1) := by decide +kernel
theorem dX4_addMelody_11 : decode cX4_addMelody 11 = .ok (.bipush 12, 2) := by decide +kernel
theorem dX4_addMelody_13 : decode cX4_addMelody 13 = .ok (.if_icmp .le 13, 3) := by decide +kernel
theorem dX4_addMelody_16 : decode cX4_addMelody 16 = .ok (.new 48, 3) := by decide +kernel
theorem dX4_addMelody_19 : decode cX4_addMelody 19 = .ok (.dup, 1) := by decide +kernel
theorem dX4_addMelody_20 : decode cX4_addMelody 20 = .ok (.ldc 50, 2) := by decide +kernel
theorem dX4_addMelody_22 : decode cX4_addMelody 22 = .ok (.invokespecial 52, 3) := by decide +kernel
theorem dX4_addMelody_25 : decode cX4_addMelody 25 = .ok (.athrow, 1) := by decide +kernel
theorem dX4_addMelody_26 : decode cX4_addMelody 26 = .ok (.lload_n 3, 1) := by decide +kernel
theorem dX4_addMelody_27 : decode cX4_addMelody 27 = .ok (.lconst 0, 1) := by decide +kernel
theorem dX4_addMelody_28 : decode cX4_addMelody 28 = .ok (.lcmp, 1) := by decide +kernel
theorem dX4_addMelody_29 : decode cX4_addMelody 29 = .ok (.ifCond .lt 13, 3) := by decide +kernel
theorem dX4_addMelody_32 : decode cX4_addMelody 32 = .ok (.lload_n 3, 1) := by decide +kernel
theorem dX4_addMelody_33 : decode cX4_addMelody 33 = .ok (.iconst 4, 1) := by decide +kernel
theorem dX4_addMelody_34 : decode cX4_addMelody 34 = .ok (.iload_n 2, 1) := by decide +kernel
theorem dX4_addMelody_35 : decode cX4_addMelody 35 = .ok (.imul, 1) := by decide +kernel
theorem dX4_addMelody_36 : decode cX4_addMelody 36 = .ok (.lshr, 1) := by decide +kernel
theorem dX4_addMelody_37 : decode cX4_addMelody 37 = .ok (.lconst 0, 1) := by decide +kernel
theorem dX4_addMelody_38 : decode cX4_addMelody 38 = .ok (.lcmp, 1) := by decide +kernel
theorem dX4_addMelody_39 : decode cX4_addMelody 39 = .ok (.ifCond .eq 13, 3) := by decide +kernel
theorem dX4_addMelody_42 : decode cX4_addMelody 42 = .ok (.new 48, 3) := by decide +kernel
theorem dX4_addMelody_45 : decode cX4_addMelody 45 = .ok (.dup, 1) := by decide +kernel
theorem dX4_addMelody_46 : decode cX4_addMelody 46 = .ok (.ldc 55, 2) := by decide +kernel
theorem dX4_addMelody_48 : decode cX4_addMelody 48 = .ok (.invokespecial 52, 3) := by decide +kernel
theorem dX4_addMelody_51 : decode cX4_addMelody 51 = .ok (.athrow, 1) := by decide +kernel
theorem dX4_addMelody_52 : decode cX4_addMelody 52 = .ok (.aload_n 0, 1) := by decide +kernel
theorem dX4_addMelody_53 : decode cX4_addMelody 53 = .ok (.getfield 31, 3) := by decide +kernel
theorem dX4_addMelody_56 : decode cX4_addMelody 56 = .ok (.bipush 12, 2) := by decide +kernel
theorem dX4_addMelody_58 : decode cX4_addMelody 58 = .ok (.if_icmp .lt 13, 3) := by decide +kernel
theorem dX4_addMelody_61 : decode cX4_addMelody 61 = .ok (.new 57, 3) := by decide +kernel
theorem dX4_addMelody_64 : decode cX4_addMelody 64 = .ok (.dup, 1) := by decide +kernel
theorem dX4_addMelody_65 : decode cX4_addMelody 65 = .ok (.ldc 59, 2) := by decide +kernel
theorem dX4_addMelody_67 : decode cX4_addMelody 67 = .ok (.invokespecial 61, 3) := by decide +kernel
theorem dX4_addMelody_70 : decode cX4_addMelody 70 = .ok (.athrow, 1) := by decide +kernel
theorem dX4_addMelody_71 : decode cX4_addMelody 71 = .ok (.aload_n 0, 1) := by decide +kernel
theorem dX4_addMelody_72 : decode cX4_addMelody 72 = .ok (.getfield 31, 3) := by decide +kernel
theorem dX4_addMelody_75 : decode cX4_addMelody 75 = .ok (.istore 5, 2) := by decide +kernel
theorem dX4_addMelody_77 : decode cX4_addMelody 77 = .ok (.aload_n 0, 1) := by decide +kernel
theorem dX4_addMelody_78 : decode cX4_addMelody 78 = .ok (.getfield 23, 3) := by decide +kernel
theorem dX4_addMelody_81 : decode cX4_addMelody 81 = .ok (.iload 5, 2) := by decide +kernel
theorem dX4_addMelody_83 : decode cX4_addMelody 83 = .ok (.new 21, 3) := by decide +kernel
theorem dX4_addMelody_86 : decode cX4_addMelody 86 = .ok (.dup, 1) := by decide +kernel
theorem dX4_addMelody_87 : decode cX4_addMelody 87 = .ok (.iload 5, 2) := by decide +kernel
theorem dX4_addMelody_89 : decode cX4_addMelody 89 = .ok (.iload_n 1, 1) := by decide +kernel
theorem dX4_addMelody_90 : decode cX4_addMelody 90 = .ok (.iload_n 2, 1) := by decide +kernel
theorem dX4_addMelody_91 : decode cX4_addMelody 91 = .ok (.lload_n 3, 1) := by decide +kernel
theorem dX4_addMelody_92 : decode cX4_addMelody 92 = .ok (.invokespecial 62, 3) := by decide +kernel
theorem dX4_addMelody_95 : decode cX4_addMelody 95 = .ok (.aastore, 1) := by decide +kernel
theorem dX4_addMelody_96 : decode cX4_addMelody 96 = .ok (.aload_n 0, 1) := by decide +kernel
theorem dX4_addMelody_97 : decode cX4_addMelody 97 = .ok (.dup, 1) := by decide +kernel
theorem dX4_addMelody_98 : decode cX4_addMelody 98 = .ok (.getfield 31, 3) := by decide +kernel
theorem dX4_addMelody_101 : decode cX4_addMelody 101 = .ok (.iconst 1, 1) := by decide +kernel
theorem dX4_addMelody_102 : decode cX4_addMelody 102 = .ok (.iadd, 1) := by decide +kernel
theorem dX4_addMelody_103 : decode cX4_addMelody 103 = .ok (.putfield 31, 3) := by decide +kernel
theorem dX4_addMelody_106 : decode cX4_addMelody 106 = .ok (.iload 5, 2) := by decide +kernel
theorem dX4_addMelody_108 : decode cX4_addMelody 108 = .ok (.ireturn, 1) := by decide +kernel
set_option maxRecDepth 20000 in
theorem ggX4_toneAt_X4_melodyAt : GoodIn wsX4_toneAt wsX4_melodyAt := goodIn_ca (goodIn_r _ [7, 1, 2, 8, 19, 20, 21, 22, 23, 24, 25] (by decide +kernel) (by decide +kernel)) (goodIn_sub (fun _ h => List.mem_cons_of_mem _ (List.mem_append_right _ h)) (by decide +kernel))
set_option maxRecDepth 20000 in
theorem gX4_toneAt_X4_melodyAt : GoodIn wsX4_toneAt (wsV RX4 65 RX4 yX4_melodyAt wsX4_melodyAt) := goodIn_app (goodIn_of _ (by decide +kernel)) ggX4_toneAt_X4_melodyAt
set_option maxRecDepth 20000 in
theorem ggX4_toneAt_X3_tone : GoodIn wsX4_toneAt wsX3_tone := goodIn_r _ [13, 14, 15, 16, 17, 18] (by decide +kernel) (by decide +kernel)
set_option maxRecDepth 20000 in
theorem gX4_toneAt_X3_tone : GoodIn wsX4_toneAt (wsV RX4 77 RX3 yX3_tone wsX3_tone) := goodIn_app (goodIn_of _ (by decide +kernel)) ggX4_toneAt_X3_tone
theorem dX4_toneAt_0 : decode cX4_toneAt 0 = .ok (.aload_n 0, 1) := by decide +kernel
theorem dX4_toneAt_1 : decode cX4_toneAt 1 = .ok (.iload_n 1, 1) := by decide +kernel
theorem dX4_toneAt_2 : decode cX4_toneAt 2 = .ok (.invokevirtual 65, 3) := by decide +kernel
theorem dX4_toneAt_5 : decode cX4_toneAt 5 = .ok (.astore_n 3, 1) := by decide +kernel
theorem dX4_toneAt_6 : decode cX4_toneAt 6 = .ok (.iload_n 2, 1) := by decide +kernel
theorem dX4_toneAt_7 : decode cX4_toneAt 7 = .ok (.ifCond .lt 11, 3) := by decide +kernel
theorem dX4_toneAt_10 : decode cX4_toneAt 10 = .ok (.iload_n 2, 1) := by decide +kernel
theorem dX4_toneAt_11 : decode cX4_toneAt 11 = .ok (.aload_n 3, 1) := by decide +kernel
theorem dX4_toneAt_12 : decode cX4_toneAt 12 = .ok (.getfield 69, 3) := by decide +kernel
theorem dX4_toneAt_15 : decode cX4_toneAt 15 = .ok (.if_icmp .lt 13, 3) := by decide +kernel
theorem dX4_toneAt_18 : decode cX4_toneAt 18 = .ok (.new 72, 3) := by decide +kernel
theorem dX4_toneAt_21 : decode cX4_toneAt 21 = .ok (.dup, 1) := by decide +kernel
theorem dX4_toneAt_22 : decode cX4_toneAt 22 = .ok (.ldc 74, 2) := by decide +kernel
theorem dX4_toneAt_24 : decode cX4_toneAt 24 = .ok (.invokespecial 76, 3) := by decide +kernel
theorem dX4_toneAt_27 : decode cX4_toneAt 27 = .ok (.athrow, 1) := by decide +kernel
theorem dX4_toneAt_28 : decode cX4_toneAt 28 = .ok (.aload_n 3, 1) := by decide +kernel
theorem dX4_toneAt_29 : decode cX4_toneAt 29 = .ok (.iload_n 2, 1) := by decide +kernel
theorem dX4_toneAt_30 : decode cX4_toneAt 30 = .ok (.invokevirtual 77, 3) := by decide +kernel
theorem dX4_toneAt_33 : decode cX4_toneAt 33 = .ok (.ireturn, 1) := by decide +kernel
set_option maxRecDepth 20000 in
theorem ggX4_shifted_X4_melodyAt : GoodIn wsX4_shifted wsX4_melodyAt := goodIn_ca (goodIn_r _ [7, 8, 9, 10, 22, 23, 24, 25, 26, 27, 28] (by decide +kernel) (by decide +kernel)) (goodIn_sub (fun _ h => List.mem_cons_of_mem _ (List.mem_append_right _ h)) (by decide +kernel))
set_option maxRecDepth 20000 in
theorem gX4_shifted_X4_melodyAt : GoodIn wsX4_shifted (wsV RX4 65 RX4 yX4_melodyAt wsX4_melodyAt) := goodIn_app (goodIn_of _ (by decide +kernel)) ggX4_shifted_X4_melodyAt
set_option maxRecDepth 20000 in
theorem ggX4_shifted_X3_tonesShifted : GoodIn wsX4_shifted wsX3_tonesShifted := goodIn_r _ [15, 16, 17, 18, 19, 14, 20, 21, 29, 30, 31, 32] (by decide +kernel) (by decide +kernel)
set_option maxRecDepth 20000 in
theorem gX4_shifted_X3_tonesShifted : GoodIn wsX4_shifted (wsV RX4 83 RX3 yX3_tonesShifted wsX3_tonesShifted) := goodIn_app (goodIn_of _ (by decide +kernel)) ggX4_shifted_X3_tonesShifted
theorem dX4_shifted_0 : decode cX4_shifted 0 = .ok (.aload_n 0, 1) := by decide +kernel
theorem dX4_shifted_1 : decode cX4_shifted 1 = .ok (.iload_n 1, 1) := by decide +kernel
theorem dX4_shifted_2 : decode cX4_shifted 2 = .ok (.invokevirtual 65, 3) := by decide +kernel
theorem dX4_shifted_5 : decode cX4_shifted 5 = .ok (.astore_n 3, 1) := by decide +kernel
theorem dX4_shifted_6 : decode cX4_shifted 6 = .ok (.iload_n 2, 1) := by decide +kernel
theorem dX4_shifted_7 : decode cX4_shifted 7 = .ok (.ifCond .lt 9, 3) := by decide +kernel
theorem dX4_shifted_10 : decode cX4_shifted 10 = .ok (.iload_n 2, 1) := by decide +kernel
theorem dX4_shifted_11 : decode cX4_shifted 11 = .ok (.bipush 15, 2) := by decide +kernel
theorem dX4_shifted_13 : decode cX4_shifted 13 = .ok (.if_icmp .le 13, 3) := by decide +kernel
theorem dX4_shifted_16 : decode cX4_shifted 16 = .ok (.new 48, 3) := by decide +kernel
theorem dX4_shifted_19 : decode cX4_shifted 19 = .ok (.dup, 1) := by decide +kernel
theorem dX4_shifted_20 : decode cX4_shifted 20 = .ok (.ldc 81, 2) := by decide +kernel
theorem dX4_shifted_22 : decode cX4_shifted 22 = .ok (.invokespecial 52, 3) := by decide +kernel
theorem dX4_shifted_25 : decode cX4_shifted 25 = .ok (.athrow, 1) := by decide +kernel
theorem dX4_shifted_26 : decode cX4_shifted 26 = .ok (.aload_n 3, 1) := by decide +kernel
theorem dX4_shifted_27 : decode cX4_shifted 27 = .ok (.iload_n 2, 1) := by decide +kernel
theorem dX4_shifted_28 : decode cX4_shifted 28 = .ok (.invokevirtual 83, 3) := by decide +kernel
theorem dX4_shifted_31 : decode cX4_shifted 31 = .ok (.lreturn, 1) := by decide +kernel
set_option maxRecDepth 20000 in
theorem ggX4_turned_X4_melodyAt : GoodIn wsX4_turned wsX4_melodyAt := goodIn_ca (goodIn_r _ [5, 6, 7, 8, 20, 21, 22, 23, 24, 25, 26] (by decide +kernel) (by decide +kernel)) (goodIn_sub (fun _ h => List.mem_cons_of_mem _ (List.mem_append_right _ h)) (by decide +kernel))
set_option maxRecDepth 20000 in
theorem gX4_turned_X4_melodyAt : GoodIn wsX4_turned (wsV RX4 65 RX4 yX4_melodyAt wsX4_melodyAt) := goodIn_app (goodIn_of _ (by decide +kernel)) ggX4_turned_X4_melodyAt
set_option maxRecDepth 20000 in
theorem ggX4_turned_X3_tonesTurned : GoodIn wsX4_turned wsX3_tonesTurned := goodIn_r _ [13, 14, 15, 16, 17, 12, 18, 19, 27, 28, 29, 30] (by decide +kernel) (by decide +kernel)
set_option maxRecDepth 20000 in
theorem gX4_turned_X3_tonesTurned : GoodIn wsX4_turned (wsV RX4 87 RX3 yX3_tonesTurned wsX3_tonesTurned) := goodIn_app (goodIn_of _ (by decide +kernel)) ggX4_turned_X3_tonesTurned
theorem dX4_turned_0 : decode cX4_turned 0 = .ok (.aload_n 0, 1) := by decide +kernel
theorem dX4_turned_1 : decode cX4_turned 1 = .ok (.iload_n 1, 1) := by decide +kernel
theorem dX4_turned_2 : decode cX4_turned 2 = .ok (.invokevirtual 65, 3) := by decide +kernel
theorem dX4_turned_5 : decode cX4_turned 5 = .ok (.invokevirtual 87, 3) := by decide +kernel
theorem dX4_turned_8 : decode cX4_turned 8 = .ok (.lreturn, 1) := by decide +kernel
set_option maxRecDepth 20000 in
theorem ggX4_areAlike_X4_melodyAt : GoodIn wsX4_areAlike wsX4_melodyAt := goodIn_ca (goodIn_r _ [5, 6, 7, 8, 24, 25, 26, 27, 28, 29, 30] (by decide +kernel) (by decide +kernel)) (goodIn_sub (fun _ h => List.mem_cons_of_mem _ (List.mem_append_right _ h)) (by decide +kernel))
set_option maxRecDepth 20000 in
theorem gX4_areAlike_X4_melodyAt : GoodIn wsX4_areAlike (wsV RX4 65 RX4 yX4_melodyAt wsX4_melodyAt) := goodIn_app (goodIn_of _ (by decide +kernel)) ggX4_areAlike_X4_melodyAt
set_option maxRecDepth 20000 in
theorem ggX4_areAlike_X3_isShiftOf : GoodIn wsX4_areAlike wsX3_isShiftOf := goodIn_r _ [13, 14, 15, 16, 17, 18, 12, 19, 20, 21, 22, 23, 31, 32, 33, 34] (by decide +kernel) (by decide +kernel)
set_option maxRecDepth 20000 in
theorem gX4_areAlike_X3_isShiftOf : GoodIn wsX4_areAlike (wsV RX4 91 RX3 yX3_isShiftOf wsX3_isShiftOf) := goodIn_app (goodIn_of _ (by decide +kernel)) ggX4_areAlike_X3_isShiftOf
theorem dX4_areAlike_0 : decode cX4_areAlike 0 = .ok (.aload_n 0, 1) := by decide +kernel
theorem dX4_areAlike_1 : decode cX4_areAlike 1 = .ok (.iload_n 1, 1) := by decide +kernel
theorem dX4_areAlike_2 : decode cX4_areAlike 2 = .ok (.invokevirtual 65, 3) := by decide +kernel
theorem dX4_areAlike_5 : decode cX4_areAlike 5 = .ok (.aload_n 0, 1) := by decide +kernel
theorem dX4_areAlike_6 : decode cX4_areAlike 6 = .ok (.iload_n 2, 1) := by decide +kernel
theorem dX4_areAlike_7 : decode cX4_areAlike 7 = .ok (.invokevirtual 65, 3) := by decide +kernel
theorem dX4_areAlike_10 : decode cX4_areAlike 10 = .ok (.invokevirtual 91, 3) := by decide +kernel
theorem dX4_areAlike_13 : decode cX4_areAlike 13 = .ok (.ireturn, 1) := by decide +kernel
set_option maxRecDepth 20000 in
theorem ggX4_license_X4_houseAt : GoodIn wsX4_license wsX4_houseAt := goodIn_ca (goodIn_r _ [9, 10, 11, 12, 13, 8, 14, 15, 16, 39, 40, 41, 42, 43, 44, 45] (by decide +kernel) (by decide +kernel)) (goodIn_sub (fun _ h => List.mem_cons_of_mem _ (List.mem_append_right _ h)) (by decide +kernel))
set_option maxRecDepth 20000 in
theorem gX4_license_X4_houseAt : GoodIn wsX4_license (wsV RX4 95 RX4 yX4_houseAt wsX4_houseAt) := goodIn_app (goodIn_of _ (by decide +kernel)) ggX4_license_X4_houseAt
set_option maxRecDepth 20000 in
theorem ggX4_license_X4_melodyAt : GoodIn wsX4_license wsX4_melodyAt := goodIn_ca (goodIn_r _ [20, 15, 16, 21, 39, 40, 41, 42, 43, 44, 45] (by decide +kernel) (by decide +kernel)) (goodIn_sub (fun _ h => List.mem_cons_of_mem _ (List.mem_append_right _ h)) (by decide +kernel))
set_option maxRecDepth 20000 in
theorem gX4_license_X4_melodyAt : GoodIn wsX4_license (wsV RX4 65 RX4 yX4_melodyAt wsX4_melodyAt) := goodIn_app (goodIn_of _ (by decide +kernel)) ggX4_license_X4_melodyAt
theorem dX4_license_0 : decode cX4_license 0 = .ok (.aload_n 0, 1) := by decide +kernel
theorem dX4_license_1 : decode cX4_license 1 = .ok (.iload_n 1, 1) := by decide +kernel
theorem dX4_license_2 : decode cX4_license 2 = .ok (.invokevirtual 95, 3) := by decide +kernel
theorem dX4_license_5 : decode cX4_license 5 = .ok (.astore 4, 2) := by decide +kernel
theorem dX4_license_7 : decode cX4_license 7 = .ok (.aload_n 0, 1) := by decide +kernel
theorem dX4_license_8 : decode cX4_license 8 = .ok (.iload_n 2, 1) := by decide +kernel
theorem dX4_license_9 : decode cX4_license 9 = .ok (.invokevirtual 65, 3) := by decide +kernel
theorem dX4_license_12 : decode cX4_license 12 = .ok (.astore 5, 2) := by decide +kernel
theorem dX4_license_14 : decode cX4_license 14 = .ok (.iload_n 3, 1) := by decide +kernel
theorem dX4_license_15 : decode cX4_license 15 = .ok (.iconst 1, 1) := by decide +kernel
theorem dX4_license_16 : decode cX4_license 16 = .ok (.if_icmp .lt 10, 3) := by decide +kernel
theorem dX4_license_19 : decode cX4_license 19 = .ok (.iload_n 3, 1) := by decide +kernel
theorem dX4_license_20 : decode cX4_license 20 = .ok (.sipush 1000, 3) := by decide +kernel
theorem dX4_license_23 : decode cX4_license 23 = .ok (.if_icmp .le 13, 3) := by decide +kernel
theorem dX4_license_26 : decode cX4_license 26 = .ok (.new 48, 3) := by decide +kernel
theorem dX4_license_29 : decode cX4_license 29 = .ok (.dup, 1) := by decide +kernel
theorem dX4_license_30 : decode cX4_license 30 = .ok (.ldc 99, 2) := by decide +kernel
theorem dX4_license_32 : decode cX4_license 32 = .ok (.invokespecial 52, 3) := by decide +kernel
theorem dX4_license_35 : decode cX4_license 35 = .ok (.athrow, 1) := by decide +kernel
theorem dX4_license_36 : decode cX4_license 36 = .ok (.aload 5, 2) := by decide +kernel
theorem dX4_license_38 : decode cX4_license 38 = .ok (.getfield 101, 3) := by decide +kernel
theorem dX4_license_41 : decode cX4_license 41 = .ok (.iload_n 1, 1) := by decide +kernel
theorem dX4_license_42 : decode cX4_license 42 = .ok (.if_icmp .ne 13, 3) := by decide +kernel
theorem dX4_license_45 : decode cX4_license 45 = .ok (.new 57, 3) := by decide +kernel
theorem dX4_license_48 : decode cX4_license 48 = .ok (.dup, 1) := by decide +kernel
theorem dX4_license_49 : decode cX4_license 49 = .ok (.ldc 104, 2) := by decide +kernel
theorem dX4_license_51 : decode cX4_license 51 = .ok (.invokespecial 61, 3) := by decide +kernel
theorem dX4_license_54 : decode cX4_license 54 = .ok (.athrow, 1) := by decide +kernel
theorem dX4_license_55 : decode cX4_license 55 = .ok (.aload 4, 2) := by decide +kernel
theorem dX4_license_57 : decode cX4_license 57 = .ok (.getfield 106, 3) := by decide +kernel
theorem dX4_license_60 : decode cX4_license 60 = .ok (.iload_n 2, 1) := by decide +kernel
theorem dX4_license_61 : decode cX4_license 61 = .ok (.iaload, 1) := by decide +kernel
theorem dX4_license_62 : decode cX4_license 62 = .ok (.iload_n 3, 1) := by decide +kernel
theorem dX4_license_63 : decode cX4_license 63 = .ok (.iadd, 1) := by decide +kernel
theorem dX4_license_64 : decode cX4_license 64 = .ok (.sipush 1000, 3) := by decide +kernel
theorem dX4_license_67 : decode cX4_license 67 = .ok (.if_icmp .le 13, 3) := by decide +kernel
theorem dX4_license_70 : decode cX4_license 70 = .ok (.new 57, 3) := by decide +kernel
theorem dX4_license_73 : decode cX4_license 73 = .ok (.dup, 1) := by decide +kernel
theorem dX4_license_74 : decode cX4_license 74 = .ok (.ldc 109, 2) := by decide +kernel
theorem dX4_license_76 : decode cX4_license 76 = .ok (.invokespecial 61, 3) := by decide +kernel
theorem dX4_license_79 : decode cX4_license 79 = .ok (.athrow, 1) := by decide +kernel
theorem dX4_license_80 : decode cX4_license 80 = .ok (.aload 4, 2) := by decide +kernel
theorem dX4_license_82 : decode cX4_license 82 = .ok (.getfield 106, 3) := by decide +kernel
theorem dX4_license_85 : decode cX4_license 85 = .ok (.iload_n 2, 1) := by decide +kernel
theorem dX4_license_86 : decode cX4_license 86 = .ok (.dup2, 1) := by decide +kernel
theorem dX4_license_87 : decode cX4_license 87 = .ok (.iaload, 1) := by decide +kernel
theorem dX4_license_88 : decode cX4_license 88 = .ok (.iload_n 3, 1) := by decide +kernel
theorem dX4_license_89 : decode cX4_license 89 = .ok (.iadd, 1) := by decide +kernel
theorem dX4_license_90 : decode cX4_license 90 = .ok (.iastore, 1) := by decide +kernel
theorem dX4_license_91 : decode cX4_license 91 = .ok (.aload 4, 2) := by decide +kernel
theorem dX4_license_93 : decode cX4_license 93 = .ok (.getfield 106, 3) := by decide +kernel
theorem dX4_license_96 : decode cX4_license 96 = .ok (.iload_n 2, 1) := by decide +kernel
theorem dX4_license_97 : decode cX4_license 97 = .ok (.iaload, 1) := by decide +kernel
theorem dX4_license_98 : decode cX4_license 98 = .ok (.ireturn, 1) := by decide +kernel
set_option maxRecDepth 20000 in
theorem ggX4_setQuiet_X4_houseAt : GoodIn wsX4_setQuiet wsX4_houseAt := goodIn_ca (goodIn_r _ [8, 9, 10, 11, 12, 7, 13, 14, 15, 50, 51, 52, 53, 54, 55, 56] (by decide +kernel) (by decide +kernel)) (goodIn_sub (fun _ h => List.mem_cons_of_mem _ (List.mem_append_right _ h)) (by decide +kernel))
set_option maxRecDepth 20000 in
theorem gX4_setQuiet_X4_houseAt : GoodIn wsX4_setQuiet (wsV RX4 95 RX4 yX4_houseAt wsX4_houseAt) := goodIn_app (goodIn_of _ (by decide +kernel)) ggX4_setQuiet_X4_houseAt
set_option maxRecDepth 20000 in
theorem ggX4_setQuiet_X2_isQuietAt : GoodIn wsX4_setQuiet wsX2_isQuietAt := goodIn_r _ [20, 21, 22, 23, 19, 24, 25, 26, 27, 28, 29, 30, 31, 32, 33, 34, 35, 36, 37, 38, 39, 40, 41, 42, 43, 44, 45, 46, 47, 48, 49] (by decide +kernel) (by decide +kernel)
set_option maxRecDepth 20000 in
theorem gX4_setQuiet_X2_isQuietAt : GoodIn wsX4_setQuiet (wsV RX4 119 RX2 yX2_isQuietAt wsX2_isQuietAt) := goodIn_app (goodIn_of _ (by decide +kernel)) ggX4_setQuiet_X2_isQuietAt
theorem dX4_setQuiet_0 : decode cX4_setQuiet 0 = .ok (.aload_n 0, 1) := by decide +kernel
theorem dX4_setQuiet_1 : decode cX4_setQuiet 1 = .ok (.iload_n 1, 1) := by decide +kernel
theorem dX4_setQuiet_2 : decode cX4_setQuiet 2 = .ok (.invokevirtual 95, 3) := by decide +kernel
theorem dX4_setQuiet_5 : decode cX4_setQuiet 5 = .ok (.astore 4, 2) := by decide +kernel
theorem dX4_setQuiet_7 : decode cX4_setQuiet 7 = .ok (.iload_n 2, 1) := by decide +kernel
theorem dX4_setQuiet_8 : decode cX4_setQuiet 8 = .ok (.ifCond .lt 21, 3) := by decide +kernel
theorem dX4_setQuiet_11 : decode cX4_setQuiet 11 = .ok (.iload_n 2, 1) := by decide +kernel
theorem dX4_setQuiet_12 : decode cX4_setQuiet 12 = .ok (.sipush 1000, 3) := by decide +kernel
theorem dX4_setQuiet_15 : decode cX4_setQuiet 15 = .ok (.if_icmp .ge 14, 3) := by decide +kernel
theorem dX4_setQuiet_18 : decode cX4_setQuiet 18 = .ok (.iload_n 3, 1) := by decide +kernel
theorem dX4_setQuiet_19 : decode cX4_setQuiet 19 = .ok (.ifCond .lt 10, 3) := by decide +kernel
theorem dX4_setQuiet_22 : decode cX4_setQuiet 22 = .ok (.iload_n 3, 1) := by decide +kernel
theorem dX4_setQuiet_23 : decode cX4_setQuiet 23 = .ok (.sipush 1000, 3) := by decide +kernel
theorem dX4_setQuiet_26 : decode cX4_setQuiet 26 = .ok (.if_icmp .lt 13, 3) := by decide +kernel
theorem dX4_setQuiet_29 : decode cX4_setQuiet 29 = .ok (.new 48, 3) := by decide +kernel
theorem dX4_setQuiet_32 : decode cX4_setQuiet 32 = .ok (.dup, 1) := by decide +kernel
theorem dX4_setQuiet_33 : decode cX4_setQuiet 33 = .ok (.ldc 111, 2) := by decide +kernel
theorem dX4_setQuiet_35 : decode cX4_setQuiet 35 = .ok (.invokespecial 52, 3) := by decide +kernel
theorem dX4_setQuiet_38 : decode cX4_setQuiet 38 = .ok (.athrow, 1) := by decide +kernel
theorem dX4_setQuiet_39 : decode cX4_setQuiet 39 = .ok (.aload 4, 2) := by decide +kernel
theorem dX4_setQuiet_41 : decode cX4_setQuiet 41 = .ok (.iload_n 2, 1) := by decide +kernel
theorem dX4_setQuiet_42 : decode cX4_setQuiet 42 = .ok (.putfield 113, 3) := by decide +kernel
theorem dX4_setQuiet_45 : decode cX4_setQuiet 45 = .ok (.aload 4, 2) := by decide +kernel
theorem dX4_setQuiet_47 : decode cX4_setQuiet 47 = .ok (.iload_n 3, 1) := by decide +kernel
theorem dX4_setQuiet_48 : decode cX4_setQuiet 48 = .ok (.putfield 116, 3) := by decide +kernel
theorem dX4_setQuiet_51 : decode cX4_setQuiet 51 = .ok (.aload 4, 2) := by decide +kernel
theorem dX4_setQuiet_53 : decode cX4_setQuiet 53 = .ok (.aload_n 0, 1) := by decide +kernel
theorem dX4_setQuiet_54 : decode cX4_setQuiet 54 = .ok (.getfield 38, 3) := by decide +kernel
theorem dX4_setQuiet_57 : decode cX4_setQuiet 57 = .ok (.invokevirtual 119, 3) := by decide +kernel
theorem dX4_setQuiet_60 : decode cX4_setQuiet 60 = .ok (.ireturn, 1) := by decide +kernel
set_option maxRecDepth 20000 in
theorem ggX4_lay_X4_bellAt : GoodIn wsX4_lay wsX4_bellAt := goodIn_ca (goodIn_r _ [7, 8, 9, 10, 11, 12, 6, 13, 14, 15, 16, 17, 18, 32, 33, 34, 35, 36, 37, 38, 39, 40, 41, 42, 43, 44, 45, 46, 47, 48, 49, 50, 51] (by decide +kernel) (by decide +kernel)) (goodIn_sub (fun _ h => List.mem_cons_of_mem _ (List.mem_append_right _ h)) (by decide +kernel))
set_option maxRecDepth 20000 in
theorem gX4_lay_X4_bellAt : GoodIn wsX4_lay (wsV RX4 123 RX4 yX4_bellAt wsX4_bellAt) := goodIn_app (goodIn_of _ (by decide +kernel)) ggX4_lay_X4_bellAt
set_option maxRecDepth 20000 in
theorem ggX4_lay_X4_melodyAt : GoodIn wsX4_lay wsX4_melodyAt := goodIn_ca (goodIn_r _ [22, 8, 9, 23, 45, 46, 47, 48, 49, 50, 51] (by decide +kernel) (by decide +kernel)) (goodIn_sub (fun _ h => List.mem_cons_of_mem _ (List.mem_append_right _ h)) (by decide +kernel))
set_option maxRecDepth 20000 in
theorem gX4_lay_X4_melodyAt : GoodIn wsX4_lay (wsV RX4 65 RX4 yX4_melodyAt wsX4_melodyAt) := goodIn_app (goodIn_of _ (by decide +kernel)) ggX4_lay_X4_melodyAt
theorem dX4_lay_0 : decode cX4_lay 0 = .ok (.aload_n 0, 1) := by decide +kernel
theorem dX4_lay_1 : decode cX4_lay 1 = .ok (.iload_n 1, 1) := by decide +kernel
theorem dX4_lay_2 : decode cX4_lay 2 = .ok (.iload_n 2, 1) := by decide +kernel
theorem dX4_lay_3 : decode cX4_lay 3 = .ok (.invokevirtual 123, 3) := by decide +kernel
theorem dX4_lay_6 : decode cX4_lay 6 = .ok (.astore 5, 2) := by decide +kernel
theorem dX4_lay_8 : decode cX4_lay 8 = .ok (.iload_n 3, 1) := by decide +kernel
theorem dX4_lay_9 : decode cX4_lay 9 = .ok (.iconst (-1), 1) := by decide +kernel
theorem dX4_lay_10 : decode cX4_lay 10 = .ok (.if_icmp .ne 7, 3) := by decide +kernel
theorem dX4_lay_13 : decode cX4_lay 13 = .ok (.aconst_null, 1) := by decide +kernel
theorem dX4_lay_14 : decode cX4_lay 14 = .ok (.goto 8, 3) := by decide +kernel
theorem dX4_lay_17 : decode cX4_lay 17 = .ok (.aload_n 0, 1) := by decide +kernel
theorem dX4_lay_18 : decode cX4_lay 18 = .ok (.iload_n 3, 1) := by decide +kernel
theorem dX4_lay_19 : decode cX4_lay 19 = .ok (.invokevirtual 65, 3) := by decide +kernel
theorem dX4_lay_22 : decode cX4_lay 22 = .ok (.astore 6, 2) := by decide +kernel
theorem dX4_lay_24 : decode cX4_lay 24 = .ok (.iload 4, 2) := by decide +kernel
theorem dX4_lay_26 : decode cX4_lay 26 = .ok (.iconst 1, 1) := by decide +kernel
theorem dX4_lay_27 : decode cX4_lay 27 = .ok (.if_icmp .lt 10, 3) := by decide +kernel
theorem dX4_lay_30 : decode cX4_lay 30 = .ok (.iload 4, 2) := by decide +kernel
theorem dX4_lay_32 : decode cX4_lay 32 = .ok (.bipush 9, 2) := by decide +kernel
theorem dX4_lay_34 : decode cX4_lay 34 = .ok (.if_icmp .le 13, 3) := by decide +kernel
theorem dX4_lay_37 : decode cX4_lay 37 = .ok (.new 48, 3) := by decide +kernel
theorem dX4_lay_40 : decode cX4_lay 40 = .ok (.dup, 1) := by decide +kernel
theorem dX4_lay_41 : decode cX4_lay 41 = .ok (.ldc 127, 2) := by decide +kernel
theorem dX4_lay_43 : decode cX4_lay 43 = .ok (.invokespecial 52, 3) := by decide +kernel
theorem dX4_lay_46 : decode cX4_lay 46 = .ok (.athrow, 1) := by decide +kernel
theorem dX4_lay_47 : decode cX4_lay 47 = .ok (.aload 5, 2) := by decide +kernel
theorem dX4_lay_49 : decode cX4_lay 49 = .ok (.getfield 129, 3) := by decide +kernel
theorem dX4_lay_52 : decode cX4_lay 52 = .ok (.astore 7, 2) := by decide +kernel
theorem dX4_lay_54 : decode cX4_lay 54 = .ok (.aload 5, 2) := by decide +kernel
theorem dX4_lay_56 : decode cX4_lay 56 = .ok (.aload 6, 2) := by decide +kernel
theorem dX4_lay_58 : decode cX4_lay 58 = .ok (.putfield 129, 3) := by decide +kernel
theorem dX4_lay_61 : decode cX4_lay 61 = .ok (.aload 5, 2) := by decide +kernel
theorem dX4_lay_63 : decode cX4_lay 63 = .ok (.iload 4, 2) := by decide +kernel
theorem dX4_lay_65 : decode cX4_lay 65 = .ok (.putfield 135, 3) := by decide +kernel
theorem dX4_lay_68 : decode cX4_lay 68 = .ok (.aload 5, 2) := by decide +kernel
theorem dX4_lay_70 : decode cX4_lay 70 = .ok (.iconst 0, 1) := by decide +kernel
theorem dX4_lay_71 : decode cX4_lay 71 = .ok (.putfield 138, 3) := by decide +kernel
theorem dX4_lay_74 : decode cX4_lay 74 = .ok (.aload 7, 2) := by decide +kernel
theorem dX4_lay_76 : decode cX4_lay 76 = .ok (.ifnonnull 7, 3) := by decide +kernel
theorem dX4_lay_79 : decode cX4_lay 79 = .ok (.iconst (-1), 1) := by decide +kernel
theorem dX4_lay_80 : decode cX4_lay 80 = .ok (.goto 8, 3) := by decide +kernel
theorem dX4_lay_83 : decode cX4_lay 83 = .ok (.aload 7, 2) := by decide +kernel
theorem dX4_lay_85 : decode cX4_lay 85 = .ok (.getfield 142, 3) := by decide +kernel
theorem dX4_lay_88 : decode cX4_lay 88 = .ok (.ireturn, 1) := by decide +kernel
set_option maxRecDepth 20000 in
theorem ggX4_press_X4_houseAt : GoodIn wsX4_press wsX4_houseAt := goodIn_ca (goodIn_r _ [8, 9, 10, 11, 12, 7, 13, 14, 15, 91, 92, 93, 94, 95, 96, 97] (by decide +kernel) (by decide +kernel)) (goodIn_sub (fun _ h => List.mem_cons_of_mem _ (List.mem_append_right _ h)) (by decide +kernel))
set_option maxRecDepth 20000 in
theorem gX4_press_X4_houseAt : GoodIn wsX4_press (wsV RX4 95 RX4 yX4_houseAt wsX4_houseAt) := goodIn_app (goodIn_of _ (by decide +kernel)) ggX4_press_X4_houseAt
set_option maxRecDepth 20000 in
theorem ggX4_press_X4_bellAt : GoodIn wsX4_press wsX4_bellAt := goodIn_ca (goodIn_r _ [19, 14, 15, 4, 5, 6, 7, 8, 9, 10, 11, 12, 13, 78, 79, 80, 81, 82, 83, 84, 85, 86, 87, 88, 89, 90, 91, 92, 93, 94, 95, 96, 97] (by decide +kernel) (by decide +kernel)) (goodIn_sub (fun _ h => List.mem_cons_of_mem _ (List.mem_append_right _ h)) (by decide +kernel))
set_option maxRecDepth 20000 in
theorem gX4_press_X4_bellAt : GoodIn wsX4_press (wsV RX4 123 RX4 yX4_bellAt wsX4_bellAt) := goodIn_app (goodIn_of _ (by decide +kernel)) ggX4_press_X4_bellAt
set_option maxRecDepth 20000 in
theorem ggX4_press_X2_isQuietAt : GoodIn wsX4_press wsX2_isQuietAt := goodIn_r _ [24, 25, 26, 27, 23, 28, 29, 30, 31, 32, 33, 34, 35, 36, 37, 38, 39, 40, 78, 79, 80, 81, 82, 83, 84, 85, 86, 87, 88, 89, 90] (by decide +kernel) (by decide +kernel)
set_option maxRecDepth 20000 in
theorem gX4_press_X2_isQuietAt : GoodIn wsX4_press (wsV RX4 119 RX2 yX2_isQuietAt wsX2_isQuietAt) := goodIn_app (goodIn_of _ (by decide +kernel)) ggX4_press_X2_isQuietAt
set_option maxRecDepth 20000 in
theorem ggX4_press_X2_mayRing : GoodIn wsX4_press wsX2_mayRing := goodIn_r _ [44, 45, 46, 98, 99, 100, 101, 78, 79, 80, 81, 82, 83, 84, 85, 86, 87, 88, 89, 90] (by decide +kernel) (by decide +kernel)
set_option maxRecDepth 20000 in
theorem gX4_press_X2_mayRing : GoodIn wsX4_press (wsV RX4 153 RX2 yX2_mayRing wsX2_mayRing) := goodIn_app (goodIn_of _ (by decide +kernel)) ggX4_press_X2_mayRing
set_option maxRecDepth 20000 in
theorem ggX4_press_X2_ringingLoad : GoodIn wsX4_press wsX2_ringingLoad := goodIn_r _ [50, 51, 78, 79, 80, 81, 82, 83, 84, 85, 86, 87, 88, 89, 90, 74, 75, 76, 77] (by decide +kernel) (by decide +kernel)
set_option maxRecDepth 20000 in
theorem gX4_press_X2_ringingLoad : GoodIn wsX4_press (wsV RX4 156 RX2 yX2_ringingLoad wsX2_ringingLoad) := goodIn_app (goodIn_of _ (by decide +kernel)) ggX4_press_X2_ringingLoad
set_option maxRecDepth 20000 in
theorem ggX4_press_X2_breakDown : GoodIn wsX4_press wsX2_breakDown := goodIn_r _ [55, 56, 51, 78, 79, 80, 81, 82, 83, 84, 85, 86, 87, 88, 89, 90, 74, 75, 76, 77] (by decide +kernel) (by decide +kernel)
set_option maxRecDepth 20000 in
theorem gX4_press_X2_breakDown : GoodIn wsX4_press (wsV RX4 160 RX2 yX2_breakDown wsX2_breakDown) := goodIn_app (goodIn_of _ (by decide +kernel)) ggX4_press_X2_breakDown
set_option maxRecDepth 20000 in
theorem ggX4_press_X2_useRight : GoodIn wsX4_press wsX2_useRight := goodIn_r _ [60, 45, 46, 98, 99, 100, 101, 78, 79, 80, 81, 82, 83, 84, 85, 86, 87, 88, 89, 90] (by decide +kernel) (by decide +kernel)
set_option maxRecDepth 20000 in
theorem gX4_press_X2_useRight : GoodIn wsX4_press (wsV RX4 163 RX2 yX2_useRight wsX2_useRight) := goodIn_app (goodIn_of _ (by decide +kernel)) ggX4_press_X2_useRight
set_option maxRecDepth 20000 in
theorem ggX4_press_X3_lasts : GoodIn wsX4_press wsX3_lasts := goodIn_r _ [65, 66, 98, 99, 100, 101] (by decide +kernel) (by decide +kernel)
set_option maxRecDepth 20000 in
theorem gX4_press_X3_lasts : GoodIn wsX4_press (wsV RX4 167 RX3 yX3_lasts wsX3_lasts) := goodIn_app (goodIn_of _ (by decide +kernel)) ggX4_press_X3_lasts
set_option maxRecDepth 20000 in
theorem ggX4_press_X0_ringUntil : GoodIn wsX4_press wsX0_ringUntil := goodIn_r _ [71, 72, 73, 74, 75, 76, 77] (by decide +kernel) (by decide +kernel)
set_option maxRecDepth 20000 in
theorem gX4_press_X0_ringUntil : GoodIn wsX4_press (wsV RX4 170 RX0 yX0_ringUntil wsX0_ringUntil) := goodIn_app (goodIn_of _ (by decide +kernel)) ggX4_press_X0_ringUntil
theorem dX4_press_0 : decode cX4_press 0 = .ok (.aload_n 0, 1) := by decide +kernel
theorem dX4_press_1 : decode cX4_press 1 = .ok (.iload_n 1, 1) := by decide +kernel
theorem dX4_press_2 : decode cX4_press 2 = .ok (.invokevirtual 95, 3) := by decide +kernel
theorem dX4_press_5 : decode cX4_press 5 = .ok (.astore_n 3, 1) := by decide +kernel
theorem dX4_press_6 : decode cX4_press 6 = .ok (.aload_n 0, 1) := by decide +kernel
theorem dX4_press_7 : decode cX4_press 7 = .ok (.iload_n 1, 1) := by decide +kernel
theorem dX4_press_8 : decode cX4_press 8 = .ok (.iload_n 2, 1) := by decide +kernel
theorem dX4_press_9 : decode cX4_press 9 = .ok (.invokevirtual 123, 3) := by decide +kernel
theorem dX4_press_12 : decode cX4_press 12 = .ok (.astore 4, 2) := by decide +kernel
theorem dX4_press_14 : decode cX4_press 14 = .ok (.aload 4, 2) := by decide +kernel
theorem dX4_press_16 : decode cX4_press 16 = .ok (.getfield 129, 3) := by decide +kernel
theorem dX4_press_19 : decode cX4_press 19 = .ok (.astore 5, 2) := by decide +kernel
theorem dX4_press_21 : decode cX4_press 21 = .ok (.aload 5, 2) := by decide +kernel
theorem dX4_press_23 : decode cX4_press 23 = .ok (.ifnonnull 13, 3) := by decide +kernel
theorem dX4_press_26 : decode cX4_press 26 = .ok (.new 57, 3) := by decide +kernel
theorem dX4_press_29 : decode cX4_press 29 = .ok (.dup, 1) := by decide +kernel
theorem dX4_press_30 : decode cX4_press 30 = .ok (.ldc 145, 2) := by decide +kernel
theorem dX4_press_32 : decode cX4_press 32 = .ok (.invokespecial 61, 3) := by decide +kernel
theorem dX4_press_35 : decode cX4_press 35 = .ok (.athrow, 1) := by decide +kernel
theorem dX4_press_36 : decode cX4_press 36 = .ok (.aload_n 3, 1) := by decide +kernel
theorem dX4_press_37 : decode cX4_press 37 = .ok (.getfield 147, 3) := by decide +kernel
theorem dX4_press_40 : decode cX4_press 40 = .ok (.ifCond .eq 11, 3) := by decide +kernel
theorem dX4_press_43 : decode cX4_press 43 = .ok (.aload 4, 2) := by decide +kernel
theorem dX4_press_45 : decode cX4_press 45 = .ok (.getfield 138, 3) := by decide +kernel
theorem dX4_press_48 : decode cX4_press 48 = .ok (.ifCond .eq 5, 3) := by decide +kernel
theorem dX4_press_51 : decode cX4_press 51 = .ok (.iconst 0, 1) := by decide +kernel
theorem dX4_press_52 : decode cX4_press 52 = .ok (.ireturn, 1) := by decide +kernel
theorem dX4_press_53 : decode cX4_press 53 = .ok (.aload_n 3, 1) := by decide +kernel
theorem dX4_press_54 : decode cX4_press 54 = .ok (.aload_n 0, 1) := by decide +kernel
theorem dX4_press_55 : decode cX4_press 55 = .ok (.getfield 38, 3) := by decide +kernel
theorem dX4_press_58 : decode cX4_press 58 = .ok (.invokevirtual 119, 3) := by decide +kernel
theorem dX4_press_61 : decode cX4_press 61 = .ok (.ifCond .eq 15, 3) := by decide +kernel
theorem dX4_press_64 : decode cX4_press 64 = .ok (.aload_n 3, 1) := by decide +kernel
theorem dX4_press_65 : decode cX4_press 65 = .ok (.dup, 1) := by decide +kernel
theorem dX4_press_66 : decode cX4_press 66 = .ok (.getfield 150, 3) := by decide +kernel
theorem dX4_press_69 : decode cX4_press 69 = .ok (.iconst 1, 1) := by decide +kernel
theorem dX4_press_70 : decode cX4_press 70 = .ok (.iadd, 1) := by decide +kernel
theorem dX4_press_71 : decode cX4_press 71 = .ok (.putfield 150, 3) := by decide +kernel
theorem dX4_press_74 : decode cX4_press 74 = .ok (.iconst 2, 1) := by decide +kernel
theorem dX4_press_75 : decode cX4_press 75 = .ok (.ireturn, 1) := by decide +kernel
theorem dX4_press_76 : decode cX4_press 76 = .ok (.aload_n 3, 1) := by decide +kernel
theorem dX4_press_77 : decode cX4_press 77 = .ok (.aload 5, 2) := by decide +kernel
theorem dX4_press_79 : decode cX4_press 79 = .ok (.invokevirtual 153, 3) := by decide +kernel
theorem dX4_press_82 : decode cX4_press 82 = .ok (.ifCond .ne 5, 3) := by decide +kernel
theorem dX4_press_85 : decode cX4_press 85 = .ok (.iconst 0, 1) := by decide +kernel
theorem dX4_press_86 : decode cX4_press 86 = .ok (.ireturn, 1) := by decide +kernel
theorem dX4_press_87 : decode cX4_press 87 = .ok (.aload_n 3, 1) := by decide +kernel
theorem dX4_press_88 : decode cX4_press 88 = .ok (.invokevirtual 156, 3) := by decide +kernel
theorem dX4_press_91 : decode cX4_press 91 = .ok (.aload 4, 2) := by decide +kernel
theorem dX4_press_93 : decode cX4_press 93 = .ok (.getfield 135, 3) := by decide +kernel
theorem dX4_press_96 : decode cX4_press 96 = .ok (.iadd, 1) := by decide +kernel
theorem dX4_press_97 : decode cX4_press 97 = .ok (.bipush 10, 2) := by decide +kernel
theorem dX4_press_99 : decode cX4_press 99 = .ok (.if_icmp .le 9, 3) := by decide +kernel
theorem dX4_press_102 : decode cX4_press 102 = .ok (.aload_n 3, 1) := by decide +kernel
theorem dX4_press_103 : decode cX4_press 103 = .ok (.invokevirtual 160, 3) := by decide +kernel
theorem dX4_press_106 : decode cX4_press 106 = .ok (.iconst 3, 1) := by decide +kernel
theorem dX4_press_107 : decode cX4_press 107 = .ok (.ireturn, 1) := by decide +kernel
theorem dX4_press_108 : decode cX4_press 108 = .ok (.aload_n 3, 1) := by decide +kernel
theorem dX4_press_109 : decode cX4_press 109 = .ok (.aload 5, 2) := by decide +kernel
theorem dX4_press_111 : decode cX4_press 111 = .ok (.invokevirtual 163, 3) := by decide +kernel
theorem dX4_press_114 : decode cX4_press 114 = .ok (.aload 4, 2) := by decide +kernel
theorem dX4_press_116 : decode cX4_press 116 = .ok (.aload_n 0, 1) := by decide +kernel
theorem dX4_press_117 : decode cX4_press 117 = .ok (.getfield 38, 3) := by decide +kernel
theorem dX4_press_120 : decode cX4_press 120 = .ok (.aload 5, 2) := by decide +kernel
theorem dX4_press_122 : decode cX4_press 122 = .ok (.invokevirtual 167, 3) := by decide +kernel
theorem dX4_press_125 : decode cX4_press 125 = .ok (.iadd, 1) := by decide +kernel
theorem dX4_press_126 : decode cX4_press 126 = .ok (.invokevirtual 170, 3) := by decide +kernel
theorem dX4_press_129 : decode cX4_press 129 = .ok (.iconst 1, 1) := by decide +kernel
theorem dX4_press_130 : decode cX4_press 130 = .ok (.ireturn, 1) := by decide +kernel
set_option maxRecDepth 20000 in
theorem ggX4_fault_X4_houseAt : GoodIn wsX4_fault wsX4_houseAt := goodIn_ca (goodIn_r _ [11, 4, 12, 13, 14, 10, 15, 16, 17, 55, 56, 57, 58, 59, 60, 61] (by decide +kernel) (by decide +kernel)) (goodIn_sub (fun _ h => List.mem_cons_of_mem _ (List.mem_append_right _ h)) (by decide +kernel))
set_option maxRecDepth 20000 in
theorem gX4_fault_X4_houseAt : GoodIn wsX4_fault (wsV RX4 95 RX4 yX4_houseAt wsX4_houseAt) := goodIn_app (goodIn_of _ (by decide +kernel)) ggX4_fault_X4_houseAt
set_option maxRecDepth 20000 in
theorem ggX4_fault_X2_startBells : GoodIn wsX4_fault wsX2_startBells := goodIn_r _ [22, 23, 24, 25, 26, 27, 28, 29, 30, 31, 32, 33, 34, 35, 36, 42, 43, 44, 45, 46, 47, 48, 49, 50, 51, 52, 53, 54, 62, 63, 64, 65, 66, 67, 68, 69] (by decide +kernel) (by decide +kernel)
set_option maxRecDepth 20000 in
theorem gX4_fault_X2_startBells : GoodIn wsX4_fault (wsV RX4 180 RX2 yX2_startBells wsX2_startBells) := goodIn_app (goodIn_of _ (by decide +kernel)) ggX4_fault_X2_startBells
set_option maxRecDepth 20000 in
theorem ggX4_fault_X2_breakDown : GoodIn wsX4_fault wsX2_breakDown := goodIn_r _ [40, 41, 23, 42, 43, 44, 45, 46, 47, 48, 49, 50, 51, 52, 53, 54, 62, 63, 64, 65] (by decide +kernel) (by decide +kernel)
set_option maxRecDepth 20000 in
theorem gX4_fault_X2_breakDown : GoodIn wsX4_fault (wsV RX4 160 RX2 yX2_breakDown wsX2_breakDown) := goodIn_app (goodIn_of _ (by decide +kernel)) ggX4_fault_X2_breakDown
theorem dX4_fault_0 : decode cX4_fault 0 = .ok (.aload_n 0, 1) := by decide +kernel
theorem dX4_fault_1 : decode cX4_fault 1 = .ok (.iload_n 1, 1) := by decide +kernel
theorem dX4_fault_2 : decode cX4_fault 2 = .ok (.invokevirtual 95, 3) := by decide +kernel
theorem dX4_fault_5 : decode cX4_fault 5 = .ok (.astore_n 2, 1) := by decide +kernel
theorem dX4_fault_6 : decode cX4_fault 6 = .ok (.aload_n 2, 1) := by decide +kernel
theorem dX4_fault_7 : decode cX4_fault 7 = .ok (.getfield 147, 3) := by decide +kernel
theorem dX4_fault_10 : decode cX4_fault 10 = .ok (.ifCond .ne 13, 3) := by decide +kernel
theorem dX4_fault_13 : decode cX4_fault 13 = .ok (.new 57, 3) := by decide +kernel
theorem dX4_fault_16 : decode cX4_fault 16 = .ok (.dup, 1) := by decide +kernel
theorem dX4_fault_17 : decode cX4_fault 17 = .ok (.ldc 173, 2) := by decide +kernel
theorem dX4_fault_19 : decode cX4_fault 19 = .ok (.invokespecial 61, 3) := by decide +kernel
theorem dX4_fault_22 : decode cX4_fault 22 = .ok (.athrow, 1) := by decide +kernel
theorem dX4_fault_23 : decode cX4_fault 23 = .ok (.aload_n 0, 1) := by decide +kernel
theorem dX4_fault_24 : decode cX4_fault 24 = .ok (.getfield 35, 3) := by decide +kernel
theorem dX4_fault_27 : decode cX4_fault 27 = .ok (.bipush 100, 2) := by decide +kernel
theorem dX4_fault_29 : decode cX4_fault 29 = .ok (.if_icmp .lt 13, 3) := by decide +kernel
theorem dX4_fault_32 : decode cX4_fault 32 = .ok (.new 57, 3) := by decide +kernel
theorem dX4_fault_35 : decode cX4_fault 35 = .ok (.dup, 1) := by decide +kernel
theorem dX4_fault_36 : decode cX4_fault 36 = .ok (.ldc 175, 2) := by decide +kernel
theorem dX4_fault_38 : decode cX4_fault 38 = .ok (.invokespecial 61, 3) := by decide +kernel
theorem dX4_fault_41 : decode cX4_fault 41 = .ok (.athrow, 1) := by decide +kernel
theorem dX4_fault_42 : decode cX4_fault 42 = .ok (.iconst 0, 1) := by decide +kernel
theorem dX4_fault_43 : decode cX4_fault 43 = .ok (.istore_n 3, 1) := by decide +kernel
theorem dX4_fault_44 : decode cX4_fault 44 = .ok (.aload_n 0, 1) := by decide +kernel
theorem dX4_fault_45 : decode cX4_fault 45 = .ok (.getfield 11, 3) := by decide +kernel
theorem dX4_fault_48 : decode cX4_fault 48 = .ok (.astore 4, 2) := by decide +kernel
theorem dX4_fault_50 : decode cX4_fault 50 = .ok (.aload 4, 2) := by decide +kernel
theorem dX4_fault_52 : decode cX4_fault 52 = .ok (.arraylength, 1) := by decide +kernel
theorem dX4_fault_53 : decode cX4_fault 53 = .ok (.istore 5, 2) := by decide +kernel
theorem dX4_fault_55 : decode cX4_fault 55 = .ok (.iconst 0, 1) := by decide +kernel
theorem dX4_fault_56 : decode cX4_fault 56 = .ok (.istore 6, 2) := by decide +kernel
theorem dX4_fault_58 : decode cX4_fault 58 = .ok (.iload 6, 2) := by decide +kernel
theorem dX4_fault_60 : decode cX4_fault 60 = .ok (.iload 5, 2) := by decide +kernel
theorem dX4_fault_62 : decode cX4_fault 62 = .ok (.if_icmp .ge 54, 3) := by decide +kernel
theorem dX4_fault_65 : decode cX4_fault 65 = .ok (.aload 4, 2) := by decide +kernel
theorem dX4_fault_67 : decode cX4_fault 67 = .ok (.iload 6, 2) := by decide +kernel
theorem dX4_fault_69 : decode cX4_fault 69 = .ok (.aaload, 1) := by decide +kernel
theorem dX4_fault_70 : decode cX4_fault 70 = .ok (.astore 7, 2) := by decide +kernel
theorem dX4_fault_72 : decode cX4_fault 72 = .ok (.aload 7, 2) := by decide +kernel
theorem dX4_fault_74 : decode cX4_fault 74 = .ok (.aload_n 2, 1) := by decide +kernel
theorem dX4_fault_75 : decode cX4_fault 75 = .ok (.if_acmp .eq 35, 3) := by decide +kernel
theorem dX4_fault_78 : decode cX4_fault 78 = .ok (.aload 7, 2) := by decide +kernel
theorem dX4_fault_80 : decode cX4_fault 80 = .ok (.getfield 177, 3) := by decide +kernel
theorem dX4_fault_83 : decode cX4_fault 83 = .ok (.aload_n 2, 1) := by decide +kernel
theorem dX4_fault_84 : decode cX4_fault 84 = .ok (.getfield 177, 3) := by decide +kernel
theorem dX4_fault_87 : decode cX4_fault 87 = .ok (.if_icmp .ne 23, 3) := by decide +kernel
theorem dX4_fault_90 : decode cX4_fault 90 = .ok (.aload 7, 2) := by decide +kernel
theorem dX4_fault_92 : decode cX4_fault 92 = .ok (.getfield 147, 3) := by decide +kernel
theorem dX4_fault_95 : decode cX4_fault 95 = .ok (.ifCond .eq 15, 3) := by decide +kernel
theorem dX4_fault_98 : decode cX4_fault 98 = .ok (.iload_n 3, 1) := by decide +kernel
theorem dX4_fault_99 : decode cX4_fault 99 = .ok (.aload 7, 2) := by decide +kernel
theorem dX4_fault_101 : decode cX4_fault 101 = .ok (.aload_n 0, 1) := by decide +kernel
theorem dX4_fault_102 : decode cX4_fault 102 = .ok (.getfield 38, 3) := by decide +kernel
theorem dX4_fault_105 : decode cX4_fault 105 = .ok (.invokevirtual 180, 3) := by decide +kernel
theorem dX4_fault_108 : decode cX4_fault 108 = .ok (.iadd, 1) := by decide +kernel
theorem dX4_fault_109 : decode cX4_fault 109 = .ok (.istore_n 3, 1) := by decide +kernel
theorem dX4_fault_110 : decode cX4_fault 110 = .ok (.iinc 6 1, 3) := by decide +kernel
theorem dX4_fault_113 : decode cX4_fault 113 = .ok (.goto (-55), 3) := by decide +kernel
theorem dX4_fault_116 : decode cX4_fault 116 = .ok (.aload_n 2, 1) := by decide +kernel
theorem dX4_fault_117 : decode cX4_fault 117 = .ok (.invokevirtual 160, 3) := by decide +kernel
theorem dX4_fault_120 : decode cX4_fault 120 = .ok (.aload_n 2, 1) := by decide +kernel
theorem dX4_fault_121 : decode cX4_fault 121 = .ok (.dup, 1) := by decide +kernel
theorem dX4_fault_122 : decode cX4_fault 122 = .ok (.getfield 183, 3) := by decide +kernel
theorem dX4_fault_125 : decode cX4_fault 125 = .ok (.iconst 1, 1) := by decide +kernel
theorem dX4_fault_126 : decode cX4_fault 126 = .ok (.iadd, 1) := by decide +kernel
theorem dX4_fault_127 : decode cX4_fault 127 = .ok (.putfield 183, 3) := by decide +kernel
theorem dX4_fault_130 : decode cX4_fault 130 = .ok (.aload_n 0, 1) := by decide +kernel
theorem dX4_fault_131 : decode cX4_fault 131 = .ok (.getfield 27, 3) := by decide +kernel
theorem dX4_fault_134 : decode cX4_fault 134 = .ok (.aload_n 0, 1) := by decide +kernel
theorem dX4_fault_135 : decode cX4_fault 135 = .ok (.getfield 35, 3) := by decide +kernel
theorem dX4_fault_138 : decode cX4_fault 138 = .ok (.bipush 10, 2) := by decide +kernel
theorem dX4_fault_140 : decode cX4_fault 140 = .ok (.aload_n 0, 1) := by decide +kernel
theorem dX4_fault_141 : decode cX4_fault 141 = .ok (.getfield 38, 3) := by decide +kernel
theorem dX4_fault_144 : decode cX4_fault 144 = .ok (.imul, 1) := by decide +kernel
theorem dX4_fault_145 : decode cX4_fault 145 = .ok (.iload_n 1, 1) := by decide +kernel
theorem dX4_fault_146 : decode cX4_fault 146 = .ok (.iadd, 1) := by decide +kernel
theorem dX4_fault_147 : decode cX4_fault 147 = .ok (.iastore, 1) := by decide +kernel
theorem dX4_fault_148 : decode cX4_fault 148 = .ok (.aload_n 0, 1) := by decide +kernel
theorem dX4_fault_149 : decode cX4_fault 149 = .ok (.dup, 1) := by decide +kernel
theorem dX4_fault_150 : decode cX4_fault 150 = .ok (.getfield 35, 3) := by decide +kernel
theorem dX4_fault_153 : decode cX4_fault 153 = .ok (.iconst 1, 1) := by decide +kernel
theorem dX4_fault_154 : decode cX4_fault 154 = .ok (.iadd, 1) := by decide +kernel
theorem dX4_fault_155 : decode cX4_fault 155 = .ok (.putfield 35, 3) := by decide +kernel
theorem dX4_fault_158 : decode cX4_fault 158 = .ok (.iload_n 3, 1) := by decide +kernel
theorem dX4_fault_159 : decode cX4_fault 159 = .ok (.ireturn, 1) := by decide +kernel
set_option maxRecDepth 20000 in
theorem ggX4_repair_X4_houseAt : GoodIn wsX4_repair wsX4_houseAt := goodIn_ca (goodIn_r _ [9, 10, 11, 12, 13, 8, 14, 15, 16, 17, 18, 19, 20, 21, 22, 23] (by decide +kernel) (by decide +kernel)) (goodIn_sub (fun _ h => List.mem_cons_of_mem _ (List.mem_append_right _ h)) (by decide +kernel))
set_option maxRecDepth 20000 in
theorem gX4_repair_X4_houseAt : GoodIn wsX4_repair (wsV RX4 95 RX4 yX4_houseAt wsX4_houseAt) := goodIn_app (goodIn_of _ (by decide +kernel)) ggX4_repair_X4_houseAt
theorem dX4_repair_0 : decode cX4_repair 0 = .ok (.aload_n 0, 1) := by decide +kernel
theorem dX4_repair_1 : decode cX4_repair 1 = .ok (.iload_n 1, 1) := by decide +kernel
theorem dX4_repair_2 : decode cX4_repair 2 = .ok (.invokevirtual 95, 3) := by decide +kernel
theorem dX4_repair_5 : decode cX4_repair 5 = .ok (.astore_n 2, 1) := by decide +kernel
theorem dX4_repair_6 : decode cX4_repair 6 = .ok (.aload_n 0, 1) := by decide +kernel
theorem dX4_repair_7 : decode cX4_repair 7 = .ok (.getfield 17, 3) := by decide +kernel
theorem dX4_repair_10 : decode cX4_repair 10 = .ok (.aload_n 2, 1) := by decide +kernel
theorem dX4_repair_11 : decode cX4_repair 11 = .ok (.getfield 177, 3) := by decide +kernel
theorem dX4_repair_14 : decode cX4_repair 14 = .ok (.aaload, 1) := by decide +kernel
theorem dX4_repair_15 : decode cX4_repair 15 = .ok (.astore_n 3, 1) := by decide +kernel
theorem dX4_repair_16 : decode cX4_repair 16 = .ok (.aload_n 2, 1) := by decide +kernel
theorem dX4_repair_17 : decode cX4_repair 17 = .ok (.getfield 147, 3) := by decide +kernel
theorem dX4_repair_20 : decode cX4_repair 20 = .ok (.ifCond .eq 13, 3) := by decide +kernel
theorem dX4_repair_23 : decode cX4_repair 23 = .ok (.new 57, 3) := by decide +kernel
theorem dX4_repair_26 : decode cX4_repair 26 = .ok (.dup, 1) := by decide +kernel
theorem dX4_repair_27 : decode cX4_repair 27 = .ok (.ldc 186, 2) := by decide +kernel
theorem dX4_repair_29 : decode cX4_repair 29 = .ok (.invokespecial 61, 3) := by decide +kernel
theorem dX4_repair_32 : decode cX4_repair 32 = .ok (.athrow, 1) := by decide +kernel
theorem dX4_repair_33 : decode cX4_repair 33 = .ok (.aload_n 3, 1) := by decide +kernel
theorem dX4_repair_34 : decode cX4_repair 34 = .ok (.getfield 188, 3) := by decide +kernel
theorem dX4_repair_37 : decode cX4_repair 37 = .ok (.ifnull 13, 3) := by decide +kernel
theorem dX4_repair_40 : decode cX4_repair 40 = .ok (.new 57, 3) := by decide +kernel
theorem dX4_repair_43 : decode cX4_repair 43 = .ok (.dup, 1) := by decide +kernel
theorem dX4_repair_44 : decode cX4_repair 44 = .ok (.ldc 192, 2) := by decide +kernel
theorem dX4_repair_46 : decode cX4_repair 46 = .ok (.invokespecial 61, 3) := by decide +kernel
theorem dX4_repair_49 : decode cX4_repair 49 = .ok (.athrow, 1) := by decide +kernel
theorem dX4_repair_50 : decode cX4_repair 50 = .ok (.aload_n 3, 1) := by decide +kernel
theorem dX4_repair_51 : decode cX4_repair 51 = .ok (.aload_n 2, 1) := by decide +kernel
theorem dX4_repair_52 : decode cX4_repair 52 = .ok (.putfield 188, 3) := by decide +kernel
theorem dX4_repair_55 : decode cX4_repair 55 = .ok (.aload_n 3, 1) := by decide +kernel
theorem dX4_repair_56 : decode cX4_repair 56 = .ok (.aload_n 0, 1) := by decide +kernel
theorem dX4_repair_57 : decode cX4_repair 57 = .ok (.getfield 38, 3) := by decide +kernel
theorem dX4_repair_60 : decode cX4_repair 60 = .ok (.bipush 50, 2) := by decide +kernel
theorem dX4_repair_62 : decode cX4_repair 62 = .ok (.iadd, 1) := by decide +kernel
theorem dX4_repair_63 : decode cX4_repair 63 = .ok (.putfield 194, 3) := by decide +kernel
theorem dX4_repair_66 : decode cX4_repair 66 = .ok (.aload_n 3, 1) := by decide +kernel
theorem dX4_repair_67 : decode cX4_repair 67 = .ok (.getfield 194, 3) := by decide +kernel
theorem dX4_repair_70 : decode cX4_repair 70 = .ok (.ireturn, 1) := by decide +kernel
set_option maxRecDepth 20000 in
theorem ggX4_pass_X4_nextChange : GoodIn wsX4_pass wsX4_nextChange := goodIn_r _ [11, 5, 12, 13, 14, 15, 16, 17, 18, 19, 20, 21, 22, 23, 69, 70, 71, 72, 73, 74, 75, 76, 77, 78, 79, 80, 81, 82, 83, 84, 85, 86, 87, 88, 89, 90, 91, 92, 93, 94] (by decide +kernel) (by decide +kernel)
set_option maxRecDepth 20000 in
theorem gX4_pass_X4_nextChange : GoodIn wsX4_pass (wsV RX4 202 RX4 yX4_nextChange wsX4_nextChange) := goodIn_app (goodIn_of _ (by decide +kernel)) ggX4_pass_X4_nextChange
set_option maxRecDepth 20000 in
theorem ggX4_pass_X4_passStretch : GoodIn wsX4_pass wsX4_passStretch := goodIn_r _ [27, 16, 5, 17, 28, 29, 30, 21, 31, 32, 33, 34, 35, 36, 37, 38, 23, 39, 40, 41, 42, 43, 44, 45, 46, 47, 48, 13, 14, 15, 49, 50, 51, 52, 53, 54, 55, 56, 57, 58, 59, 60, 61, 62, 63, 64, 65, 66, 67, 68, 69, 70, 71, 72, 73, 74, 75, 78, 79, 80, 81, 82, 83, 84, 85, 86, 87, 88, 89, 90, 91, 92, 93, 94, 76, 77] (by decide +kernel) (by decide +kernel)
set_option maxRecDepth 20000 in
theorem gX4_pass_X4_passStretch : GoodIn wsX4_pass (wsV RX4 205 RX4 yX4_passStretch wsX4_passStretch) := goodIn_app (goodIn_of _ (by decide +kernel)) ggX4_pass_X4_passStretch
theorem dX4_pass_0 : decode cX4_pass 0 = .ok (.iload_n 1, 1) := by decide +kernel
theorem dX4_pass_1 : decode cX4_pass 1 = .ok (.iconst 1, 1) := by decide +kernel
theorem dX4_pass_2 : decode cX4_pass 2 = .ok (.if_icmp .lt 10, 3) := by decide +kernel
theorem dX4_pass_5 : decode cX4_pass 5 = .ok (.iload_n 1, 1) := by decide +kernel
theorem dX4_pass_6 : decode cX4_pass 6 = .ok (.sipush 2000, 3) := by decide +kernel
theorem dX4_pass_9 : decode cX4_pass 9 = .ok (.if_icmp .le 13, 3) := by decide +kernel
theorem dX4_pass_12 : decode cX4_pass 12 = .ok (.new 48, 3) := by decide +kernel
theorem dX4_pass_15 : decode cX4_pass 15 = .ok (.dup, 1) := by decide +kernel
theorem dX4_pass_16 : decode cX4_pass 16 = .ok (.ldc 197, 2) := by decide +kernel
theorem dX4_pass_18 : decode cX4_pass 18 = .ok (.invokespecial 52, 3) := by decide +kernel
theorem dX4_pass_21 : decode cX4_pass 21 = .ok (.athrow, 1) := by decide +kernel
theorem dX4_pass_22 : decode cX4_pass 22 = .ok (.aload_n 0, 1) := by decide +kernel
theorem dX4_pass_23 : decode cX4_pass 23 = .ok (.getfield 38, 3) := by decide +kernel
theorem dX4_pass_26 : decode cX4_pass 26 = .ok (.iload_n 1, 1) := by decide +kernel
theorem dX4_pass_27 : decode cX4_pass 27 = .ok (.iadd, 1) := by decide +kernel
theorem dX4_pass_28 : decode cX4_pass 28 = .ok (.ldc 199, 2) := by decide +kernel
theorem dX4_pass_30 : decode cX4_pass 30 = .ok (.if_icmp .le 13, 3) := by decide +kernel
theorem dX4_pass_33 : decode cX4_pass 33 = .ok (.new 57, 3) := by decide +kernel
theorem dX4_pass_36 : decode cX4_pass 36 = .ok (.dup, 1) := by decide +kernel
theorem dX4_pass_37 : decode cX4_pass 37 = .ok (.ldc 200, 2) := by decide +kernel
theorem dX4_pass_39 : decode cX4_pass 39 = .ok (.invokespecial 61, 3) := by decide +kernel
theorem dX4_pass_42 : decode cX4_pass 42 = .ok (.athrow, 1) := by decide +kernel
theorem dX4_pass_43 : decode cX4_pass 43 = .ok (.aload_n 0, 1) := by decide +kernel
theorem dX4_pass_44 : decode cX4_pass 44 = .ok (.getfield 38, 3) := by decide +kernel
theorem dX4_pass_47 : decode cX4_pass 47 = .ok (.iload_n 1, 1) := by decide +kernel
theorem dX4_pass_48 : decode cX4_pass 48 = .ok (.iadd, 1) := by decide +kernel
theorem dX4_pass_49 : decode cX4_pass 49 = .ok (.istore_n 2, 1) := by decide +kernel
theorem dX4_pass_50 : decode cX4_pass 50 = .ok (.iconst 0, 1) := by decide +kernel
theorem dX4_pass_51 : decode cX4_pass 51 = .ok (.istore_n 3, 1) := by decide +kernel
theorem dX4_pass_52 : decode cX4_pass 52 = .ok (.iload_n 3, 1) := by decide +kernel
theorem dX4_pass_53 : decode cX4_pass 53 = .ok (.iload_n 1, 1) := by decide +kernel
theorem dX4_pass_54 : decode cX4_pass 54 = .ok (.if_icmp .ge 26, 3) := by decide +kernel
theorem dX4_pass_57 : decode cX4_pass 57 = .ok (.aload_n 0, 1) := by decide +kernel
theorem dX4_pass_58 : decode cX4_pass 58 = .ok (.getfield 38, 3) := by decide +kernel
theorem dX4_pass_61 : decode cX4_pass 61 = .ok (.iload_n 2, 1) := by decide +kernel
theorem dX4_pass_62 : decode cX4_pass 62 = .ok (.if_icmp .ge 18, 3) := by decide +kernel
theorem dX4_pass_65 : decode cX4_pass 65 = .ok (.aload_n 0, 1) := by decide +kernel
theorem dX4_pass_66 : decode cX4_pass 66 = .ok (.aload_n 0, 1) := by decide +kernel
theorem dX4_pass_67 : decode cX4_pass 67 = .ok (.iload_n 2, 1) := by decide +kernel
theorem dX4_pass_68 : decode cX4_pass 68 = .ok (.invokevirtual 202, 3) := by decide +kernel
theorem dX4_pass_71 : decode cX4_pass 71 = .ok (.invokevirtual 205, 3) := by decide +kernel
theorem dX4_pass_74 : decode cX4_pass 74 = .ok (.iinc 3 1, 3) := by decide +kernel
theorem dX4_pass_77 : decode cX4_pass 77 = .ok (.goto (-25), 3) := by decide +kernel
theorem dX4_pass_80 : decode cX4_pass 80 = .ok (.aload_n 0, 1) := by decide +kernel
theorem dX4_pass_81 : decode cX4_pass 81 = .ok (.getfield 38, 3) := by decide +kernel
theorem dX4_pass_84 : decode cX4_pass 84 = .ok (.ireturn, 1) := by decide +kernel
theorem dX4_time_0 : decode cX4_time 0 = .ok (.aload_n 0, 1) := by decide +kernel
theorem dX4_time_1 : decode cX4_time 1 = .ok (.getfield 38, 3) := by decide +kernel
theorem dX4_time_4 : decode cX4_time 4 = .ok (.ireturn, 1) := by decide +kernel
set_option maxRecDepth 20000 in
theorem ggX4_ringing_X4_houseAt : GoodIn wsX4_ringing wsX4_houseAt := goodIn_ca (goodIn_r _ [5, 6, 7, 8, 9, 4, 10, 11, 12, 19, 20, 21, 22, 23, 24, 25] (by decide +kernel) (by decide +kernel)) (goodIn_sub (fun _ h => List.mem_cons_of_mem _ (List.mem_append_right _ h)) (by decide +kernel))
set_option maxRecDepth 20000 in
theorem gX4_ringing_X4_houseAt : GoodIn wsX4_ringing (wsV RX4 95 RX4 yX4_houseAt wsX4_houseAt) := goodIn_app (goodIn_of _ (by decide +kernel)) ggX4_ringing_X4_houseAt
set_option maxRecDepth 20000 in
theorem ggX4_ringing_X2_ringingSet : GoodIn wsX4_ringing wsX2_ringingSet := goodIn_r _ [17, 18, 26, 27, 28, 29, 30, 31, 32, 33, 34, 35, 36, 37, 38, 39, 40, 41, 42] (by decide +kernel) (by decide +kernel)
set_option maxRecDepth 20000 in
theorem gX4_ringing_X2_ringingSet : GoodIn wsX4_ringing (wsV RX4 208 RX2 yX2_ringingSet wsX2_ringingSet) := goodIn_app (goodIn_of _ (by decide +kernel)) ggX4_ringing_X2_ringingSet
theorem dX4_ringing_0 : decode cX4_ringing 0 = .ok (.aload_n 0, 1) := by decide +kernel
theorem dX4_ringing_1 : decode cX4_ringing 1 = .ok (.iload_n 1, 1) := by decide +kernel
theorem dX4_ringing_2 : decode cX4_ringing 2 = .ok (.invokevirtual 95, 3) := by decide +kernel
theorem dX4_ringing_5 : decode cX4_ringing 5 = .ok (.invokevirtual 208, 3) := by decide +kernel
theorem dX4_ringing_8 : decode cX4_ringing 8 = .ok (.ireturn, 1) := by decide +kernel
set_option maxRecDepth 20000 in
theorem ggX4_isSound_X4_houseAt : GoodIn wsX4_isSound wsX4_houseAt := goodIn_ca (goodIn_r _ [5, 6, 7, 8, 9, 4, 10, 11, 12, 26, 27, 28, 29, 30, 31, 32] (by decide +kernel) (by decide +kernel)) (goodIn_sub (fun _ h => List.mem_cons_of_mem _ (List.mem_append_right _ h)) (by decide +kernel))
set_option maxRecDepth 20000 in
theorem gX4_isSound_X4_houseAt : GoodIn wsX4_isSound (wsV RX4 95 RX4 yX4_houseAt wsX4_houseAt) := goodIn_app (goodIn_of _ (by decide +kernel)) ggX4_isSound_X4_houseAt
theorem dX4_isSound_0 : decode cX4_isSound 0 = .ok (.aload_n 0, 1) := by decide +kernel
theorem dX4_isSound_1 : decode cX4_isSound 1 = .ok (.iload_n 1, 1) := by decide +kernel
theorem dX4_isSound_2 : decode cX4_isSound 2 = .ok (.invokevirtual 95, 3) := by decide +kernel
theorem dX4_isSound_5 : decode cX4_isSound 5 = .ok (.getfield 147, 3) := by decide +kernel
theorem dX4_isSound_8 : decode cX4_isSound 8 = .ok (.ireturn, 1) := by decide +kernel
set_option maxRecDepth 20000 in
theorem ggX4_ringsLeft_X4_houseAt : GoodIn wsX4_ringsLeft wsX4_houseAt := goodIn_ca (goodIn_r _ [5, 6, 7, 8, 9, 4, 10, 11, 12, 35, 36, 37, 38, 39, 40, 41] (by decide +kernel) (by decide +kernel)) (goodIn_sub (fun _ h => List.mem_cons_of_mem _ (List.mem_append_right _ h)) (by decide +kernel))
set_option maxRecDepth 20000 in
theorem gX4_ringsLeft_X4_houseAt : GoodIn wsX4_ringsLeft (wsV RX4 95 RX4 yX4_houseAt wsX4_houseAt) := goodIn_app (goodIn_of _ (by decide +kernel)) ggX4_ringsLeft_X4_houseAt
set_option maxRecDepth 20000 in
theorem ggX4_ringsLeft_X4_melodyAt : GoodIn wsX4_ringsLeft wsX4_melodyAt := goodIn_ca (goodIn_r _ [16, 11, 12, 17, 35, 36, 37, 38, 39, 40, 41] (by decide +kernel) (by decide +kernel)) (goodIn_sub (fun _ h => List.mem_cons_of_mem _ (List.mem_append_right _ h)) (by decide +kernel))
set_option maxRecDepth 20000 in
theorem gX4_ringsLeft_X4_melodyAt : GoodIn wsX4_ringsLeft (wsV RX4 65 RX4 yX4_melodyAt wsX4_melodyAt) := goodIn_app (goodIn_of _ (by decide +kernel)) ggX4_ringsLeft_X4_melodyAt
theorem dX4_ringsLeft_0 : decode cX4_ringsLeft 0 = .ok (.aload_n 0, 1) := by decide +kernel
theorem dX4_ringsLeft_1 : decode cX4_ringsLeft 1 = .ok (.iload_n 1, 1) := by decide +kernel
theorem dX4_ringsLeft_2 : decode cX4_ringsLeft 2 = .ok (.invokevirtual 95, 3) := by decide +kernel
theorem dX4_ringsLeft_5 : decode cX4_ringsLeft 5 = .ok (.astore_n 3, 1) := by decide +kernel
theorem dX4_ringsLeft_6 : decode cX4_ringsLeft 6 = .ok (.aload_n 0, 1) := by decide +kernel
theorem dX4_ringsLeft_7 : decode cX4_ringsLeft 7 = .ok (.iload_n 2, 1) := by decide +kernel
theorem dX4_ringsLeft_8 : decode cX4_ringsLeft 8 = .ok (.invokevirtual 65, 3) := by decide +kernel
theorem dX4_ringsLeft_11 : decode cX4_ringsLeft 11 = .ok (.getfield 101, 3) := by decide +kernel
theorem dX4_ringsLeft_14 : decode cX4_ringsLeft 14 = .ok (.iload_n 1, 1) := by decide +kernel
theorem dX4_ringsLeft_15 : decode cX4_ringsLeft 15 = .ok (.if_icmp .ne 7, 3) := by decide +kernel
theorem dX4_ringsLeft_18 : decode cX4_ringsLeft 18 = .ok (.iconst (-1), 1) := by decide +kernel
theorem dX4_ringsLeft_19 : decode cX4_ringsLeft 19 = .ok (.goto 9, 3) := by decide +kernel
theorem dX4_ringsLeft_22 : decode cX4_ringsLeft 22 = .ok (.aload_n 3, 1) := by decide +kernel
theorem dX4_ringsLeft_23 : decode cX4_ringsLeft 23 = .ok (.getfield 106, 3) := by decide +kernel
theorem dX4_ringsLeft_26 : decode cX4_ringsLeft 26 = .ok (.iload_n 2, 1) := by decide +kernel
theorem dX4_ringsLeft_27 : decode cX4_ringsLeft 27 = .ok (.iaload, 1) := by decide +kernel
theorem dX4_ringsLeft_28 : decode cX4_ringsLeft 28 = .ok (.ireturn, 1) := by decide +kernel
set_option maxRecDepth 20000 in
theorem ggX4_points_X4_houseAt : GoodIn wsX4_points wsX4_houseAt := goodIn_ca (goodIn_r _ [5, 6, 7, 8, 9, 4, 10, 11, 12, 26, 27, 28, 29, 30, 31, 32] (by decide +kernel) (by decide +kernel)) (goodIn_sub (fun _ h => List.mem_cons_of_mem _ (List.mem_append_right _ h)) (by decide +kernel))
set_option maxRecDepth 20000 in
theorem gX4_points_X4_houseAt : GoodIn wsX4_points (wsV RX4 95 RX4 yX4_houseAt wsX4_houseAt) := goodIn_app (goodIn_of _ (by decide +kernel)) ggX4_points_X4_houseAt
theorem dX4_points_0 : decode cX4_points 0 = .ok (.aload_n 0, 1) := by decide +kernel
theorem dX4_points_1 : decode cX4_points 1 = .ok (.iload_n 1, 1) := by decide +kernel
theorem dX4_points_2 : decode cX4_points 2 = .ok (.invokevirtual 95, 3) := by decide +kernel
theorem dX4_points_5 : decode cX4_points 5 = .ok (.getfield 211, 3) := by decide +kernel
theorem dX4_points_8 : decode cX4_points 8 = .ok (.ireturn, 1) := by decide +kernel
set_option maxRecDepth 20000 in
theorem ggX4_secondsRung_X4_houseAt : GoodIn wsX4_secondsRung wsX4_houseAt := goodIn_ca (goodIn_r _ [5, 6, 7, 8, 9, 4, 10, 11, 12, 26, 27, 28, 29, 30, 31, 32] (by decide +kernel) (by decide +kernel)) (goodIn_sub (fun _ h => List.mem_cons_of_mem _ (List.mem_append_right _ h)) (by decide +kernel))
set_option maxRecDepth 20000 in
theorem gX4_secondsRung_X4_houseAt : GoodIn wsX4_secondsRung (wsV RX4 95 RX4 yX4_houseAt wsX4_houseAt) := goodIn_app (goodIn_of _ (by decide +kernel)) ggX4_secondsRung_X4_houseAt
theorem dX4_secondsRung_0 : decode cX4_secondsRung 0 = .ok (.aload_n 0, 1) := by decide +kernel
theorem dX4_secondsRung_1 : decode cX4_secondsRung 1 = .ok (.iload_n 1, 1) := by decide +kernel
theorem dX4_secondsRung_2 : decode cX4_secondsRung 2 = .ok (.invokevirtual 95, 3) := by decide +kernel
theorem dX4_secondsRung_5 : decode cX4_secondsRung 5 = .ok (.getfield 214, 3) := by decide +kernel
theorem dX4_secondsRung_8 : decode cX4_secondsRung 8 = .ok (.ireturn, 1) := by decide +kernel
set_option maxRecDepth 20000 in
theorem ggX4_quietBroken_X4_houseAt : GoodIn wsX4_quietBroken wsX4_houseAt := goodIn_ca (goodIn_r _ [5, 6, 7, 8, 9, 4, 10, 11, 12, 26, 27, 28, 29, 30, 31, 32] (by decide +kernel) (by decide +kernel)) (goodIn_sub (fun _ h => List.mem_cons_of_mem _ (List.mem_append_right _ h)) (by decide +kernel))
set_option maxRecDepth 20000 in
theorem gX4_quietBroken_X4_houseAt : GoodIn wsX4_quietBroken (wsV RX4 95 RX4 yX4_houseAt wsX4_houseAt) := goodIn_app (goodIn_of _ (by decide +kernel)) ggX4_quietBroken_X4_houseAt
theorem dX4_quietBroken_0 : decode cX4_quietBroken 0 = .ok (.aload_n 0, 1) := by decide +kernel
theorem dX4_quietBroken_1 : decode cX4_quietBroken 1 = .ok (.iload_n 1, 1) := by decide +kernel
theorem dX4_quietBroken_2 : decode cX4_quietBroken 2 = .ok (.invokevirtual 95, 3) := by decide +kernel
theorem dX4_quietBroken_5 : decode cX4_quietBroken 5 = .ok (.getfield 217, 3) := by decide +kernel
theorem dX4_quietBroken_8 : decode cX4_quietBroken 8 = .ok (.ireturn, 1) := by decide +kernel
set_option maxRecDepth 20000 in
theorem ggX4_hushed_X4_houseAt : GoodIn wsX4_hushed wsX4_houseAt := goodIn_ca (goodIn_r _ [5, 6, 7, 8, 9, 4, 10, 11, 12, 26, 27, 28, 29, 30, 31, 32] (by decide +kernel) (by decide +kernel)) (goodIn_sub (fun _ h => List.mem_cons_of_mem _ (List.mem_append_right _ h)) (by decide +kernel))
set_option maxRecDepth 20000 in
theorem gX4_hushed_X4_houseAt : GoodIn wsX4_hushed (wsV RX4 95 RX4 yX4_houseAt wsX4_houseAt) := goodIn_app (goodIn_of _ (by decide +kernel)) ggX4_hushed_X4_houseAt
theorem dX4_hushed_0 : decode cX4_hushed 0 = .ok (.aload_n 0, 1) := by decide +kernel
theorem dX4_hushed_1 : decode cX4_hushed 1 = .ok (.iload_n 1, 1) := by decide +kernel
theorem dX4_hushed_2 : decode cX4_hushed 2 = .ok (.invokevirtual 95, 3) := by decide +kernel
theorem dX4_hushed_5 : decode cX4_hushed 5 = .ok (.getfield 150, 3) := by decide +kernel
theorem dX4_hushed_8 : decode cX4_hushed 8 = .ok (.ireturn, 1) := by decide +kernel
theorem dX4_faults_0 : decode cX4_faults 0 = .ok (.aload_n 0, 1) := by decide +kernel
theorem dX4_faults_1 : decode cX4_faults 1 = .ok (.getfield 35, 3) := by decide +kernel
theorem dX4_faults_4 : decode cX4_faults 4 = .ok (.ireturn, 1) := by decide +kernel
theorem dX4_faultAt_0 : decode cX4_faultAt 0 = .ok (.iload_n 1, 1) := by decide +kernel
theorem dX4_faultAt_1 : decode cX4_faultAt 1 = .ok (.ifCond .lt 11, 3) := by decide +kernel
theorem dX4_faultAt_4 : decode cX4_faultAt 4 = .ok (.iload_n 1, 1) := by decide +kernel
theorem dX4_faultAt_5 : decode cX4_faultAt 5 = .ok (.aload_n 0, 1) := by decide +kernel
theorem dX4_faultAt_6 : decode cX4_faultAt 6 = .ok (.getfield 35, 3) := by decide +kernel
theorem dX4_faultAt_9 : decode cX4_faultAt 9 = .ok (.if_icmp .lt 13, 3) := by decide +kernel
theorem dX4_faultAt_12 : decode cX4_faultAt 12 = .ok (.new 72, 3) := by decide +kernel
theorem dX4_faultAt_15 : decode cX4_faultAt 15 = .ok (.dup, 1) := by decide +kernel
theorem dX4_faultAt_16 : decode cX4_faultAt 16 = .ok (.ldc 220, 2) := by decide +kernel
theorem dX4_faultAt_18 : decode cX4_faultAt 18 = .ok (.invokespecial 76, 3) := by decide +kernel
theorem dX4_faultAt_21 : decode cX4_faultAt 21 = .ok (.athrow, 1) := by decide +kernel
theorem dX4_faultAt_22 : decode cX4_faultAt 22 = .ok (.aload_n 0, 1) := by decide +kernel
theorem dX4_faultAt_23 : decode cX4_faultAt 23 = .ok (.getfield 27, 3) := by decide +kernel
theorem dX4_faultAt_26 : decode cX4_faultAt 26 = .ok (.iload_n 1, 1) := by decide +kernel
theorem dX4_faultAt_27 : decode cX4_faultAt 27 = .ok (.iaload, 1) := by decide +kernel
theorem dX4_faultAt_28 : decode cX4_faultAt 28 = .ok (.ireturn, 1) := by decide +kernel
theorem dX4_checkHouse_0 : decode cX4_checkHouse 0 = .ok (.iload_n 1, 1) := by decide +kernel
theorem dX4_checkHouse_1 : decode cX4_checkHouse 1 = .ok (.ifCond .lt 9, 3) := by decide +kernel
theorem dX4_checkHouse_4 : decode cX4_checkHouse 4 = .ok (.iload_n 1, 1) := by decide +kernel
theorem dX4_checkHouse_5 : decode cX4_checkHouse 5 = .ok (.bipush 8, 2) := by decide +kernel
theorem dX4_checkHouse_7 : decode cX4_checkHouse 7 = .ok (.if_icmp .lt 13, 3) := by decide +kernel
theorem dX4_checkHouse_10 : decode cX4_checkHouse 10 = .ok (.new 72, 3) := by decide +kernel
theorem dX4_checkHouse_13 : decode cX4_checkHouse 13 = .ok (.dup, 1) := by decide +kernel
theorem dX4_checkHouse_14 : decode cX4_checkHouse 14 = .ok (.ldc 222, 2) := by decide +kernel
theorem dX4_checkHouse_16 : decode cX4_checkHouse 16 = .ok (.invokespecial 76, 3) := by decide +kernel
theorem dX4_checkHouse_19 : decode cX4_checkHouse 19 = .ok (.athrow, 1) := by decide +kernel
theorem dX4_checkHouse_20 : decode cX4_checkHouse 20 = .ok (.return_, 1) := by decide +kernel
set_option maxRecDepth 20000 in
theorem ggX4_houseAt_X4_checkHouse : GoodIn wsX4_houseAt wsX4_checkHouse := goodIn_ca (goodIn_r _ [6, 7, 8] (by decide +kernel) (by decide +kernel)) (goodIn_sub (fun _ h => List.mem_cons_of_mem _ (List.mem_append_right _ h)) (by decide +kernel))
set_option maxRecDepth 20000 in
theorem gX4_houseAt_X4_checkHouse : GoodIn wsX4_houseAt (wsV RX4 45 RX4 yX4_checkHouse wsX4_checkHouse) := goodIn_app (goodIn_of _ (by decide +kernel)) ggX4_houseAt_X4_checkHouse
theorem dX4_houseAt_0 : decode cX4_houseAt 0 = .ok (.aload_n 0, 1) := by decide +kernel
theorem dX4_houseAt_1 : decode cX4_houseAt 1 = .ok (.iload_n 1, 1) := by decide +kernel
theorem dX4_houseAt_2 : decode cX4_houseAt 2 = .ok (.invokevirtual 45, 3) := by decide +kernel
theorem dX4_houseAt_5 : decode cX4_houseAt 5 = .ok (.aload_n 0, 1) := by decide +kernel
theorem dX4_houseAt_6 : decode cX4_houseAt 6 = .ok (.getfield 11, 3) := by decide +kernel
theorem dX4_houseAt_9 : decode cX4_houseAt 9 = .ok (.iload_n 1, 1) := by decide +kernel
theorem dX4_houseAt_10 : decode cX4_houseAt 10 = .ok (.aaload, 1) := by decide +kernel
theorem dX4_houseAt_11 : decode cX4_houseAt 11 = .ok (.areturn, 1) := by decide +kernel
set_option maxRecDepth 20000 in
theorem ggX4_bellAt_X4_houseAt : GoodIn wsX4_bellAt wsX4_houseAt := goodIn_ca (goodIn_r _ [7, 8, 9, 10, 11, 6, 12, 1, 2, 26, 27, 28, 29, 30, 31, 32] (by decide +kernel) (by decide +kernel)) (goodIn_sub (fun _ h => List.mem_cons_of_mem _ (List.mem_append_right _ h)) (by decide +kernel))
set_option maxRecDepth 20000 in
theorem gX4_bellAt_X4_houseAt : GoodIn wsX4_bellAt (wsV RX4 95 RX4 yX4_houseAt wsX4_houseAt) := goodIn_app (goodIn_of _ (by decide +kernel)) ggX4_bellAt_X4_houseAt
theorem dX4_bellAt_0 : decode cX4_bellAt 0 = .ok (.aload_n 0, 1) := by decide +kernel
theorem dX4_bellAt_1 : decode cX4_bellAt 1 = .ok (.iload_n 1, 1) := by decide +kernel
theorem dX4_bellAt_2 : decode cX4_bellAt 2 = .ok (.invokevirtual 95, 3) := by decide +kernel
theorem dX4_bellAt_5 : decode cX4_bellAt 5 = .ok (.astore_n 3, 1) := by decide +kernel
theorem dX4_bellAt_6 : decode cX4_bellAt 6 = .ok (.iload_n 2, 1) := by decide +kernel
theorem dX4_bellAt_7 : decode cX4_bellAt 7 = .ok (.ifCond .lt 8, 3) := by decide +kernel
theorem dX4_bellAt_10 : decode cX4_bellAt 10 = .ok (.iload_n 2, 1) := by decide +kernel
theorem dX4_bellAt_11 : decode cX4_bellAt 11 = .ok (.iconst 3, 1) := by decide +kernel
theorem dX4_bellAt_12 : decode cX4_bellAt 12 = .ok (.if_icmp .lt 13, 3) := by decide +kernel
theorem dX4_bellAt_15 : decode cX4_bellAt 15 = .ok (.new 72, 3) := by decide +kernel
theorem dX4_bellAt_18 : decode cX4_bellAt 18 = .ok (.dup, 1) := by decide +kernel
theorem dX4_bellAt_19 : decode cX4_bellAt 19 = .ok (.ldc 224, 2) := by decide +kernel
theorem dX4_bellAt_21 : decode cX4_bellAt 21 = .ok (.invokespecial 76, 3) := by decide +kernel
theorem dX4_bellAt_24 : decode cX4_bellAt 24 = .ok (.athrow, 1) := by decide +kernel
theorem dX4_bellAt_25 : decode cX4_bellAt 25 = .ok (.aload_n 3, 1) := by decide +kernel
theorem dX4_bellAt_26 : decode cX4_bellAt 26 = .ok (.getfield 226, 3) := by decide +kernel
theorem dX4_bellAt_29 : decode cX4_bellAt 29 = .ok (.iload_n 2, 1) := by decide +kernel
theorem dX4_bellAt_30 : decode cX4_bellAt 30 = .ok (.aaload, 1) := by decide +kernel
theorem dX4_bellAt_31 : decode cX4_bellAt 31 = .ok (.areturn, 1) := by decide +kernel
theorem dX4_melodyAt_0 : decode cX4_melodyAt 0 = .ok (.iload_n 1, 1) := by decide +kernel
theorem dX4_melodyAt_1 : decode cX4_melodyAt 1 = .ok (.ifCond .lt 9, 3) := by decide +kernel
theorem dX4_melodyAt_4 : decode cX4_melodyAt 4 = .ok (.iload_n 1, 1) := by decide +kernel
theorem dX4_melodyAt_5 : decode cX4_melodyAt 5 = .ok (.bipush 12, 2) := by decide +kernel
theorem dX4_melodyAt_7 : decode cX4_melodyAt 7 = .ok (.if_icmp .lt 7, 3) := by decide +kernel
theorem dX4_melodyAt_10 : decode cX4_melodyAt 10 = .ok (.aconst_null, 1) := by decide +kernel
theorem dX4_melodyAt_11 : decode cX4_melodyAt 11 = .ok (.goto 9, 3) := by decide +kernel
theorem dX4_melodyAt_14 : decode cX4_melodyAt 14 = .ok (.aload_n 0, 1) := by decide +kernel
theorem dX4_melodyAt_15 : decode cX4_melodyAt 15 = .ok (.getfield 23, 3) := by decide +kernel
theorem dX4_melodyAt_18 : decode cX4_melodyAt 18 = .ok (.iload_n 1, 1) := by decide +kernel
theorem dX4_melodyAt_19 : decode cX4_melodyAt 19 = .ok (.aaload, 1) := by decide +kernel
theorem dX4_melodyAt_20 : decode cX4_melodyAt 20 = .ok (.astore_n 2, 1) := by decide +kernel
theorem dX4_melodyAt_21 : decode cX4_melodyAt 21 = .ok (.aload_n 2, 1) := by decide +kernel
theorem dX4_melodyAt_22 : decode cX4_melodyAt 22 = .ok (.ifnonnull 13, 3) := by decide +kernel
theorem dX4_melodyAt_25 : decode cX4_melodyAt 25 = .ok (.new 72, 3) := by decide +kernel
theorem dX4_melodyAt_28 : decode cX4_melodyAt 28 = .ok (.dup, 1) := by decide +kernel
theorem dX4_melodyAt_29 : decode cX4_melodyAt 29 = .ok (.ldc 230, 2) := by decide +kernel
theorem dX4_melodyAt_31 : decode cX4_melodyAt 31 = .ok (.invokespecial 76, 3) := by decide +kernel
theorem dX4_melodyAt_34 : decode cX4_melodyAt 34 = .ok (.athrow, 1) := by decide +kernel
theorem dX4_melodyAt_35 : decode cX4_melodyAt 35 = .ok (.aload_n 2, 1) := by decide +kernel
theorem dX4_melodyAt_36 : decode cX4_melodyAt 36 = .ok (.areturn, 1) := by decide +kernel
set_option maxRecDepth 20000 in
theorem ggX4_nextChange_X2_firstStop : GoodIn wsX4_nextChange wsX2_firstStop := goodIn_r _ [12, 13, 23, 24, 25, 26, 27, 28, 29, 30, 31, 32, 33, 34, 35, 36, 37, 38, 39] (by decide +kernel) (by decide +kernel)
set_option maxRecDepth 20000 in
theorem gX4_nextChange_X2_firstStop : GoodIn wsX4_nextChange (wsV RX4 238 RX2 yX2_firstStop wsX2_firstStop) := goodIn_app (goodIn_of _ (by decide +kernel)) ggX4_nextChange_X2_firstStop
theorem dX4_nextChange_0 : decode cX4_nextChange 0 = .ok (.iload_n 1, 1) := by decide +kernel
theorem dX4_nextChange_1 : decode cX4_nextChange 1 = .ok (.aload_n 0, 1) := by decide +kernel
theorem dX4_nextChange_2 : decode cX4_nextChange 2 = .ok (.getfield 38, 3) := by decide +kernel
theorem dX4_nextChange_5 : decode cX4_nextChange 5 = .ok (.aload_n 0, 1) := by decide +kernel
theorem dX4_nextChange_6 : decode cX4_nextChange 6 = .ok (.getfield 38, 3) := by decide +kernel
theorem dX4_nextChange_9 : decode cX4_nextChange 9 = .ok (.sipush 1000, 3) := by decide +kernel
theorem dX4_nextChange_12 : decode cX4_nextChange 12 = .ok (.irem, 1) := by decide +kernel
theorem dX4_nextChange_13 : decode cX4_nextChange 13 = .ok (.isub, 1) := by decide +kernel
theorem dX4_nextChange_14 : decode cX4_nextChange 14 = .ok (.sipush 1000, 3) := by decide +kernel
theorem dX4_nextChange_17 : decode cX4_nextChange 17 = .ok (.iadd, 1) := by decide +kernel
theorem dX4_nextChange_18 : decode cX4_nextChange 18 = .ok (.invokestatic 232, 3) := by decide +kernel
theorem dX4_nextChange_21 : decode cX4_nextChange 21 = .ok (.istore_n 2, 1) := by decide +kernel
theorem dX4_nextChange_22 : decode cX4_nextChange 22 = .ok (.aload_n 0, 1) := by decide +kernel
theorem dX4_nextChange_23 : decode cX4_nextChange 23 = .ok (.getfield 11, 3) := by decide +kernel
theorem dX4_nextChange_26 : decode cX4_nextChange 26 = .ok (.astore_n 3, 1) := by decide +kernel
theorem dX4_nextChange_27 : decode cX4_nextChange 27 = .ok (.aload_n 3, 1) := by decide +kernel
theorem dX4_nextChange_28 : decode cX4_nextChange 28 = .ok (.arraylength, 1) := by decide +kernel
theorem dX4_nextChange_29 : decode cX4_nextChange 29 = .ok (.istore 4, 2) := by decide +kernel
theorem dX4_nextChange_31 : decode cX4_nextChange 31 = .ok (.iconst 0, 1) := by decide +kernel
theorem dX4_nextChange_32 : decode cX4_nextChange 32 = .ok (.istore 5, 2) := by decide +kernel
theorem dX4_nextChange_34 : decode cX4_nextChange 34 = .ok (.iload 5, 2) := by decide +kernel
theorem dX4_nextChange_36 : decode cX4_nextChange 36 = .ok (.iload 4, 2) := by decide +kernel
theorem dX4_nextChange_38 : decode cX4_nextChange 38 = .ok (.if_icmp .ge 26, 3) := by decide +kernel
theorem dX4_nextChange_41 : decode cX4_nextChange 41 = .ok (.aload_n 3, 1) := by decide +kernel
theorem dX4_nextChange_42 : decode cX4_nextChange 42 = .ok (.iload 5, 2) := by decide +kernel
theorem dX4_nextChange_44 : decode cX4_nextChange 44 = .ok (.aaload, 1) := by decide +kernel
theorem dX4_nextChange_45 : decode cX4_nextChange 45 = .ok (.astore 6, 2) := by decide +kernel
theorem dX4_nextChange_47 : decode cX4_nextChange 47 = .ok (.iload_n 2, 1) := by decide +kernel
theorem dX4_nextChange_48 : decode cX4_nextChange 48 = .ok (.aload 6, 2) := by decide +kernel
theorem dX4_nextChange_50 : decode cX4_nextChange 50 = .ok (.iload_n 2, 1) := by decide +kernel
theorem dX4_nextChange_51 : decode cX4_nextChange 51 = .ok (.invokevirtual 238, 3) := by decide +kernel
theorem dX4_nextChange_54 : decode cX4_nextChange 54 = .ok (.invokestatic 232, 3) := by decide +kernel
