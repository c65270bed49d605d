theorem dX2_stopEndedBells_38 : decode cX2_stopEndedBells 38 = .ok (.iinc 4 1, 3) := by decide +kernel
theorem dX2_stopEndedBells_41 : decode cX2_stopEndedBells 41 = .ok (.goto (-30), 3) := by decide +kernel
theorem dX2_stopEndedBells_44 : decode cX2_stopEndedBells 44 = .ok (.return_, 1) := by decide +kernel
set_option maxRecDepth 20000 in
theorem ggX2_spend_X2_ringingSet : GoodIn wsX2_spend wsX2_ringingSet := goodIn_r _ [8, 9, 26, 27, 28, 29, 30, 31, 32, 33, 34, 35, 36, 37, 38, 39, 40, 41, 42] (by decide +kernel) (by decide +kernel)
set_option maxRecDepth 20000 in
theorem gX2_spend_X2_ringingSet : GoodIn wsX2_spend (wsV RX2 100 RX2 yX2_ringingSet wsX2_ringingSet) := goodIn_app (goodIn_of _ (by decide +kernel)) ggX2_spend_X2_ringingSet
set_option maxRecDepth 20000 in
theorem ggX2_spend_X2_quietSeconds : GoodIn wsX2_spend wsX2_quietSeconds := goodIn_r _ [13, 14, 15, 16, 17, 7, 18, 19, 20, 21, 22, 23, 24, 25, 26, 27, 28, 29, 30, 31, 32, 33, 34, 35, 36, 37, 38] (by decide +kernel) (by decide +kernel)
set_option maxRecDepth 20000 in
theorem gX2_spend_X2_quietSeconds : GoodIn wsX2_spend (wsV RX2 57 RX2 yX2_quietSeconds wsX2_quietSeconds) := goodIn_app (goodIn_of _ (by decide +kernel)) ggX2_spend_X2_quietSeconds
theorem dX2_spend_0 : decode cX2_spend 0 = .ok (.aload_n 0, 1) := by decide +kernel
theorem dX2_spend_1 : decode cX2_spend 1 = .ok (.invokevirtual 100, 3) := by decide +kernel
theorem dX2_spend_4 : decode cX2_spend 4 = .ok (.ifCond .ne 4, 3) := by decide +kernel
theorem dX2_spend_7 : decode cX2_spend 7 = .ok (.return_, 1) := by decide +kernel
theorem dX2_spend_8 : decode cX2_spend 8 = .ok (.aload_n 0, 1) := by decide +kernel
theorem dX2_spend_9 : decode cX2_spend 9 = .ok (.iload_n 1, 1) := by decide +kernel
theorem dX2_spend_10 : decode cX2_spend 10 = .ok (.iload_n 2, 1) := by decide +kernel
theorem dX2_spend_11 : decode cX2_spend 11 = .ok (.invokevirtual 57, 3) := by decide +kernel
theorem dX2_spend_14 : decode cX2_spend 14 = .ok (.istore_n 3, 1) := by decide +kernel
theorem dX2_spend_15 : decode cX2_spend 15 = .ok (.aload_n 0, 1) := by decide +kernel
theorem dX2_spend_16 : decode cX2_spend 16 = .ok (.dup, 1) := by decide +kernel
theorem dX2_spend_17 : decode cX2_spend 17 = .ok (.getfield 35, 3) := by decide +kernel
theorem dX2_spend_20 : decode cX2_spend 20 = .ok (.iload_n 2, 1) := by decide +kernel
theorem dX2_spend_21 : decode cX2_spend 21 = .ok (.iload_n 1, 1) := by decide +kernel
theorem dX2_spend_22 : decode cX2_spend 22 = .ok (.isub, 1) := by decide +kernel
theorem dX2_spend_23 : decode cX2_spend 23 = .ok (.iadd, 1) := by decide +kernel
theorem dX2_spend_24 : decode cX2_spend 24 = .ok (.putfield 35, 3) := by decide +kernel
theorem dX2_spend_27 : decode cX2_spend 27 = .ok (.aload_n 0, 1) := by decide +kernel
theorem dX2_spend_28 : decode cX2_spend 28 = .ok (.dup, 1) := by decide +kernel
theorem dX2_spend_29 : decode cX2_spend 29 = .ok (.getfield 38, 3) := by decide +kernel
theorem dX2_spend_32 : decode cX2_spend 32 = .ok (.iload_n 3, 1) := by decide +kernel
theorem dX2_spend_33 : decode cX2_spend 33 = .ok (.iadd, 1) := by decide +kernel
theorem dX2_spend_34 : decode cX2_spend 34 = .ok (.putfield 38, 3) := by decide +kernel
theorem dX2_spend_37 : decode cX2_spend 37 = .ok (.iload_n 3, 1) := by decide +kernel
theorem dX2_spend_38 : decode cX2_spend 38 = .ok (.ifCond .le 8, 3) := by decide +kernel
theorem dX2_spend_41 : decode cX2_spend 41 = .ok (.aload_n 0, 1) := by decide +kernel
theorem dX2_spend_42 : decode cX2_spend 42 = .ok (.iconst 0, 1) := by decide +kernel
theorem dX2_spend_43 : decode cX2_spend 43 = .ok (.putfield 47, 3) := by decide +kernel
theorem dX2_spend_46 : decode cX2_spend 46 = .ok (.return_, 1) := by decide +kernel
theorem dX2_closeDay_0 : decode cX2_closeDay 0 = .ok (.aload_n 0, 1) := by decide +kernel
theorem dX2_closeDay_1 : decode cX2_closeDay 1 = .ok (.getfield 47, 3) := by decide +kernel
theorem dX2_closeDay_4 : decode cX2_closeDay 4 = .ok (.ifCond .eq 13, 3) := by decide +kernel
theorem dX2_closeDay_7 : decode cX2_closeDay 7 = .ok (.aload_n 0, 1) := by decide +kernel
theorem dX2_closeDay_8 : decode cX2_closeDay 8 = .ok (.dup, 1) := by decide +kernel
theorem dX2_closeDay_9 : decode cX2_closeDay 9 = .ok (.getfield 32, 3) := by decide +kernel
theorem dX2_closeDay_12 : decode cX2_closeDay 12 = .ok (.iconst 1, 1) := by decide +kernel
theorem dX2_closeDay_13 : decode cX2_closeDay 13 = .ok (.iadd, 1) := by decide +kernel
theorem dX2_closeDay_14 : decode cX2_closeDay 14 = .ok (.putfield 32, 3) := by decide +kernel
theorem dX2_closeDay_17 : decode cX2_closeDay 17 = .ok (.aload_n 0, 1) := by decide +kernel
theorem dX2_closeDay_18 : decode cX2_closeDay 18 = .ok (.dup, 1) := by decide +kernel
theorem dX2_closeDay_19 : decode cX2_closeDay 19 = .ok (.getfield 32, 3) := by decide +kernel
theorem dX2_closeDay_22 : decode cX2_closeDay 22 = .ok (.iconst 3, 1) := by decide +kernel
theorem dX2_closeDay_23 : decode cX2_closeDay 23 = .ok (.aload_n 0, 1) := by decide +kernel
theorem dX2_closeDay_24 : decode cX2_closeDay 24 = .ok (.getfield 44, 3) := by decide +kernel
theorem dX2_closeDay_27 : decode cX2_closeDay 27 = .ok (.imul, 1) := by decide +kernel
theorem dX2_closeDay_28 : decode cX2_closeDay 28 = .ok (.isub, 1) := by decide +kernel
theorem dX2_closeDay_29 : decode cX2_closeDay 29 = .ok (.putfield 32, 3) := by decide +kernel
theorem dX2_closeDay_32 : decode cX2_closeDay 32 = .ok (.aload_n 0, 1) := by decide +kernel
theorem dX2_closeDay_33 : decode cX2_closeDay 33 = .ok (.iconst 1, 1) := by decide +kernel
theorem dX2_closeDay_34 : decode cX2_closeDay 34 = .ok (.putfield 47, 3) := by decide +kernel
theorem dX2_closeDay_37 : decode cX2_closeDay 37 = .ok (.aload_n 0, 1) := by decide +kernel
theorem dX2_closeDay_38 : decode cX2_closeDay 38 = .ok (.iconst 0, 1) := by decide +kernel
theorem dX2_closeDay_39 : decode cX2_closeDay 39 = .ok (.putfield 44, 3) := by decide +kernel
theorem dX2_closeDay_42 : decode cX2_closeDay 42 = .ok (.return_, 1) := by decide +kernel
theorem dX3_init_0 : decode cX3_init 0 = .ok (.aload_n 0, 1) := by decide +kernel
theorem dX3_init_1 : decode cX3_init 1 = .ok (.invokespecial 3, 3) := by decide +kernel
theorem dX3_init_4 : decode cX3_init 4 = .ok (.aload_n 0, 1) := by decide +kernel
theorem dX3_init_5 : decode cX3_init 5 = .ok (.iload_n 1, 1) := by decide +kernel
theorem dX3_init_6 : decode cX3_init 6 = .ok (.putfield 9, 3) := by decide +kernel
theorem dX3_init_9 : decode cX3_init 9 = .ok (.aload_n 0, 1) := by decide +kernel
theorem dX3_init_10 : decode cX3_init 10 = .ok (.iload_n 2, 1) := by decide +kernel
theorem dX3_init_11 : decode cX3_init 11 = .ok (.putfield 15, 3) := by decide +kernel
theorem dX3_init_14 : decode cX3_init 14 = .ok (.aload_n 0, 1) := by decide +kernel
theorem dX3_init_15 : decode cX3_init 15 = .ok (.iload_n 3, 1) := by decide +kernel
theorem dX3_init_16 : decode cX3_init 16 = .ok (.putfield 18, 3) := by decide +kernel
theorem dX3_init_19 : decode cX3_init 19 = .ok (.aload_n 0, 1) := by decide +kernel
theorem dX3_init_20 : decode cX3_init 20 = .ok (.lload 4, 2) := by decide +kernel
theorem dX3_init_22 : decode cX3_init 22 = .ok (.putfield 21, 3) := by decide +kernel
theorem dX3_init_25 : decode cX3_init 25 = .ok (.return_, 1) := by decide +kernel
theorem dX3_lasts_0 : decode cX3_lasts 0 = .ok (.iconst 2, 1) := by decide +kernel
theorem dX3_lasts_1 : decode cX3_lasts 1 = .ok (.aload_n 0, 1) := by decide +kernel
theorem dX3_lasts_2 : decode cX3_lasts 2 = .ok (.getfield 18, 3) := by decide +kernel
theorem dX3_lasts_5 : decode cX3_lasts 5 = .ok (.imul, 1) := by decide +kernel
theorem dX3_lasts_6 : decode cX3_lasts 6 = .ok (.ireturn, 1) := by decide +kernel
theorem dX3_tone_0 : decode cX3_tone 0 = .ok (.aload_n 0, 1) := by decide +kernel
theorem dX3_tone_1 : decode cX3_tone 1 = .ok (.getfield 21, 3) := by decide +kernel
theorem dX3_tone_4 : decode cX3_tone 4 = .ok (.iconst 4, 1) := by decide +kernel
theorem dX3_tone_5 : decode cX3_tone 5 = .ok (.iload_n 1, 1) := by decide +kernel
theorem dX3_tone_6 : decode cX3_tone 6 = .ok (.imul, 1) := by decide +kernel
theorem dX3_tone_7 : decode cX3_tone 7 = .ok (.lshr, 1) := by decide +kernel
theorem dX3_tone_8 : decode cX3_tone 8 = .ok (.l2i, 1) := by decide +kernel
theorem dX3_tone_9 : decode cX3_tone 9 = .ok (.bipush 15, 2) := by decide +kernel
theorem dX3_tone_11 : decode cX3_tone 11 = .ok (.iand, 1) := by decide +kernel
theorem dX3_tone_12 : decode cX3_tone 12 = .ok (.ireturn, 1) := by decide +kernel
set_option maxRecDepth 20000 in
theorem ggX3_tonesShifted_X3_tone : GoodIn wsX3_tonesShifted wsX3_tone := goodIn_r _ [6, 7, 8, 9, 10, 11] (by decide +kernel) (by decide +kernel)
set_option maxRecDepth 20000 in
theorem gX3_tonesShifted_X3_tone : GoodIn wsX3_tonesShifted (wsV RX3 25 RX3 yX3_tone wsX3_tone) := goodIn_app (goodIn_of _ (by decide +kernel)) ggX3_tonesShifted_X3_tone
theorem dX3_tonesShifted_0 : decode cX3_tonesShifted 0 = .ok (.lconst 0, 1) := by decide +kernel
theorem dX3_tonesShifted_1 : decode cX3_tonesShifted 1 = .ok (.lstore_n 2, 1) := by decide +kernel
theorem dX3_tonesShifted_2 : decode cX3_tonesShifted 2 = .ok (.aload_n 0, 1) := by decide +kernel
theorem dX3_tonesShifted_3 : decode cX3_tonesShifted 3 = .ok (.getfield 18, 3) := by decide +kernel
theorem dX3_tonesShifted_6 : decode cX3_tonesShifted 6 = .ok (.iconst 1, 1) := by decide +kernel
theorem dX3_tonesShifted_7 : decode cX3_tonesShifted 7 = .ok (.isub, 1) := by decide +kernel
theorem dX3_tonesShifted_8 : decode cX3_tonesShifted 8 = .ok (.istore 4, 2) := by decide +kernel
theorem dX3_tonesShifted_10 : decode cX3_tonesShifted 10 = .ok (.iload 4, 2) := by decide +kernel
theorem dX3_tonesShifted_12 : decode cX3_tonesShifted 12 = .ok (.ifCond .lt 26, 3) := by decide +kernel
theorem dX3_tonesShifted_15 : decode cX3_tonesShifted 15 = .ok (.lload_n 2, 1) := by decide +kernel
theorem dX3_tonesShifted_16 : decode cX3_tonesShifted 16 = .ok (.iconst 4, 1) := by decide +kernel
theorem dX3_tonesShifted_17 : decode cX3_tonesShifted 17 = .ok (.lshl, 1) := by decide +kernel
theorem dX3_tonesShifted_18 : decode cX3_tonesShifted 18 = .ok (.aload_n 0, 1) := by decide +kernel
theorem dX3_tonesShifted_19 : decode cX3_tonesShifted 19 = .ok (.iload 4, 2) := by decide +kernel
theorem dX3_tonesShifted_21 : decode cX3_tonesShifted 21 = .ok (.invokevirtual 25, 3) := by decide +kernel
theorem dX3_tonesShifted_24 : decode cX3_tonesShifted 24 = .ok (.iload_n 1, 1) := by decide +kernel
theorem dX3_tonesShifted_25 : decode cX3_tonesShifted 25 = .ok (.iadd, 1) := by decide +kernel
theorem dX3_tonesShifted_26 : decode cX3_tonesShifted 26 = .ok (.bipush 15, 2) := by decide +kernel
theorem dX3_tonesShifted_28 : decode cX3_tonesShifted 28 = .ok (.iand, 1) := by decide +kernel
theorem dX3_tonesShifted_29 : decode cX3_tonesShifted 29 = .ok (.i2l, 1) := by decide +kernel
theorem dX3_tonesShifted_30 : decode cX3_tonesShifted 30 = .ok (.lor, 1) := by decide +kernel
theorem dX3_tonesShifted_31 : decode cX3_tonesShifted 31 = .ok (.lstore_n 2, 1) := by decide +kernel
theorem dX3_tonesShifted_32 : decode cX3_tonesShifted 32 = .ok (.iinc 4 (-1), 3) := by decide +kernel
theorem dX3_tonesShifted_35 : decode cX3_tonesShifted 35 = .ok (.goto (-25), 3) := by decide +kernel
theorem dX3_tonesShifted_38 : decode cX3_tonesShifted 38 = .ok (.lload_n 2, 1) := by decide +kernel
theorem dX3_tonesShifted_39 : decode cX3_tonesShifted 39 = .ok (.lreturn, 1) := by decide +kernel
set_option maxRecDepth 20000 in
theorem ggX3_tonesTurned_X3_tone : GoodIn wsX3_tonesTurned wsX3_tone := goodIn_r _ [6, 7, 8, 9, 10, 11] (by decide +kernel) (by decide +kernel)
set_option maxRecDepth 20000 in
theorem gX3_tonesTurned_X3_tone : GoodIn wsX3_tonesTurned (wsV RX3 25 RX3 yX3_tone wsX3_tone) := goodIn_app (goodIn_of _ (by decide +kernel)) ggX3_tonesTurned_X3_tone
theorem dX3_tonesTurned_0 : decode cX3_tonesTurned 0 = .ok (.lconst 0, 1) := by decide +kernel
theorem dX3_tonesTurned_1 : decode cX3_tonesTurned 1 = .ok (.lstore_n 1, 1) := by decide +kernel
theorem dX3_tonesTurned_2 : decode cX3_tonesTurned 2 = .ok (.iconst 0, 1) := by decide +kernel
theorem dX3_tonesTurned_3 : decode cX3_tonesTurned 3 = .ok (.istore_n 3, 1) := by decide +kernel
theorem dX3_tonesTurned_4 : decode cX3_tonesTurned 4 = .ok (.iload_n 3, 1) := by decide +kernel
theorem dX3_tonesTurned_5 : decode cX3_tonesTurned 5 = .ok (.aload_n 0, 1) := by decide +kernel
theorem dX3_tonesTurned_6 : decode cX3_tonesTurned 6 = .ok (.getfield 18, 3) := by decide +kernel
theorem dX3_tonesTurned_9 : decode cX3_tonesTurned 9 = .ok (.if_icmp .ge 20, 3) := by decide +kernel
theorem dX3_tonesTurned_12 : decode cX3_tonesTurned 12 = .ok (.lload_n 1, 1) := by decide +kernel
theorem dX3_tonesTurned_13 : decode cX3_tonesTurned 13 = .ok (.iconst 4, 1) := by decide +kernel
theorem dX3_tonesTurned_14 : decode cX3_tonesTurned 14 = .ok (.lshl, 1) := by decide +kernel
theorem dX3_tonesTurned_15 : decode cX3_tonesTurned 15 = .ok (.aload_n 0, 1) := by decide +kernel
theorem dX3_tonesTurned_16 : decode cX3_tonesTurned 16 = .ok (.iload_n 3, 1) := by decide +kernel
theorem dX3_tonesTurned_17 : decode cX3_tonesTurned 17 = .ok (.invokevirtual 25, 3) := by decide +kernel
theorem dX3_tonesTurned_20 : decode cX3_tonesTurned 20 = .ok (.i2l, 1) := by decide +kernel
theorem dX3_tonesTurned_21 : decode cX3_tonesTurned 21 = .ok (.lor, 1) := by decide +kernel
theorem dX3_tonesTurned_22 : decode cX3_tonesTurned 22 = .ok (.lstore_n 1, 1) := by decide +kernel
theorem dX3_tonesTurned_23 : decode cX3_tonesTurned 23 = .ok (.iinc 3 1, 3) := by decide +kernel
theorem dX3_tonesTurned_26 : decode cX3_tonesTurned 26 = .ok (.goto (-22), 3) := by decide +kernel
theorem dX3_tonesTurned_29 : decode cX3_tonesTurned 29 = .ok (.lload_n 1, 1) := by decide +kernel
theorem dX3_tonesTurned_30 : decode cX3_tonesTurned 30 = .ok (.lreturn, 1) := by decide +kernel
set_option maxRecDepth 20000 in
theorem ggX3_isShiftOf_X3_tone : GoodIn wsX3_isShiftOf wsX3_tone := goodIn_r _ [7, 2, 12, 13, 14, 15] (by decide +kernel) (by decide +kernel)
set_option maxRecDepth 20000 in
theorem gX3_isShiftOf_X3_tone : GoodIn wsX3_isShiftOf (wsV RX3 25 RX3 yX3_tone wsX3_tone) := goodIn_app (goodIn_of _ (by decide +kernel)) ggX3_isShiftOf_X3_tone
set_option maxRecDepth 20000 in
theorem ggX3_isShiftOf_X3_tonesShifted : GoodIn wsX3_isShiftOf wsX3_tonesShifted := goodIn_r _ [11, 1, 3, 4, 5, 6, 7, 2, 12, 13, 14, 15] (by decide +kernel) (by decide +kernel)
set_option maxRecDepth 20000 in
theorem gX3_isShiftOf_X3_tonesShifted : GoodIn wsX3_isShiftOf (wsV RX3 29 RX3 yX3_tonesShifted wsX3_tonesShifted) := goodIn_app (goodIn_of _ (by decide +kernel)) ggX3_isShiftOf_X3_tonesShifted
theorem dX3_isShiftOf_0 : decode cX3_isShiftOf 0 = .ok (.aload_n 0, 1) := by decide +kernel
theorem dX3_isShiftOf_1 : decode cX3_isShiftOf 1 = .ok (.iconst 0, 1) := by decide +kernel
theorem dX3_isShiftOf_2 : decode cX3_isShiftOf 2 = .ok (.invokevirtual 25, 3) := by decide +kernel
theorem dX3_isShiftOf_5 : decode cX3_isShiftOf 5 = .ok (.aload_n 1, 1) := by decide +kernel
theorem dX3_isShiftOf_6 : decode cX3_isShiftOf 6 = .ok (.iconst 0, 1) := by decide +kernel
theorem dX3_isShiftOf_7 : decode cX3_isShiftOf 7 = .ok (.invokevirtual 25, 3) := by decide +kernel
theorem dX3_isShiftOf_10 : decode cX3_isShiftOf 10 = .ok (.isub, 1) := by decide +kernel
theorem dX3_isShiftOf_11 : decode cX3_isShiftOf 11 = .ok (.bipush 15, 2) := by decide +kernel
theorem dX3_isShiftOf_13 : decode cX3_isShiftOf 13 = .ok (.iand, 1) := by decide +kernel
theorem dX3_isShiftOf_14 : decode cX3_isShiftOf 14 = .ok (.istore_n 2, 1) := by decide +kernel
theorem dX3_isShiftOf_15 : decode cX3_isShiftOf 15 = .ok (.aload_n 0, 1) := by decide +kernel
theorem dX3_isShiftOf_16 : decode cX3_isShiftOf 16 = .ok (.getfield 18, 3) := by decide +kernel
theorem dX3_isShiftOf_19 : decode cX3_isShiftOf 19 = .ok (.aload_n 1, 1) := by decide +kernel
theorem dX3_isShiftOf_20 : decode cX3_isShiftOf 20 = .ok (.getfield 18, 3) := by decide +kernel
theorem dX3_isShiftOf_23 : decode cX3_isShiftOf 23 = .ok (.if_icmp .ne 20, 3) := by decide +kernel
theorem dX3_isShiftOf_26 : decode cX3_isShiftOf 26 = .ok (.aload_n 0, 1) := by decide +kernel
theorem dX3_isShiftOf_27 : decode cX3_isShiftOf 27 = .ok (.getfield 21, 3) := by decide +kernel
theorem dX3_isShiftOf_30 : decode cX3_isShiftOf 30 = .ok (.aload_n 1, 1) := by decide +kernel
theorem dX3_isShiftOf_31 : decode cX3_isShiftOf 31 = .ok (.iload_n 2, 1) := by decide +kernel
theorem dX3_isShiftOf_32 : decode cX3_isShiftOf 32 = .ok (.invokevirtual 29, 3) := by decide +kernel
theorem dX3_isShiftOf_35 : decode cX3_isShiftOf 35 = .ok (.lcmp, 1) := by decide +kernel
theorem dX3_isShiftOf_36 : decode cX3_isShiftOf 36 = .ok (.ifCond .ne 7, 3) := by decide +kernel
theorem dX3_isShiftOf_39 : decode cX3_isShiftOf 39 = .ok (.iconst 1, 1) := by decide +kernel
theorem dX3_isShiftOf_40 : decode cX3_isShiftOf 40 = .ok (.goto 4, 3) := by decide +kernel
theorem dX3_isShiftOf_43 : decode cX3_isShiftOf 43 = .ok (.iconst 0, 1) := by decide +kernel
theorem dX3_isShiftOf_44 : decode cX3_isShiftOf 44 = .ok (.ireturn, 1) := by decide +kernel
set_option maxRecDepth 20000 in
theorem ggX4_init_X2_init : GoodIn wsX4_init wsX2_init := goodIn_r _ [21, 22, 2, 3, 23, 24, 10, 25, 26, 27, 28, 29, 30, 31, 32, 33, 34, 35, 36, 37, 38, 39, 40, 41, 42, 43, 44, 45, 58, 59, 60, 61, 62, 63, 64, 65, 66, 67, 68, 69, 70, 73, 74, 75, 76] (by decide +kernel) (by decide +kernel)
set_option maxRecDepth 20000 in
theorem gX4_init_X2_init : GoodIn wsX4_init (wsX2_init) := ggX4_init_X2_init
set_option maxRecDepth 20000 in
theorem ggX4_init_X1_init : GoodIn wsX4_init wsX1_init := goodIn_r _ [47, 48, 2, 3, 49, 50, 71, 72] (by decide +kernel) (by decide +kernel)
set_option maxRecDepth 20000 in
theorem gX4_init_X1_init_n44 : GoodIn wsX4_init (wsX1_init) := ggX4_init_X1_init
theorem dX4_init_0 : decode cX4_init 0 = .ok (.aload_n 0, 1) := by decide +kernel
theorem dX4_init_1 : decode cX4_init 1 = .ok (.invokespecial 1, 3) := by decide +kernel
theorem dX4_init_4 : decode cX4_init 4 = .ok (.aload_n 0, 1) := by decide +kernel
theorem dX4_init_5 : decode cX4_init 5 = .ok (.bipush 8, 2) := by decide +kernel
theorem dX4_init_7 : decode cX4_init 7 = .ok (.anewarray 9, 3) := by decide +kernel
theorem dX4_init_10 : decode cX4_init 10 = .ok (.putfield 11, 3) := by decide +kernel
theorem dX4_init_13 : decode cX4_init 13 = .ok (.aload_n 0, 1) := by decide +kernel
theorem dX4_init_14 : decode cX4_init 14 = .ok (.iconst 2, 1) := by decide +kernel
theorem dX4_init_15 : decode cX4_init 15 = .ok (.anewarray 15, 3) := by decide +kernel
theorem dX4_init_18 : decode cX4_init 18 = .ok (.putfield 17, 3) := by decide +kernel
theorem dX4_init_21 : decode cX4_init 21 = .ok (.aload_n 0, 1) := by decide +kernel
theorem dX4_init_22 : decode cX4_init 22 = .ok (.bipush 12, 2) := by decide +kernel
theorem dX4_init_24 : decode cX4_init 24 = .ok (.anewarray 21, 3) := by decide +kernel
theorem dX4_init_27 : decode cX4_init 27 = .ok (.putfield 23, 3) := by decide +kernel
theorem dX4_init_30 : decode cX4_init 30 = .ok (.aload_n 0, 1) := by decide +kernel
theorem dX4_init_31 : decode cX4_init 31 = .ok (.bipush 100, 2) := by decide +kernel
theorem dX4_init_33 : decode cX4_init 33 = .ok (.newarray .int, 2) := by decide +kernel
theorem dX4_init_35 : decode cX4_init 35 = .ok (.putfield 27, 3) := by decide +kernel
theorem dX4_init_38 : decode cX4_init 38 = .ok (.aload_n 0, 1) := by decide +kernel
theorem dX4_init_39 : decode cX4_init 39 = .ok (.iconst 0, 1) := by decide +kernel
theorem dX4_init_40 : decode cX4_init 40 = .ok (.putfield 31, 3) := by decide +kernel
theorem dX4_init_43 : decode cX4_init 43 = .ok (.aload_n 0, 1) := by decide +kernel
theorem dX4_init_44 : decode cX4_init 44 = .ok (.iconst 0, 1) := by decide +kernel
theorem dX4_init_45 : decode cX4_init 45 = .ok (.putfield 35, 3) := by decide +kernel
theorem dX4_init_48 : decode cX4_init 48 = .ok (.aload_n 0, 1) := by decide +kernel
theorem dX4_init_49 : decode cX4_init 49 = .ok (.iconst 0, 1) := by decide +kernel
theorem dX4_init_50 : decode cX4_init 50 = .ok (.putfield 38, 3) := by decide +kernel
theorem dX4_init_53 : decode cX4_init 53 = .ok (.iconst 0, 1) := by decide +kernel
theorem dX4_init_54 : decode cX4_init 54 = .ok (.istore_n 1, 1) := by decide +kernel
theorem dX4_init_55 : decode cX4_init 55 = .ok (.iload_n 1, 1) := by decide +kernel
theorem dX4_init_56 : decode cX4_init 56 = .ok (.bipush 8, 2) := by decide +kernel
theorem dX4_init_58 : decode cX4_init 58 = .ok (.if_icmp .ge 23, 3) := by decide +kernel
theorem dX4_init_61 : decode cX4_init 61 = .ok (.aload_n 0, 1) := by decide +kernel
theorem dX4_init_62 : decode cX4_init 62 = .ok (.getfield 11, 3) := by decide +kernel
theorem dX4_init_65 : decode cX4_init 65 = .ok (.iload_n 1, 1) := by decide +kernel
theorem dX4_init_66 : decode cX4_init 66 = .ok (.new 9, 3) := by decide +kernel
theorem dX4_init_69 : decode cX4_init 69 = .ok (.dup, 1) := by decide +kernel
theorem dX4_init_70 : decode cX4_init 70 = .ok (.iload_n 1, 1) := by decide +kernel
theorem dX4_init_71 : decode cX4_init 71 = .ok (.invokespecial 41, 3) := by decide +kernel
theorem dX4_init_74 : decode cX4_init 74 = .ok (.aastore, 1) := by decide +kernel
theorem dX4_init_75 : decode cX4_init 75 = .ok (.iinc 1 1, 3) := by decide +kernel
theorem dX4_init_78 : decode cX4_init 78 = .ok (.goto (-23), 3) := by decide +kernel
theorem dX4_init_81 : decode cX4_init 81 = .ok (.iconst 0, 1) := by decide +kernel
theorem dX4_init_82 : decode cX4_init 82 = .ok (.istore_n 1, 1) := by decide +kernel
theorem dX4_init_83 : decode cX4_init 83 = .ok (.iload_n 1, 1) := by decide +kernel
theorem dX4_init_84 : decode cX4_init 84 = .ok (.iconst 2, 1) := by decide +kernel
theorem dX4_init_85 : decode cX4_init 85 = .ok (.if_icmp .ge 22, 3) := by decide +kernel
theorem dX4_init_88 : decode cX4_init 88 = .ok (.aload_n 0, 1) := by decide +kernel
theorem dX4_init_89 : decode cX4_init 89 = .ok (.getfield 17, 3) := by decide +kernel
theorem dX4_init_92 : decode cX4_init 92 = .ok (.iload_n 1, 1) := by decide +kernel
theorem dX4_init_93 : decode cX4_init 93 = .ok (.new 15, 3) := by decide +kernel
theorem dX4_init_96 : decode cX4_init 96 = .ok (.dup, 1) := by decide +kernel
theorem dX4_init_97 : decode cX4_init 97 = .ok (.invokespecial 44, 3) := by decide +kernel
theorem dX4_init_100 : decode cX4_init 100 = .ok (.aastore, 1) := by decide +kernel
theorem dX4_init_101 : decode cX4_init 101 = .ok (.iinc 1 1, 3) := by decide +kernel
theorem dX4_init_104 : decode cX4_init 104 = .ok (.goto (-21), 3) := by decide +kernel
theorem dX4_init_107 : decode cX4_init 107 = .ok (.return_, 1) := by decide +kernel
set_option maxRecDepth 20000 in
theorem ggX4_addMelody_X4_checkHouse : GoodIn wsX4_addMelody wsX4_checkHouse := goodIn_ca (goodIn_r _ [14, 15, 16] (by decide +kernel) (by decide +kernel)) (goodIn_sub (fun _ h => List.mem_cons_of_mem _ (List.mem_append_right _ h)) (by decide +kernel))
set_option maxRecDepth 20000 in
theorem gX4_addMelody_X4_checkHouse : GoodIn wsX4_addMelody (wsV RX4 45 RX4 yX4_checkHouse wsX4_checkHouse) := goodIn_app (goodIn_of _ (by decide +kernel)) ggX4_addMelody_X4_checkHouse
set_option maxRecDepth 20000 in
theorem ggX4_addMelody_X3_init : GoodIn wsX4_addMelody wsX3_init := goodIn_r _ [19, 20, 21, 22, 23, 24, 25, 26, 34, 35, 36, 37] (by decide +kernel) (by decide +kernel)
set_option maxRecDepth 20000 in
theorem gX4_addMelody_X3_init : GoodIn wsX4_addMelody (wsX3_init) := ggX4_addMelody_X3_init
theorem dX4_addMelody_0 : decode cX4_addMelody 0 = .ok (.aload_n 0, 1) := by decide +kernel
theorem dX4_addMelody_1 : decode cX4_addMelody 1 = .ok (.iload_n 1, 1) := by decide +kernel
theorem dX4_addMelody_2 : decode cX4_addMelody 2 = .ok (.invokevirtual 45, 3) := by decide +kernel
theorem dX4_addMelody_5 : decode cX4_addMelody 5 = .ok (.iload_n 2, 1) := by decide +kernel
theorem dX4_addMelody_6 : decode cX4_addMelody 6 = .ok (.iconst 1, 1) := by decide +kernel
theorem dX4_addMelody_7 : decode cX4_addMelody 7 = .ok (.if_icmp .lt 9, 3) := by decide +kernel
theorem dX4_addMelody_10 : decode cX4_addMelody 10 = .ok (.iload_n 2, 1) := by decide +kernel
theorem dX4_addMelody_11 : decode cX4_addMelody 11 = .ok (.bipush 12, 2) := by decide +kernel
theorem dX4_addMelody_13 : decode cX4_addMelody 13 = .ok (.if_icmp .le 13, 3) := by decide +kernel
theorem dX4_addMelody_16 : decode cX4_addMelody 16 = .ok (.new 48, 3) := by decide +kernel
theorem dX4_addMelody_19 : decode cX4_addMelody 19 = .ok (.dup, 1) := by decide +kernel
theorem dX4_addMelody_20 : decode cX4_addMelody 20 = .ok (.ldc 50, 2) := by decide +kernel
theorem dX4_addMelody_22 : decode cX4_addMelody 22 = .ok (.invokespecial 52, 3) := by decide +kernel
theorem dX4_addMelody_25 : decode cX4_addMelody 25 = .ok (.athrow, 1) := by decide +kernel
theorem dX4_addMelody_26 : decode cX4_addMelody 26 = .ok (.lload_n 3, 1) := by decide +kernel
theorem dX4_addMelody_27 : decode cX4_addMelody 27 = .ok (.lconst 0, 1) := by decide +kernel
theorem dX4_addMelody_28 : decode cX4_addMelody 28 = .ok (.lcmp, 1) := by decide +kernel
theorem dX4_addMelody_29 : decode cX4_addMelody 29 = .ok (.ifCond .lt 13, 3) := by decide +kernel
theorem dX4_addMelody_32 : decode cX4_addMelody 32 = .ok (.lload_n 3, 1) := by decide +kernel
theorem dX4_addMelody_33 : decode cX4_addMelody 33 = .ok (.iconst 4, 1) := by decide +kernel
theorem dX4_addMelody_34 : decode cX4_addMelody 34 = .ok (.iload_n 2, 1) := by decide +kernel
theorem dX4_addMelody_35 : decode cX4_addMelody 35 = .ok (.imul, 1) := by decide +kernel
theorem dX4_addMelody_36 : decode cX4_addMelody 36 = .ok (.lshr, 1) := by decide +kernel
theorem dX4_addMelody_37 : decode cX4_addMelody 37 = .ok (.lconst 0, 1) := by decide +kernel
theorem dX4_addMelody_38 : decode cX4_addMelody 38 = .ok (.lcmp, 1) := by decide +kernel
theorem dX4_addMelody_39 : decode cX4_addMelody 39 = .ok (.ifCond .eq 13, 3) := by decide +kernel
theorem dX4_addMelody_42 : decode cX4_addMelody 42 = .ok (.new 48, 3) := by decide +kernel
theorem dX4_addMelody_45 : decode cX4_addMelody 45 = .ok (.dup, 1) := by decide +kernel
theorem dX4_addMelody_46 : decode cX4_addMelody 46 = .ok (.ldc 55, 2) := by decide +kernel
theorem dX4_addMelody_48 : decode cX4_addMelody 48 = .ok (.invokespecial 52, 3) := by decide +kernel
theorem dX4_addMelody_51 : decode cX4_addMelody 51 = .ok (.athrow, 1) := by decide +kernel
theorem dX4_addMelody_52 : decode cX4_addMelody 52 = .ok (.aload_n 0, 1) := by decide +kernel
theorem dX4_addMelody_53 : decode cX4_addMelody 53 = .ok (.getfield 31, 3) := by decide +kernel
theorem dX4_addMelody_56 : decode cX4_addMelody 56 = .ok (.bipush 12, 2) := by decide +kernel
theorem dX4_addMelody_58 : decode cX4_addMelody 58 = .ok (.if_icmp .lt 13, 3) := by decide +kernel
theorem dX4_addMelody_61 : decode cX4_addMelody 61 = .ok (.new 57, 3) := by decide +kernel
theorem dX4_addMelody_64 : decode cX4_addMelody 64 = .ok (.dup, 1) := by decide +kernel
theorem dX4_addMelody_65 : decode cX4_addMelody 65 = .ok (.ldc 59, 2) := by decide +kernel
theorem dX4_addMelody_67 : decode cX4_addMelody 67 = .ok (.invokespecial 61, 3) := by decide +kernel
theorem dX4_addMelody_70 : decode cX4_addMelody 70 = .ok (.athrow, 1) := by decide +kernel
theorem dX4_addMelody_71 : decode cX4_addMelody 71 = .ok (.aload_n 0, 1) := by decide +kernel
theorem dX4_addMelody_72 : decode cX4_addMelody 72 = .ok (.getfield 31, 3) := by decide +kernel
theorem dX4_addMelody_75 : decode cX4_addMelody 75 = .ok (.istore 5, 2) := by decide +kernel
theorem dX4_addMelody_77 : decode cX4_addMelody 77 = .ok (.aload_n 0, 1) := by decide +kernel
theorem dX4_addMelody_78 : decode cX4_addMelody 78 = .ok (.getfield 23, 3) := by decide +kernel
theorem dX4_addMelody_81 : decode cX4_addMelody 81 = .ok (.iload 5, 2) := by decide +kernel
theorem dX4_addMelody_83 : decode cX4_addMelody 83 = .ok (.new 21, 3) := by decide +kernel
theorem dX4_addMelody_86 : decode cX4_addMelody 86 = .ok (.dup, 1) := by decide +kernel
theorem dX4_addMelody_87 : decode cX4_addMelody 87 = .ok (.iload 5, 2) := by decide +kernel
theorem dX4_addMelody_89 : decode cX4_addMelody 89 = .ok (.iload_n 1, 1) := by decide +kernel
theorem dX4_addMelody_90 : decode cX4_addMelody 90 = .ok (.iload_n 2, 1) := by decide +kernel
theorem dX4_addMelody_91 : decode cX4_addMelody 91 = .ok (.lload_n 3, 1) := by decide +kernel
theorem dX4_addMelody_92 : decode cX4_addMelody 92 = .ok (.invokespecial 62, 3) := by decide +kernel
theorem dX4_addMelody_95 : decode cX4_addMelody 95 = .ok (.aastore, 1) := by decide +kernel
theorem dX4_addMelody_96 : decode cX4_addMelody 96 = .ok (.aload_n 0, 1) := by decide +kernel
theorem dX4_addMelody_97 : decode cX4_addMelody 97 = .ok (.dup, 1) := by decide +kernel
theorem dX4_addMelody_98 : decode cX4_addMelody 98 = .ok (.getfield 31, 3) := by decide +kernel
theorem dX4_addMelody_101 : decode cX4_addMelody 101 = .ok (.iconst 1, 1) := by decide +kernel
theorem dX4_addMelody_102 : decode cX4_addMelody 102 = .ok (.iadd, 1) := by decide +kernel
theorem dX4_addMelody_103 : decode cX4_addMelody 103 = .ok (.putfield 31, 3) := by decide +kernel
theorem dX4_addMelody_106 : decode cX4_addMelody 106 = .ok (.iload 5, 2) := by decide +kernel
theorem dX4_addMelody_108 : decode cX4_addMelody 108 = .ok (.ireturn, 1) := by decide +kernel
set_option maxRecDepth 20000 in
theorem ggX4_toneAt_X4_melodyAt : GoodIn wsX4_toneAt wsX4_melodyAt := goodIn_ca (goodIn_r _ [7, 1, 2, 8, 19, 20, 21, 22, 23, 24, 25] (by decide +kernel) (by decide +kernel)) (goodIn_sub (fun _ h => List.mem_cons_of_mem _ (List.mem_append_right _ h)) (by decide +kernel))
set_option maxRecDepth 20000 in
theorem gX4_toneAt_X4_melodyAt : GoodIn wsX4_toneAt (wsV RX4 65 RX4 yX4_melodyAt wsX4_melodyAt) := goodIn_app (goodIn_of _ (by decide +kernel)) ggX4_toneAt_X4_melodyAt
set_option maxRecDepth 20000 in
theorem ggX4_toneAt_X3_tone : GoodIn wsX4_toneAt wsX3_tone := goodIn_r _ [13, 14, 15, 16, 17, 18] (by decide +kernel) (by decide +kernel)
set_option maxRecDepth 20000 in
theorem gX4_toneAt_X3_tone : GoodIn wsX4_toneAt (wsV RX4 77 RX3 yX3_tone wsX3_tone) := goodIn_app (goodIn_of _ (by decide +kernel)) ggX4_toneAt_X3_tone
theorem dX4_toneAt_0 : decode cX4_toneAt 0 = .ok (.aload_n 0, 1) := by decide +kernel
theorem dX4_toneAt_1 : decode cX4_toneAt 1 = .ok (.iload_n 1, 1) := by decide +kernel
theorem dX4_toneAt_2 : decode cX4_toneAt 2 = .ok (.invokevirtual 65, 3) := by decide +kernel
theorem dX4_toneAt_5 : decode cX4_toneAt 5 = .ok (.astore_n 3, 1) := by decide +kernel
theorem dX4_toneAt_6 : decode cX4_toneAt 6 = .ok (.iload_n 2, 1) := by decide +kernel
theorem dX4_toneAt_7 : decode cX4_toneAt 7 = .ok (.ifCond .lt 11, 3) := by decide +kernel
theorem dX4_toneAt_10 : decode cX4_toneAt 10 = .ok (.iload_n 2, 1) := by decide +kernel
theorem dX4_toneAt_11 : decode cX4_toneAt 11 = .ok (.aload_n 3, 1) := by decide +kernel
theorem dX4_toneAt_12 : decode cX4_toneAt 12 = .ok (.getfield 69, 3) := by decide +kernel
theorem dX4_toneAt_15 : decode cX4_toneAt 15 = .ok (.if_icmp .lt 13, 3) := by decide +kernel
theorem dX4_toneAt_18 : decode cX4_toneAt 18 = .ok (.new 72, 3) := by decide +kernel
theorem dX4_toneAt_21 : decode cX4_toneAt 21 = .ok (.dup, 1) := by decide +kernel
theorem dX4_toneAt_22 : decode cX4_toneAt 22 = .ok (.ldc 74, 2) := by decide +kernel
theorem dX4_toneAt_24 : decode cX4_toneAt 24 = .ok (.invokespecial 76, 3) := by decide +kernel
theorem dX4_toneAt_27 : decode cX4_toneAt 27 = .ok (.athrow, 1) := by decide +kernel
theorem dX4_toneAt_28 : decode cX4_toneAt 28 = .ok (.aload_n 3, 1) := by decide +kernel
theorem dX4_toneAt_29 : decode cX4_toneAt 29 = .ok (.iload_n 2, 1) := by decide +kernel
theorem dX4_toneAt_30 : decode cX4_toneAt 30 = .ok (.invokevirtual 77, 3) := by decide +kernel
theorem dX4_toneAt_33 : decode cX4_toneAt 33 = .ok (.ireturn, 1) := by decide +kernel
set_option maxRecDepth 20000 in
theorem ggX4_shifted_X4_melodyAt : GoodIn wsX4_shifted wsX4_melodyAt := goodIn_ca (goodIn_r _ [7, 8, 9, 10, 22, 23, 24, 25, 26, 27, 28] (by decide +kernel) (by decide +kernel)) (goodIn_sub (fun _ h => List.mem_cons_of_mem _ (List.mem_append_right _ h)) (by decide +kernel))
set_option maxRecDepth 20000 in
theorem gX4_shifted_X4_melodyAt : GoodIn wsX4_shifted (wsV RX4 65 RX4 yX4_melodyAt wsX4_melodyAt) := goodIn_app (goodIn_of _ (by decide +kernel)) ggX4_shifted_X4_melodyAt
set_option maxRecDepth 20000 in
theorem ggX4_shifted_X3_tonesShifted : GoodIn wsX4_shifted wsX3_tonesShifted := goodIn_r _ [15, 16, 17, 18, 19, 14, 20, 21, 29, 30, 31, 32] (by decide +kernel) (by decide +kernel)
set_option maxRecDepth 20000 in
theorem gX4_shifted_X3_tonesShifted : GoodIn wsX4_shifted (wsV RX4 83 RX3 yX3_tonesShifted wsX3_tonesShifted) := goodIn_app (goodIn_of _ (by decide +kernel)) ggX4_shifted_X3_tonesShifted
theorem dX4_shifted_0 : decode cX4_shifted 0 = .ok (.aload_n 0, 1) := by decide +kernel
theorem dX4_shifted_1 : decode cX4_shifted 1 = .ok (.iload_n 1, 1) := by decide +kernel
theorem dX4_shifted_2 : decode cX4_shifted 2 = .ok (.invokevirtual 65, 3) := by decide +kernel
theorem dX4_shifted_5 : decode cX4_shifted 5 = .ok (.astore_n 3, 1) := by decide +kernel
theorem dX4_shifted_6 : decode cX4_shifted 6 = .ok (.iload_n 2, 1) := by decide +kernel
theorem dX4_shifted_7 : decode cX4_shifted 7 = .ok (.ifCond .lt 9, 3) := by decide +kernel
theorem dX4_shifted_10 : decode cX4_shifted 10 = .ok (.iload_n 2, 1) := by decide +kernel
theorem dX4_shifted_11 : decode cX4_shifted 11 = .ok (.bipush 15, 2) := by decide +kernel
theorem dX4_shifted_13 : decode cX4_shifted 13 = .ok (.if_icmp .le 13, 3) := by decide +kernel
theorem dX4_shifted_16 : decode cX4_shifted 16 = .ok (.new 48, 3) := by decide +kernel
theorem dX4_shifted_19 : decode cX4_shifted 19 = .ok (.dup, 1) := by decide +kernel
theorem dX4_shifted_20 : decode cX4_shifted 20 = .ok (.ldc 81, 2) := by decide +kernel
theorem dX4_shifted_22 : decode cX4_shifted 22 = .ok (.invokespecial 52, 3) := by decide +kernel
theorem dX4_shifted_25 : decode cX4_shifted 25 = .ok (.athrow, 1) := by decide +kernel
theorem dX4_shifted_26 : decode cX4_shifted 26 = .ok (.aload_n 3, 1) := by decide +kernel
theorem dX4_shifted_27 : decode cX4_shifted 27 = .ok (.iload_n 2, 1) := by decide +kernel
theorem dX4_shifted_28 : decode cX4_shifted 28 = .ok (.invokevirtual 83, 3) := by decide +kernel
theorem dX4_shifted_31 : decode cX4_shifted 31 = .ok (.lreturn, 1) := by decide +kernel
set_option maxRecDepth 20000 in
theorem ggX4_turned_X4_melodyAt : GoodIn wsX4_turned wsX4_melodyAt := goodIn_ca (goodIn_r _ [5, 6, 7, 8, 20, 21, 22, 23, 24, 25, 26] (by decide +kernel) (by decide +kernel)) (goodIn_sub (fun _ h => List.mem_cons_of_mem _ (List.mem_append_right _ h)) (by decide +kernel))
set_option maxRecDepth 20000 in
theorem gX4_turned_X4_melodyAt : GoodIn wsX4_turned (wsV RX4 65 RX4 yX4_melodyAt wsX4_melodyAt) := goodIn_app (goodIn_of _ (by decide +kernel)) ggX4_turned_X4_melodyAt
set_option maxRecDepth 20000 in
theorem ggX4_turned_X3_tonesTurned : GoodIn wsX4_turned wsX3_tonesTurned := goodIn_r _ [13, 14, 15, 16, 17, 12, 18, 19, 27, 28, 29, 30] (by decide +kernel) (by decide +kernel)
set_option maxRecDepth 20000 in
theorem gX4_turned_X3_tonesTurned : GoodIn wsX4_turned (wsV RX4 87 RX3 yX3_tonesTurned wsX3_tonesTurned) := goodIn_app (goodIn_of _ (by decide +kernel)) ggX4_turned_X3_tonesTurned
theorem dX4_turned_0 : decode cX4_turned 0 = .ok (.aload_n 0, 1) := by decide +kernel
theorem dX4_turned_1 : decode cX4_turned 1 = .ok (.iload_n 1, 1) := by decide +kernel
theorem dX4_turned_2 : decode cX4_turned 2 = .ok (.invokevirtual 65, 3) := by decide +kernel
theorem dX4_turned_5 : decode cX4_turned 5 = .ok (.invokevirtual 87, 3) := by decide +kernel
theorem dX4_turned_8 : decode cX4_turned 8 = .ok (.lreturn, 1) := by decide +kernel
set_option maxRecDepth 20000 in
theorem ggX4_areAlike_X4_melodyAt : GoodIn wsX4_areAlike wsX4_melodyAt := goodIn_ca (goodIn_r _ [5, 6, 7, 8, 24, 25, 26, 27, 28, 29, 30] (by decide +kernel) (by decide +kernel)) (goodIn_sub (fun _ h => List.mem_cons_of_mem _ (List.mem_append_right _ h)) (by decide +kernel))
set_option maxRecDepth 20000 in
theorem gX4_areAlike_X4_melodyAt : GoodIn wsX4_areAlike (wsV RX4 65 RX4 yX4_melodyAt wsX4_melodyAt) := goodIn_app (goodIn_of _ (by decide +kernel)) ggX4_areAlike_X4_melodyAt
set_option maxRecDepth 20000 in
theorem ggX4_areAlike_X3_isShiftOf : GoodIn wsX4_areAlike wsX3_isShiftOf := goodIn_r _ [13, 14, 15, 16, 17, 18, 12, 19, 20, 21, 22, 23, 31, 32, 33, 34] (by decide +kernel) (by decide +kernel)
set_option maxRecDepth 20000 in
theorem gX4_areAlike_X3_isShiftOf : GoodIn wsX4_areAlike (wsV RX4 91 RX3 yX3_isShiftOf wsX3_isShiftOf) := goodIn_app (goodIn_of _ (by decide +kernel)) ggX4_areAlike_X3_isShiftOf
theorem dX4_areAlike_0 : decode cX4_areAlike 0 = .ok (.aload_n 0, 1) := by decide +kernel
theorem dX4_areAlike_1 : decode cX4_areAlike 1 = .ok (.iload_n 1, 1) := by decide +kernel
theorem dX4_areAlike_2 : decode cX4_areAlike 2 = .ok (.invokevirtual 65, 3) := by decide +kernel
theorem dX4_areAlike_5 : decode cX4_areAlike 5 = .ok (.aload_n 0, 1) := by decide +kernel
theorem dX4_areAlike_6 : decode cX4_areAlike 6 = .ok (.iload_n 2, 1) := by decide +kernel
theorem dX4_areAlike_7 : decode cX4_areAlike 7 = .ok (.invokevirtual 65, 3) := by decide +kernel
theorem dX4_areAlike_10 : decode cX4_areAlike 10 = .ok (.invokevirtual 91, 3) := by decide +kernel
theorem dX4_areAlike_13 : decode cX4_areAlike 13 = .ok (.ireturn, 1) := by decide +kernel
set_option maxRecDepth 20000 in
theorem ggX4_license_X4_houseAt : GoodIn wsX4_license wsX4_houseAt := goodIn_ca (goodIn_r _ [9, 10, 11, 12, 13, 8, 14, 15, 16, 39, 40, 41, 42, 43, 44, 45] (by decide +kernel) (by decide +kernel)) (goodIn_sub (fun _ h => List.mem_cons_of_mem _ (List.mem_append_right _ h)) (by decide +kernel))
set_option maxRecDepth 20000 in
theorem gX4_license_X4_houseAt : GoodIn wsX4_license (wsV RX4 95 RX4 yX4_houseAt wsX4_houseAt) := goodIn_app (goodIn_of _ (by decide +kernel)) ggX4_license_X4_houseAt
set_option maxRecDepth 20000 in
theorem ggX4_license_X4_melodyAt : GoodIn wsX4_license wsX4_melodyAt := goodIn_ca (goodIn_r _ [20, 15, 16, 21, 39, 40, 41, 42, 43, 44, 45] (by decide +kernel) (by decide +kernel)) (goodIn_sub (fun _ h => List.mem_cons_of_mem _ (List.mem_append_right _ h)) (by decide +kernel))
set_option maxRecDepth 20000 in
theorem gX4_license_X4_melodyAt : GoodIn wsX4_license (wsV RX4 65 RX4 yX4_melodyAt wsX4_melodyAt) := goodIn_app (goodIn_of _ (by decide +kernel)) ggX4_license_X4_melodyAt
theorem dX4_license_0 : decode cX4_license 0 = .ok (.aload_n 0, 1) := by decide +kernel
theorem dX4_license_1 : decode cX4_license 1 = .ok (.iload_n 1, 1) := by decide +kernel
theorem dX4_license_2 : decode cX4_license 2 = .ok (.invokevirtual 95, 3) := by decide +kernel
theorem dX4_license_5 : decode cX4_license 5 = .ok (.astore 4, 2) := by decide +kernel
theorem dX4_license_7 : decode cX4_license 7 = .ok (.aload_n 0, 1) := by decide +kernel
theorem dX4_license_8 : decode cX4_license 8 = .ok (.iload_n 2, 1) := by decide +kernel
theorem dX4_license_9 : decode cX4_license 9 = .ok (.invokevirtual 65, 3) := by decide +kernel
theorem dX4_license_12 : decode cX4_license 12 = .ok (.astore 5, 2) := by decide +kernel
theorem dX4_license_14 : decode cX4_license 14 = .ok (.iload_n 3, 1) := by decide +kernel
theorem dX4_license_15 : decode cX4_license 15 = .ok (.iconst 1, 1) := by decide +kernel
theorem dX4_license_16 : decode cX4_license 16 = .ok (.if_icmp .lt 10, 3) := by decide +kernel
theorem dX4_license_19 : decode cX4_license 19 = .ok (.iload_n 3, 1) := by decide +kernel
theorem dX4_license_20 : decode cX4_license 20 = .ok (.sipush 1000, 3) := by decide +kernel
theorem dX4_license_23 : decode cX4_license 23 = .ok (.if_icmp .le 13, 3) := by decide +kernel
theorem dX4_license_26 : decode cX4_license 26 = .ok (.new 48, 3) := by decide +kernel
theorem dX4_license_29 : decode cX4_license 29 = .ok (.dup, 1) := by decide +kernel
theorem dX4_license_30 : decode cX4_license 30 = .ok (.ldc 99, 2) := by decide +kernel
theorem dX4_license_32 : decode cX4_license 32 = .ok (.invokespecial 52, 3) := by decide +kernel
theorem dX4_license_35 : decode cX4_license 35 = .ok (.athrow, 1) := by decide +kernel
theorem dX4_license_36 : decode cX4_license 36 = .ok (.aload 5, 2) := by decide +kernel
theorem dX4_license_38 : decode cX4_license 38 = .ok (.getfield 101, 3) := by decide +kernel
theorem dX4_license_41 : decode cX4_license 41 = .ok (.iload_n 1, 1) := by decide +kernel
theorem dX4_license_42 : decode cX4_license 42 = .ok (.if_icmp .ne 13, 3) := by decide +kernel
theorem dX4_license_45 : decode cX4_license 45 = .ok (.new 57, 3) := by decide +kernel
theorem dX4_license_48 : decode cX4_license 48 = .ok (.dup, 1) := by decide +kernel
theorem dX4_license_49 : decode cX4_license 49 = .ok (.ldc 104, 2) := by decide +kernel
theorem dX4_license_51 : decode cX4_license 51 = .ok (.invokespecial 61, 3) := by decide +kernel
theorem dX4_license_54 : decode cX4_license 54 = .ok (.athrow, 1) := by decide +kernel
theorem dX4_license_55 : decode cX4_license 55 = .ok (.aload 4, 2) := by decide +kernel
theorem dX4_license_57 : decode cX4_license 57 = .ok (.getfield 106, 3) := by decide +kernel
theorem dX4_license_60 : decode cX4_license 60 = .ok (.iload_n 2, 1) := by decide +kernel
theorem dX4_license_61 : decode cX4_license 61 = .ok (.iaload, 1) := by decide +kernel
theorem dX4_license_62 : decode cX4_license 62 = .ok (.iload_n 3, 1) := by decide +kernel
theorem dX4_license_63 : decode cX4_license 63 = .ok (.iadd, 1) := by decide +kernel
theorem dX4_license_64 : decode cX4_license 64 = .ok (.sipush 1000, 3) := by decide +kernel
theorem dX4_license_67 : decode cX4_license 67 = .ok (.if_icmp .le 13, 3) := by decide +kernel
theorem dX4_license_70 : decode cX4_license 70 = .ok (.new 57, 3) := by decide +kernel
theorem dX4_license_73 : decode cX4_license 73 = .ok (.dup, 1) := by decide +kernel
theorem dX4_license_74 : decode cX4_license 74 = .ok (.ldc 109, 2) := by decide +kernel
theorem dX4_license_76 : decode cX4_license 76 = .ok (.invokespecial 61, 3) := by decide +kernel
theorem dX4_license_79 : decode cX4_license 79 = .ok (.athrow, 1) := by decide +kernel
theorem dX4_license_80 : decode cX4_license 80 = .ok (.aload 4, 2) := by decide +kernel
theorem dX4_license_82 : decode cX4_license 82 = .ok (.getfield 106, 3) := by decide +kernel
theorem dX4_license_85 : decode cX4_license 85 = .ok (.iload_n 2, 1) := by decide +kernel
theorem dX4_license_86 : decode cX4_license 86 = .ok (.dup2, 1) := by decide +kernel
theorem dX4_license_87 : decode cX4_license 87 = .ok (.iaload, 1) := by decide +kernel
theorem dX4_license_88 : decode cX4_license 88 = .ok (.iload_n 3, 1) := by decide +kernel
theorem dX4_license_89 : decode cX4_license 89 = .ok (.iadd, 1) := by decide +kernel
theorem dX4_license_90 : decode cX4_license 90 = .ok (.iastore, 1) := by decide +kernel
theorem dX4_license_91 : decode cX4_license 91 = .ok (.aload 4, 2) := by decide +kernel
theorem dX4_license_93 : decode cX4_license 93 = .ok (.getfield 106, 3) := by decide +kernel
theorem dX4_license_96 : decode cX4_license 96 = .ok (.iload_n 2, 1) := by decide +kernel
theorem dX4_license_97 : decode cX4_license 97 = .ok (.iaload, 1) := by decide +kernel
theorem dX4_license_98 : decode cX4_license 98 = .ok (.ireturn, 1) := by decide +kernel
set_option maxRecDepth 20000 in
theorem ggX4_setQuiet_X4_houseAt : GoodIn wsX4_setQuiet wsX4_houseAt := goodIn_ca (goodIn_r _ [8, 9, 10, 11, 12, 7, 13, 14, 15, 50, 51, 52, 53, 54, 55, 56] (by decide +kernel) (by decide +kernel)) (goodIn_sub (fun _ h => List.mem_cons_of_mem _ (List.mem_append_right _ h)) (by decide +kernel))
set_option maxRecDepth 20000 in
theorem gX4_setQuiet_X4_houseAt : GoodIn wsX4_setQuiet (wsV RX4 95 RX4 yX4_houseAt wsX4_houseAt) := goodIn_app (goodIn_of _ (by decide +kernel)) ggX4_setQuiet_X4_houseAt
set_option maxRecDepth 20000 in
theorem ggX4_setQuiet_X2_isQuietAt : GoodIn wsX4_setQuiet wsX2_isQuietAt := goodIn_r _ [20, 21, 22, 23, 19, 24, 25, 26, 27, 28, 29, 30, 31, 32, 33, 34, 35, 36, 37, 38, 39, 40, 41, 42, 43, 44, 45, 46, 47, 48, 49] (by decide +kernel) (by decide +kernel)
set_option maxRecDepth 20000 in
theorem gX4_setQuiet_X2_isQuietAt : GoodIn wsX4_setQuiet (wsV RX4 119 RX2 yX2_isQuietAt wsX2_isQuietAt) := goodIn_app (goodIn_of _ (by decide +kernel)) ggX4_setQuiet_X2_isQuietAt
theorem dX4_setQuiet_0 : decode cX4_setQuiet 0 = .ok (.aload_n 0, 1) := by decide +kernel
theorem dX4_setQuiet_1 : decode cX4_setQuiet 1 = .ok (.iload_n 1, 1) := by decide +kernel
theorem dX4_setQuiet_2 : decode cX4_setQuiet 2 = .ok (.invokevirtual 95, 3) := by decide +kernel
theorem dX4_setQuiet_5 : decode cX4_setQuiet 5 = .ok (.astore 4, 2) := by decide +kernel
theorem dX4_setQuiet_7 : decode cX4_setQuiet 7 = .ok (.iload_n 2, 1) := by decide +kernel
theorem dX4_setQuiet_8 : decode cX4_setQuiet 8 = .ok (.ifCond .lt 21, 3) := by decide +kernel
theorem dX4_setQuiet_11 : decode cX4_setQuiet 11 = .ok (.iload_n 2, 1) := by decide +kernel
theorem dX4_setQuiet_12 : decode cX4_setQuiet 12 = .ok (.sipush 1000, 3) := by decide +kernel
theorem dX4_setQuiet_15 : decode cX4_setQuiet 15 = .ok (.if_icmp .ge 14, 3) := by decide +kernel
theorem dX4_setQuiet_18 : decode cX4_setQuiet 18 = .ok (.iload_n 3, 1) := by decide +kernel
theorem dX4_setQuiet_19 : decode cX4_setQuiet 19 = .ok (.ifCond .lt 10, 3) := by decide +kernel
theorem dX4_setQuiet_22 : decode cX4_setQuiet 22 = .ok (.iload_n 3, 1) := by decide +kernel
theorem dX4_setQuiet_23 : decode cX4_setQuiet 23 = .ok (.sipush 1000, 3) := by decide +kernel
theorem dX4_setQuiet_26 : decode cX4_setQuiet 26 = .ok (.if_icmp .lt 13, 3) := by decide +kernel
theorem dX4_setQuiet_29 : decode cX4_setQuiet 29 = .ok (.new 48, 3) := by decide +kernel
theorem dX4_setQuiet_32 : decode cX4_setQuiet 32 = .ok (.dup, 1) := by decide +kernel
theorem dX4_setQuiet_33 : decode cX4_setQuiet 33 = .ok (.ldc 111, 2) := by decide +kernel
theorem dX4_setQuiet_35 : decode cX4_setQuiet 35 = .ok (.invokespecial 52, 3) := by decide +kernel
theorem dX4_setQuiet_38 : decode cX4_setQuiet 38 = .ok (.athrow, 1) := by decide +kernel
theorem dX4_setQuiet_39 : decode cX4_setQuiet 39 = .ok (.aload 4, 2) := by decide +kernel
theorem dX4_setQuiet_41 : decode cX4_setQuiet 41 = .ok (.iload_n 2, 1) := by decide +kernel
theorem dX4_setQuiet_42 : decode cX4_setQuiet 42 = .ok (.putfield 113, 3) := by decide +kernel
theorem dX4_setQuiet_45 : decode cX4_setQuiet 45 = .ok (.aload 4, 2) := by decide +kernel
theorem dX4_setQuiet_47 : decode cX4_setQuiet 47 = .ok (.iload_n 3, 1) := by decide +kernel
theorem dX4_setQuiet_48 : decode cX4_setQuiet 48 = .ok (.putfield 116, 3) := by decide +kernel
theorem dX4_setQuiet_51 : decode cX4_setQuiet 51 = .ok (.aload 4, 2) := by decide +kernel
theorem dX4_setQuiet_53 : decode cX4_setQuiet 53 = .ok (.aload_n 0, 1) := by decide +kernel
theorem dX4_setQuiet_54 : decode cX4_setQuiet 54 = .ok (.getfield 38, 3) := by decide +kernel
theorem dX4_setQuiet_57 : decode cX4_setQuiet 57 = .ok (.invokevirtual 119, 3) := by decide +kernel
theorem dX4_setQuiet_60 : decode cX4_setQuiet 60 = .ok (.ireturn, 1) := by decide +kernel
set_option maxRecDepth 20000 in
theorem ggX4_lay_X4_bellAt : GoodIn wsX4_lay wsX4_bellAt := goodIn_ca (goodIn_r _ [7, 8, 9, 10, 11, 12, 6, 13, 14, 15, 16, 17, 18, 32, 33, 34, 35, 36, 37, 38, 39, 40, 41, 42, 43, 44, 45, 46, 47, 48, 49, 50, 51] (by decide +kernel) (by decide +kernel)) (goodIn_sub (fun _ h => List.mem_cons_of_mem _ (List.mem_append_right _ h)) (by decide +kernel))
set_option maxRecDepth 20000 in
theorem gX4_lay_X4_bellAt : GoodIn wsX4_lay (wsV RX4 123 RX4 yX4_bellAt wsX4_bellAt) := goodIn_app (goodIn_of _ (by decide +kernel)) ggX4_lay_X4_bellAt
set_option maxRecDepth 20000 in
theorem ggX4_lay_X4_melodyAt : GoodIn wsX4_lay wsX4_melodyAt := goodIn_ca (goodIn_r _ [22, 8, 9, 23, 45, 46, 47, 48, 49, 50, 51] (by decide +kernel) (by decide +kernel)) (goodIn_sub (fun _ h => List.mem_cons_of_mem _ (List.mem_append_right _ h)) (by decide +kernel))
set_option maxRecDepth 20000 in
theorem gX4_lay_X4_melodyAt : GoodIn wsX4_lay (wsV RX4 65 RX4 yX4_melodyAt wsX4_melodyAt) := goodIn_app (goodIn_of _ (by decide +kernel)) ggX4_lay_X4_melodyAt
theorem dX4_lay_0 : decode cX4_lay 0 = .ok (.aload_n 0, 1) := by decide +kernel
theorem dX4_lay_1 : decode cX4_lay 1 = .ok (.iload_n 1, 1) := by decide +kernel
theorem dX4_lay_2 : decode cX4_lay 2 = .ok (.iload_n 2, 1) := by decide +kernel
theorem dX4_lay_3 : decode cX4_lay 3 = .ok (.invokevirtual 123, 3) := by decide +kernel
theorem dX4_lay_6 : decode cX4_lay 6 = .ok (.astore 5, 2) := by decide +kernel
theorem dX4_lay_8 : decode cX4_lay 8 = .ok (.iload_n 3, 1) := by decide +kernel
theorem dX4_lay_9 : decode cX4_lay 9 = .ok (.iconst (-1), 1) := by decide +kernel
theorem dX4_lay_10 : decode cX4_lay 10 = .ok (.if_icmp .ne 7, 3) := by decide +kernel
theorem dX4_lay_13 : decode cX4_lay 13 = .ok (.aconst_null, 1) := by decide +kernel
theorem dX4_lay_14 : decode cX4_lay 14 = .ok (.goto 8, 3) := by decide +kernel
theorem dX4_lay_17 : decode cX4_lay 17 = .ok (.aload_n 0, 1) := by decide +kernel
theorem dX4_lay_18 : decode cX4_lay 18 = .ok (.iload_n 3, 1) := by decide +kernel
theorem dX4_lay_19 : decode cX4_lay 19 = .ok (.invokevirtual 65, 3) := by decide +kernel
theorem dX4_lay_22 : decode cX4_lay 22 = .ok (.astore 6, 2) := by decide +kernel
theorem dX4_lay_24 : decode cX4_lay 24 = .ok (.iload 4, 2) := by decide +kernel
theorem dX4_lay_26 : decode cX4_lay 26 = .ok (.iconst 1, 1) := by decide +kernel
theorem dX4_lay_27 : decode cX4_lay 27 = .ok (.if_icmp .lt 10, 3) := by decide +kernel
theorem dX4_lay_30 : decode cX4_lay 30 = .ok (.iload 4, 2) := by decide +kernel
theorem dX4_lay_32 : decode cX4_lay 32 = .ok (.bipush 9, 2) := by decide +kernel
theorem dX4_lay_34 : decode cX4_lay 34 = .ok (.if_icmp .le 13, 3) := by decide +kernel
theorem dX4_lay_37 : decode cX4_lay 37 = .ok (.new 48, 3) := by decide +kernel
theorem dX4_lay_40 : decode cX4_lay 40 = .ok (.dup, 1) := by decide +kernel
theorem dX4_lay_41 : decode cX4_lay 41 = .ok (.ldc 127, 2) := by decide +kernel
theorem dX4_lay_43 : decode cX4_lay 43 = .ok (.invokespecial 52, 3) := by decide +kernel
theorem dX4_lay_46 : decode cX4_lay 46 = .ok (.athrow, 1) := by decide +kernel
theorem dX4_lay_47 : decode cX4_lay 47 = .ok (.aload 5, 2) := by decide +kernel
theorem dX4_lay_49 : decode cX4_lay 49 = .ok (.getfield 129, 3) := by decide +kernel
theorem dX4_lay_52 : decode cX4_lay 52 = .ok (.astore 7, 2) := by decide +kernel
theorem dX4_lay_54 : decode cX4_lay 54 = .ok (.aload 5, 2) := by decide +kernel
theorem dX4_lay_56 : decode cX4_lay 56 = .ok (.aload 6, 2) := by decide +kernel
theorem dX4_lay_58 : decode cX4_lay 58 = .ok (.putfield 129, 3) := by decide +kernel
theorem dX4_lay_61 : decode cX4_lay 61 = .ok (.aload 5, 2) := by decide +kernel
theorem dX4_lay_63 : decode cX4_lay 63 = .ok (.iload 4, 2) := by decide +kernel
theorem dX4_lay_65 : decode cX4_lay 65 = .ok (.putfield 135, 3) := by decide +kernel
theorem dX4_lay_68 : decode cX4_lay 68 = .ok (.aload 5, 2) := by decide +kernel
theorem dX4_lay_70 : decode cX4_lay 70 = .ok (.iconst 0, 1) := by decide +kernel
theorem dX4_lay_71 : decode cX4_lay 71 = .ok (.putfield 138, 3) := by decide +kernel
theorem dX4_lay_74 : decode cX4_lay 74 = .ok (.aload 7, 2) := by decide +kernel
theorem dX4_lay_76 : decode cX4_lay 76 = .ok (.ifnonnull 7, 3) := by decide +kernel
theorem dX4_lay_79 : decode cX4_lay 79 = .ok (.iconst (-1), 1) := by decide +kernel
theorem dX4_lay_80 : decode cX4_lay 80 = .ok (.goto 8, 3) := by decide +kernel
theorem dX4_lay_83 : decode cX4_lay 83 = .ok (.aload 7, 2) := by decide +kernel
theorem dX4_lay_85 : decode cX4_lay 85 = .ok (.getfield 142, 3) := by decide +kernel
theorem dX4_lay_88 : decode cX4_lay 88 = .ok (.ireturn, 1) := by decide +kernel
set_option maxRecDepth 20000 in
theorem ggX4_press_X4_houseAt : GoodIn wsX4_press wsX4_houseAt := goodIn_ca (goodIn_r _ [8, 9, 10, 11, 12, 7, 13, 14, 15, 91, 92, 93, 94, 95, 96, 97] (by decide +kernel) (by decide +kernel)) (goodIn_sub (fun _ h => List.mem_cons_of_mem _ (List.mem_append_right _ h)) (by decide +kernel))
set_option maxRecDepth 20000 in
theorem gX4_press_X4_houseAt : GoodIn wsX4_press (wsV RX4 95 RX4 yX4_houseAt wsX4_houseAt) := goodIn_app (goodIn_of _ (by decide +kernel)) ggX4_press_X4_houseAt
set_option maxRecDepth 20000 in
theorem ggX4_press_X4_bellAt : GoodIn wsX4_press wsX4_bellAt := goodIn_ca (goodIn_r _ [19, 14, 15, 4, 5, 6, 7, 8, 9, 10, 11, 12, 13, 78, 79, 80, 81, 82, 83, 84, 85, 86, 87, 88, 89, 90, 91, 92, 93, 94, 95, 96, 97] (by decide +kernel) (by decide +kernel)) (goodIn_sub (fun _ h => List.mem_cons_of_mem _ (List.mem_append_right _ h)) (by decide +kernel))
set_option maxRecDepth 20000 in
theorem gX4_press_X4_bellAt : GoodIn wsX4_press (wsV RX4 123 RX4 yX4_bellAt wsX4_bellAt) := goodIn_app (goodIn_of _ (by decide +kernel)) ggX4_press_X4_bellAt
set_option maxRecDepth 20000 in
theorem ggX4_press_X2_isQuietAt : GoodIn wsX4_press wsX2_isQuietAt := goodIn_r _ [24, 25, 26, 27, 23, 28, 29, 30, 31, 32, 33, 34, 35, 36, 37, 38, 39, 40, 78, 79, 80, 81, 82, 83, 84, 85, 86, 87, 88, 89, 90] (by decide +kernel) (by decide +kernel)
set_option maxRecDepth 20000 in
theorem gX4_press_X2_isQuietAt : GoodIn wsX4_press (wsV RX4 119 RX2 yX2_isQuietAt wsX2_isQuietAt) := goodIn_app (goodIn_of _ (by decide +kernel)) ggX4_press_X2_isQuietAt
set_option maxRecDepth 20000 in
theorem ggX4_press_X2_mayRing : GoodIn wsX4_press wsX2_mayRing := goodIn_r _ [44, 45, 46, 98, 99, 100, 101, 78, 79, 80, 81, 82, 83, 84, 85, 86, 87, 88, 89, 90] (by decide +kernel) (by decide +kernel)
set_option maxRecDepth 20000 in
theorem gX4_press_X2_mayRing : GoodIn wsX4_press (wsV RX4 153 RX2 yX2_mayRing wsX2_mayRing) := goodIn_app (goodIn_of _ (by decide +kernel)) ggX4_press_X2_mayRing
set_option maxRecDepth 20000 in
theorem ggX4_press_X2_ringingLoad : GoodIn wsX4_press wsX2_ringingLoad := goodIn_r _ [50, 51, 78, 79, 80, 81, 82, 83, 84, 85, 86, 87, 88, 89, 90, 74, 75, 76, 77] (by decide +kernel) (by decide +kernel)
set_option maxRecDepth 20000 in
theorem gX4_press_X2_ringingLoad : GoodIn wsX4_press (wsV RX4 156 RX2 yX2_ringingLoad wsX2_ringingLoad) := goodIn_app (goodIn_of _ (by decide +kernel)) ggX4_press_X2_ringingLoad
set_option maxRecDepth 20000 in
theorem ggX4_press_X2_breakDown : GoodIn wsX4_press wsX2_breakDown := goodIn_r _ [55, 56, 51, 78, 79, 80, 81, 82, 83, 84, 85, 86, 87, 88, 89, 90, 74, 75, 76, 77] (by decide +kernel) (by decide +kernel)
set_option maxRecDepth 20000 in
theorem gX4_press_X2_breakDown : GoodIn wsX4_press (wsV RX4 160 RX2 yX2_breakDown wsX2_breakDown) := goodIn_app (goodIn_of _ (by decide +kernel)) ggX4_press_X2_breakDown
set_option maxRecDepth 20000 in
theorem ggX4_press_X2_useRight : GoodIn wsX4_press wsX2_useRight := goodIn_r _ [60, 45, 46, 98, 99, 100, 101, 78, 79, 80, 81, 82, 83, 84, 85, 86, 87, 88, 89, 90] (by decide +kernel) (by decide +kernel)
set_option maxRecDepth 20000 in
theorem gX4_press_X2_useRight : GoodIn wsX4_press (wsV RX4 163 RX2 yX2_useRight wsX2_useRight) := goodIn_app (goodIn_of _ (by decide +kernel)) ggX4_press_X2_useRight
set_option maxRecDepth 20000 in
theorem ggX4_press_X3_lasts : GoodIn wsX4_press wsX3_lasts := goodIn_r _ [65, 66, 98, 99, 100, 101] (by decide +kernel) (by decide +kernel)
set_option maxRecDepth 20000 in
theorem gX4_press_X3_lasts : GoodIn wsX4_press (wsV RX4 167 RX3 yX3_lasts wsX3_lasts) := goodIn_app (goodIn_of _ (by decide +kernel)) ggX4_press_X3_lasts
set_option maxRecDepth 20000 in
theorem ggX4_press_X0_ringUntil : GoodIn wsX4_press wsX0_ringUntil := goodIn_r _ [71, 72, 73, 74, 75, 76, 77] (by decide +kernel) (by decide +kernel)
set_option maxRecDepth 20000 in
theorem gX4_press_X0_ringUntil : GoodIn wsX4_press (wsV RX4 170 RX0 yX0_ringUntil wsX0_ringUntil) := goodIn_app (goodIn_of _ (by decide +kernel)) ggX4_press_X0_ringUntil
theorem dX4_press_0 : decode cX4_press 0 = .ok (.aload_n 0, 1) := by decide +kernel
theorem dX4_press_1 : decode cX4_press 1 = .ok (.iload_n 1, 1) := by decide +kernel
theorem dX4_press_2 : decode cX4_press 2 = .ok (.invokevirtual 95, 3) := by decide +kernel
theorem dX4_press_5 : decode cX4_press 5 = .ok (.astore_n 3, 1) := by decide +kernel
theorem dX4_press_6 : decode cX4_press 6 = .ok (.aload_n 0, 1) := by decide +kernel
theorem dX4_press_7 : decode cX4_press 7 = .ok (.iload_n 1, 1) := by decide +kernel
theorem dX4_press_8 : decode cX4_press 8 = .ok (.iload_n 2, 1) := by decide +kernel
theorem dX4_press_9 : decode cX4_press 9 = .ok (.invokevirtual 123, 3) := by decide +kernel
theorem dX4_press_12 : decode cX4_press 12 = .ok (.astore 4, 2) := by decide +kernel
theorem dX4_press_14 : decode cX4_press 14 = .ok (.aload 4, 2) := by decide +kernel
theorem dX4_press_16 : decode cX4_press 16 = .ok (.getfield 129, 3) := by decide +kernel
theorem dX4_press_19 : decode cX4_press 19 = .ok (.astore 5, 2) := by decide +kernel
theorem dX4_press_21 : decode cX4_press 21 = .ok (.aload 5, 2) := by decide +kernel
theorem dX4_press_23 : decode cX4_press 23 = .ok (.ifnonnull 13, 3) := by decide +kernel
theorem dX4_press_26 : decode cX4_press 26 = .ok (.new 57, 3) := by decide +kernel
theorem dX4_press_29 : decode cX4_press 29 = .ok (.dup, 1) := by decide +kernel
theorem dX4_press_30 : decode cX4_press 30 = .ok (.ldc 145, 2) := by decide +kernel
theorem dX4_press_32 : decode cX4_press 32 = .ok (.invokespecial 61, 3) := by decide +kernel
theorem dX4_press_35 : decode cX4_press 35 = .ok (.athrow, 1) := by decide +kernel
theorem dX4_press_36 : decode cX4_press 36 = .ok (.aload_n 3, 1) := by decide +kernel
theorem dX4_press_37 : decode cX4_press 37 = .ok (.getfield 147, 3) := by decide +kernel
theorem dX4_press_40 : decode cX4_press 40 = .ok (.ifCond .eq 11, 3) := by decide +kernel
theorem dX4_press_43 : decode cX4_press 43 = .ok (.aload 4, 2) := by decide +kernel
theorem dX4_press_45 : decode cX4_press 45 = .ok (.getfield 138, 3) := by decide +kernel
theorem dX4_press_48 : decode cX4_press 48 = .ok (.ifCond .eq 5, 3) := by decide +kernel
theorem dX4_press_51 : decode cX4_press 51 = .ok (.iconst 0, 1) := by decide +kernel
theorem dX4_press_52 : decode cX4_press 52 = .ok (.ireturn, 1) := by decide +kernel
theorem dX4_press_53 : decode cX4_press 53 = .ok (.aload_n 3, 1) := by decide +kernel
theorem dX4_press_54 : decode cX4_press 54 = .ok (.aload_n 0, 1) := by decide +kernel
theorem dX4_press_55 : decode cX4_press 55 = .ok (.getfield 38, 3) := by decide +kernel
theorem dX4_press_58 : decode cX4_press 58 = .ok (.invokevirtual 119, 3) := by decide +kernel
theorem dX4_press_61 : decode cX4_press 61 = .ok (.ifCond .eq 15, 3) := by decide +kernel
theorem dX4_press_64 : decode cX4_press 64 = .ok (.aload_n 3, 1) := by decide +kernel
theorem dX4_press_65 : decode cX4_press 65 = .ok (.dup, 1) := by decide +kernel
theorem dX4_press_66 : decode cX4_press 66 = .ok (.getfield 150, 3) := by decide +kernel
theorem dX4_press_69 : decode cX4_press 69 = .ok (.iconst 1, 1) := by decide +kernel
theorem dX4_press_70 : decode cX4_press 70 = .ok (.iadd, 1) := by decide +kernel
theorem dX4_press_71 : decode cX4_press 71 = .ok (.putfield 150, 3) := by decide +kernel
theorem dX4_press_74 : decode cX4_press 74 = .ok (.iconst 2, 1) := by decide +kernel
theorem dX4_press_75 : decode cX4_press 75 = .ok (.ireturn, 1) := by decide +kernel
theorem dX4_press_76 : decode cX4_press 76 = .ok (.aload_n 3, 1) := by decide +kernel
theorem dX4_press_77 : decode cX4_press 77 = .ok (.aload 5, 2) := by decide +kernel
theorem dX4_press_79 : decode cX4_press 79 = .ok (.invokevirtual 153, 3) := by decide +kernel
theorem dX4_press_82 : decode cX4_press 82 = .ok (.ifCond .ne 5, 3) := by decide +kernel
theorem dX4_press_85 : decode cX4_press 85 = .ok (.iconst 0, 1) := by decide +kernel
theorem dX4_press_86 : decode cX4_press 86 = .ok (.ireturn, 1) := by decide +kernel
theorem dX4_press_87 : decode cX4_press 87 = .ok (.aload_n 3, 1) := by decide +kernel
theorem dX4_press_88 : decode cX4_press 88 = .ok (.invokevirtual 156, 3) := by decide +kernel
theorem dX4_press_91 : decode cX4_press 91 = .ok (.aload 4, 2) := by decide +kernel
theorem dX4_press_93 : decode cX4_press 93 = .ok (.getfield 135, 3) := by decide +kernel
theorem dX4_press_96 : decode cX4_press 96 = .ok (.iadd, 1) := by decide +kernel
theorem dX4_press_97 : decode cX4_press 97 = .ok (.bipush 10, 2) := by decide +kernel
theorem dX4_press_99 : decode cX4_press 99 = .ok (.if_icmp .le 9, 3) := by decide +kernel
theorem dX4_press_102 : decode cX4_press 102 = .ok (.aload_n 3, 1) := by decide +kernel
theorem dX4_press_103 : decode cX4_press 103 = .ok (.invokevirtual 160, 3) := by decide +kernel
theorem dX4_press_106 : decode cX4_press 106 = .ok (.iconst 3, 1) := by decide +kernel
theorem dX4_press_107 : decode cX4_press 107 = .ok (.ireturn, 1) := by decide +kernel
theorem dX4_press_108 : decode cX4_press 108 = .ok (.aload_n 3, 1) := by decide +kernel
theorem dX4_press_109 : decode cX4_press 109 = .ok (.aload 5, 2) := by decide +kernel
theorem dX4_press_111 : decode cX4_press 111 = .ok (.invokevirtual 163, 3) := by decide +kernel
theorem dX4_press_114 : decode cX4_press 114 = .ok (.aload 4, 2) := by decide +kernel
theorem dX4_press_116 : decode cX4_press 116 = .ok (.aload_n 0, 1) := by decide +kernel
theorem dX4_press_117 : decode cX4_press 117 = .ok (.getfield 38, 3) := by decide +kernel
theorem dX4_press_120 : decode cX4_press 120 = .ok (.aload 5, 2) := by decide +kernel
theorem dX4_press_122 : decode cX4_press 122 = .ok (.invokevirtual 167, 3) := by decide +kernel
theorem dX4_press_125 : decode cX4_press 125 = .ok (.iadd, 1) := by decide +kernel
theorem dX4_press_126 : decode cX4_press 126 = .ok (.invokevirtual 170, 3) := by decide +kernel
theorem dX4_press_129 : decode cX4_press 129 = .ok (.iconst 1, 1) := by decide +kernel
theorem dX4_press_130 : decode cX4_press 130 = .ok (.ireturn, 1) := by decide +kernel
set_option maxRecDepth 20000 in
theorem ggX4_fault_X4_houseAt : GoodIn wsX4_fault wsX4_houseAt := goodIn_ca (goodIn_r _ [11, 4, 12, 13, 14, 10, 15, 16, 17, 55, 56, 57, 58, 59, 60, 61] (by decide +kernel) (by decide +kernel)) (goodIn_sub (fun _ h => List.mem_cons_of_mem _ (List.mem_append_right _ h)) (by decide +kernel))
set_option maxRecDepth 20000 in
theorem gX4_fault_X4_houseAt : GoodIn wsX4_fault (wsV RX4 95 RX4 yX4_houseAt wsX4_houseAt) := goodIn_app (goodIn_of _ (by decide +kernel)) ggX4_fault_X4_houseAt
set_option maxRecDepth 20000 in
theorem ggX4_fault_X2_startBells : GoodIn wsX4_fault wsX2_startBells := goodIn_r _ [22, 23, 24, 25, 26, 27, 28, 29, 30, 31, 32, 33, 34, 35, 36, 42, 43, 44, 45, 46, 47, 48, 49, 50, 51, 52, 53, 54, 62, 63, 64, 65, 66, 67, 68, 69] (by decide +kernel) (by decide +kernel)
set_option maxRecDepth 20000 in
theorem gX4_fault_X2_startBells : GoodIn wsX4_fault (wsV RX4 180 RX2 yX2_startBells wsX2_startBells) := goodIn_app (goodIn_of _ (by decide +kernel)) ggX4_fault_X2_startBells
set_option maxRecDepth 20000 in
theorem ggX4_fault_X2_breakDown : GoodIn wsX4_fault wsX2_breakDown := goodIn_r _ [40, 41, 23, 42, 43, 44, 45, 46, 47, 48, 49, 50, 51, 52, 53, 54, 62, 63, 64, 65] (by decide +kernel) (by decide +kernel)
set_option maxRecDepth 20000 in
theorem gX4_fault_X2_breakDown : GoodIn wsX4_fault (wsV RX4 160 RX2 yX2_breakDown wsX2_breakDown) := goodIn_app (goodIn_of _ (by decide +kernel)) ggX4_fault_X2_breakDown
theorem dX4_fault_0 : decode cX4_fault 0 = .ok (.aload_n 0, 1) := by decide +kernel
theorem dX4_fault_1 : decode cX4_fault 1 = .ok (.iload_n 1, 1) := by decide +kernel
theorem dX4_fault_2 : decode cX4_fault 2 = .ok (.invokevirtual 95, 3) := by decide +kernel
theorem dX4_fault_5 : decode cX4_fault 5 = .ok (.astore_n 2, 1) := by decide +kernel
theorem dX4_fault_6 : decode cX4_fault 6 = .ok (.aload_n 2, 1) := by decide +kernel
theorem dX4_fault_7 : decode cX4_fault 7 = .ok (.getfield 147, 3) := by decide +kernel
theorem dX4_fault_10 : decode cX4_fault 10 = .ok (.ifCond .ne 13, 3) := by decide +kernel
theorem dX4_fault_13 : decode cX4_fault 13 = .ok (.new 57, 3) := by decide +kernel
theorem dX4_fault_16 : decode cX4_fault 16 = .ok (.dup, 1) := by decide +kernel
theorem dX4_fault_17 : decode cX4_fault 17 = .ok (.ldc 173, 2) := by decide +kernel
theorem dX4_fault_19 : decode cX4_fault 19 = .ok (.invokespecial 61, 3) := by decide +kernel
theorem dX4_fault_22 : decode cX4_fault 22 = .ok (.athrow, 1) := by decide +kernel
theorem dX4_fault_23 : decode cX4_fault 23 = .ok (.aload_n 0, 1) := by decide +kernel
theorem dX4_fault_24 : decode cX4_fault 24 = .ok (.getfield 35, 3) := by decide +kernel
theorem dX4_fault_27 : decode cX4_fault 27 = .ok (.bipush 100, 2) := by decide +kernel
theorem dX4_fault_29 : decode cX4_fault 29 = .ok (.if_icmp .lt 13, 3) := by decide +kernel
theorem dX4_fault_32 : decode cX4_fault 32 = .ok (.new 57, 3) := by decide +kernel
theorem dX4_fault_35 : decode cX4_fault 35 = .ok (.dup, 1) := by decide +kernel
theorem dX4_fault_36 : decode cX4_fault 36 = .ok (.ldc 175, 2) := by decide +kernel
theorem dX4_fault_38 : decode cX4_fault 38 = .ok (.invokespecial 61, 3) := by decide +kernel
theorem dX4_fault_41 : decode cX4_fault 41 = .ok (.athrow, 1) := by decide +kernel
theorem dX4_fault_42 : decode cX4_fault 42 = .ok (.iconst 0, 1) := by decide +kernel
theorem dX4_fault_43 : decode cX4_fault 43 = .ok (.istore_n 3, 1) := by decide +kernel
theorem dX4_fault_44 : decode cX4_fault 44 = .ok (.aload_n 0, 1) := by decide +kernel
theorem dX4_fault_45 : decode cX4_fault 45 = .ok (.getfield 11, 3) := by decide +kernel
theorem dX4_fault_48 : decode cX4_fault 48 = .ok (.astore 4, 2) := by decide +kernel
theorem dX4_fault_50 : decode cX4_fault 50 = .ok (.aload 4, 2) := by decide +kernel
theorem dX4_fault_52 : decode cX4_fault 52 = .ok (.arraylength, 1) := by decide +kernel
theorem dX4_fault_53 : decode cX4_fault 53 = .ok (.istore 5, 2) := by decide +kernel
theorem dX4_fault_55 : decode cX4_fault 55 = .ok (.iconst 0, 1) := by decide +kernel
theorem dX4_fault_56 : decode cX4_fault 56 = .ok (.istore 6, 2) := by decide +kernel
theorem dX4_fault_58 : decode cX4_fault 58 = .ok (.iload 6, 2) := by decide +kernel
theorem dX4_fault_60 : decode cX4_fault 60 = .ok (.iload 5, 2) := by decide +kernel
theorem dX4_fault_62 : decode cX4_fault 62 = .ok (.if_icmp .ge 54, 3) := by decide +kernel
theorem dX4_fault_65 : decode cX4_fault 65 = .ok (.aload 4, 2) := by decide +kernel
theorem dX4_fault_67 : decode cX4_fault 67 = .ok (.iload 6, 2) := by decide +kernel
theorem dX4_fault_69 : decode cX4_fault 69 = .ok (.aaload, 1) := by decide +kernel
theorem dX4_fault_70 : decode cX4_fault 70 = .ok (.astore 7, 2) := by decide +kernel
theorem dX4_fault_72 : decode cX4_fault 72 = .ok (.aload 7, 2) := by decide +kernel
theorem dX4_fault_74 : decode cX4_fault 74 = .ok (.aload_n 2, 1) := by decide +kernel
theorem dX4_fault_75 : decode cX4_fault 75 = .ok (.if_acmp .eq 35, 3) := by decide +kernel
theorem dX4_fault_78 : decode cX4_fault 78 = .ok (.aload 7, 2) := by decide +kernel
theorem dX4_fault_80 : decode cX4_fault 80 = .ok (.getfield 177, 3) := by decide +kernel
theorem dX4_fault_83 : decode cX4_fault 83 = .ok (.aload_n 2, 1) := by decide +kernel
theorem dX4_fault_84 : decode cX4_fault 84 = .ok (.getfield 177, 3) := by decide +kernel
theorem dX4_fault_87 : decode cX4_fault 87 = .ok (.if_icmp .ne 23, 3) := by decide +kernel
theorem dX4_fault_90 : decode cX4_fault 90 = .ok (.aload 7, 2) := by decide +kernel
theorem dX4_fault_92 : decode cX4_fault 92 = .ok (.getfield 147, 3) := by decide +kernel
theorem dX4_fault_95 : decode cX4_fault 95 = .ok (.ifCond .eq 15, 3) := by decide +kernel
theorem dX4_fault_98 : decode cX4_fault 98 = .ok (.iload_n 3, 1) := by decide +kernel
theorem dX4_fault_99 : decode cX4_fault 99 = .ok (.aload 7, 2) := by decide +kernel
theorem dX4_fault_101 : decode cX4_fault 101 = .ok (.aload_n 0, 1) := by decide +kernel
theorem dX4_fault_102 : decode cX4_fault 102 = .ok (.getfield 38, 3) := by decide +kernel
theorem dX4_fault_105 : decode cX4_fault 105 = .ok (.invokevirtual 180, 3) := by decide +kernel
theorem dX4_fault_108 : decode cX4_fault 108 = .ok (.iadd, 1) := by decide +kernel
theorem dX4_fault_109 : decode cX4_fault 109 = .ok (.istore_n 3, 1) := by decide +kernel
theorem dX4_fault_110 : decode cX4_fault 110 = .ok (.iinc 6 1, 3) := by decide +kernel
theorem dX4_fault_113 : decode cX4_fault 113 = .ok (.goto (-55), 3) := by decide +kernel
theorem dX4_fault_116 : decode cX4_fault 116 = .ok (.aload_n 2, 1) := by decide +kernel
theorem dX4_fault_117 : decode cX4_fault 117 = .ok (.invokevirtual 160, 3) := by decide +kernel
theorem dX4_fault_120 : decode cX4_fault 120 = .ok (.aload_n 2, 1) := by decide +kernel
theorem dX4_fault_121 : decode cX4_fault 121 = .ok (.dup, 1) := by decide +kernel
theorem dX4_fault_122 : decode cX4_fault 122 = .ok (.getfield 183, 3) := by decide +kernel
theorem dX4_fault_125 : decode cX4_fault 125 = .ok (.iconst 1, 1) := by decide +kernel
theorem dX4_fault_126 : decode cX4_fault 126 = .ok (.iadd, 1) := by decide +kernel
theorem dX4_fault_127 : decode cX4_fault 127 = .ok (.putfield 183, 3) := by decide +kernel
theorem dX4_fault_130 : decode cX4_fault 130 = .ok (.aload_n 0, 1) := by decide +kernel
theorem dX4_fault_131 : decode cX4_fault 131 = .ok (.getfield 27, 3) := by decide +kernel
theorem dX4_fault_134 : decode cX4_fault 134 = .ok (.aload_n 0, 1) := by decide +kernel
theorem dX4_fault_135 : decode cX4_fault 135 = .ok (.getfield 35, 3) := by decide +kernel
theorem dX4_fault_138 : decode cX4_fault 138 = .ok (.bipush 10, 2) := by decide +kernel
theorem dX4_fault_140 : decode cX4_fault 140 = .ok (.aload_n 0, 1) := by decide +kernel
theorem dX4_fault_141 : decode cX4_fault 141 = .ok (.getfield 38, 3) := by decide +kernel
theorem dX4_fault_144 : decode cX4_fault 144 = .ok (.imul, 1) := by decide +kernel
theorem dX4_fault_145 : decode cX4_fault 145 = .ok (.iload_n 1, 1) := by decide +kernel
theorem dX4_fault_146 : decode cX4_fault 146 = .ok (.iadd, 1) := by decide +kernel
theorem dX4_fault_147 : decode cX4_fault 147 = .ok (.iastore, 1) := by decide +kernel
theorem dX4_fault_148 : decode cX4_fault 148 = .ok (.aload_n 0, 1) := by decide +kernel
theorem dX4_fault_149 : decode cX4_fault 149 = .ok (.dup, 1) := by decide +kernel
theorem dX4_fault_150 : decode cX4_fault 150 = .ok (.getfield 35, 3) := by decide +kernel
theorem dX4_fault_153 : decode cX4_fault 153 = .ok (.iconst 1, 1) := by decide +kernel
theorem dX4_fault_154 : decode cX4_fault 154 = .ok (.iadd, 1) := by decide +kernel
theorem dX4_fault_155 : decode cX4_fault 155 = .ok (.putfield 35, 3) := by decide +kernel
theorem dX4_fault_158 : decode cX4_fault 158 = .ok (.iload_n 3, 1) := by decide +kernel
theorem dX4_fault_159 : decode cX4_fault 159 = .ok (.ireturn, 1) := by decide +kernel
set_option maxRecDepth 20000 in
theorem ggX4_repair_X4_houseAt : GoodIn wsX4_repair wsX4_houseAt := goodIn_ca (goodIn_r _ [9, 10, 11, 12, 13, 8, 14, 15, 16, 17, 18, 19, 20, 21, 22, 23] (by decide +kernel) (by decide +kernel)) (goodIn_sub (fun _ h => List.mem_cons_of_mem _ (List.mem_append_right _ h)) (by decide +kernel))
set_option maxRecDepth 20000 in
theorem gX4_repair_X4_houseAt : GoodIn wsX4_repair (wsV RX4 95 RX4 yX4_houseAt wsX4_houseAt) := goodIn_app (goodIn_of _ (by decide +kernel)) ggX4_repair_X4_houseAt
theorem dX4_repair_0 : decode cX4_repair 0 = .ok (.aload_n 0, 1) := by decide +kernel
theorem dX4_repair_1 : decode cX4_repair 1 = .ok (.iload_n 1, 1) := by decide +kernel
theorem dX4_repair_2 : decode cX4_repair 2 = .ok (.invokevirtual 95, 3) := by decide +kernel
theorem dX4_repair_5 : decode cX4_repair 5 = .ok (.astore_n 2, 1) := by decide +kernel
theorem dX4_repair_6 : decode cX4_repair 6 = .ok (.aload_n 0, 1) := by decide +kernel
theorem dX4_repair_7 : decode cX4_repair 7 = .ok (.getfield 17, 3) := by decide +kernel
theorem dX4_repair_10 : decode cX4_repair 10 = .ok (.aload_n 2, 1) := by decide +kernel
theorem dX4_repair_11 : decode cX4_repair 11 = .ok (.getfield 177, 3) := by decide +kernel
theorem dX4_repair_14 : decode cX4_repair 14 = .ok (.aaload, 1) := by decide +kernel
theorem dX4_repair_15 : decode cX4_repair 15 = .ok (.astore_n 3, 1) := by decide +kernel
theorem dX4_repair_16 : decode cX4_repair 16 = .ok (.aload_n 2, 1) := by decide +kernel
theorem dX4_repair_17 : decode cX4_repair 17 = .ok (.getfield 147, 3) := by decide +kernel
theorem dX4_repair_20 : decode cX4_repair 20 = .ok (.ifCond .eq 13, 3) := by decide +kernel
theorem dX4_repair_23 : decode cX4_repair 23 = .ok (.new 57, 3) := by decide +kernel
theorem dX4_repair_26 : decode cX4_repair 26 = .ok (.dup, 1) := by decide +kernel
theorem dX4_repair_27 : decode cX4_repair 27 = .ok (.ldc 186, 2) := by decide +kernel
theorem dX4_repair_29 : decode cX4_repair 29 = .ok (.invokespecial 61, 3) := by decide +kernel
theorem dX4_repair_32 : decode cX4_repair 32 = .ok (.athrow, 1) := by decide +kernel
theorem dX4_repair_33 : decode cX4_repair 33 = .ok (.aload_n 3, 1) := by decide +kernel
theorem dX4_repair_34 : decode cX4_repair 34 = .ok (.getfield 188, 3) := by decide +kernel
theorem dX4_repair_37 : decode cX4_repair 37 = .ok (.ifnull 13, 3) := by decide +kernel
theorem dX4_repair_40 : decode cX4_repair 40 = .ok (.new 57, 3) := by decide +kernel
theorem dX4_repair_43 : decode cX4_repair 43 = .ok (.dup, 1) := by decide +kernel
theorem dX4_repair_44 : decode cX4_repair 44 = .ok (.ldc 192, 2) := by decide +kernel
theorem dX4_repair_46 : decode cX4_repair 46 = .ok (.invokespecial 61, 3) := by decide +kernel
theorem dX4_repair_49 : decode cX4_repair 49 = .ok (.athrow, 1) := by decide +kernel
theorem dX4_repair_50 : decode cX4_repair 50 = .ok (.aload_n 3, 1) := by decide +kernel
theorem dX4_repair_51 : decode cX4_repair 51 = .ok (.aload_n 2, 1) := by decide +kernel
theorem dX4_repair_52 : decode cX4_repair 52 = .ok (.putfield 188, 3) := by decide +kernel
theorem dX4_repair_55 : decode cX4_repair 55 = .ok (.aload_n 3, 1) := by decide +kernel
theorem dX4_repair_56 : decode cX4_repair 56 = .ok (.aload_n 0, 1) := by decide +kernel
theorem dX4_repair_57 : decode cX4_repair 57 = .ok (.getfield 38, 3) := by decide +kernel
theorem dX4_repair_60 : decode cX4_repair 60 = .ok (.bipush 50, 2) := by decide +kernel
theorem dX4_repair_62 : decode cX4_repair 62 = .ok (.iadd, 1) := by decide +kernel
theorem dX4_repair_63 : decode cX4_repair 63 = .ok (.putfield 194, 3) := by decide +kernel
theorem dX4_repair_66 : decode cX4_repair 66 = .ok (.aload_n 3, 1) := by decide +kernel
theorem dX4_repair_67 : decode cX4_repair 67 = .ok (.getfield 194, 3) := by decide +kernel
theorem dX4_repair_70 : decode cX4_repair 70 = .ok (.ireturn, 1) := by decide +kernel
set_option maxRecDepth 20000 in
theorem ggX4_pass_X4_nextChange : GoodIn wsX4_pass wsX4_nextChange := goodIn_r _ [11, 5, 12, 13, 14, 15, 16, 17, 18, 19, 20, 21, 22, 23, 69, 70, 71, 72, 73, 74, 75, 76, 77, 78, 79, 80, 81, 82, 83, 84, 85, 86, 87, 88, 89, 90, 91, 92, 93, 94] (by decide +kernel) (by decide +kernel)
set_option maxRecDepth 20000 in
theorem gX4_pass_X4_nextChange : GoodIn wsX4_pass (wsV RX4 202 RX4 yX4_nextChange wsX4_nextChange) := goodIn_app (goodIn_of _ (by decide +kernel)) ggX4_pass_X4_nextChange
set_option maxRecDepth 20000 in
theorem ggX4_pass_X4_passStretch : GoodIn wsX4_pass wsX4_passStretch := goodIn_r _ [27, 16, 5, 17, 28, 29, 30, 21, 31, 32, 33, 34, 35, 36, 37, 38, 23, 39, 40, 41, 42, 43, 44, 45, 46, 47, 48, 13, 14, 15, 49, 50, 51, 52, 53, 54, 55, 56, 57, 58, 59, 60, 61, 62, 63, 64, 65, 66, 67, 68, 69, 70, 71, 72, 73, 74, 75, 78, 79, 80, 81, 82, 83, 84, 85, 86, 87, 88, 89, 90, 91, 92, 93, 94, 76, 77] (by decide +kernel) (by decide +kernel)
set_option maxRecDepth 20000 in
theorem gX4_pass_X4_passStretch : GoodIn wsX4_pass (wsV RX4 205 RX4 yX4_passStretch wsX4_passStretch) := goodIn_app (goodIn_of _ (by decide +kernel)) ggX4_pass_X4_passStretch
theorem dX4_pass_0 : decode cX4_pass 0 = .ok (.iload_n 1, 1) := by decide +kernel
theorem dX4_pass_1 : decode cX4_pass 1 = .ok (.iconst 1, 1) := by decide +kernel
theorem dX4_pass_2 : decode cX4_pass 2 = .ok (.if_icmp .lt 10, 3) := by decide +kernel
theorem dX4_pass_5 : decode cX4_pass 5 = .ok (.iload_n 1, 1) := by decide +kernel
theorem dX4_pass_6 : decode cX4_pass 6 = .ok (.sipush 2000, 3) := by decide +kernel
theorem dX4_pass_9 : decode cX4_pass 9 = .ok (.if_icmp .le 13, 3) := by decide +kernel
theorem dX4_pass_12 : decode cX4_pass 12 = .ok (.new 48, 3) := by decide +kernel
theorem dX4_pass_15 : decode cX4_pass 15 = .ok (.dup, 1) := by decide +kernel
theorem dX4_pass_16 : decode cX4_pass 16 = .ok (.ldc 197, 2) := by decide +kernel
theorem dX4_pass_18 : decode cX4_pass 18 = .ok (.invokespecial 52, 3) := by decide +kernel
theorem dX4_pass_21 : decode cX4_pass 21 = .ok (.athrow, 1) := by decide +kernel
theorem dX4_pass_22 : decode cX4_pass 22 = .ok (.aload_n 0, 1) := by decide +kernel
theorem dX4_pass_23 : decode cX4_pass 23 = .ok (.getfield 38, 3) := by decide +kernel
theorem dX4_pass_26 : decode cX4_pass 26 = .ok (.iload_n 1, 1) := by decide +kernel
theorem dX4_pass_27 : decode cX4_pass 27 = .ok (.iadd, 1) := by decide +kernel
theorem dX4_pass_28 : decode cX4_pass 28 = .ok (.ldc 199, 2) := by decide +kernel
theorem dX4_pass_30 : decode cX4_pass 30 = .ok (.if_icmp .le 13, 3) := by decide +kernel
theorem dX4_pass_33 : decode cX4_pass 33 = .ok (.new 57, 3) := by decide +kernel
theorem dX4_pass_36 : decode cX4_pass 36 = .ok (.dup, 1) := by decide +kernel
theorem dX4_pass_37 : decode cX4_pass 37 = .ok (.ldc 200, 2) := by decide +kernel
theorem dX4_pass_39 : decode cX4_pass 39 = .ok (.invokespecial 61, 3) := by decide +kernel
theorem dX4_pass_42 : decode cX4_pass 42 = .ok (.athrow, 1) := by decide +kernel
theorem dX4_pass_43 : decode cX4_pass 43 = .ok (.aload_n 0, 1) := by decide +kernel
theorem dX4_pass_44 : decode cX4_pass 44 = .ok (.getfield 38, 3) := by decide +kernel
theorem dX4_pass_47 : decode cX4_pass 47 = .ok (.iload_n 1, 1) := by decide +kernel
theorem dX4_pass_48 : decode cX4_pass 48 = .ok (.iadd, 1) := by decide +kernel
theorem dX4_pass_49 : decode cX4_pass 49 = .ok (.istore_n 2, 1) := by decide +kernel
theorem dX4_pass_50 : decode cX4_pass 50 = .ok (.iconst 0, 1) := by decide +kernel
theorem dX4_pass_51 : decode cX4_pass 51 = .ok (.istore_n 3, 1) := by decide +kernel
theorem dX4_pass_52 : decode cX4_pass 52 = .ok (.iload_n 3, 1) := by decide +kernel
theorem dX4_pass_53 : decode cX4_pass 53 = .ok (.iload_n 1, 1) := by decide +kernel
theorem dX4_pass_54 : decode cX4_pass 54 = .ok (.if_icmp .ge 26, 3) := by decide +kernel
theorem dX4_pass_57 : decode cX4_pass 57 = .ok (.aload_n 0, 1) := by decide +kernel
theorem dX4_pass_58 : decode cX4_pass 58 = .ok (.getfield 38, 3) := by decide +kernel
theorem dX4_pass_61 : decode cX4_pass 61 = .ok (.iload_n 2, 1) := by decide +kernel
theorem dX4_pass_62 : decode cX4_pass 62 = .ok (.if_icmp .ge 18, 3) := by decide +kernel
theorem dX4_pass_65 : decode cX4_pass 65 = .ok (.aload_n 0, 1) := by decide +kernel
theorem dX4_pass_66 : decode cX4_pass 66 = .ok (.aload_n 0, 1) := by decide +kernel
theorem dX4_pass_67 : decode cX4_pass 67 = .ok (.iload_n 2, 1) := by decide +kernel
theorem dX4_pass_68 : decode cX4_pass 68 = .ok (.invokevirtual 202, 3) := by decide +kernel
theorem dX4_pass_71 : decode cX4_pass 71 = .ok (.invokevirtual 205, 3) := by decide +kernel
theorem dX4_pass_74 : decode cX4_pass 74 = .ok (.iinc 3 1, 3) := by decide +kernel
theorem dX4_pass_77 : decode cX4_pass 77 = .ok (.goto (-25), 3) := by decide +kernel
theorem dX4_pass_80 : decode cX4_pass 80 = .ok (.aload_n 0, 1) := by decide +kernel
theorem dX4_pass_81 : decode cX4_pass 81 = .ok (.getfield 38, 3) := by decide +kernel
theorem dX4_pass_84 : decode cX4_pass 84 = .ok (.ireturn, 1) := by decide +kernel
theorem dX4_time_0 : decode cX4_time 0 = .ok (.aload_n 0, 1) := by decide +kernel
theorem dX4_time_1 : decode cX4_time 1 = .ok (.getfield 38, 3) := by decide +kernel
theorem dX4_time_4 : decode cX4_time 4 = .ok (.ireturn, 1) := by decide +kernel
set_option maxRecDepth 20000 in
theorem ggX4_ringing_X4_houseAt : GoodIn wsX4_ringing wsX4_houseAt := goodIn_ca (goodIn_r _ [5, 6, 7, 8, 9, 4, 10, 11, 12, 19, 20, 21, 22, 23, 24, 25] (by decide +kernel) (by decide +kernel)) (goodIn_sub (fun _ h => List.mem_cons_of_mem _ (List.mem_append_right _ h)) (by decide +kernel))
set_option maxRecDepth 20000 in
theorem gX4_ringing_X4_houseAt : GoodIn wsX4_ringing (wsV RX4 95 RX4 yX4_houseAt wsX4_houseAt) := goodIn_app (goodIn_of _ (by decide +kernel)) ggX4_ringing_X4_houseAt
set_option maxRecDepth 20000 in
theorem ggX4_ringing_X2_ringingSet : GoodIn wsX4_ringing wsX2_ringingSet := goodIn_r _ [17, 18, 26, 27, 28, 29, 30, 31, 32, 33, 34, 35, 36, 37, 38, 39, 40, 41, 42] (by decide +kernel) (by decide +kernel)
set_option maxRecDepth 20000 in
theorem gX4_ringing_X2_ringingSet : GoodIn wsX4_ringing (wsV RX4 208 RX2 yX2_ringingSet wsX2_ringingSet) := goodIn_app (goodIn_of _ (by decide +kernel)) ggX4_ringing_X2_ringingSet
theorem dX4_ringing_0 : decode cX4_ringing 0 = .ok (.aload_n 0, 1) := by decide +kernel
theorem dX4_ringing_1 : decode cX4_ringing 1 = .ok (.iload_n 1, 1) := by decide +kernel
theorem dX4_ringing_2 : decode cX4_ringing 2 = .ok (.invokevirtual 95, 3) := by decide +kernel
theorem dX4_ringing_5 : decode cX4_ringing 5 = .ok (.invokevirtual 208, 3) := by decide +kernel
theorem dX4_ringing_8 : decode cX4_ringing 8 = .ok (.ireturn, 1) := by decide +kernel
set_option maxRecDepth 20000 in
theorem ggX4_isSound_X4_houseAt : GoodIn wsX4_isSound wsX4_houseAt := goodIn_ca (goodIn_r _ [5, 6, 7, 8, 9, 4, 10, 11, 12, 26, 27, 28, 29, 30, 31, 32] (by decide +kernel) (by decide +kernel)) (goodIn_sub (fun _ h => List.mem_cons_of_mem _ (List.mem_append_right _ h)) (by decide +kernel))
set_option maxRecDepth 20000 in
theorem gX4_isSound_X4_houseAt : GoodIn wsX4_isSound (wsV RX4 95 RX4 yX4_houseAt wsX4_houseAt) := goodIn_app (goodIn_of _ (by decide +kernel)) ggX4_isSound_X4_houseAt
theorem dX4_isSound_0 : decode cX4_isSound 0 = .ok (.aload_n 0, 1) := by decide +kernel
theorem dX4_isSound_1 : decode cX4_isSound 1 = .ok (.iload_n 1, 1) := by decide +kernel
theorem dX4_isSound_2 : decode cX4_isSound 2 = .ok (.invokevirtual 95, 3) := by decide +kernel
theorem dX4_isSound_5 : decode cX4_isSound 5 = .ok (.getfield 147, 3) := by decide +kernel
theorem dX4_isSound_8 : decode cX4_isSound 8 = .ok (.ireturn, 1) := by decide +kernel
set_option maxRecDepth 20000 in
theorem ggX4_ringsLeft_X4_houseAt : GoodIn wsX4_ringsLeft wsX4_houseAt := goodIn_ca (goodIn_r _ [5, 6, 7, 8, 9, 4, 10, 11, 12, 35, 36, 37, 38, 39, 40, 41] (by decide +kernel) (by decide +kernel)) (goodIn_sub (fun _ h => List.mem_cons_of_mem _ (List.mem_append_right _ h)) (by decide +kernel))
set_option maxRecDepth 20000 in
theorem gX4_ringsLeft_X4_houseAt : GoodIn wsX4_ringsLeft (wsV RX4 95 RX4 yX4_houseAt wsX4_houseAt) := goodIn_app (goodIn_of _ (by decide +kernel)) ggX4_ringsLeft_X4_houseAt
set_option maxRecDepth 20000 in
theorem ggX4_ringsLeft_X4_melodyAt : GoodIn wsX4_ringsLeft wsX4_melodyAt := goodIn_ca (goodIn_r _ [16, 11, 12, 17, 35, 36, 37, 38, 39, 40, 41] (by decide +kernel) (by decide +kernel)) (goodIn_sub (fun _ h => List.mem_cons_of_mem _ (List.mem_append_right _ h)) (by decide +kernel))
set_option maxRecDepth 20000 in
theorem gX4_ringsLeft_X4_melodyAt : GoodIn wsX4_ringsLeft (wsV RX4 65 RX4 yX4_melodyAt wsX4_melodyAt) := goodIn_app (goodIn_of _ (by decide +kernel)) ggX4_ringsLeft_X4_melodyAt
theorem dX4_ringsLeft_0 : decode cX4_ringsLeft 0 = .ok (.aload_n 0, 1) := by decide +kernel
theorem dX4_ringsLeft_1 : decode cX4_ringsLeft 1 = .ok (.iload_n 1, 1) := by decide +kernel
theorem dX4_ringsLeft_2 : decode cX4_ringsLeft 2 = .ok (.invokevirtual 95, 3) := by decide +kernel
theorem dX4_ringsLeft_5 : decode cX4_ringsLeft 5 = .ok (.astore_n 3, 1) := by decide +kernel
theorem dX4_ringsLeft_6 : decode cX4_ringsLeft 6 = .ok (.aload_n 0, 1) := by decide +kernel
theorem dX4_ringsLeft_7 : decode cX4_ringsLeft 7 = .ok (.iload_n 2, 1) := by decide +kernel
theorem dX4_ringsLeft_8 : decode cX4_ringsLeft 8 = .ok (.invokevirtual 65, 3) := by decide +kernel
theorem dX4_ringsLeft_11 : decode cX4_ringsLeft 11 = .ok (.getfield 101, 3) := by decide +kernel
theorem dX4_ringsLeft_14 : decode cX4_ringsLeft 14 = .ok (.iload_n 1, 1) := by decide +kernel
theorem dX4_ringsLeft_15 : decode cX4_ringsLeft 15 = .ok (.if_icmp .ne 7, 3) := by decide +kernel
theorem dX4_ringsLeft_18 : decode cX4_ringsLeft 18 = .ok (.iconst (-1), 1) := by decide +kernel
theorem dX4_ringsLeft_19 : decode cX4_ringsLeft 19 = .ok (.goto 9, 3) := by decide +kernel
theorem dX4_ringsLeft_22 : decode cX4_ringsLeft 22 = .ok (.aload_n 3, 1) := by decide +kernel
theorem dX4_ringsLeft_23 : decode cX4_ringsLeft 23 = .ok (.getfield 106, 3) := by decide +kernel
theorem dX4_ringsLeft_26 : decode cX4_ringsLeft 26 = .ok (.iload_n 2, 1) := by decide +kernel
theorem dX4_ringsLeft_27 : decode cX4_ringsLeft 27 = .ok (.iaload, 1) := by decide +kernel
theorem dX4_ringsLeft_28 : decode cX4_ringsLeft 28 = .ok (.ireturn, 1) := by decide +kernel
set_option maxRecDepth 20000 in
theorem ggX4_points_X4_houseAt : GoodIn wsX4_points wsX4_houseAt := goodIn_ca (goodIn_r _ [5, 6, 7, 8, 9, 4, 10, 11, 12, 26, 27, 28, 29, 30, 31, 32] (by decide +kernel) (by decide +kernel)) (goodIn_sub (fun _ h => List.mem_cons_of_mem _ (List.mem_append_right _ h)) (by decide +kernel))
set_option maxRecDepth 20000 in
theorem gX4_points_X4_houseAt : GoodIn wsX4_points (wsV RX4 95 RX4 yX4_houseAt wsX4_houseAt) := goodIn_app (goodIn_of _ (by decide +kernel)) ggX4_points_X4_houseAt
theorem dX4_points_0 : decode cX4_points 0 = .ok (.aload_n 0, 1) := by decide +kernel
theorem dX4_points_1 : decode cX4_points 1 = .ok (.iload_n 1, 1) := by decide +kernel
theorem dX4_points_2 : decode cX4_points 2 = .ok (.invokevirtual 95, 3) := by decide +kernel
theorem dX4_points_5 : decode cX4_points 5 = .ok (.getfield 211, 3) := by decide +kernel
theorem dX4_points_8 : decode cX4_points 8 = .ok (.ireturn, 1) := by decide +kernel
set_option maxRecDepth 20000 in
theorem ggX4_secondsRung_X4_houseAt : GoodIn wsX4_secondsRung wsX4_houseAt := goodIn_ca (goodIn_r _ [5, 6, 7, 8, 9, 4, 10, 11, 12, 26, 27, 28, 29, 30, 31, 32] (by decide +kernel) (by decide +kernel)) (goodIn_sub (fun _ h => List.mem_cons_of_mem _ (List.mem_append_right _ h)) (by decide +kernel))
set_option maxRecDepth 20000 in
theorem gX4_secondsRung_X4_houseAt : GoodIn wsX4_secondsRung (wsV RX4 95 RX4 yX4_houseAt wsX4_houseAt) := goodIn_app (goodIn_of _ (by decide +kernel)) ggX4_secondsRung_X4_houseAt
theorem dX4_secondsRung_0 : decode cX4_secondsRung 0 = .ok (.aload_n 0, 1) := by decide +kernel
theorem dX4_secondsRung_1 : decode cX4_secondsRung 1 = .ok (.iload_n 1, 1) := by decide +kernel
theorem dX4_secondsRung_2 : decode cX4_secondsRung 2 = .ok (.invokevirtual 95, 3) := by decide +kernel
theorem dX4_secondsRung_5 : decode cX4_secondsRung 5 = .ok (.getfield 214, 3) := by decide +kernel
theorem dX4_secondsRung_8 : decode cX4_secondsRung 8 = .ok (.ireturn, 1) := by decide +kernel
set_option maxRecDepth 20000 in
theorem ggX4_quietBroken_X4_houseAt : GoodIn wsX4_quietBroken wsX4_houseAt := goodIn_ca (goodIn_r _ [5, 6, 7, 8, 9, 4, 10, 11, 12, 26, 27, 28, 29, 30, 31, 32] (by decide +kernel) (by decide +kernel)) (goodIn_sub (fun _ h => List.mem_cons_of_mem _ (List.mem_append_right _ h)) (by decide +kernel))
set_option maxRecDepth 20000 in
theorem gX4_quietBroken_X4_houseAt : GoodIn wsX4_quietBroken (wsV RX4 95 RX4 yX4_houseAt wsX4_houseAt) := goodIn_app (goodIn_of _ (by decide +kernel)) ggX4_quietBroken_X4_houseAt
theorem dX4_quietBroken_0 : decode cX4_quietBroken 0 = .ok (.aload_n 0, 1) := by decide +kernel
theorem dX4_quietBroken_1 : decode cX4_quietBroken 1 = .ok (.iload_n 1, 1) := by decide +kernel
theorem dX4_quietBroken_2 : decode cX4_quietBroken 2 = .ok (.invokevirtual 95, 3) := by decide +kernel
theorem dX4_quietBroken_5 : decode cX4_quietBroken 5 = .ok (.getfield 217, 3) := by decide +kernel
theorem dX4_quietBroken_8 : decode cX4_quietBroken 8 = .ok (.ireturn, 1) := by decide +kernel
set_option maxRecDepth 20000 in
theorem ggX4_hushed_X4_houseAt : GoodIn wsX4_hushed wsX4_houseAt := goodIn_ca (goodIn_r _ [5, 6, 7, 8, 9, 4, 10, 11, 12, 26, 27, 28, 29, 30, 31, 32] (by decide +kernel) (by decide +kernel)) (goodIn_sub (fun _ h => List.mem_cons_of_mem _ (List.mem_append_right _ h)) (by decide +kernel))
set_option maxRecDepth 20000 in
theorem gX4_hushed_X4_houseAt : GoodIn wsX4_hushed (wsV RX4 95 RX4 yX4_houseAt wsX4_houseAt) := goodIn_app (goodIn_of _ (by decide +kernel)) ggX4_hushed_X4_houseAt
theorem dX4_hushed_0 : decode cX4_hushed 0 = .ok (.aload_n 0, 1) := by decide +kernel
theorem dX4_hushed_1 : decode cX4_hushed 1 = .ok (.iload_n 1, 1) := by decide +kernel
theorem dX4_hushed_2 : decode cX4_hushed 2 = .ok (.invokevirtual 95, 3) := by decide +kernel
theorem dX4_hushed_5 : decode cX4_hushed 5 = .ok (.getfield 150, 3) := by decide +kernel
theorem dX4_hushed_8 : decode cX4_hushed 8 = .ok (.ireturn, 1) := by decide +kernel
theorem dX4_faults_0 : decode cX4_faults 0 = .ok (.aload_n 0, 1) := by decide +kernel
theorem dX4_faults_1 : decode cX4_faults 1 = .ok (.getfield 35, 3) := by decide +kernel
theorem dX4_faults_4 : decode cX4_faults 4 = .ok (.ireturn, 1) := by decide +kernel
theorem dX4_faultAt_0 : decode cX4_faultAt 0 = .ok (.iload_n 1, 1) := by decide +kernel
theorem dX4_faultAt_1 : decode cX4_faultAt 1 = .ok (.ifCond .lt 11, 3) := by decide +kernel
theorem dX4_faultAt_4 : decode cX4_faultAt 4 = .ok (.iload_n 1, 1) := by decide +kernel
theorem dX4_faultAt_5 : decode cX4_faultAt 5 = .ok (.aload_n 0, 1) := by decide +kernel
theorem dX4_faultAt_6 : decode cX4_faultAt 6 = .ok (.getfield 35, 3) := by decide +kernel
theorem dX4_faultAt_9 : decode cX4_faultAt 9 = .ok (.if_icmp .lt 13, 3) := by decide +kernel
theorem dX4_faultAt_12 : decode cX4_faultAt 12 = .ok (.new 72, 3) := by decide +kernel
theorem dX4_faultAt_15 : decode cX4_faultAt 15 = .ok (.dup, 1) := by decide +kernel
theorem dX4_faultAt_16 : decode cX4_faultAt 16 = .ok (.ldc 220, 2) := by decide +kernel
theorem dX4_faultAt_18 : decode cX4_faultAt 18 = .ok (.invokespecial 76, 3) := by decide +kernel
theorem dX4_faultAt_21 : decode cX4_faultAt 21 = .ok (.athrow, 1) := by decide +kernel
theorem dX4_faultAt_22 : decode cX4_faultAt 22 = .ok (.aload_n 0, 1) := by decide +kernel
theorem dX4_faultAt_23 : decode cX4_faultAt 23 = .ok (.getfield 27, 3) := by decide +kernel
theorem dX4_faultAt_26 : decode cX4_faultAt 26 = .ok (.iload_n 1, 1) := by decide +kernel
theorem dX4_faultAt_27 : decode cX4_faultAt 27 = .ok (.iaload, 1) := by decide +kernel
theorem dX4_faultAt_28 : decode cX4_faultAt 28 = .ok (.ireturn, 1) := by decide +kernel
theorem dX4_checkHouse_0 : decode cX4_checkHouse 0 = .ok (.iload_n 1, 1) := by decide +kernel
theorem dX4_checkHouse_1 : decode cX4_checkHouse 1 = .ok (.ifCond .lt 9, 3) := by decide +kernel
theorem dX4_checkHouse_4 : decode cX4_checkHouse 4 = .ok (.iload_n 1, 1) := by decide +kernel
theorem dX4_checkHouse_5 : decode cX4_checkHouse 5 = .ok (.bipush 8, 2) := by decide +kernel
theorem dX4_checkHouse_7 : decode cX4_checkHouse 7 = .ok (.if_icmp .lt 13, 3) := by decide +kernel
theorem dX4_checkHouse_10 : decode cX4_checkHouse 10 = .ok (.new 72, 3) := by decide +kernel
theorem dX4_checkHouse_13 : decode cX4_checkHouse 13 = .ok (.dup, 1) := by decide +kernel
theorem dX4_checkHouse_14 : decode cX4_checkHouse 14 = .ok (.ldc 222, 2) := by decide +kernel
theorem dX4_checkHouse_16 : decode cX4_checkHouse 16 = .ok (.invokespecial 76, 3) := by decide +kernel
theorem dX4_checkHouse_19 : decode cX4_checkHouse 19 = .ok (.athrow, 1) := by decide +kernel
theorem dX4_checkHouse_20 : decode cX4_checkHouse 20 = .ok (.return_, 1) := by decide +kernel
set_option maxRecDepth 20000 in
theorem ggX4_houseAt_X4_checkHouse : GoodIn wsX4_houseAt wsX4_checkHouse := goodIn_ca (goodIn_r _ [6, 7, 8] (by decide +kernel) (by decide +kernel)) (goodIn_sub (fun _ h => List.mem_cons_of_mem _ (List.mem_append_right _ h)) (by decide +kernel))
set_option maxRecDepth 20000 in
theorem gX4_houseAt_X4_checkHouse : GoodIn wsX4_houseAt (wsV RX4 45 RX4 yX4_checkHouse wsX4_checkHouse) := goodIn_app (goodIn_of _ (by decide +kernel)) ggX4_houseAt_X4_checkHouse
theorem dX4_houseAt_0 : decode cX4_houseAt 0 = .ok (.aload_n 0, 1) := by decide +kernel
theorem dX4_houseAt_1 : decode cX4_houseAt 1 = .ok (.iload_n 1, 1) := by decide +kernel
theorem dX4_houseAt_2 : decode cX4_houseAt 2 = .ok (.invokevirtual 45, 3) := by decide +kernel
theorem dX4_houseAt_5 : decode cX4_houseAt 5 = .ok (.aload_n 0, 1) := by decide +kernel
theorem dX4_houseAt_6 : decode cX4_houseAt 6 = .ok (.getfield 11, 3) := by decide +kernel
theorem dX4_houseAt_9 : decode cX4_houseAt 9 = .ok (.iload_n 1, 1) := by decide +kernel
theorem dX4_houseAt_10 : decode cX4_houseAt 10 = .ok (.aaload, 1) := by decide +kernel
theorem dX4_houseAt_11 : decode cX4_houseAt 11 = .ok (.areturn, 1) := by decide +kernel
set_option maxRecDepth 20000 in
theorem ggX4_bellAt_X4_houseAt : GoodIn wsX4_bellAt wsX4_houseAt := goodIn_ca (goodIn_r _ [7, 8, 9, 10, 11, 6, 12, 1, 2, 26, 27, 28, 29, 30, 31, 32] (by decide +kernel) (by decide +kernel)) (goodIn_sub (fun _ h => List.mem_cons_of_mem _ (List.mem_append_right _ h)) (by decide +kernel))
set_option maxRecDepth 20000 in
theorem gX4_bellAt_X4_houseAt : GoodIn wsX4_bellAt (wsV RX4 95 RX4 yX4_houseAt wsX4_houseAt) := goodIn_app (goodIn_of _ (by decide +kernel)) ggX4_bellAt_X4_houseAt
theorem dX4_bellAt_0 : decode cX4_bellAt 0 = .ok (.aload_n 0, 1) := by decide +kernel
theorem dX4_bellAt_1 : decode cX4_bellAt 1 = .ok (.iload_n 1, 1) := by decide +kernel
theorem dX4_bellAt_2 : decode cX4_bellAt 2 = .ok (.invokevirtual 95, 3) := by decide +kernel
theorem dX4_bellAt_5 : decode cX4_bellAt 5 = .ok (.astore_n 3, 1) := by decide +kernel
theorem dX4_bellAt_6 : decode cX4_bellAt 6 = .ok (.iload_n 2, 1) := by decide +kernel
theorem dX4_bellAt_7 : decode cX4_bellAt 7 = .ok (.ifCond .lt 8, 3) := by decide +kernel
theorem dX4_bellAt_10 : decode cX4_bellAt 10 = .ok (.iload_n 2, 1) := by decide +kernel
theorem dX4_bellAt_11 : decode cX4_bellAt 11 = .ok (.iconst 3, 1) := by decide +kernel
theorem dX4_bellAt_12 : decode cX4_bellAt 12 = .ok (.if_icmp .lt 13, 3) := by decide +kernel
theorem dX4_bellAt_15 : decode cX4_bellAt 15 = .ok (.new 72, 3) := by decide +kernel
theorem dX4_bellAt_18 : decode cX4_bellAt 18 = .ok (.dup, 1) := by decide +kernel
theorem dX4_bellAt_19 : decode cX4_bellAt 19 = .ok (.ldc 224, 2) := by decide +kernel
theorem dX4_bellAt_21 : decode cX4_bellAt 21 = .ok (.invokespecial 76, 3) := by decide +kernel
theorem dX4_bellAt_24 : decode cX4_bellAt 24 = .ok (.athrow, 1) := by decide +kernel
theorem dX4_bellAt_25 : decode cX4_bellAt 25 = .ok (.aload_n 3, 1) := by decide +kernel
theorem dX4_bellAt_26 : decode cX4_bellAt 26 = .ok (.getfield 226, 3) := by decide +kernel
theorem dX4_bellAt_29 : decode cX4_bellAt 29 = .ok (.iload_n 2, 1) := by decide +kernel
theorem dX4_bellAt_30 : decode cX4_bellAt 30 = .ok (.aaload, 1) := by decide +kernel
theorem dX4_bellAt_31 : decode cX4_bellAt 31 = .ok (.areturn, 1) := by decide +kernel
theorem dX4_melodyAt_0 : decode cX4_melodyAt 0 = .ok (.iload_n 1, 1) := by decide +kernel
theorem dX4_melodyAt_1 : decode cX4_melodyAt 1 = .ok (.ifCond .lt 9, 3) := by decide +kernel
theorem dX4_melodyAt_4 : decode cX4_melodyAt 4 = .ok (.iload_n 1, 1) := by decide +kernel
theorem dX4_melodyAt_5 : decode cX4_melodyAt 5 = .ok (.bipush 12, 2) := by decide +kernel
theorem dX4_melodyAt_7 : decode cX4_melodyAt 7 = .ok (.if_icmp .lt 7, 3) := by decide +kernel
theorem dX4_melodyAt_10 : decode cX4_melodyAt 10 = .ok (.aconst_null, 1) := by decide +kernel
theorem dX4_melodyAt_11 : decode cX4_melodyAt 11 = .ok (.goto 9, 3) := by decide +kernel
theorem dX4_melodyAt_14 : decode cX4_melodyAt 14 = .ok (.aload_n 0, 1) := by decide +kernel
theorem dX4_melodyAt_15 : decode cX4_melodyAt 15 = .ok (.getfield 23, 3) := by decide +kernel
theorem dX4_melodyAt_18 : decode cX4_melodyAt 18 = .ok (.iload_n 1, 1) := by decide +kernel
theorem dX4_melodyAt_19 : decode cX4_melodyAt 19 = .ok (.aaload, 1) := by decide +kernel
theorem dX4_melodyAt_20 : decode cX4_melodyAt 20 = .ok (.astore_n 2, 1) := by decide +kernel
theorem dX4_melodyAt_21 : decode cX4_melodyAt 21 = .ok (.aload_n 2, 1) := by decide +kernel
theorem dX4_melodyAt_22 : decode cX4_melodyAt 22 = .ok (.ifnonnull 13, 3) := by decide +kernel
theorem dX4_melodyAt_25 : decode cX4_melodyAt 25 = .ok (.new 72, 3) := by decide +kernel
theorem dX4_melodyAt_28 : decode cX4_melodyAt 28 = .ok (.dup, 1) := by decide +kernel
theorem dX4_melodyAt_29 : decode cX4_melodyAt 29 = .ok (.ldc 230, 2) := by decide +kernel
theorem dX4_melodyAt_31 : decode cX4_melodyAt 31 = .ok (.invokespecial 76, 3) := by decide +kernel
theorem dX4_melodyAt_34 : decode cX4_melodyAt 34 = .ok (.athrow, 1) := by decide +kernel
theorem dX4_melodyAt_35 : decode cX4_melodyAt 35 = .ok (.aload_n 2, 1) := by decide +kernel
theorem dX4_melodyAt_36 : decode cX4_melodyAt 36 = .ok (.areturn, 1) := by decide +kernel
set_option maxRecDepth 20000 in
theorem ggX4_nextChange_X2_firstStop : GoodIn wsX4_nextChange wsX2_firstStop := goodIn_r _ [12, 13, 23, 24, 25, 26, 27, 28, 29, 30, 31, 32, 33, 34, 35, 36, 37, 38, 39] (by decide +kernel) (by decide +kernel)
set_option maxRecDepth 20000 in
theorem gX4_nextChange_X2_firstStop : GoodIn wsX4_nextChange (wsV RX4 238 RX2 yX2_firstStop wsX2_firstStop) := goodIn_app (goodIn_of _ (by decide +kernel)) ggX4_nextChange_X2_firstStop
theorem dX4_nextChange_0 : decode cX4_nextChange 0 = .ok (.iload_n 1, 1) := by decide +kernel
theorem dX4_nextChange_1 : decode cX4_nextChange 1 = .ok (.aload_n 0, 1) := by decide +kernel
theorem dX4_nextChange_2 : decode cX4_nextChange 2 = .ok (.getfield 38, 3) := by decide +kernel
theorem dX4_nextChange_5 : decode cX4_nextChange 5 = .ok (.aload_n 0, 1) := by decide +kernel
theorem dX4_nextChange_6 : decode cX4_nextChange 6 = .ok (.getfield 38, 3) := by decide +kernel
theorem dX4_nextChange_9 : decode cX4_nextChange 9 = .ok (.sipush 1000, 3) := by decide +kernel
theorem dX4_nextChange_12 : decode cX4_nextChange 12 = .ok (.irem, 1) := by decide +kernel
theorem dX4_nextChange_13 : decode cX4_nextChange 13 = .ok (.isub, 1) := by decide +kernel
theorem dX4_nextChange_14 : decode cX4_nextChange 14 = .ok (.sipush 1000, 3) := by decide +kernel
theorem dX4_nextChange_17 : decode cX4_nextChange 17 = .ok (.iadd, 1) := by decide +kernel
theorem dX4_nextChange_18 : decode cX4_nextChange 18 = .ok (.invokestatic 232, 3) := by decide +kernel
theorem dX4_nextChange_21 : decode cX4_nextChange 21 = .ok (.istore_n 2, 1) := by decide +kernel
theorem dX4_nextChange_22 : decode cX4_nextChange 22 = .ok (.aload_n 0, 1) := by decide +kernel
theorem dX4_nextChange_23 : decode cX4_nextChange 23 = .ok (.getfield 11, 3) := by decide +kernel
theorem dX4_nextChange_26 : decode cX4_nextChange 26 = .ok (.astore_n 3, 1) := by decide +kernel
theorem dX4_nextChange_27 : decode cX4_nextChange 27 = .ok (.aload_n 3, 1) := by decide +kernel
theorem dX4_nextChange_28 : decode cX4_nextChange 28 = .ok (.arraylength, 1) := by decide +kernel
theorem dX4_nextChange_29 : decode cX4_nextChange 29 = .ok (.istore 4, 2) := by decide +kernel
theorem dX4_nextChange_31 : decode cX4_nextChange 31 = .ok (.iconst 0, 1) := by decide +kernel
theorem dX4_nextChange_32 : decode cX4_nextChange 32 = .ok (.istore 5, 2) := by decide +kernel
theorem dX4_nextChange_34 : decode cX4_nextChange 34 = .ok (.iload 5, 2) := by decide +kernel
theorem dX4_nextChange_36 : decode cX4_nextChange 36 = .ok (.iload 4, 2) := by decide +kernel
theorem dX4_nextChange_38 : decode cX4_nextChange 38 = .ok (.if_icmp .ge 26, 3) := by decide +kernel
theorem dX4_nextChange_41 : decode cX4_nextChange 41 = .ok (.aload_n 3, 1) := by decide +kernel
theorem dX4_nextChange_42 : decode cX4_nextChange 42 = .ok (.iload 5, 2) := by decide +kernel
theorem dX4_nextChange_44 : decode cX4_nextChange 44 = .ok (.aaload, 1) := by decide +kernel
theorem dX4_nextChange_45 : decode cX4_nextChange 45 = .ok (.astore 6, 2) := by decide +kernel
theorem dX4_nextChange_47 : decode cX4_nextChange 47 = .ok (.iload_n 2, 1) := by decide +kernel
theorem dX4_nextChange_48 : decode cX4_nextChange 48 = .ok (.aload 6, 2) := by decide +kernel
theorem dX4_nextChange_50 : decode cX4_nextChange 50 = .ok (.iload_n 2, 1) := by decide +kernel
theorem dX4_nextChange_51 : decode cX4_nextChange 51 = .ok (.invokevirtual 238, 3) := by decide +kernel
theorem dX4_nextChange_54 : decode cX4_nextChange 54 = .ok (.invokestatic 232, 3) := by decide +kernel
theorem dX4_nextChange_57 : decode cX4_nextChange 57 = .ok (.istore_n 2, 1) := by decide +kernel
theorem dX4_nextChange_58 : decode cX4_nextChange 58 = .ok (.iinc 5 1, 3) := by decide +kernel
theorem dX4_nextChange_61 : decode cX4_nextChange 61 = .ok (.goto (-27), 3) := by decide +kernel
theorem dX4_nextChange_64 : decode cX4_nextChange 64 = .ok (.aload_n 0, 1) := by decide +kernel
theorem dX4_nextChange_65 : decode cX4_nextChange 65 = .ok (.getfield 17, 3) := by decide +kernel
theorem dX4_nextChange_68 : decode cX4_nextChange 68 = .ok (.astore_n 3, 1) := by decide +kernel
theorem dX4_nextChange_69 : decode cX4_nextChange 69 = .ok (.aload_n 3, 1) := by decide +kernel
theorem dX4_nextChange_70 : decode cX4_nextChange 70 = .ok (.arraylength, 1) := by decide +kernel
theorem dX4_nextChange_71 : decode cX4_nextChange 71 = .ok (.istore 4, 2) := by decide +kernel
theorem dX4_nextChange_73 : decode cX4_nextChange 73 = .ok (.iconst 0, 1) := by decide +kernel
theorem dX4_nextChange_74 : decode cX4_nextChange 74 = .ok (.istore 5, 2) := by decide +kernel
theorem dX4_nextChange_76 : decode cX4_nextChange 76 = .ok (.iload 5, 2) := by decide +kernel
theorem dX4_nextChange_78 : decode cX4_nextChange 78 = .ok (.iload 4, 2) := by decide +kernel
theorem dX4_nextChange_80 : decode cX4_nextChange 80 = .ok (.if_icmp .ge 33, 3) := by decide +kernel
theorem dX4_nextChange_83 : decode cX4_nextChange 83 = .ok (.aload_n 3, 1) := by decide +kernel
theorem dX4_nextChange_84 : decode cX4_nextChange 84 = .ok (.iload 5, 2) := by decide +kernel
theorem dX4_nextChange_86 : decode cX4_nextChange 86 = .ok (.aaload, 1) := by decide +kernel
theorem dX4_nextChange_87 : decode cX4_nextChange 87 = .ok (.astore 6, 2) := by decide +kernel
theorem dX4_nextChange_89 : decode cX4_nextChange 89 = .ok (.aload 6, 2) := by decide +kernel
theorem dX4_nextChange_91 : decode cX4_nextChange 91 = .ok (.getfield 188, 3) := by decide +kernel
theorem dX4_nextChange_94 : decode cX4_nextChange 94 = .ok (.ifnull 13, 3) := by decide +kernel
theorem dX4_nextChange_97 : decode cX4_nextChange 97 = .ok (.iload_n 2, 1) := by decide +kernel
theorem dX4_nextChange_98 : decode cX4_nextChange 98 = .ok (.aload 6, 2) := by decide +kernel
theorem dX4_nextChange_100 : decode cX4_nextChange 100 = .ok (.getfield 194, 3) := by decide +kernel
theorem dX4_nextChange_103 : decode cX4_nextChange 103 = .ok (.invokestatic 232, 3) := by decide +kernel
theorem dX4_nextChange_106 : decode cX4_nextChange 106 = .ok (.istore_n 2, 1) := by decide +kernel
theorem dX4_nextChange_107 : decode cX4_nextChange 107 = .ok (.iinc 5 1, 3) := by decide +kernel
theorem dX4_nextChange_110 : decode cX4_nextChange 110 = .ok (.goto (-34), 3) := by decide +kernel
theorem dX4_nextChange_113 : decode cX4_nextChange 113 = .ok (.iload_n 2, 1) := by decide +kernel
theorem dX4_nextChange_114 : decode cX4_nextChange 114 = .ok (.ireturn, 1) := by decide +kernel
set_option maxRecDepth 20000 in
theorem ggX4_passStretch_X2_spend : GoodIn wsX4_passStretch wsX2_spend := goodIn_r _ [8, 9, 10, 11, 12, 13, 14, 7, 15, 16, 17, 18, 19, 20, 21, 22, 23, 24, 25, 26, 27, 28, 29, 30, 31, 32, 57, 58, 59, 60, 61, 62, 63, 64, 65, 66, 67, 68, 69, 70, 71, 72, 73] (by decide +kernel) (by decide +kernel)
set_option maxRecDepth 20000 in
theorem gX4_passStretch_X2_spend : GoodIn wsX4_passStretch (wsV RX4 241 RX2 yX2_spend wsX2_spend) := goodIn_app (goodIn_of _ (by decide +kernel)) ggX4_passStretch_X2_spend
set_option maxRecDepth 20000 in
theorem ggX4_passStretch_X2_stopEndedBells : GoodIn wsX4_passStretch wsX2_stopEndedBells := goodIn_r _ [36, 16, 57, 58, 59, 60, 61, 62, 63, 64, 65, 66, 67, 68, 69, 70, 71, 72, 73] (by decide +kernel) (by decide +kernel)
set_option maxRecDepth 20000 in
theorem gX4_passStretch_X2_stopEndedBells : GoodIn wsX4_passStretch (wsV RX4 245 RX2 yX2_stopEndedBells wsX2_stopEndedBells) := goodIn_app (goodIn_of _ (by decide +kernel)) ggX4_passStretch_X2_stopEndedBells
set_option maxRecDepth 20000 in
theorem ggX4_passStretch_X1_finish : GoodIn wsX4_passStretch wsX1_finish := goodIn_r _ [41, 42, 43, 74, 75, 57, 58, 59, 60, 61, 62, 63, 64, 65, 66, 67, 68, 69] (by decide +kernel) (by decide +kernel)
set_option maxRecDepth 20000 in
theorem gX4_passStretch_X1_finish : GoodIn wsX4_passStretch (wsV RX4 248 RX1 yX1_finish wsX1_finish) := goodIn_app (goodIn_of _ (by decide +kernel)) ggX4_passStretch_X1_finish
set_option maxRecDepth 20000 in
theorem ggX4_passStretch_X2_closeDay : GoodIn wsX4_passStretch wsX2_closeDay := goodIn_r _ [47, 11, 48, 49, 57, 58, 59, 60, 61, 62, 63, 64, 65, 66, 67, 68, 69] (by decide +kernel) (by decide +kernel)
set_option maxRecDepth 20000 in
theorem gX4_passStretch_X2_closeDay : GoodIn wsX4_passStretch (wsV RX4 251 RX2 yX2_closeDay wsX2_closeDay) := goodIn_app (goodIn_of _ (by decide +kernel)) ggX4_passStretch_X2_closeDay
theorem dX4_passStretch_0 : decode cX4_passStretch 0 = .ok (.aload_n 0, 1) := by decide +kernel
theorem dX4_passStretch_1 : decode cX4_passStretch 1 = .ok (.getfield 11, 3) := by decide +kernel
theorem dX4_passStretch_4 : decode cX4_passStretch 4 = .ok (.astore_n 2, 1) := by decide +kernel
theorem dX4_passStretch_5 : decode cX4_passStretch 5 = .ok (.aload_n 2, 1) := by decide +kernel
theorem dX4_passStretch_6 : decode cX4_passStretch 6 = .ok (.arraylength, 1) := by decide +kernel
theorem dX4_passStretch_7 : decode cX4_passStretch 7 = .ok (.istore_n 3, 1) := by decide +kernel
theorem dX4_passStretch_8 : decode cX4_passStretch 8 = .ok (.iconst 0, 1) := by decide +kernel
theorem dX4_passStretch_9 : decode cX4_passStretch 9 = .ok (.istore 4, 2) := by decide +kernel
theorem dX4_passStretch_11 : decode cX4_passStretch 11 = .ok (.iload 4, 2) := by decide +kernel
theorem dX4_passStretch_13 : decode cX4_passStretch 13 = .ok (.iload_n 3, 1) := by decide +kernel
theorem dX4_passStretch_14 : decode cX4_passStretch 14 = .ok (.if_icmp .ge 25, 3) := by decide +kernel
theorem dX4_passStretch_17 : decode cX4_passStretch 17 = .ok (.aload_n 2, 1) := by decide +kernel
theorem dX4_passStretch_18 : decode cX4_passStretch 18 = .ok (.iload 4, 2) := by decide +kernel
theorem dX4_passStretch_20 : decode cX4_passStretch 20 = .ok (.aaload, 1) := by decide +kernel
theorem dX4_passStretch_21 : decode cX4_passStretch 21 = .ok (.astore 5, 2) := by decide +kernel
theorem dX4_passStretch_23 : decode cX4_passStretch 23 = .ok (.aload 5, 2) := by decide +kernel
theorem dX4_passStretch_25 : decode cX4_passStretch 25 = .ok (.aload_n 0, 1) := by decide +kernel
theorem dX4_passStretch_26 : decode cX4_passStretch 26 = .ok (.getfield 38, 3) := by decide +kernel
theorem dX4_passStretch_29 : decode cX4_passStretch 29 = .ok (.iload_n 1, 1) := by decide +kernel
theorem dX4_passStretch_30 : decode cX4_passStretch 30 = .ok (.invokevirtual 241, 3) := by decide +kernel
theorem dX4_passStretch_33 : decode cX4_passStretch 33 = .ok (.iinc 4 1, 3) := by decide +kernel
theorem dX4_passStretch_36 : decode cX4_passStretch 36 = .ok (.goto (-25), 3) := by decide +kernel
theorem dX4_passStretch_39 : decode cX4_passStretch 39 = .ok (.aload_n 0, 1) := by decide +kernel
theorem dX4_passStretch_40 : decode cX4_passStretch 40 = .ok (.iload_n 1, 1) := by decide +kernel
theorem dX4_passStretch_41 : decode cX4_passStretch 41 = .ok (.putfield 38, 3) := by decide +kernel
theorem dX4_passStretch_44 : decode cX4_passStretch 44 = .ok (.aload_n 0, 1) := by decide +kernel
theorem dX4_passStretch_45 : decode cX4_passStretch 45 = .ok (.getfield 11, 3) := by decide +kernel
theorem dX4_passStretch_48 : decode cX4_passStretch 48 = .ok (.astore_n 2, 1) := by decide +kernel
theorem dX4_passStretch_49 : decode cX4_passStretch 49 = .ok (.aload_n 2, 1) := by decide +kernel
theorem dX4_passStretch_50 : decode cX4_passStretch 50 = .ok (.arraylength, 1) := by decide +kernel
theorem dX4_passStretch_51 : decode cX4_passStretch 51 = .ok (.istore_n 3, 1) := by decide +kernel
theorem dX4_passStretch_52 : decode cX4_passStretch 52 = .ok (.iconst 0, 1) := by decide +kernel
theorem dX4_passStretch_53 : decode cX4_passStretch 53 = .ok (.istore 4, 2) := by decide +kernel
theorem dX4_passStretch_55 : decode cX4_passStretch 55 = .ok (.iload 4, 2) := by decide +kernel
theorem dX4_passStretch_57 : decode cX4_passStretch 57 = .ok (.iload_n 3, 1) := by decide +kernel
theorem dX4_passStretch_58 : decode cX4_passStretch 58 = .ok (.if_icmp .ge 24, 3) := by decide +kernel
theorem dX4_passStretch_61 : decode cX4_passStretch 61 = .ok (.aload_n 2, 1) := by decide +kernel
theorem dX4_passStretch_62 : decode cX4_passStretch 62 = .ok (.iload 4, 2) := by decide +kernel
theorem dX4_passStretch_64 : decode cX4_passStretch 64 = .ok (.aaload, 1) := by decide +kernel
theorem dX4_passStretch_65 : decode cX4_passStretch 65 = .ok (.astore 5, 2) := by decide +kernel
theorem dX4_passStretch_67 : decode cX4_passStretch 67 = .ok (.aload 5, 2) := by decide +kernel
theorem dX4_passStretch_69 : decode cX4_passStretch 69 = .ok (.aload_n 0, 1) := by decide +kernel
theorem dX4_passStretch_70 : decode cX4_passStretch 70 = .ok (.getfield 38, 3) := by decide +kernel
theorem dX4_passStretch_73 : decode cX4_passStretch 73 = .ok (.invokevirtual 245, 3) := by decide +kernel
theorem dX4_passStretch_76 : decode cX4_passStretch 76 = .ok (.iinc 4 1, 3) := by decide +kernel
theorem dX4_passStretch_79 : decode cX4_passStretch 79 = .ok (.goto (-24), 3) := by decide +kernel
theorem dX4_passStretch_82 : decode cX4_passStretch 82 = .ok (.aload_n 0, 1) := by decide +kernel
theorem dX4_passStretch_83 : decode cX4_passStretch 83 = .ok (.getfield 17, 3) := by decide +kernel
theorem dX4_passStretch_86 : decode cX4_passStretch 86 = .ok (.astore_n 2, 1) := by decide +kernel
theorem dX4_passStretch_87 : decode cX4_passStretch 87 = .ok (.aload_n 2, 1) := by decide +kernel
theorem dX4_passStretch_88 : decode cX4_passStretch 88 = .ok (.arraylength, 1) := by decide +kernel
theorem dX4_passStretch_89 : decode cX4_passStretch 89 = .ok (.istore_n 3, 1) := by decide +kernel
theorem dX4_passStretch_90 : decode cX4_passStretch 90 = .ok (.iconst 0, 1) := by decide +kernel
theorem dX4_passStretch_91 : decode cX4_passStretch 91 = .ok (.istore 4, 2) := by decide +kernel
theorem dX4_passStretch_93 : decode cX4_passStretch 93 = .ok (.iload 4, 2) := by decide +kernel
theorem dX4_passStretch_95 : decode cX4_passStretch 95 = .ok (.iload_n 3, 1) := by decide +kernel
theorem dX4_passStretch_96 : decode cX4_passStretch 96 = .ok (.if_icmp .ge 24, 3) := by decide +kernel
theorem dX4_passStretch_99 : decode cX4_passStretch 99 = .ok (.aload_n 2, 1) := by decide +kernel
theorem dX4_passStretch_100 : decode cX4_passStretch 100 = .ok (.iload 4, 2) := by decide +kernel
theorem dX4_passStretch_102 : decode cX4_passStretch 102 = .ok (.aaload, 1) := by decide +kernel
theorem dX4_passStretch_103 : decode cX4_passStretch 103 = .ok (.astore 5, 2) := by decide +kernel
theorem dX4_passStretch_105 : decode cX4_passStretch 105 = .ok (.aload 5, 2) := by decide +kernel
theorem dX4_passStretch_107 : decode cX4_passStretch 107 = .ok (.aload_n 0, 1) := by decide +kernel
theorem dX4_passStretch_108 : decode cX4_passStretch 108 = .ok (.getfield 38, 3) := by decide +kernel
theorem dX4_passStretch_111 : decode cX4_passStretch 111 = .ok (.invokevirtual 248, 3) := by decide +kernel
theorem dX4_passStretch_114 : decode cX4_passStretch 114 = .ok (.iinc 4 1, 3) := by decide +kernel
theorem dX4_passStretch_117 : decode cX4_passStretch 117 = .ok (.goto (-24), 3) := by decide +kernel
theorem dX4_passStretch_120 : decode cX4_passStretch 120 = .ok (.aload_n 0, 1) := by decide +kernel
theorem dX4_passStretch_121 : decode cX4_passStretch 121 = .ok (.getfield 38, 3) := by decide +kernel
theorem dX4_passStretch_124 : decode cX4_passStretch 124 = .ok (.sipush 1000, 3) := by decide +kernel
theorem dX4_passStretch_127 : decode cX4_passStretch 127 = .ok (.irem, 1) := by decide +kernel
theorem dX4_passStretch_128 : decode cX4_passStretch 128 = .ok (.ifCond .ne 37, 3) := by decide +kernel
theorem dX4_passStretch_131 : decode cX4_passStretch 131 = .ok (.aload_n 0, 1) := by decide +kernel
theorem dX4_passStretch_132 : decode cX4_passStretch 132 = .ok (.getfield 11, 3) := by decide +kernel
theorem dX4_passStretch_135 : decode cX4_passStretch 135 = .ok (.astore_n 2, 1) := by decide +kernel
theorem dX4_passStretch_136 : decode cX4_passStretch 136 = .ok (.aload_n 2, 1) := by decide +kernel
theorem dX4_passStretch_137 : decode cX4_passStretch 137 = .ok (.arraylength, 1) := by decide +kernel
theorem dX4_passStretch_138 : decode cX4_passStretch 138 = .ok (.istore_n 3, 1) := by decide +kernel
theorem dX4_passStretch_139 : decode cX4_passStretch 139 = .ok (.iconst 0, 1) := by decide +kernel
theorem dX4_passStretch_140 : decode cX4_passStretch 140 = .ok (.istore 4, 2) := by decide +kernel
theorem dX4_passStretch_142 : decode cX4_passStretch 142 = .ok (.iload 4, 2) := by decide +kernel
theorem dX4_passStretch_144 : decode cX4_passStretch 144 = .ok (.iload_n 3, 1) := by decide +kernel
theorem dX4_passStretch_145 : decode cX4_passStretch 145 = .ok (.if_icmp .ge 20, 3) := by decide +kernel
theorem dX4_passStretch_148 : decode cX4_passStretch 148 = .ok (.aload_n 2, 1) := by decide +kernel
theorem dX4_passStretch_149 : decode cX4_passStretch 149 = .ok (.iload 4, 2) := by decide +kernel
theorem dX4_passStretch_151 : decode cX4_passStretch 151 = .ok (.aaload, 1) := by decide +kernel
theorem dX4_passStretch_152 : decode cX4_passStretch 152 = .ok (.astore 5, 2) := by decide +kernel
theorem dX4_passStretch_154 : decode cX4_passStretch 154 = .ok (.aload 5, 2) := by decide +kernel
theorem dX4_passStretch_156 : decode cX4_passStretch 156 = .ok (.invokevirtual 251, 3) := by decide +kernel
theorem dX4_passStretch_159 : decode cX4_passStretch 159 = .ok (.iinc 4 1, 3) := by decide +kernel
theorem dX4_passStretch_162 : decode cX4_passStretch 162 = .ok (.goto (-20), 3) := by decide +kernel
theorem dX4_passStretch_165 : decode cX4_passStretch 165 = .ok (.return_, 1) := by decide +kernel
theorem dJ9_max_7cf53_0 : decode cJ9_max_7cf53 0 = .ok (.iload_n 0, 1) := by decide +kernel
theorem dJ9_max_7cf53_1 : decode cJ9_max_7cf53 1 = .ok (.iload_n 1, 1) := by decide +kernel
theorem dJ9_max_7cf53_2 : decode cJ9_max_7cf53 2 = .ok (.if_icmp .lt 7, 3) := by decide +kernel
theorem dJ9_max_7cf53_5 : decode cJ9_max_7cf53 5 = .ok (.iload_n 0, 1) := by decide +kernel
theorem dJ9_max_7cf53_6 : decode cJ9_max_7cf53 6 = .ok (.goto 4, 3) := by decide +kernel
theorem dJ9_max_7cf53_9 : decode cJ9_max_7cf53 9 = .ok (.iload_n 1, 1) := by decide +kernel
theorem dJ9_max_7cf53_10 : decode cJ9_max_7cf53 10 = .ok (.ireturn, 1) := by decide +kernel
theorem dJ9_min_7cf53_0 : decode cJ9_min_7cf53 0 = .ok (.iload_n 0, 1) := by decide +kernel
theorem dJ9_min_7cf53_1 : decode cJ9_min_7cf53 1 = .ok (.iload_n 1, 1) := by decide +kernel
theorem dJ9_min_7cf53_2 : decode cJ9_min_7cf53 2 = .ok (.if_icmp .gt 7, 3) := by decide +kernel
theorem dJ9_min_7cf53_5 : decode cJ9_min_7cf53 5 = .ok (.iload_n 0, 1) := by decide +kernel
theorem dJ9_min_7cf53_6 : decode cJ9_min_7cf53 6 = .ok (.goto 4, 3) := by decide +kernel
theorem dJ9_min_7cf53_9 : decode cJ9_min_7cf53 9 = .ok (.iload_n 1, 1) := by decide +kernel
theorem dJ9_min_7cf53_10 : decode cJ9_min_7cf53 10 = .ok (.ireturn, 1) := by decide +kernel
theorem dL_low_0 : decode cL_low 0 = .ok (.iload_n 0, 1) := by decide +kernel
theorem dL_low_1 : decode cL_low 1 = .ok (.ldc 7, 2) := by decide +kernel
theorem dL_low_3 : decode cL_low 3 = .ok (.iand, 1) := by decide +kernel
theorem dL_low_4 : decode cL_low 4 = .ok (.iload_n 1, 1) := by decide +kernel
theorem dL_low_5 : decode cL_low 5 = .ok (.irem, 1) := by decide +kernel
theorem dL_low_6 : decode cL_low 6 = .ok (.ireturn, 1) := by decide +kernel
theorem dL_cell_0 : decode cL_cell 0 = .ok (.iload_n 1, 1) := by decide +kernel
theorem dL_cell_1 : decode cL_cell 1 = .ok (.aload_n 0, 1) := by decide +kernel
theorem dL_cell_2 : decode cL_cell 2 = .ok (.arraylength, 1) := by decide +kernel
theorem dL_cell_3 : decode cL_cell 3 = .ok (.if_icmp .ge 9, 3) := by decide +kernel
theorem dL_cell_6 : decode cL_cell 6 = .ok (.aload_n 0, 1) := by decide +kernel
theorem dL_cell_7 : decode cL_cell 7 = .ok (.iload_n 1, 1) := by decide +kernel
theorem dL_cell_8 : decode cL_cell 8 = .ok (.iaload, 1) := by decide +kernel
theorem dL_cell_9 : decode cL_cell 9 = .ok (.goto 11, 3) := by decide +kernel
theorem dL_cell_12 : decode cL_cell 12 = .ok (.ldc 8, 2) := by decide +kernel
theorem dL_cell_14 : decode cL_cell 14 = .ok (.iload_n 1, 1) := by decide +kernel
theorem dL_cell_15 : decode cL_cell 15 = .ok (.imul, 1) := by decide +kernel
theorem dL_cell_16 : decode cL_cell 16 = .ok (.sipush 977, 3) := by decide +kernel
theorem dL_cell_19 : decode cL_cell 19 = .ok (.iadd, 1) := by decide +kernel
theorem dL_cell_20 : decode cL_cell 20 = .ok (.ireturn, 1) := by decide +kernel
set_option maxRecDepth 20000 in
theorem ggL_melody_X4_addMelody : GoodIn wsL_melody wsX4_addMelody := goodIn_ca (goodIn_ca (goodIn_ca (goodIn_r _ [6, 7, 8, 9, 10, 11, 12, 13, 14, 15, 16, 17, 18, 5, 19, 20, 21, 22, 23, 24, 25, 26, 27, 28, 29, 30, 31, 32, 33, 34, 35, 36, 37, 38, 39, 40, 41, 42] (by decide +kernel) (by decide +kernel)) (goodIn_sub (fun _ h => List.mem_cons_of_mem _ (List.mem_append_left _ (List.mem_append_left _ (List.mem_append_right _ h)))) (by decide +kernel))) (goodIn_sub (fun _ h => List.mem_cons_of_mem _ (List.mem_append_left _ (List.mem_append_right _ h))) (by decide +kernel))) (goodIn_sub (fun _ h => List.mem_cons_of_mem _ (List.mem_append_right _ h)) (by decide +kernel))
set_option maxRecDepth 20000 in
theorem gL_melody_X4_addMelody : GoodIn wsL_melody (wsV RL 9 RX4 yX4_addMelody wsX4_addMelody) := goodIn_app (goodIn_of _ (by decide +kernel)) ggL_melody_X4_addMelody
theorem dL_melody_0 : decode cL_melody 0 = .ok (.aload_n 0, 1) := by decide +kernel
theorem dL_melody_1 : decode cL_melody 1 = .ok (.iload_n 1, 1) := by decide +kernel
theorem dL_melody_2 : decode cL_melody 2 = .ok (.iload_n 2, 1) := by decide +kernel
theorem dL_melody_3 : decode cL_melody 3 = .ok (.lload_n 3, 1) := by decide +kernel
theorem dL_melody_4 : decode cL_melody 4 = .ok (.invokevirtual 9, 3) := by decide +kernel
theorem dL_melody_7 : decode cL_melody 7 = .ok (.ireturn, 1) := by decide +kernel
theorem dL_melody_8 : decode cL_melody 8 = .ok (.astore 5, 2) := by decide +kernel
theorem dL_melody_10 : decode cL_melody 10 = .ok (.bipush (-3), 2) := by decide +kernel
theorem dL_melody_12 : decode cL_melody 12 = .ok (.ireturn, 1) := by decide +kernel
set_option maxRecDepth 20000 in
theorem ggL_license_X4_license : GoodIn wsL_license wsX4_license := goodIn_ca (goodIn_ca (goodIn_ca (goodIn_r _ [6, 7, 8, 9, 10, 11, 12, 13, 5, 14, 15, 16, 17, 18, 19, 20, 21, 22, 23, 24, 25, 26, 27, 28, 29, 30, 31, 32, 33, 34, 35, 36, 37, 38, 39, 40, 41, 42, 43, 44, 45, 46, 47, 48, 49, 50] (by decide +kernel) (by decide +kernel)) (goodIn_sub (fun _ h => List.mem_cons_of_mem _ (List.mem_append_left _ (List.mem_append_left _ (List.mem_append_right _ h)))) (by decide +kernel))) (goodIn_sub (fun _ h => List.mem_cons_of_mem _ (List.mem_append_left _ (List.mem_append_right _ h))) (by decide +kernel))) (goodIn_sub (fun _ h => List.mem_cons_of_mem _ (List.mem_append_right _ h)) (by decide +kernel))
set_option maxRecDepth 20000 in
theorem gL_license_X4_license : GoodIn wsL_license (wsV RL 17 RX4 yX4_license wsX4_license) := goodIn_app (goodIn_of _ (by decide +kernel)) ggL_license_X4_license
theorem dL_license_0 : decode cL_license 0 = .ok (.aload_n 0, 1) := by decide +kernel
theorem dL_license_1 : decode cL_license 1 = .ok (.iload_n 1, 1) := by decide +kernel
theorem dL_license_2 : decode cL_license 2 = .ok (.iload_n 2, 1) := by decide +kernel
theorem dL_license_3 : decode cL_license 3 = .ok (.iload_n 3, 1) := by decide +kernel
theorem dL_license_4 : decode cL_license 4 = .ok (.invokevirtual 17, 3) := by decide +kernel
theorem dL_license_7 : decode cL_license 7 = .ok (.ireturn, 1) := by decide +kernel
theorem dL_license_8 : decode cL_license 8 = .ok (.astore 4, 2) := by decide +kernel
theorem dL_license_10 : decode cL_license 10 = .ok (.bipush (-3), 2) := by decide +kernel
theorem dL_license_12 : decode cL_license 12 = .ok (.ireturn, 1) := by decide +kernel
set_option maxRecDepth 20000 in
theorem ggL_press_X4_press : GoodIn wsL_press wsX4_press := goodIn_ca (goodIn_ca (goodIn_r _ [6, 7, 8, 9, 10, 11, 12, 5, 13, 14, 15, 16, 17, 18, 19, 20, 21, 22, 23, 24, 25, 26, 27, 28, 29, 30, 31, 32, 33, 34, 35, 36, 37, 38, 39, 40, 41, 42, 43, 44, 45, 46, 47, 48, 49, 50, 51, 52, 53, 54, 55, 56, 57, 58, 59, 60, 61, 62, 63, 64, 65, 66, 67, 68, 69, 70, 71, 72, 73, 74, 75, 76, 77, 78, 79, 80, 81, 82, 83, 84, 85, 86, 87, 88, 89, 90, 91, 92, 93, 94, 95, 96, 97, 98, 99, 100, 101, 102, 103, 104, 105, 106] (by decide +kernel) (by decide +kernel)) (goodIn_sub (fun _ h => List.mem_cons_of_mem _ (List.mem_append_left _ (List.mem_append_right _ h))) (by decide +kernel))) (goodIn_sub (fun _ h => List.mem_cons_of_mem _ (List.mem_append_right _ h)) (by decide +kernel))
set_option maxRecDepth 20000 in
theorem gL_press_X4_press : GoodIn wsL_press (wsV RL 21 RX4 yX4_press wsX4_press) := goodIn_app (goodIn_of _ (by decide +kernel)) ggL_press_X4_press
theorem dL_press_0 : decode cL_press 0 = .ok (.aload_n 0, 1) := by decide +kernel
theorem dL_press_1 : decode cL_press 1 = .ok (.iload_n 1, 1) := by decide +kernel
theorem dL_press_2 : decode cL_press 2 = .ok (.iload_n 2, 1) := by decide +kernel
theorem dL_press_3 : decode cL_press 3 = .ok (.invokevirtual 21, 3) := by decide +kernel
theorem dL_press_6 : decode cL_press 6 = .ok (.ireturn, 1) := by decide +kernel
theorem dL_press_7 : decode cL_press 7 = .ok (.astore_n 3, 1) := by decide +kernel
theorem dL_press_8 : decode cL_press 8 = .ok (.bipush (-3), 2) := by decide +kernel
theorem dL_press_10 : decode cL_press 10 = .ok (.ireturn, 1) := by decide +kernel
set_option maxRecDepth 20000 in
theorem ggL_fault_X4_fault : GoodIn wsL_fault wsX4_fault := goodIn_ca (goodIn_ca (goodIn_r _ [6, 7, 8, 9, 10, 11, 12, 13, 14, 15, 5, 16, 17, 18, 19, 20, 21, 22, 23, 24, 25, 26, 27, 28, 29, 30, 31, 32, 33, 34, 35, 36, 37, 38, 39, 40, 41, 42, 43, 44, 45, 46, 47, 48, 49, 50, 51, 52, 53, 54, 55, 56, 57, 58, 59, 60, 61, 62, 63, 64, 65, 66, 67, 68, 69, 70, 71, 72, 73, 74] (by decide +kernel) (by decide +kernel)) (goodIn_sub (fun _ h => List.mem_cons_of_mem _ (List.mem_append_left _ (List.mem_append_right _ h))) (by decide +kernel))) (goodIn_sub (fun _ h => List.mem_cons_of_mem _ (List.mem_append_right _ h)) (by decide +kernel))
set_option maxRecDepth 20000 in
theorem gL_fault_X4_fault : GoodIn wsL_fault (wsV RL 25 RX4 yX4_fault wsX4_fault) := goodIn_app (goodIn_of _ (by decide +kernel)) ggL_fault_X4_fault
theorem dL_fault_0 : decode cL_fault 0 = .ok (.aload_n 0, 1) := by decide +kernel
theorem dL_fault_1 : decode cL_fault 1 = .ok (.iload_n 1, 1) := by decide +kernel
theorem dL_fault_2 : decode cL_fault 2 = .ok (.invokevirtual 25, 3) := by decide +kernel
theorem dL_fault_5 : decode cL_fault 5 = .ok (.ireturn, 1) := by decide +kernel
theorem dL_fault_6 : decode cL_fault 6 = .ok (.astore_n 2, 1) := by decide +kernel
theorem dL_fault_7 : decode cL_fault 7 = .ok (.bipush (-3), 2) := by decide +kernel
theorem dL_fault_9 : decode cL_fault 9 = .ok (.ireturn, 1) := by decide +kernel
set_option maxRecDepth 20000 in
theorem ggL_repair_X4_repair : GoodIn wsL_repair wsX4_repair := goodIn_ca (goodIn_ca (goodIn_r _ [6, 7, 8, 9, 10, 11, 12, 13, 5, 14, 15, 16, 17, 18, 19, 20, 21, 22, 23, 24, 25, 26, 27, 28, 29, 30, 31, 32, 33, 34, 35, 36, 37, 38, 39, 40, 41, 42, 43] (by decide +kernel) (by decide +kernel)) (goodIn_sub (fun _ h => List.mem_cons_of_mem _ (List.mem_append_left _ (List.mem_append_right _ h))) (by decide +kernel))) (goodIn_sub (fun _ h => List.mem_cons_of_mem _ (List.mem_append_right _ h)) (by decide +kernel))
set_option maxRecDepth 20000 in
theorem gL_repair_X4_repair : GoodIn wsL_repair (wsV RL 29 RX4 yX4_repair wsX4_repair) := goodIn_app (goodIn_of _ (by decide +kernel)) ggL_repair_X4_repair
theorem dL_repair_0 : decode cL_repair 0 = .ok (.aload_n 0, 1) := by decide +kernel
theorem dL_repair_1 : decode cL_repair 1 = .ok (.iload_n 1, 1) := by decide +kernel
theorem dL_repair_2 : decode cL_repair 2 = .ok (.invokevirtual 29, 3) := by decide +kernel
theorem dL_repair_5 : decode cL_repair 5 = .ok (.ireturn, 1) := by decide +kernel
theorem dL_repair_6 : decode cL_repair 6 = .ok (.astore_n 2, 1) := by decide +kernel
theorem dL_repair_7 : decode cL_repair 7 = .ok (.bipush (-3), 2) := by decide +kernel
theorem dL_repair_9 : decode cL_repair 9 = .ok (.ireturn, 1) := by decide +kernel
theorem dL_bits_0 : decode cL_bits 0 = .ok (.iload_n 0, 1) := by decide +kernel
theorem dL_bits_1 : decode cL_bits 1 = .ok (.iconst 1, 1) := by decide +kernel
theorem dL_bits_2 : decode cL_bits 2 = .ok (.iand, 1) := by decide +kernel
theorem dL_bits_3 : decode cL_bits 3 = .ok (.iload_n 0, 1) := by decide +kernel
theorem dL_bits_4 : decode cL_bits 4 = .ok (.iconst 1, 1) := by decide +kernel
theorem dL_bits_5 : decode cL_bits 5 = .ok (.ishr, 1) := by decide +kernel
theorem dL_bits_6 : decode cL_bits 6 = .ok (.iconst 1, 1) := by decide +kernel
theorem dL_bits_7 : decode cL_bits 7 = .ok (.iand, 1) := by decide +kernel
theorem dL_bits_8 : decode cL_bits 8 = .ok (.iadd, 1) := by decide +kernel
theorem dL_bits_9 : decode cL_bits 9 = .ok (.iload_n 0, 1) := by decide +kernel
theorem dL_bits_10 : decode cL_bits 10 = .ok (.iconst 2, 1) := by decide +kernel
theorem dL_bits_11 : decode cL_bits 11 = .ok (.ishr, 1) := by decide +kernel
theorem dL_bits_12 : decode cL_bits 12 = .ok (.iconst 1, 1) := by decide +kernel
theorem dL_bits_13 : decode cL_bits 13 = .ok (.iand, 1) := by decide +kernel
theorem dL_bits_14 : decode cL_bits 14 = .ok (.iadd, 1) := by decide +kernel
theorem dL_bits_15 : decode cL_bits 15 = .ok (.ireturn, 1) := by decide +kernel
set_option maxRecDepth 20000 in
theorem ggL_holds_X4_time : GoodIn wsL_holds wsX4_time := goodIn_r _ [5, 6, 58, 59, 60, 61, 62, 63, 64] (by decide +kernel) (by decide +kernel)
set_option maxRecDepth 20000 in
theorem gL_holds_X4_time : GoodIn wsL_holds (wsV RL 32 RX4 yX4_time wsX4_time) := goodIn_app (goodIn_of _ (by decide +kernel)) ggL_holds_X4_time
set_option maxRecDepth 20000 in
theorem ggL_holds_X4_faults : GoodIn wsL_holds wsX4_faults := goodIn_r _ [10, 11, 58, 59, 60, 61, 62, 63, 64] (by decide +kernel) (by decide +kernel)
set_option maxRecDepth 20000 in
theorem gL_holds_X4_faults : GoodIn wsL_holds (wsV RL 36 RX4 yX4_faults wsX4_faults) := goodIn_app (goodIn_of _ (by decide +kernel)) ggL_holds_X4_faults
set_option maxRecDepth 20000 in
theorem ggL_holds_X4_faultAt : GoodIn wsL_holds wsX4_faultAt := goodIn_ca (goodIn_r _ [15, 16, 17, 11, 18, 58, 59, 60, 61, 62, 63, 64] (by decide +kernel) (by decide +kernel)) (goodIn_sub (fun _ h => List.mem_cons_of_mem _ (List.mem_append_right _ h)) (by decide +kernel))
set_option maxRecDepth 20000 in
theorem gL_holds_X4_faultAt : GoodIn wsL_holds (wsV RL 39 RX4 yX4_faultAt wsX4_faultAt) := goodIn_app (goodIn_of _ (by decide +kernel)) ggL_holds_X4_faultAt
set_option maxRecDepth 20000 in
theorem ggL_holds_X4_points : GoodIn wsL_holds wsX4_points := goodIn_ca (goodIn_r _ [22, 23, 24, 25, 4, 26, 27, 28, 29, 30, 31, 16, 17, 65, 66, 67, 68, 69, 70, 71, 72, 73, 74, 75, 76, 77, 58, 59, 60, 61, 62, 63, 64] (by decide +kernel) (by decide +kernel)) (goodIn_sub (fun _ h => List.mem_cons_of_mem _ (List.mem_append_right _ h)) (by decide +kernel))
set_option maxRecDepth 20000 in
theorem gL_holds_X4_points : GoodIn wsL_holds (wsV RL 42 RX4 yX4_points wsX4_points) := goodIn_app (goodIn_of _ (by decide +kernel)) ggL_holds_X4_points
set_option maxRecDepth 20000 in
theorem ggL_holds_X4_isSound : GoodIn wsL_holds wsX4_isSound := goodIn_ca (goodIn_r _ [35, 23, 24, 25, 4, 26, 27, 28, 29, 30, 31, 16, 17, 65, 66, 67, 68, 69, 70, 71, 72, 73, 74, 75, 76, 77, 58, 59, 60, 61, 62, 63, 64] (by decide +kernel) (by decide +kernel)) (goodIn_sub (fun _ h => List.mem_cons_of_mem _ (List.mem_append_right _ h)) (by decide +kernel))
set_option maxRecDepth 20000 in
theorem gL_holds_X4_isSound : GoodIn wsL_holds (wsV RL 45 RX4 yX4_isSound wsX4_isSound) := goodIn_app (goodIn_of _ (by decide +kernel)) ggL_holds_X4_isSound
set_option maxRecDepth 20000 in
theorem ggL_holds_X4_ringing : GoodIn wsL_holds wsX4_ringing := goodIn_ca (goodIn_r _ [39, 23, 24, 25, 4, 26, 27, 28, 29, 30, 31, 16, 17, 40, 41, 42, 43, 44, 45, 58, 59, 60, 61, 62, 63, 64, 65, 66, 67, 68, 69, 70, 71, 72, 73, 74, 75, 76, 77, 78, 79, 80, 81] (by decide +kernel) (by decide +kernel)) (goodIn_sub (fun _ h => List.mem_cons_of_mem _ (List.mem_append_right _ h)) (by decide +kernel))
set_option maxRecDepth 20000 in
theorem gL_holds_X4_ringing : GoodIn wsL_holds (wsV RL 49 RX4 yX4_ringing wsX4_ringing) := goodIn_app (goodIn_of _ (by decide +kernel)) ggL_holds_X4_ringing
set_option maxRecDepth 20000 in
theorem ggL_holds_X4_quietBroken : GoodIn wsL_holds wsX4_quietBroken := goodIn_ca (goodIn_r _ [49, 23, 24, 25, 4, 26, 27, 28, 29, 30, 31, 16, 17, 65, 66, 67, 68, 69, 70, 71, 72, 73, 74, 75, 76, 77, 58, 59, 60, 61, 62, 63, 64] (by decide +kernel) (by decide +kernel)) (goodIn_sub (fun _ h => List.mem_cons_of_mem _ (List.mem_append_right _ h)) (by decide +kernel))
set_option maxRecDepth 20000 in
theorem gL_holds_X4_quietBroken : GoodIn wsL_holds (wsV RL 52 RX4 yX4_quietBroken wsX4_quietBroken) := goodIn_app (goodIn_of _ (by decide +kernel)) ggL_holds_X4_quietBroken
set_option maxRecDepth 20000 in
theorem ggL_holds_X4_secondsRung : GoodIn wsL_holds wsX4_secondsRung := goodIn_ca (goodIn_r _ [53, 23, 24, 25, 4, 26, 27, 28, 29, 30, 31, 16, 17, 65, 66, 67, 68, 69, 70, 71, 72, 73, 74, 75, 76, 77, 58, 59, 60, 61, 62, 63, 64] (by decide +kernel) (by decide +kernel)) (goodIn_sub (fun _ h => List.mem_cons_of_mem _ (List.mem_append_right _ h)) (by decide +kernel))
set_option maxRecDepth 20000 in
theorem gL_holds_X4_secondsRung : GoodIn wsL_holds (wsV RL 55 RX4 yX4_secondsRung wsX4_secondsRung) := goodIn_app (goodIn_of _ (by decide +kernel)) ggL_holds_X4_secondsRung
set_option maxRecDepth 20000 in
theorem ggL_holds_X4_hushed : GoodIn wsL_holds wsX4_hushed := goodIn_ca (goodIn_r _ [57, 23, 24, 25, 4, 26, 27, 28, 29, 30, 31, 16, 17, 65, 66, 67, 68, 69, 70, 71, 72, 73, 74, 75, 76, 77, 58, 59, 60, 61, 62, 63, 64] (by decide +kernel) (by decide +kernel)) (goodIn_sub (fun _ h => List.mem_cons_of_mem _ (List.mem_append_right _ h)) (by decide +kernel))
set_option maxRecDepth 20000 in
theorem gL_holds_X4_hushed : GoodIn wsL_holds (wsV RL 58 RX4 yX4_hushed wsX4_hushed) := goodIn_app (goodIn_of _ (by decide +kernel)) ggL_holds_X4_hushed
theorem dL_holds_0 : decode cL_holds 0 = .ok (.aload_n 0, 1) := by decide +kernel
theorem dL_holds_1 : decode cL_holds 1 = .ok (.invokevirtual 32, 3) := by decide +kernel
theorem dL_holds_4 : decode cL_holds 4 = .ok (.sipush 1000, 3) := by decide +kernel
theorem dL_holds_7 : decode cL_holds 7 = .ok (.idiv, 1) := by decide +kernel
theorem dL_holds_8 : decode cL_holds 8 = .ok (.istore_n 1, 1) := by decide +kernel
theorem dL_holds_9 : decode cL_holds 9 = .ok (.iconst 0, 1) := by decide +kernel
theorem dL_holds_10 : decode cL_holds 10 = .ok (.istore_n 2, 1) := by decide +kernel
theorem dL_holds_11 : decode cL_holds 11 = .ok (.aload_n 0, 1) := by decide +kernel
theorem dL_holds_12 : decode cL_holds 12 = .ok (.invokevirtual 36, 3) := by decide +kernel
theorem dL_holds_15 : decode cL_holds 15 = .ok (.ifCond .lt 16, 3) := by decide +kernel
theorem dL_holds_18 : decode cL_holds 18 = .ok (.aload_n 0, 1) := by decide +kernel
theorem dL_holds_19 : decode cL_holds 19 = .ok (.invokevirtual 36, 3) := by decide +kernel
theorem dL_holds_22 : decode cL_holds 22 = .ok (.bipush 100, 2) := by decide +kernel
theorem dL_holds_24 : decode cL_holds 24 = .ok (.if_icmp .gt 7, 3) := by decide +kernel
theorem dL_holds_27 : decode cL_holds 27 = .ok (.iconst 1, 1) := by decide +kernel
theorem dL_holds_28 : decode cL_holds 28 = .ok (.goto 4, 3) := by decide +kernel
theorem dL_holds_31 : decode cL_holds 31 = .ok (.iconst 0, 1) := by decide +kernel
theorem dL_holds_32 : decode cL_holds 32 = .ok (.istore_n 3, 1) := by decide +kernel
theorem dL_holds_33 : decode cL_holds 33 = .ok (.iconst 0, 1) := by decide +kernel
theorem dL_holds_34 : decode cL_holds 34 = .ok (.istore 4, 2) := by decide +kernel
theorem dL_holds_36 : decode cL_holds 36 = .ok (.iload 4, 2) := by decide +kernel
theorem dL_holds_38 : decode cL_holds 38 = .ok (.aload_n 0, 1) := by decide +kernel
theorem dL_holds_39 : decode cL_holds 39 = .ok (.invokevirtual 36, 3) := by decide +kernel
theorem dL_holds_42 : decode cL_holds 42 = .ok (.if_icmp .ge 102, 3) := by decide +kernel
theorem dL_holds_45 : decode cL_holds 45 = .ok (.iload_n 3, 1) := by decide +kernel
theorem dL_holds_46 : decode cL_holds 46 = .ok (.ifCond .eq 98, 3) := by decide +kernel
theorem dL_holds_49 : decode cL_holds 49 = .ok (.iload_n 2, 1) := by decide +kernel
theorem dL_holds_50 : decode cL_holds 50 = .ok (.aload_n 0, 1) := by decide +kernel
theorem dL_holds_51 : decode cL_holds 51 = .ok (.iload 4, 2) := by decide +kernel
theorem dL_holds_53 : decode cL_holds 53 = .ok (.invokevirtual 39, 3) := by decide +kernel
theorem dL_holds_56 : decode cL_holds 56 = .ok (.bipush 10, 2) := by decide +kernel
theorem dL_holds_58 : decode cL_holds 58 = .ok (.idiv, 1) := by decide +kernel
theorem dL_holds_59 : decode cL_holds 59 = .ok (.sipush 1000, 3) := by decide +kernel
theorem dL_holds_62 : decode cL_holds 62 = .ok (.iload_n 1, 1) := by decide +kernel
theorem dL_holds_63 : decode cL_holds 63 = .ok (.imul, 1) := by decide +kernel
theorem dL_holds_64 : decode cL_holds 64 = .ok (.if_icmp .ge 7, 3) := by decide +kernel
theorem dL_holds_67 : decode cL_holds 67 = .ok (.iconst 1, 1) := by decide +kernel
theorem dL_holds_68 : decode cL_holds 68 = .ok (.goto 4, 3) := by decide +kernel
theorem dL_holds_71 : decode cL_holds 71 = .ok (.iconst 0, 1) := by decide +kernel
theorem dL_holds_72 : decode cL_holds 72 = .ok (.iadd, 1) := by decide +kernel
theorem dL_holds_73 : decode cL_holds 73 = .ok (.istore_n 2, 1) := by decide +kernel
theorem dL_holds_74 : decode cL_holds 74 = .ok (.aload_n 0, 1) := by decide +kernel
theorem dL_holds_75 : decode cL_holds 75 = .ok (.iload 4, 2) := by decide +kernel
theorem dL_holds_77 : decode cL_holds 77 = .ok (.invokevirtual 39, 3) := by decide +kernel
theorem dL_holds_80 : decode cL_holds 80 = .ok (.bipush 10, 2) := by decide +kernel
theorem dL_holds_82 : decode cL_holds 82 = .ok (.irem, 1) := by decide +kernel
theorem dL_holds_83 : decode cL_holds 83 = .ok (.bipush 8, 2) := by decide +kernel
theorem dL_holds_85 : decode cL_holds 85 = .ok (.if_icmp .ge 51, 3) := by decide +kernel
theorem dL_holds_88 : decode cL_holds 88 = .ok (.aload_n 0, 1) := by decide +kernel
theorem dL_holds_89 : decode cL_holds 89 = .ok (.iload 4, 2) := by decide +kernel
theorem dL_holds_91 : decode cL_holds 91 = .ok (.invokevirtual 39, 3) := by decide +kernel
theorem dL_holds_94 : decode cL_holds 94 = .ok (.bipush 10, 2) := by decide +kernel
theorem dL_holds_96 : decode cL_holds 96 = .ok (.idiv, 1) := by decide +kernel
theorem dL_holds_97 : decode cL_holds 97 = .ok (.aload_n 0, 1) := by decide +kernel
theorem dL_holds_98 : decode cL_holds 98 = .ok (.invokevirtual 32, 3) := by decide +kernel
theorem dL_holds_101 : decode cL_holds 101 = .ok (.if_icmp .gt 35, 3) := by decide +kernel
theorem dL_holds_104 : decode cL_holds 104 = .ok (.iload 4, 2) := by decide +kernel
theorem dL_holds_106 : decode cL_holds 106 = .ok (.ifCond .eq 26, 3) := by decide +kernel
theorem dL_holds_109 : decode cL_holds 109 = .ok (.aload_n 0, 1) := by decide +kernel
theorem dL_holds_110 : decode cL_holds 110 = .ok (.iload 4, 2) := by decide +kernel
theorem dL_holds_112 : decode cL_holds 112 = .ok (.iconst 1, 1) := by decide +kernel
theorem dL_holds_113 : decode cL_holds 113 = .ok (.isub, 1) := by decide +kernel
theorem dL_holds_114 : decode cL_holds 114 = .ok (.invokevirtual 39, 3) := by decide +kernel
theorem dL_holds_117 : decode cL_holds 117 = .ok (.bipush 10, 2) := by decide +kernel
theorem dL_holds_119 : decode cL_holds 119 = .ok (.idiv, 1) := by decide +kernel
theorem dL_holds_120 : decode cL_holds 120 = .ok (.aload_n 0, 1) := by decide +kernel
theorem dL_holds_121 : decode cL_holds 121 = .ok (.iload 4, 2) := by decide +kernel
theorem dL_holds_123 : decode cL_holds 123 = .ok (.invokevirtual 39, 3) := by decide +kernel
theorem dL_holds_126 : decode cL_holds 126 = .ok (.bipush 10, 2) := by decide +kernel
theorem dL_holds_128 : decode cL_holds 128 = .ok (.idiv, 1) := by decide +kernel
theorem dL_holds_129 : decode cL_holds 129 = .ok (.if_icmp .gt 7, 3) := by decide +kernel
theorem dL_holds_132 : decode cL_holds 132 = .ok (.iconst 1, 1) := by decide +kernel
theorem dL_holds_133 : decode cL_holds 133 = .ok (.goto 4, 3) := by decide +kernel
theorem dL_holds_136 : decode cL_holds 136 = .ok (.iconst 0, 1) := by decide +kernel
theorem dL_holds_137 : decode cL_holds 137 = .ok (.istore_n 3, 1) := by decide +kernel
theorem dL_holds_138 : decode cL_holds 138 = .ok (.iinc 4 1, 3) := by decide +kernel
theorem dL_holds_141 : decode cL_holds 141 = .ok (.goto (-105), 3) := by decide +kernel
theorem dL_holds_144 : decode cL_holds 144 = .ok (.iconst 0, 1) := by decide +kernel
theorem dL_holds_145 : decode cL_holds 145 = .ok (.istore 4, 2) := by decide +kernel
theorem dL_holds_147 : decode cL_holds 147 = .ok (.iconst 0, 1) := by decide +kernel
theorem dL_holds_148 : decode cL_holds 148 = .ok (.istore 5, 2) := by decide +kernel
theorem dL_holds_150 : decode cL_holds 150 = .ok (.iload 5, 2) := by decide +kernel
theorem dL_holds_152 : decode cL_holds 152 = .ok (.bipush 8, 2) := by decide +kernel
theorem dL_holds_154 : decode cL_holds 154 = .ok (.if_icmp .ge 104, 3) := by decide +kernel
theorem dL_holds_157 : decode cL_holds 157 = .ok (.iload_n 3, 1) := by decide +kernel
theorem dL_holds_158 : decode cL_holds 158 = .ok (.ifCond .eq 100, 3) := by decide +kernel
theorem dL_holds_161 : decode cL_holds 161 = .ok (.iload 4, 2) := by decide +kernel
theorem dL_holds_163 : decode cL_holds 163 = .ok (.aload_n 0, 1) := by decide +kernel
theorem dL_holds_164 : decode cL_holds 164 = .ok (.iload 5, 2) := by decide +kernel
theorem dL_holds_166 : decode cL_holds 166 = .ok (.invokevirtual 42, 3) := by decide +kernel
theorem dL_holds_169 : decode cL_holds 169 = .ok (.iadd, 1) := by decide +kernel
theorem dL_holds_170 : decode cL_holds 170 = .ok (.istore 4, 2) := by decide +kernel
theorem dL_holds_172 : decode cL_holds 172 = .ok (.aload_n 0, 1) := by decide +kernel
theorem dL_holds_173 : decode cL_holds 173 = .ok (.iload 5, 2) := by decide +kernel
theorem dL_holds_175 : decode cL_holds 175 = .ok (.invokevirtual 45, 3) := by decide +kernel
theorem dL_holds_178 : decode cL_holds 178 = .ok (.ifCond .ne 12, 3) := by decide +kernel
theorem dL_holds_181 : decode cL_holds 181 = .ok (.aload_n 0, 1) := by decide +kernel
theorem dL_holds_182 : decode cL_holds 182 = .ok (.iload 5, 2) := by decide +kernel
theorem dL_holds_184 : decode cL_holds 184 = .ok (.invokevirtual 49, 3) := by decide +kernel
theorem dL_holds_187 : decode cL_holds 187 = .ok (.ifCond .ne 63, 3) := by decide +kernel
theorem dL_holds_190 : decode cL_holds 190 = .ok (.aload_n 0, 1) := by decide +kernel
theorem dL_holds_191 : decode cL_holds 191 = .ok (.iload 5, 2) := by decide +kernel
theorem dL_holds_193 : decode cL_holds 193 = .ok (.invokevirtual 52, 3) := by decide +kernel
theorem dL_holds_196 : decode cL_holds 196 = .ok (.ifCond .lt 54, 3) := by decide +kernel
theorem dL_holds_199 : decode cL_holds 199 = .ok (.aload_n 0, 1) := by decide +kernel
theorem dL_holds_200 : decode cL_holds 200 = .ok (.iload 5, 2) := by decide +kernel
theorem dL_holds_202 : decode cL_holds 202 = .ok (.invokevirtual 52, 3) := by decide +kernel
theorem dL_holds_205 : decode cL_holds 205 = .ok (.aload_n 0, 1) := by decide +kernel
