theorem dX4_nextChange_57 : decode cX4_nextChange 57 = .ok (.istore_n 2, 1) := by decide +kernel
theorem dX4_nextChange_58 : decode cX4_nextChange 58 = .ok (.iinc 5 1, 3) := by decide +kernel
theorem dX4_nextChange_61 : decode cX4_nextChange 61 = .ok (.goto (-27), 3) := by decide +kernel
theorem dX4_nextChange_64 : decode cX4_nextChange 64 = .ok (.aload_n 0, 1) := by decide +kernel
theorem dX4_nextChange_65 : decode cX4_nextChange 65 = .ok (.getfield 17, 3) := by decide +kernel
theorem dX4_nextChange_68 : decode cX4_nextChange 68 = .ok (.astore_n 3, 1) := by decide +kernel
theorem dX4_nextChange_69 : decode cX4_nextChange 69 = .ok (.aload_n 3, 1) := by decide +kernel
theorem dX4_nextChange_70 : decode cX4_nextChange 70 = .ok (.arraylength, 1) := by decide +kernel
theorem dX4_nextChange_71 : decode cX4_nextChange 71 = .ok (.istore 4, 2) := by decide +kernel
theorem dX4_nextChange_73 : decode cX4_nextChange 73 = .ok (.iconst 0, 1) := by decide +kernel
theorem dX4_nextChange_74 : decode cX4_nextChange 74 = .ok (.istore 5, 2) := by decide +kernel
theorem dX4_nextChange_76 : decode cX4_nextChange 76 = .ok (.iload 5, 2) := by decide +kernel
theorem dX4_nextChange_78 : decode cX4_nextChange 78 = .ok (.iload 4, 2) := by decide +kernel
theorem dX4_nextChange_80 : decode cX4_nextChange 80 = .ok (.if_icmp .ge 33, 3) := by decide +kernel
theorem dX4_nextChange_83 : decode cX4_nextChange 83 = .ok (.aload_n 3, 1) := by decide +kernel
theorem dX4_nextChange_84 : decode cX4_nextChange 84 = .ok (.iload 5, 2) := by decide +kernel
theorem dX4_nextChange_86 : decode cX4_nextChange 86 = .ok (.aaload, 1) := by decide +kernel
theorem dX4_nextChange_87 : decode cX4_nextChange 87 = .ok (.astore 6, 2) := by decide +kernel
theorem dX4_nextChange_89 : decode cX4_nextChange 89 = .ok (.aload 6, 2) := by decide +kernel
theorem dX4_nextChange_91 : decode cX4_nextChange 91 = .ok (.getfield 188, 3) := by decide +kernel
theorem dX4_nextChange_94 : decode cX4_nextChange 94 = .ok (.ifnull 13, 3) := by decide +kernel
theorem dX4_nextChange_97 : decode cX4_nextChange 97 = .ok (.iload_n 2, 1) := by decide +kernel
theorem dX4_nextChange_98 : decode cX4_nextChange 98 = .ok (.aload 6, 2) := by decide +kernel
theorem dX4_nextChange_100 : decode cX4_nextChange 100 = .ok (.getfield 194, 3) := by decide +kernel
theorem dX4_nextChange_103 : decode cX4_nextChange 103 = .ok (.invokestatic 232, 3) := by decide +kernel
theorem dX4_nextChange_106 : decode cX4_nextChange 106 = .ok (.istore_n 2, 1) := by decide +kernel
theorem dX4_nextChange_107 : decode cX4_nextChange 107 = .ok (.iinc 5 1, 3) := by decide +kernel
theorem dX4_nextChange_110 : decode cX4_nextChange 110 = .ok (.goto (-34), 3) := by decide +kernel
theorem dX4_nextChange_113 : decode cX4_nextChange 113 = .ok (.iload_n 2, 1) := by decide +kernel
theorem dX4_nextChange_114 : decode cX4_nextChange 114 = .ok (.ireturn, 1) := by decide +kernel
set_option maxRecDepth 20000 in
theorem ggX4_passStretch_X2_spend : GoodIn wsX4_passStretch wsX2_spend := goodIn_r _ [8, 9, 10, 11, 12, 13, 14, 7, 15, 16, 17, 18, 19, 20, 21, 22, 23, 24, 25, 26, 27, 28, 29, 30, 31, 32, 57, 58, 59, 60, 61, 62, 63, 64, 65, 66, 67, 68, 69, 70, 71, 72, 73] (by decide +kernel) (by decide +kernel)
set_option maxRecDepth 20000 in
theorem gX4_passStretch_X2_spend : GoodIn wsX4_passStretch (wsV RX4 241 RX2 yX2_spend wsX2_spend) := goodIn_app (goodIn_of _ (by decide +kernel)) ggX4_passStretch_X2_spend
set_option maxRecDepth 20000 in
theorem ggX4_passStretch_X2_stopEndedBells : GoodIn wsX4_passStretch wsX2_stopEndedBells := goodIn_r _ [36, 16, 57, 58, 59, 60, 61, 62, 63, 64, 65, 66, 67, 68, 69, 70, 71, 72, 73] (by decide +kernel) (by decide +kernel)
set_option maxRecDepth 20000 in
theorem gX4_passStretch_X2_stopEndedBells : GoodIn wsX4_passStretch (wsV RX4 245 RX2 yX2_stopEndedBells wsX2_stopEndedBells) := goodIn_app (goodIn_of _ (by decide +kernel)) ggX4_passStretch_X2_stopEndedBells
set_option maxRecDepth 20000 in
theorem ggX4_passStretch_X1_finish : GoodIn wsX4_passStretch wsX1_finish := goodIn_r _ [41, 42, 43, 74, 75, 57, 58, 59, 60, 61, 62, 63, 64, 65, 66, 67, 68, 69] (by decide +kernel) (by decide +kernel)
set_option maxRecDepth 20000 in
theorem gX4_passStretch_X1_finish : GoodIn wsX4_passStretch (wsV RX4 248 RX1 yX1_finish wsX1_finish) := goodIn_app (goodIn_of _ (by decide +kernel)) ggX4_passStretch_X1_finish
set_option maxRecDepth 20000 in
theorem ggX4_passStretch_X2_closeDay : GoodIn wsX4_passStretch wsX2_closeDay := goodIn_r _ [47, 11, 48, 49, 57, 58, 59, 60, 61, 62, 63, 64, 65, 66, 67, 68, 69] (by decide +kernel) (by decide +kernel)
set_option maxRecDepth 20000 in
theorem gX4_passStretch_X2_closeDay : GoodIn wsX4_passStretch (wsV RX4 251 RX2 yX2_closeDay wsX2_closeDay) := goodIn_app (goodIn_of _ (by decide +kernel)) ggX4_passStretch_X2_closeDay
theorem dX4_passStretch_0 : decode cX4_passStretch 0 = .ok (.aload_n 0, 1) := by decide +kernel
theorem dX4_passStretch_1 : decode cX4_passStretch 1 = .ok (.getfield 11, 3) := by decide +kernel
theorem dX4_passStretch_4 : decode cX4_passStretch 4 = .ok (.astore_n 2, 1) := by decide +kernel
theorem dX4_passStretch_5 : decode cX4_passStretch 5 = .ok (.aload_n 2, 1) := by decide +kernel
theorem dX4_passStretch_6 : decode cX4_passStretch 6 = .ok (.arraylength, 1) := by decide +kernel
theorem dX4_passStretch_7 : decode cX4_passStretch 7 = .ok (.istore_n 3, 1) := by decide +kernel
theorem dX4_passStretch_8 : decode cX4_passStretch 8 = .ok (.iconst 0, 1) := by decide +kernel
theorem dX4_passStretch_9 : decode cX4_passStretch 9 = .ok (.istore 4, 2) := by decide +kernel
theorem dX4_passStretch_11 : decode cX4_passStretch 11 = .ok (.iload 4, 2) := by decide +kernel
theorem dX4_passStretch_13 : decode cX4_passStretch 13 = .ok (.iload_n 3, 1) := by decide +kernel
theorem dX4_passStretch_14 : decode cX4_passStretch 14 = .ok (.if_icmp .ge 25, 3) := by decide +kernel
theorem dX4_passStretch_17 : decode cX4_passStretch 17 = .ok (.aload_n 2, 1) := by decide +kernel
theorem dX4_passStretch_18 : decode cX4_passStretch 18 = .ok (.iload 4, 2) := by decide +kernel
theorem dX4_passStretch_20 : decode cX4_passStretch 20 = .ok (.aaload, 1) := by decide +kernel
theorem dX4_passStretch_21 : decode cX4_passStretch 21 = .ok (.astore 5, 2) := by decide +kernel
theorem dX4_passStretch_23 : decode cX4_passStretch 23 = .ok (.aload 5, 2) := by decide +kernel
theorem dX4_passStretch_25 : decode cX4_passStretch 25 = .ok (.aload_n 0, 1) := by decide +kernel
theorem dX4_passStretch_26 : decode cX4_passStretch 26 = .ok (.getfield 38, 3) := by decide +kernel
theorem dX4_passStretch_29 : decode cX4_passStretch 29 = .ok (.iload_n 1, 1) := by decide +kernel
theorem dX4_passStretch_30 : decode cX4_passStretch 30 = .ok (.invokevirtual 241, 3) := by decide +kernel
theorem dX4_passStretch_33 : decode cX4_passStretch 33 = .ok (.iinc 4 1, 3) := by decide +kernel
theorem dX4_passStretch_36 : decode cX4_passStretch 36 = .ok (.goto (-25), 3) := by decide +kernel
theorem dX4_passStretch_39 : decode cX4_passStretch 39 = .ok (.aload_n 0, 1) := by decide +kernel
theorem dX4_passStretch_40 : decode cX4_passStretch 40 = .ok (.iload_n 1, 1) := by decide +kernel
theorem dX4_passStretch_41 : decode cX4_passStretch 41 = .ok (.putfield 38, 3) := by decide +kernel
theorem dX4_passStretch_44 : decode cX4_passStretch 44 = .ok (.aload_n 0, 1) := by decide +kernel
theorem dX4_passStretch_45 : decode cX4_passStretch 45 = .ok (.getfield 11, 3) := by decide +kernel
theorem dX4_passStretch_48 : decode cX4_passStretch 48 = .ok (.astore_n 2, 1) := by decide +kernel
theorem dX4_passStretch_49 : decode cX4_passStretch 49 = .ok (.aload_n 2, 1) := by decide +kernel
theorem dX4_passStretch_50 : decode cX4_passStretch 50 = .ok (.arraylength, 1) := by decide +kernel
theorem dX4_passStretch_51 : decode cX4_passStretch 51 = .ok (.istore_n 3, 1) := by decide +kernel
theorem dX4_passStretch_52 : decode cX4_passStretch 52 = .ok (.iconst 0, 1) := by decide +kernel
theorem dX4_passStretch_53 : decode cX4_passStretch 53 = .ok (.istore 4, 2) := by decide +kernel
theorem dX4_passStretch_55 : decode cX4_passStretch 55 = .ok (.iload 4, 2) := by decide +kernel
theorem dX4_passStretch_57 : decode cX4_passStretch 57 = .ok (.iload_n 3, 1) := by decide +kernel
theorem dX4_passStretch_58 : decode cX4_passStretch 58 = .ok (.if_icmp .ge 24, 3) := by decide +kernel
theorem dX4_passStretch_61 : decode cX4_passStretch 61 = .ok (.aload_n 2, 1) := by decide +kernel
theorem dX4_passStretch_62 : decode cX4_passStretch 62 = .ok (.iload 4, 2) := by decide +kernel
theorem dX4_passStretch_64 : decode cX4_passStretch 64 = .ok (.aaload, 1) := by decide +kernel
theorem dX4_passStretch_65 : decode cX4_passStretch 65 = .ok (.astore 5, 2) := by decide +kernel
theorem dX4_passStretch_67 : decode cX4_passStretch 67 = .ok (.aload 5, 2) := by decide +kernel
theorem dX4_passStretch_69 : decode cX4_passStretch 69 = .ok (.aload_n 0, 1) := by decide +kernel
theorem dX4_passStretch_70 : decode cX4_passStretch 70 = .ok (.getfield 38, 3) := by decide +kernel
theorem dX4_passStretch_73 : decode cX4_passStretch 73 = .ok (.invokevirtual 245, 3) := by decide +kernel
theorem dX4_passStretch_76 : decode cX4_passStretch 76 = .ok (.iinc 4 1, 3) := by decide +kernel
theorem dX4_passStretch_79 : decode cX4_passStretch 79 = .ok (.goto (-24), 3) := by decide +kernel
theorem dX4_passStretch_82 : decode cX4_passStretch 82 = .ok (.aload_n 0, 1) := by decide +kernel
theorem dX4_passStretch_83 : decode cX4_passStretch 83 = .ok (.getfield 17, 3) := by decide +kernel
theorem dX4_passStretch_86 : decode cX4_passStretch 86 = .ok (.astore_n 2, 1) := by decide +kernel
theorem dX4_passStretch_87 : decode cX4_passStretch 87 = .ok (.aload_n 2, 1) := by decide +kernel
theorem dX4_passStretch_88 : decode cX4_passStretch 88 = .ok (.arraylength, 1) := by decide +kernel
theorem dX4_passStretch_89 : decode cX4_passStretch 89 = .ok (.istore_n 3, 1) := by decide +kernel
theorem dX4_passStretch_90 : decode cX4_passStretch 90 = .ok (.iconst 0, 1) := by decide +kernel
theorem dX4_passStretch_91 : decode cX4_passStretch 91 = .ok (.istore 4, 2) := by decide +kernel
theorem dX4_passStretch_93 : decode cX4_passStretch 93 = .ok (.iload 4, 2) := by decide +kernel
theorem dX4_passStretch_95 : decode cX4_passStretch 95 = .ok (.iload_n 3, 1) := by decide +kernel
theorem dX4_passStretch_96 : decode cX4_passStretch 96 = .ok (.if_icmp .ge 24, 3) := by decide +kernel
theorem dX4_passStretch_99 : decode cX4_passStretch 99 = .ok (.aload_n 2, 1) := by decide +kernel
theorem dX4_passStretch_100 : decode cX4_passStretch 100 = .ok (.iload 4, 2) := by decide +kernel
theorem dX4_passStretch_102 : decode cX4_passStretch 102 = .ok (.aaload, 1) := by decide +kernel
theorem dX4_passStretch_103 : decode cX4_passStretch 103 = .ok (.astore 5, 2) := by decide +kernel
theorem dX4_passStretch_105 : decode cX4_passStretch 105 = .ok (.aload 5, 2) := by decide +kernel
theorem dX4_passStretch_107 : decode cX4_passStretch 107 = .ok (.aload_n 0, 1) := by decide +kernel
theorem dX4_passStretch_108 : decode cX4_passStretch 108 = .ok (.getfield 38, 3) := by decide +kernel
theorem dX4_passStretch_111 : decode cX4_passStretch 111 = .ok (.invokevirtual 248, 3) := by decide +kernel
theorem dX4_passStretch_114 : decode cX4_passStretch 114 = .ok (.iinc 4 1, 3) := by decide +kernel
theorem dX4_passStretch_117 : decode cX4_passStretch 117 = .ok (.goto (-24), 3) := by decide +kernel
theorem dX4_passStretch_120 : decode cX4_passStretch 120 = .ok (.aload_n 0, 1) := by decide +kernel
theorem dX4_passStretch_121 : decode cX4_passStretch 121 = .ok (.getfield 38, 3) := by decide +kernel
theorem dX4_passStretch_124 : decode cX4_passStretch 124 = .ok (.sipush 1000, 3) := by decide +kernel
theorem dX4_passStretch_127 : decode cX4_passStretch 127 = .ok (.irem, 1) := by decide +kernel
theorem dX4_passStretch_128 : decode cX4_passStretch 128 = .ok (.ifCond .ne 37, 3) := by decide +kernel
theorem dX4_passStretch_131 : decode cX4_passStretch 131 = .ok (.aload_n 0, 1) := by decide +kernel
theorem dX4_passStretch_132 : decode cX4_passStretch 132 = .ok (.getfield 11, 3) := by decide +kernel
theorem dX4_passStretch_135 : decode cX4_passStretch 135 = .ok (.astore_n 2, 1) := by decide +kernel
theorem dX4_passStretch_136 : decode cX4_passStretch 136 = .ok (.aload_n 2, 1) := by decide +kernel
theorem dX4_passStretch_137 : decode cX4_passStretch 137 = .ok (.arraylength, 1) := by decide +kernel
theorem dX4_passStretch_138 : decode cX4_passStretch 138 = .ok (.istore_n 3, 1) := by decide +kernel
theorem dX4_passStretch_139 : decode cX4_passStretch 139 = .ok (.iconst 0, 1) := by decide +kernel
theorem dX4_passStretch_140 : decode cX4_passStretch 140 = .ok (.istore 4, 2) := by decide +kernel
theorem dX4_passStretch_142 : decode cX4_passStretch 142 = .ok (.iload 4, 2) := by decide +kernel
theorem dX4_passStretch_144 : decode cX4_passStretch 144 = .ok (.iload_n 3, 1) := by decide +kernel
theorem dX4_passStretch_145 : decode cX4_passStretch 145 = .ok (.if_icmp .ge 20, 3) := by decide +kernel
theorem dX4_passStretch_148 : decode cX4_passStretch 148 = .ok (.aload_n 2, 1) := by decide +kernel
theorem dX4_passStretch_149 : decode cX4_passStretch 149 = .ok (.iload 4, 2) := by decide +kernel
theorem dX4_passStretch_151 : decode cX4_passStretch 151 = .ok (.aaload, 1) := by decide +kernel
theorem dX4_passStretch_152 : decode cX4_passStretch 152 = .ok (.astore 5, 2) := by decide +kernel
theorem dX4_passStretch_154 : decode cX4_passStretch 154 = .ok (.aload 5, 2) := by decide +kernel
theorem dX4_passStretch_156 : decode cX4_passStretch 156 = .ok (.invokevirtual 251, 3) := by decide +kernel
theorem dX4_passStretch_159 : decode cX4_passStretch 159 = .ok (.iinc 4 1, 3) := by decide +kernel
theorem dX4_passStretch_162 : decode cX4_passStretch 162 = .ok (.goto (-20), 3) := by decide +kernel
theorem dX4_passStretch_165 : decode cX4_passStretch 165 = .ok (.return_, 1) := by decide +kernel
theorem dX5_init_0 : decode cX5_init 0 = .ok (.aload_n 0, 1) := by decide +kernel
theorem dX5_init_1 : decode cX5_init 1 = .ok (.invokespecial 1, 3) := by decide +kernel
theorem dX5_init_4 : decode cX5_init 4 = .ok (.aload_n 0, 1) := by decide +kernel
theorem dX5_init_5 : decode cX5_init 5 = .ok (.bipush 12, 2) := by decide +kernel
theorem dX5_init_7 : decode cX5_init 7 = .ok (.newarray .int, 2) := by decide +kernel
theorem dX5_init_9 : decode cX5_init 9 = .ok (.putfield 7, 3) := by decide +kernel
theorem dX5_init_12 : decode cX5_init 12 = .ok (.aload_n 0, 1) := by decide +kernel
theorem dX5_init_13 : decode cX5_init 13 = .ok (.bipush 12, 2) := by decide +kernel
theorem dX5_init_15 : decode cX5_init 15 = .ok (.newarray .int, 2) := by decide +kernel
theorem dX5_init_17 : decode cX5_init 17 = .ok (.putfield 13, 3) := by decide +kernel
theorem dX5_init_20 : decode cX5_init 20 = .ok (.aload_n 0, 1) := by decide +kernel
theorem dX5_init_21 : decode cX5_init 21 = .ok (.bipush 12, 2) := by decide +kernel
theorem dX5_init_23 : decode cX5_init 23 = .ok (.newarray .long, 2) := by decide +kernel
theorem dX5_init_25 : decode cX5_init 25 = .ok (.putfield 16, 3) := by decide +kernel
theorem dX5_init_28 : decode cX5_init 28 = .ok (.aload_n 0, 1) := by decide +kernel
theorem dX5_init_29 : decode cX5_init 29 = .ok (.bipush 24, 2) := by decide +kernel
theorem dX5_init_31 : decode cX5_init 31 = .ok (.newarray .int, 2) := by decide +kernel
theorem dX5_init_33 : decode cX5_init 33 = .ok (.putfield 20, 3) := by decide +kernel
theorem dX5_init_36 : decode cX5_init 36 = .ok (.aload_n 0, 1) := by decide +kernel
theorem dX5_init_37 : decode cX5_init 37 = .ok (.bipush 24, 2) := by decide +kernel
theorem dX5_init_39 : decode cX5_init 39 = .ok (.newarray .int, 2) := by decide +kernel
theorem dX5_init_41 : decode cX5_init 41 = .ok (.putfield 23, 3) := by decide +kernel
theorem dX5_init_44 : decode cX5_init 44 = .ok (.aload_n 0, 1) := by decide +kernel
theorem dX5_init_45 : decode cX5_init 45 = .ok (.bipush 24, 2) := by decide +kernel
theorem dX5_init_47 : decode cX5_init 47 = .ok (.newarray .int, 2) := by decide +kernel
theorem dX5_init_49 : decode cX5_init 49 = .ok (.putfield 26, 3) := by decide +kernel
theorem dX5_init_52 : decode cX5_init 52 = .ok (.aload_n 0, 1) := by decide +kernel
theorem dX5_init_53 : decode cX5_init 53 = .ok (.bipush 96, 2) := by decide +kernel
theorem dX5_init_55 : decode cX5_init 55 = .ok (.newarray .int, 2) := by decide +kernel
theorem dX5_init_57 : decode cX5_init 57 = .ok (.putfield 29, 3) := by decide +kernel
theorem dX5_init_60 : decode cX5_init 60 = .ok (.aload_n 0, 1) := by decide +kernel
theorem dX5_init_61 : decode cX5_init 61 = .ok (.bipush 8, 2) := by decide +kernel
theorem dX5_init_63 : decode cX5_init 63 = .ok (.newarray .int, 2) := by decide +kernel
theorem dX5_init_65 : decode cX5_init 65 = .ok (.putfield 32, 3) := by decide +kernel
theorem dX5_init_68 : decode cX5_init 68 = .ok (.aload_n 0, 1) := by decide +kernel
theorem dX5_init_69 : decode cX5_init 69 = .ok (.bipush 8, 2) := by decide +kernel
theorem dX5_init_71 : decode cX5_init 71 = .ok (.newarray .int, 2) := by decide +kernel
theorem dX5_init_73 : decode cX5_init 73 = .ok (.putfield 35, 3) := by decide +kernel
theorem dX5_init_76 : decode cX5_init 76 = .ok (.aload_n 0, 1) := by decide +kernel
theorem dX5_init_77 : decode cX5_init 77 = .ok (.bipush 8, 2) := by decide +kernel
theorem dX5_init_79 : decode cX5_init 79 = .ok (.newarray .int, 2) := by decide +kernel
theorem dX5_init_81 : decode cX5_init 81 = .ok (.putfield 38, 3) := by decide +kernel
theorem dX5_init_84 : decode cX5_init 84 = .ok (.aload_n 0, 1) := by decide +kernel
theorem dX5_init_85 : decode cX5_init 85 = .ok (.bipush 8, 2) := by decide +kernel
theorem dX5_init_87 : decode cX5_init 87 = .ok (.newarray .int, 2) := by decide +kernel
theorem dX5_init_89 : decode cX5_init 89 = .ok (.putfield 41, 3) := by decide +kernel
theorem dX5_init_92 : decode cX5_init 92 = .ok (.aload_n 0, 1) := by decide +kernel
theorem dX5_init_93 : decode cX5_init 93 = .ok (.bipush 8, 2) := by decide +kernel
theorem dX5_init_95 : decode cX5_init 95 = .ok (.newarray .int, 2) := by decide +kernel
theorem dX5_init_97 : decode cX5_init 97 = .ok (.putfield 44, 3) := by decide +kernel
theorem dX5_init_100 : decode cX5_init 100 = .ok (.aload_n 0, 1) := by decide +kernel
theorem dX5_init_101 : decode cX5_init 101 = .ok (.bipush 8, 2) := by decide +kernel
theorem dX5_init_103 : decode cX5_init 103 = .ok (.newarray .int, 2) := by decide +kernel
theorem dX5_init_105 : decode cX5_init 105 = .ok (.putfield 47, 3) := by decide +kernel
theorem dX5_init_108 : decode cX5_init 108 = .ok (.aload_n 0, 1) := by decide +kernel
theorem dX5_init_109 : decode cX5_init 109 = .ok (.bipush 8, 2) := by decide +kernel
theorem dX5_init_111 : decode cX5_init 111 = .ok (.newarray .int, 2) := by decide +kernel
theorem dX5_init_113 : decode cX5_init 113 = .ok (.putfield 50, 3) := by decide +kernel
theorem dX5_init_116 : decode cX5_init 116 = .ok (.aload_n 0, 1) := by decide +kernel
theorem dX5_init_117 : decode cX5_init 117 = .ok (.bipush 8, 2) := by decide +kernel
theorem dX5_init_119 : decode cX5_init 119 = .ok (.newarray .int, 2) := by decide +kernel
theorem dX5_init_121 : decode cX5_init 121 = .ok (.putfield 53, 3) := by decide +kernel
theorem dX5_init_124 : decode cX5_init 124 = .ok (.aload_n 0, 1) := by decide +kernel
theorem dX5_init_125 : decode cX5_init 125 = .ok (.bipush 8, 2) := by decide +kernel
theorem dX5_init_127 : decode cX5_init 127 = .ok (.newarray .int, 2) := by decide +kernel
theorem dX5_init_129 : decode cX5_init 129 = .ok (.putfield 56, 3) := by decide +kernel
theorem dX5_init_132 : decode cX5_init 132 = .ok (.aload_n 0, 1) := by decide +kernel
theorem dX5_init_133 : decode cX5_init 133 = .ok (.iconst 2, 1) := by decide +kernel
theorem dX5_init_134 : decode cX5_init 134 = .ok (.newarray .int, 2) := by decide +kernel
theorem dX5_init_136 : decode cX5_init 136 = .ok (.putfield 59, 3) := by decide +kernel
theorem dX5_init_139 : decode cX5_init 139 = .ok (.aload_n 0, 1) := by decide +kernel
theorem dX5_init_140 : decode cX5_init 140 = .ok (.iconst 2, 1) := by decide +kernel
theorem dX5_init_141 : decode cX5_init 141 = .ok (.newarray .int, 2) := by decide +kernel
theorem dX5_init_143 : decode cX5_init 143 = .ok (.putfield 62, 3) := by decide +kernel
theorem dX5_init_146 : decode cX5_init 146 = .ok (.aload_n 0, 1) := by decide +kernel
theorem dX5_init_147 : decode cX5_init 147 = .ok (.bipush 100, 2) := by decide +kernel
theorem dX5_init_149 : decode cX5_init 149 = .ok (.newarray .int, 2) := by decide +kernel
theorem dX5_init_151 : decode cX5_init 151 = .ok (.putfield 65, 3) := by decide +kernel
theorem dX5_init_154 : decode cX5_init 154 = .ok (.iconst 0, 1) := by decide +kernel
theorem dX5_init_155 : decode cX5_init 155 = .ok (.istore_n 1, 1) := by decide +kernel
theorem dX5_init_156 : decode cX5_init 156 = .ok (.iload_n 1, 1) := by decide +kernel
theorem dX5_init_157 : decode cX5_init 157 = .ok (.bipush 24, 2) := by decide +kernel
theorem dX5_init_159 : decode cX5_init 159 = .ok (.if_icmp .ge 16, 3) := by decide +kernel
theorem dX5_init_162 : decode cX5_init 162 = .ok (.aload_n 0, 1) := by decide +kernel
theorem dX5_init_163 : decode cX5_init 163 = .ok (.getfield 23, 3) := by decide +kernel
theorem dX5_init_166 : decode cX5_init 166 = .ok (.iload_n 1, 1) := by decide +kernel
theorem dX5_init_167 : decode cX5_init 167 = .ok (.iconst 1, 1) := by decide +kernel
theorem dX5_init_168 : decode cX5_init 168 = .ok (.iastore, 1) := by decide +kernel
theorem dX5_init_169 : decode cX5_init 169 = .ok (.iinc 1 1, 3) := by decide +kernel
theorem dX5_init_172 : decode cX5_init 172 = .ok (.goto (-16), 3) := by decide +kernel
theorem dX5_init_175 : decode cX5_init 175 = .ok (.return_, 1) := by decide +kernel
theorem dX5_thrown_0 : decode cX5_thrown 0 = .ok (.aload_n 0, 1) := by decide +kernel
theorem dX5_thrown_1 : decode cX5_thrown 1 = .ok (.getfield 68, 3) := by decide +kernel
theorem dX5_thrown_4 : decode cX5_thrown 4 = .ok (.ireturn, 1) := by decide +kernel
theorem dX5_fails_0 : decode cX5_fails 0 = .ok (.aload_n 0, 1) := by decide +kernel
theorem dX5_fails_1 : decode cX5_fails 1 = .ok (.iload_n 1, 1) := by decide +kernel
theorem dX5_fails_2 : decode cX5_fails 2 = .ok (.putfield 68, 3) := by decide +kernel
theorem dX5_fails_5 : decode cX5_fails 5 = .ok (.iconst 0, 1) := by decide +kernel
theorem dX5_fails_6 : decode cX5_fails 6 = .ok (.ireturn, 1) := by decide +kernel
theorem dX5_in_0 : decode cX5_in 0 = .ok (.iload_n 0, 1) := by decide +kernel
theorem dX5_in_1 : decode cX5_in 1 = .ok (.iload_n 1, 1) := by decide +kernel
theorem dX5_in_2 : decode cX5_in 2 = .ok (.if_icmp .lt 12, 3) := by decide +kernel
theorem dX5_in_5 : decode cX5_in 5 = .ok (.iload_n 0, 1) := by decide +kernel
theorem dX5_in_6 : decode cX5_in 6 = .ok (.iload_n 2, 1) := by decide +kernel
theorem dX5_in_7 : decode cX5_in 7 = .ok (.if_icmp .gt 7, 3) := by decide +kernel
theorem dX5_in_10 : decode cX5_in 10 = .ok (.iconst 1, 1) := by decide +kernel
theorem dX5_in_11 : decode cX5_in 11 = .ok (.goto 4, 3) := by decide +kernel
theorem dX5_in_14 : decode cX5_in 14 = .ok (.iconst 0, 1) := by decide +kernel
theorem dX5_in_15 : decode cX5_in 15 = .ok (.ireturn, 1) := by decide +kernel
set_option maxRecDepth 20000 in
theorem ggX5_isHouse_X5_in : GoodIn wsX5_isHouse wsX5_in := goodIn_r _ [4] (by decide +kernel) (by decide +kernel)
set_option maxRecDepth 20000 in
theorem gX5_isHouse_X5_in : GoodIn wsX5_isHouse (va_wsS RX5 72 yX5_in wsX5_in) := goodIn_app (goodIn_of _ (by decide +kernel)) ggX5_isHouse_X5_in
theorem dX5_isHouse_0 : decode cX5_isHouse 0 = .ok (.iload_n 0, 1) := by decide +kernel
theorem dX5_isHouse_1 : decode cX5_isHouse 1 = .ok (.iconst 0, 1) := by decide +kernel
theorem dX5_isHouse_2 : decode cX5_isHouse 2 = .ok (.bipush 7, 2) := by decide +kernel
theorem dX5_isHouse_4 : decode cX5_isHouse 4 = .ok (.invokestatic 72, 3) := by decide +kernel
theorem dX5_isHouse_7 : decode cX5_isHouse 7 = .ok (.ireturn, 1) := by decide +kernel
set_option maxRecDepth 20000 in
theorem ggX5_isMelody_X5_in : GoodIn wsX5_isMelody wsX5_in := goodIn_r _ [6] (by decide +kernel) (by decide +kernel)
set_option maxRecDepth 20000 in
theorem gX5_isMelody_X5_in : GoodIn wsX5_isMelody (va_wsS RX5 72 yX5_in wsX5_in) := goodIn_app (goodIn_of _ (by decide +kernel)) ggX5_isMelody_X5_in
theorem dX5_isMelody_0 : decode cX5_isMelody 0 = .ok (.aload_n 0, 1) := by decide +kernel
theorem dX5_isMelody_1 : decode cX5_isMelody 1 = .ok (.iload_n 1, 1) := by decide +kernel
theorem dX5_isMelody_2 : decode cX5_isMelody 2 = .ok (.iconst 0, 1) := by decide +kernel
theorem dX5_isMelody_3 : decode cX5_isMelody 3 = .ok (.aload_n 0, 1) := by decide +kernel
theorem dX5_isMelody_4 : decode cX5_isMelody 4 = .ok (.getfield 76, 3) := by decide +kernel
theorem dX5_isMelody_7 : decode cX5_isMelody 7 = .ok (.iconst 1, 1) := by decide +kernel
theorem dX5_isMelody_8 : decode cX5_isMelody 8 = .ok (.isub, 1) := by decide +kernel
theorem dX5_isMelody_9 : decode cX5_isMelody 9 = .ok (.invokestatic 72, 3) := by decide +kernel
theorem dX5_isMelody_12 : decode cX5_isMelody 12 = .ok (.ifCond .eq 7, 3) := by decide +kernel
theorem dX5_isMelody_15 : decode cX5_isMelody 15 = .ok (.iconst 0, 1) := by decide +kernel
theorem dX5_isMelody_16 : decode cX5_isMelody 16 = .ok (.goto 4, 3) := by decide +kernel
theorem dX5_isMelody_19 : decode cX5_isMelody 19 = .ok (.iconst 1, 1) := by decide +kernel
theorem dX5_isMelody_20 : decode cX5_isMelody 20 = .ok (.putfield 68, 3) := by decide +kernel
theorem dX5_isMelody_23 : decode cX5_isMelody 23 = .ok (.aload_n 0, 1) := by decide +kernel
theorem dX5_isMelody_24 : decode cX5_isMelody 24 = .ok (.getfield 68, 3) := by decide +kernel
theorem dX5_isMelody_27 : decode cX5_isMelody 27 = .ok (.ifCond .ne 7, 3) := by decide +kernel
theorem dX5_isMelody_30 : decode cX5_isMelody 30 = .ok (.iconst 1, 1) := by decide +kernel
theorem dX5_isMelody_31 : decode cX5_isMelody 31 = .ok (.goto 4, 3) := by decide +kernel
theorem dX5_isMelody_34 : decode cX5_isMelody 34 = .ok (.iconst 0, 1) := by decide +kernel
theorem dX5_isMelody_35 : decode cX5_isMelody 35 = .ok (.ireturn, 1) := by decide +kernel
set_option maxRecDepth 20000 in
theorem ggX5_addMelody_X5_isHouse : GoodIn wsX5_addMelody wsX5_isHouse := goodIn_r _ [9, 10, 11, 8, 12] (by decide +kernel) (by decide +kernel)
set_option maxRecDepth 20000 in
theorem gX5_addMelody_X5_isHouse : GoodIn wsX5_addMelody (va_wsS RX5 79 yX5_isHouse wsX5_isHouse) := goodIn_app (goodIn_of _ (by decide +kernel)) ggX5_addMelody_X5_isHouse
set_option maxRecDepth 20000 in
theorem ggX5_addMelody_X5_in : GoodIn wsX5_addMelody wsX5_in := goodIn_r _ [12] (by decide +kernel) (by decide +kernel)
set_option maxRecDepth 20000 in
theorem gX5_addMelody_X5_in : GoodIn wsX5_addMelody (va_wsS RX5 72 yX5_in wsX5_in) := goodIn_app (goodIn_of _ (by decide +kernel)) ggX5_addMelody_X5_in
set_option maxRecDepth 20000 in
theorem ggX5_addMelody_X5_fails : GoodIn wsX5_addMelody wsX5_fails := goodIn_r _ [16, 1, 17, 18, 19, 20, 21, 22, 23, 24, 25, 26, 27, 28, 29, 30, 31, 32, 33, 34, 35, 36, 37, 38, 39] (by decide +kernel) (by decide +kernel)
set_option maxRecDepth 20000 in
theorem gX5_addMelody_X5_fails : GoodIn wsX5_addMelody (wsV RX5 83 RX5 yX5_fails wsX5_fails) := goodIn_app (goodIn_of _ (by decide +kernel)) ggX5_addMelody_X5_fails
theorem dX5_addMelody_0 : decode cX5_addMelody 0 = .ok (.aload_n 0, 1) := by decide +kernel
theorem dX5_addMelody_1 : decode cX5_addMelody 1 = .ok (.iload_n 1, 1) := by decide +kernel
theorem dX5_addMelody_2 : decode cX5_addMelody 2 = .ok (.invokestatic 79, 3) := by decide +kernel
theorem dX5_addMelody_5 : decode cX5_addMelody 5 = .ok (.ifCond .eq 7, 3) := by decide +kernel
theorem dX5_addMelody_8 : decode cX5_addMelody 8 = .ok (.iconst 0, 1) := by decide +kernel
theorem dX5_addMelody_9 : decode cX5_addMelody 9 = .ok (.goto 4, 3) := by decide +kernel
theorem dX5_addMelody_12 : decode cX5_addMelody 12 = .ok (.iconst 1, 1) := by decide +kernel
theorem dX5_addMelody_13 : decode cX5_addMelody 13 = .ok (.putfield 68, 3) := by decide +kernel
theorem dX5_addMelody_16 : decode cX5_addMelody 16 = .ok (.aload_n 0, 1) := by decide +kernel
theorem dX5_addMelody_17 : decode cX5_addMelody 17 = .ok (.getfield 68, 3) := by decide +kernel
theorem dX5_addMelody_20 : decode cX5_addMelody 20 = .ok (.ifCond .le 5, 3) := by decide +kernel
theorem dX5_addMelody_23 : decode cX5_addMelody 23 = .ok (.iconst 0, 1) := by decide +kernel
theorem dX5_addMelody_24 : decode cX5_addMelody 24 = .ok (.ireturn, 1) := by decide +kernel
theorem dX5_addMelody_25 : decode cX5_addMelody 25 = .ok (.iload_n 2, 1) := by decide +kernel
theorem dX5_addMelody_26 : decode cX5_addMelody 26 = .ok (.iconst 1, 1) := by decide +kernel
theorem dX5_addMelody_27 : decode cX5_addMelody 27 = .ok (.bipush 12, 2) := by decide +kernel
theorem dX5_addMelody_29 : decode cX5_addMelody 29 = .ok (.invokestatic 72, 3) := by decide +kernel
theorem dX5_addMelody_32 : decode cX5_addMelody 32 = .ok (.ifCond .eq 19, 3) := by decide +kernel
theorem dX5_addMelody_35 : decode cX5_addMelody 35 = .ok (.lload_n 3, 1) := by decide +kernel
theorem dX5_addMelody_36 : decode cX5_addMelody 36 = .ok (.lconst 0, 1) := by decide +kernel
theorem dX5_addMelody_37 : decode cX5_addMelody 37 = .ok (.lcmp, 1) := by decide +kernel
theorem dX5_addMelody_38 : decode cX5_addMelody 38 = .ok (.ifCond .lt 13, 3) := by decide +kernel
theorem dX5_addMelody_41 : decode cX5_addMelody 41 = .ok (.lload_n 3, 1) := by decide +kernel
theorem dX5_addMelody_42 : decode cX5_addMelody 42 = .ok (.iconst 4, 1) := by decide +kernel
theorem dX5_addMelody_43 : decode cX5_addMelody 43 = .ok (.iload_n 2, 1) := by decide +kernel
theorem dX5_addMelody_44 : decode cX5_addMelody 44 = .ok (.imul, 1) := by decide +kernel
theorem dX5_addMelody_45 : decode cX5_addMelody 45 = .ok (.lshr, 1) := by decide +kernel
theorem dX5_addMelody_46 : decode cX5_addMelody 46 = .ok (.lconst 0, 1) := by decide +kernel
theorem dX5_addMelody_47 : decode cX5_addMelody 47 = .ok (.lcmp, 1) := by decide +kernel
theorem dX5_addMelody_48 : decode cX5_addMelody 48 = .ok (.ifCond .eq 9, 3) := by decide +kernel
theorem dX5_addMelody_51 : decode cX5_addMelody 51 = .ok (.aload_n 0, 1) := by decide +kernel
theorem dX5_addMelody_52 : decode cX5_addMelody 52 = .ok (.iconst 2, 1) := by decide +kernel
theorem dX5_addMelody_53 : decode cX5_addMelody 53 = .ok (.invokevirtual 83, 3) := by decide +kernel
theorem dX5_addMelody_56 : decode cX5_addMelody 56 = .ok (.ireturn, 1) := by decide +kernel
theorem dX5_addMelody_57 : decode cX5_addMelody 57 = .ok (.aload_n 0, 1) := by decide +kernel
theorem dX5_addMelody_58 : decode cX5_addMelody 58 = .ok (.getfield 76, 3) := by decide +kernel
theorem dX5_addMelody_61 : decode cX5_addMelody 61 = .ok (.bipush 12, 2) := by decide +kernel
theorem dX5_addMelody_63 : decode cX5_addMelody 63 = .ok (.if_icmp .ne 9, 3) := by decide +kernel
theorem dX5_addMelody_66 : decode cX5_addMelody 66 = .ok (.aload_n 0, 1) := by decide +kernel
theorem dX5_addMelody_67 : decode cX5_addMelody 67 = .ok (.iconst 3, 1) := by decide +kernel
theorem dX5_addMelody_68 : decode cX5_addMelody 68 = .ok (.invokevirtual 83, 3) := by decide +kernel
theorem dX5_addMelody_71 : decode cX5_addMelody 71 = .ok (.ireturn, 1) := by decide +kernel
theorem dX5_addMelody_72 : decode cX5_addMelody 72 = .ok (.aload_n 0, 1) := by decide +kernel
theorem dX5_addMelody_73 : decode cX5_addMelody 73 = .ok (.getfield 7, 3) := by decide +kernel
theorem dX5_addMelody_76 : decode cX5_addMelody 76 = .ok (.aload_n 0, 1) := by decide +kernel
theorem dX5_addMelody_77 : decode cX5_addMelody 77 = .ok (.getfield 76, 3) := by decide +kernel
theorem dX5_addMelody_80 : decode cX5_addMelody 80 = .ok (.iload_n 1, 1) := by decide +kernel
theorem dX5_addMelody_81 : decode cX5_addMelody 81 = .ok (.iastore, 1) := by decide +kernel
theorem dX5_addMelody_82 : decode cX5_addMelody 82 = .ok (.aload_n 0, 1) := by decide +kernel
theorem dX5_addMelody_83 : decode cX5_addMelody 83 = .ok (.getfield 13, 3) := by decide +kernel
theorem dX5_addMelody_86 : decode cX5_addMelody 86 = .ok (.aload_n 0, 1) := by decide +kernel
theorem dX5_addMelody_87 : decode cX5_addMelody 87 = .ok (.getfield 76, 3) := by decide +kernel
theorem dX5_addMelody_90 : decode cX5_addMelody 90 = .ok (.iload_n 2, 1) := by decide +kernel
theorem dX5_addMelody_91 : decode cX5_addMelody 91 = .ok (.iastore, 1) := by decide +kernel
theorem dX5_addMelody_92 : decode cX5_addMelody 92 = .ok (.aload_n 0, 1) := by decide +kernel
theorem dX5_addMelody_93 : decode cX5_addMelody 93 = .ok (.getfield 16, 3) := by decide +kernel
theorem dX5_addMelody_96 : decode cX5_addMelody 96 = .ok (.aload_n 0, 1) := by decide +kernel
theorem dX5_addMelody_97 : decode cX5_addMelody 97 = .ok (.getfield 76, 3) := by decide +kernel
theorem dX5_addMelody_100 : decode cX5_addMelody 100 = .ok (.lload_n 3, 1) := by decide +kernel
theorem dX5_addMelody_101 : decode cX5_addMelody 101 = .ok (.lastore, 1) := by decide +kernel
theorem dX5_addMelody_102 : decode cX5_addMelody 102 = .ok (.aload_n 0, 1) := by decide +kernel
theorem dX5_addMelody_103 : decode cX5_addMelody 103 = .ok (.dup, 1) := by decide +kernel
theorem dX5_addMelody_104 : decode cX5_addMelody 104 = .ok (.getfield 76, 3) := by decide +kernel
theorem dX5_addMelody_107 : decode cX5_addMelody 107 = .ok (.iconst 1, 1) := by decide +kernel
theorem dX5_addMelody_108 : decode cX5_addMelody 108 = .ok (.iadd, 1) := by decide +kernel
theorem dX5_addMelody_109 : decode cX5_addMelody 109 = .ok (.putfield 76, 3) := by decide +kernel
theorem dX5_addMelody_112 : decode cX5_addMelody 112 = .ok (.aload_n 0, 1) := by decide +kernel
theorem dX5_addMelody_113 : decode cX5_addMelody 113 = .ok (.getfield 76, 3) := by decide +kernel
theorem dX5_addMelody_116 : decode cX5_addMelody 116 = .ok (.iconst 1, 1) := by decide +kernel
theorem dX5_addMelody_117 : decode cX5_addMelody 117 = .ok (.isub, 1) := by decide +kernel
theorem dX5_addMelody_118 : decode cX5_addMelody 118 = .ok (.ireturn, 1) := by decide +kernel
theorem dX5_tone_0 : decode cX5_tone 0 = .ok (.aload_n 0, 1) := by decide +kernel
theorem dX5_tone_1 : decode cX5_tone 1 = .ok (.getfield 16, 3) := by decide +kernel
theorem dX5_tone_4 : decode cX5_tone 4 = .ok (.iload_n 1, 1) := by decide +kernel
theorem dX5_tone_5 : decode cX5_tone 5 = .ok (.laload, 1) := by decide +kernel
theorem dX5_tone_6 : decode cX5_tone 6 = .ok (.iconst 4, 1) := by decide +kernel
theorem dX5_tone_7 : decode cX5_tone 7 = .ok (.iload_n 2, 1) := by decide +kernel
theorem dX5_tone_8 : decode cX5_tone 8 = .ok (.imul, 1) := by decide +kernel
theorem dX5_tone_9 : decode cX5_tone 9 = .ok (.lshr, 1) := by decide +kernel
theorem dX5_tone_10 : decode cX5_tone 10 = .ok (.ldc2_w 87, 3) := by decide +kernel
theorem dX5_tone_13 : decode cX5_tone 13 = .ok (.land, 1) := by decide +kernel
theorem dX5_tone_14 : decode cX5_tone 14 = .ok (.l2i, 1) := by decide +kernel
theorem dX5_tone_15 : decode cX5_tone 15 = .ok (.ireturn, 1) := by decide +kernel
set_option maxRecDepth 20000 in
theorem ggX5_toneAt_X5_isMelody : GoodIn wsX5_toneAt wsX5_isMelody := goodIn_r _ [6, 7, 8, 9, 10, 5, 11, 22, 23, 24, 25, 26, 27, 28, 29, 30, 31, 32, 33, 34, 35, 36, 37, 38, 39, 40, 41, 42, 43, 44] (by decide +kernel) (by decide +kernel)
set_option maxRecDepth 20000 in
theorem gX5_toneAt_X5_isMelody : GoodIn wsX5_toneAt (wsV RX5 89 RX5 yX5_isMelody wsX5_isMelody) := goodIn_app (goodIn_of _ (by decide +kernel)) ggX5_toneAt_X5_isMelody
set_option maxRecDepth 20000 in
theorem ggX5_toneAt_X5_in : GoodIn wsX5_toneAt wsX5_in := goodIn_r _ [11] (by decide +kernel) (by decide +kernel)
set_option maxRecDepth 20000 in
theorem gX5_toneAt_X5_in : GoodIn wsX5_toneAt (va_wsS RX5 72 yX5_in wsX5_in) := goodIn_app (goodIn_of _ (by decide +kernel)) ggX5_toneAt_X5_in
set_option maxRecDepth 20000 in
theorem ggX5_toneAt_X5_tone : GoodIn wsX5_toneAt wsX5_tone := goodIn_r _ [15, 16, 17, 22, 23, 24, 25, 26, 27, 28, 29, 30, 31, 32, 33, 34, 35, 36, 37, 38, 39, 40, 41, 42, 43, 44] (by decide +kernel) (by decide +kernel)
set_option maxRecDepth 20000 in
theorem gX5_toneAt_X5_tone : GoodIn wsX5_toneAt (wsV RX5 92 RX5 yX5_tone wsX5_tone) := goodIn_app (goodIn_of _ (by decide +kernel)) ggX5_toneAt_X5_tone
set_option maxRecDepth 20000 in
theorem ggX5_toneAt_X5_fails : GoodIn wsX5_toneAt wsX5_fails := goodIn_r _ [21, 8, 22, 23, 24, 25, 26, 27, 28, 29, 30, 31, 32, 33, 34, 35, 36, 37, 38, 39, 40, 41, 42, 43, 44] (by decide +kernel) (by decide +kernel)
set_option maxRecDepth 20000 in
theorem gX5_toneAt_X5_fails : GoodIn wsX5_toneAt (wsV RX5 83 RX5 yX5_fails wsX5_fails) := goodIn_app (goodIn_of _ (by decide +kernel)) ggX5_toneAt_X5_fails
theorem dX5_toneAt_0 : decode cX5_toneAt 0 = .ok (.aload_n 0, 1) := by decide +kernel
theorem dX5_toneAt_1 : decode cX5_toneAt 1 = .ok (.iload_n 1, 1) := by decide +kernel
theorem dX5_toneAt_2 : decode cX5_toneAt 2 = .ok (.invokevirtual 89, 3) := by decide +kernel
theorem dX5_toneAt_5 : decode cX5_toneAt 5 = .ok (.ifCond .ne 5, 3) := by decide +kernel
theorem dX5_toneAt_8 : decode cX5_toneAt 8 = .ok (.iconst 0, 1) := by decide +kernel
theorem dX5_toneAt_9 : decode cX5_toneAt 9 = .ok (.ireturn, 1) := by decide +kernel
theorem dX5_toneAt_10 : decode cX5_toneAt 10 = .ok (.iload_n 2, 1) := by decide +kernel
theorem dX5_toneAt_11 : decode cX5_toneAt 11 = .ok (.iconst 0, 1) := by decide +kernel
theorem dX5_toneAt_12 : decode cX5_toneAt 12 = .ok (.aload_n 0, 1) := by decide +kernel
theorem dX5_toneAt_13 : decode cX5_toneAt 13 = .ok (.getfield 13, 3) := by decide +kernel
theorem dX5_toneAt_16 : decode cX5_toneAt 16 = .ok (.iload_n 1, 1) := by decide +kernel
theorem dX5_toneAt_17 : decode cX5_toneAt 17 = .ok (.iaload, 1) := by decide +kernel
theorem dX5_toneAt_18 : decode cX5_toneAt 18 = .ok (.iconst 1, 1) := by decide +kernel
theorem dX5_toneAt_19 : decode cX5_toneAt 19 = .ok (.isub, 1) := by decide +kernel
theorem dX5_toneAt_20 : decode cX5_toneAt 20 = .ok (.invokestatic 72, 3) := by decide +kernel
theorem dX5_toneAt_23 : decode cX5_toneAt 23 = .ok (.ifCond .eq 12, 3) := by decide +kernel
theorem dX5_toneAt_26 : decode cX5_toneAt 26 = .ok (.aload_n 0, 1) := by decide +kernel
theorem dX5_toneAt_27 : decode cX5_toneAt 27 = .ok (.iload_n 1, 1) := by decide +kernel
theorem dX5_toneAt_28 : decode cX5_toneAt 28 = .ok (.iload_n 2, 1) := by decide +kernel
theorem dX5_toneAt_29 : decode cX5_toneAt 29 = .ok (.invokevirtual 92, 3) := by decide +kernel
theorem dX5_toneAt_32 : decode cX5_toneAt 32 = .ok (.goto 8, 3) := by decide +kernel
theorem dX5_toneAt_35 : decode cX5_toneAt 35 = .ok (.aload_n 0, 1) := by decide +kernel
theorem dX5_toneAt_36 : decode cX5_toneAt 36 = .ok (.iconst 1, 1) := by decide +kernel
theorem dX5_toneAt_37 : decode cX5_toneAt 37 = .ok (.invokevirtual 83, 3) := by decide +kernel
theorem dX5_toneAt_40 : decode cX5_toneAt 40 = .ok (.ireturn, 1) := by decide +kernel
set_option maxRecDepth 20000 in
theorem ggX5_shifted_X5_isMelody : GoodIn wsX5_shifted wsX5_isMelody := goodIn_r _ [6, 7, 8, 9, 10, 5, 11, 22, 23, 24, 25, 26, 27, 28, 29, 30, 31, 32, 33, 34, 35, 36, 37, 38, 39, 40, 41, 42, 43, 44] (by decide +kernel) (by decide +kernel)
set_option maxRecDepth 20000 in
theorem gX5_shifted_X5_isMelody : GoodIn wsX5_shifted (wsV RX5 89 RX5 yX5_isMelody wsX5_isMelody) := goodIn_app (goodIn_of _ (by decide +kernel)) ggX5_shifted_X5_isMelody
set_option maxRecDepth 20000 in
theorem ggX5_shifted_X5_in : GoodIn wsX5_shifted wsX5_in := goodIn_r _ [11] (by decide +kernel) (by decide +kernel)
set_option maxRecDepth 20000 in
theorem gX5_shifted_X5_in : GoodIn wsX5_shifted (va_wsS RX5 72 yX5_in wsX5_in) := goodIn_app (goodIn_of _ (by decide +kernel)) ggX5_shifted_X5_in
set_option maxRecDepth 20000 in
theorem ggX5_shifted_X5_fails : GoodIn wsX5_shifted wsX5_fails := goodIn_r _ [15, 8, 22, 23, 24, 25, 26, 27, 28, 29, 30, 31, 32, 33, 34, 35, 36, 37, 38, 39, 40, 41, 42, 43, 44] (by decide +kernel) (by decide +kernel)
set_option maxRecDepth 20000 in
theorem gX5_shifted_X5_fails : GoodIn wsX5_shifted (wsV RX5 83 RX5 yX5_fails wsX5_fails) := goodIn_app (goodIn_of _ (by decide +kernel)) ggX5_shifted_X5_fails
set_option maxRecDepth 20000 in
theorem ggX5_shifted_X5_tone : GoodIn wsX5_shifted wsX5_tone := goodIn_r _ [19, 20, 21, 22, 23, 24, 25, 26, 27, 28, 29, 30, 31, 32, 33, 34, 35, 36, 37, 38, 39, 40, 41, 42, 43, 44] (by decide +kernel) (by decide +kernel)
set_option maxRecDepth 20000 in
theorem gX5_shifted_X5_tone : GoodIn wsX5_shifted (wsV RX5 92 RX5 yX5_tone wsX5_tone) := goodIn_app (goodIn_of _ (by decide +kernel)) ggX5_shifted_X5_tone
theorem dX5_shifted_0 : decode cX5_shifted 0 = .ok (.aload_n 0, 1) := by decide +kernel
theorem dX5_shifted_1 : decode cX5_shifted 1 = .ok (.iload_n 1, 1) := by decide +kernel
theorem dX5_shifted_2 : decode cX5_shifted 2 = .ok (.invokevirtual 89, 3) := by decide +kernel
theorem dX5_shifted_5 : decode cX5_shifted 5 = .ok (.ifCond .ne 5, 3) := by decide +kernel
theorem dX5_shifted_8 : decode cX5_shifted 8 = .ok (.lconst 0, 1) := by decide +kernel
theorem dX5_shifted_9 : decode cX5_shifted 9 = .ok (.lreturn, 1) := by decide +kernel
theorem dX5_shifted_10 : decode cX5_shifted 10 = .ok (.iload_n 2, 1) := by decide +kernel
theorem dX5_shifted_11 : decode cX5_shifted 11 = .ok (.iconst 0, 1) := by decide +kernel
theorem dX5_shifted_12 : decode cX5_shifted 12 = .ok (.bipush 15, 2) := by decide +kernel
theorem dX5_shifted_14 : decode cX5_shifted 14 = .ok (.invokestatic 72, 3) := by decide +kernel
theorem dX5_shifted_17 : decode cX5_shifted 17 = .ok (.ifCond .ne 10, 3) := by decide +kernel
theorem dX5_shifted_20 : decode cX5_shifted 20 = .ok (.aload_n 0, 1) := by decide +kernel
theorem dX5_shifted_21 : decode cX5_shifted 21 = .ok (.iconst 2, 1) := by decide +kernel
theorem dX5_shifted_22 : decode cX5_shifted 22 = .ok (.invokevirtual 83, 3) := by decide +kernel
theorem dX5_shifted_25 : decode cX5_shifted 25 = .ok (.i2l, 1) := by decide +kernel
theorem dX5_shifted_26 : decode cX5_shifted 26 = .ok (.lreturn, 1) := by decide +kernel
theorem dX5_shifted_27 : decode cX5_shifted 27 = .ok (.lconst 0, 1) := by decide +kernel
theorem dX5_shifted_28 : decode cX5_shifted 28 = .ok (.lstore_n 3, 1) := by decide +kernel
theorem dX5_shifted_29 : decode cX5_shifted 29 = .ok (.aload_n 0, 1) := by decide +kernel
theorem dX5_shifted_30 : decode cX5_shifted 30 = .ok (.getfield 13, 3) := by decide +kernel
theorem dX5_shifted_33 : decode cX5_shifted 33 = .ok (.iload_n 1, 1) := by decide +kernel
theorem dX5_shifted_34 : decode cX5_shifted 34 = .ok (.iaload, 1) := by decide +kernel
theorem dX5_shifted_35 : decode cX5_shifted 35 = .ok (.iconst 1, 1) := by decide +kernel
theorem dX5_shifted_36 : decode cX5_shifted 36 = .ok (.isub, 1) := by decide +kernel
theorem dX5_shifted_37 : decode cX5_shifted 37 = .ok (.istore 5, 2) := by decide +kernel
theorem dX5_shifted_39 : decode cX5_shifted 39 = .ok (.iload 5, 2) := by decide +kernel
theorem dX5_shifted_41 : decode cX5_shifted 41 = .ok (.ifCond .lt 27, 3) := by decide +kernel
theorem dX5_shifted_44 : decode cX5_shifted 44 = .ok (.lload_n 3, 1) := by decide +kernel
theorem dX5_shifted_45 : decode cX5_shifted 45 = .ok (.iconst 4, 1) := by decide +kernel
theorem dX5_shifted_46 : decode cX5_shifted 46 = .ok (.lshl, 1) := by decide +kernel
theorem dX5_shifted_47 : decode cX5_shifted 47 = .ok (.aload_n 0, 1) := by decide +kernel
theorem dX5_shifted_48 : decode cX5_shifted 48 = .ok (.iload_n 1, 1) := by decide +kernel
theorem dX5_shifted_49 : decode cX5_shifted 49 = .ok (.iload 5, 2) := by decide +kernel
theorem dX5_shifted_51 : decode cX5_shifted 51 = .ok (.invokevirtual 92, 3) := by decide +kernel
theorem dX5_shifted_54 : decode cX5_shifted 54 = .ok (.iload_n 2, 1) := by decide +kernel
theorem dX5_shifted_55 : decode cX5_shifted 55 = .ok (.iadd, 1) := by decide +kernel
theorem dX5_shifted_56 : decode cX5_shifted 56 = .ok (.bipush 16, 2) := by decide +kernel
theorem dX5_shifted_58 : decode cX5_shifted 58 = .ok (.irem, 1) := by decide +kernel
theorem dX5_shifted_59 : decode cX5_shifted 59 = .ok (.i2l, 1) := by decide +kernel
theorem dX5_shifted_60 : decode cX5_shifted 60 = .ok (.lor, 1) := by decide +kernel
theorem dX5_shifted_61 : decode cX5_shifted 61 = .ok (.lstore_n 3, 1) := by decide +kernel
theorem dX5_shifted_62 : decode cX5_shifted 62 = .ok (.iinc 5 (-1), 3) := by decide +kernel
theorem dX5_shifted_65 : decode cX5_shifted 65 = .ok (.goto (-26), 3) := by decide +kernel
theorem dX5_shifted_68 : decode cX5_shifted 68 = .ok (.lload_n 3, 1) := by decide +kernel
theorem dX5_shifted_69 : decode cX5_shifted 69 = .ok (.lreturn, 1) := by decide +kernel
set_option maxRecDepth 20000 in
theorem ggX5_turned_X5_isMelody : GoodIn wsX5_turned wsX5_isMelody := goodIn_r _ [6, 7, 8, 9, 10, 5, 11, 18, 19, 20, 21, 22, 23, 24, 25, 26, 27, 28, 29, 30, 31, 32, 33, 34, 35, 36, 37, 38, 39, 40] (by decide +kernel) (by decide +kernel)
set_option maxRecDepth 20000 in
theorem gX5_turned_X5_isMelody : GoodIn wsX5_turned (wsV RX5 89 RX5 yX5_isMelody wsX5_isMelody) := goodIn_app (goodIn_of _ (by decide +kernel)) ggX5_turned_X5_isMelody
set_option maxRecDepth 20000 in
theorem ggX5_turned_X5_tone : GoodIn wsX5_turned wsX5_tone := goodIn_r _ [15, 16, 17, 18, 19, 20, 21, 22, 23, 24, 25, 26, 27, 28, 29, 30, 31, 32, 33, 34, 35, 36, 37, 38, 39, 40] (by decide +kernel) (by decide +kernel)
set_option maxRecDepth 20000 in
theorem gX5_turned_X5_tone : GoodIn wsX5_turned (wsV RX5 92 RX5 yX5_tone wsX5_tone) := goodIn_app (goodIn_of _ (by decide +kernel)) ggX5_turned_X5_tone
theorem dX5_turned_0 : decode cX5_turned 0 = .ok (.aload_n 0, 1) := by decide +kernel
theorem dX5_turned_1 : decode cX5_turned 1 = .ok (.iload_n 1, 1) := by decide +kernel
theorem dX5_turned_2 : decode cX5_turned 2 = .ok (.invokevirtual 89, 3) := by decide +kernel
theorem dX5_turned_5 : decode cX5_turned 5 = .ok (.ifCond .ne 5, 3) := by decide +kernel
theorem dX5_turned_8 : decode cX5_turned 8 = .ok (.lconst 0, 1) := by decide +kernel
theorem dX5_turned_9 : decode cX5_turned 9 = .ok (.lreturn, 1) := by decide +kernel
theorem dX5_turned_10 : decode cX5_turned 10 = .ok (.lconst 0, 1) := by decide +kernel
theorem dX5_turned_11 : decode cX5_turned 11 = .ok (.lstore_n 2, 1) := by decide +kernel
theorem dX5_turned_12 : decode cX5_turned 12 = .ok (.iconst 0, 1) := by decide +kernel
theorem dX5_turned_13 : decode cX5_turned 13 = .ok (.istore 4, 2) := by decide +kernel
theorem dX5_turned_15 : decode cX5_turned 15 = .ok (.iload 4, 2) := by decide +kernel
theorem dX5_turned_17 : decode cX5_turned 17 = .ok (.aload_n 0, 1) := by decide +kernel
theorem dX5_turned_18 : decode cX5_turned 18 = .ok (.getfield 13, 3) := by decide +kernel
theorem dX5_turned_21 : decode cX5_turned 21 = .ok (.iload_n 1, 1) := by decide +kernel
theorem dX5_turned_22 : decode cX5_turned 22 = .ok (.iaload, 1) := by decide +kernel
theorem dX5_turned_23 : decode cX5_turned 23 = .ok (.if_icmp .ge 22, 3) := by decide +kernel
theorem dX5_turned_26 : decode cX5_turned 26 = .ok (.lload_n 2, 1) := by decide +kernel
theorem dX5_turned_27 : decode cX5_turned 27 = .ok (.iconst 4, 1) := by decide +kernel
theorem dX5_turned_28 : decode cX5_turned 28 = .ok (.lshl, 1) := by decide +kernel
theorem dX5_turned_29 : decode cX5_turned 29 = .ok (.aload_n 0, 1) := by decide +kernel
theorem dX5_turned_30 : decode cX5_turned 30 = .ok (.iload_n 1, 1) := by decide +kernel
theorem dX5_turned_31 : decode cX5_turned 31 = .ok (.iload 4, 2) := by decide +kernel
theorem dX5_turned_33 : decode cX5_turned 33 = .ok (.invokevirtual 92, 3) := by decide +kernel
theorem dX5_turned_36 : decode cX5_turned 36 = .ok (.i2l, 1) := by decide +kernel
theorem dX5_turned_37 : decode cX5_turned 37 = .ok (.lor, 1) := by decide +kernel
theorem dX5_turned_38 : decode cX5_turned 38 = .ok (.lstore_n 2, 1) := by decide +kernel
theorem dX5_turned_39 : decode cX5_turned 39 = .ok (.iinc 4 1, 3) := by decide +kernel
theorem dX5_turned_42 : decode cX5_turned 42 = .ok (.goto (-27), 3) := by decide +kernel
theorem dX5_turned_45 : decode cX5_turned 45 = .ok (.lload_n 2, 1) := by decide +kernel
theorem dX5_turned_46 : decode cX5_turned 46 = .ok (.lreturn, 1) := by decide +kernel
set_option maxRecDepth 20000 in
theorem ggX5_areAlike_X5_in : GoodIn wsX5_areAlike wsX5_in := goodIn_r _ [7] (by decide +kernel) (by decide +kernel)
set_option maxRecDepth 20000 in
theorem gX5_areAlike_X5_in : GoodIn wsX5_areAlike (va_wsS RX5 72 yX5_in wsX5_in) := goodIn_app (goodIn_of _ (by decide +kernel)) ggX5_areAlike_X5_in
set_option maxRecDepth 20000 in
theorem ggX5_areAlike_X5_tone : GoodIn wsX5_areAlike wsX5_tone := goodIn_r _ [11, 12, 13, 14, 15, 16, 17, 18, 19, 20, 21, 22, 23, 24, 25, 26, 27, 28, 29, 30, 31, 32, 33, 34, 35, 36] (by decide +kernel) (by decide +kernel)
set_option maxRecDepth 20000 in
theorem gX5_areAlike_X5_tone : GoodIn wsX5_areAlike (wsV RX5 92 RX5 yX5_tone wsX5_tone) := goodIn_app (goodIn_of _ (by decide +kernel)) ggX5_areAlike_X5_tone
theorem dX5_areAlike_0 : decode cX5_areAlike 0 = .ok (.aload_n 0, 1) := by decide +kernel
theorem dX5_areAlike_1 : decode cX5_areAlike 1 = .ok (.iload_n 1, 1) := by decide +kernel
theorem dX5_areAlike_2 : decode cX5_areAlike 2 = .ok (.iconst 0, 1) := by decide +kernel
theorem dX5_areAlike_3 : decode cX5_areAlike 3 = .ok (.aload_n 0, 1) := by decide +kernel
theorem dX5_areAlike_4 : decode cX5_areAlike 4 = .ok (.getfield 76, 3) := by decide +kernel
theorem dX5_areAlike_7 : decode cX5_areAlike 7 = .ok (.iconst 1, 1) := by decide +kernel
theorem dX5_areAlike_8 : decode cX5_areAlike 8 = .ok (.isub, 1) := by decide +kernel
theorem dX5_areAlike_9 : decode cX5_areAlike 9 = .ok (.invokestatic 72, 3) := by decide +kernel
theorem dX5_areAlike_12 : decode cX5_areAlike 12 = .ok (.ifCond .eq 21, 3) := by decide +kernel
theorem dX5_areAlike_15 : decode cX5_areAlike 15 = .ok (.iload_n 2, 1) := by decide +kernel
theorem dX5_areAlike_16 : decode cX5_areAlike 16 = .ok (.iconst 0, 1) := by decide +kernel
theorem dX5_areAlike_17 : decode cX5_areAlike 17 = .ok (.aload_n 0, 1) := by decide +kernel
theorem dX5_areAlike_18 : decode cX5_areAlike 18 = .ok (.getfield 76, 3) := by decide +kernel
theorem dX5_areAlike_21 : decode cX5_areAlike 21 = .ok (.iconst 1, 1) := by decide +kernel
theorem dX5_areAlike_22 : decode cX5_areAlike 22 = .ok (.isub, 1) := by decide +kernel
theorem dX5_areAlike_23 : decode cX5_areAlike 23 = .ok (.invokestatic 72, 3) := by decide +kernel
theorem dX5_areAlike_26 : decode cX5_areAlike 26 = .ok (.ifCond .eq 7, 3) := by decide +kernel
theorem dX5_areAlike_29 : decode cX5_areAlike 29 = .ok (.iconst 0, 1) := by decide +kernel
theorem dX5_areAlike_30 : decode cX5_areAlike 30 = .ok (.goto 4, 3) := by decide +kernel
theorem dX5_areAlike_33 : decode cX5_areAlike 33 = .ok (.iconst 1, 1) := by decide +kernel
theorem dX5_areAlike_34 : decode cX5_areAlike 34 = .ok (.putfield 68, 3) := by decide +kernel
theorem dX5_areAlike_37 : decode cX5_areAlike 37 = .ok (.aload_n 0, 1) := by decide +kernel
theorem dX5_areAlike_38 : decode cX5_areAlike 38 = .ok (.getfield 68, 3) := by decide +kernel
theorem dX5_areAlike_41 : decode cX5_areAlike 41 = .ok (.ifCond .gt 18, 3) := by decide +kernel
theorem dX5_areAlike_44 : decode cX5_areAlike 44 = .ok (.aload_n 0, 1) := by decide +kernel
theorem dX5_areAlike_45 : decode cX5_areAlike 45 = .ok (.getfield 13, 3) := by decide +kernel
theorem dX5_areAlike_48 : decode cX5_areAlike 48 = .ok (.iload_n 1, 1) := by decide +kernel
theorem dX5_areAlike_49 : decode cX5_areAlike 49 = .ok (.iaload, 1) := by decide +kernel
theorem dX5_areAlike_50 : decode cX5_areAlike 50 = .ok (.aload_n 0, 1) := by decide +kernel
theorem dX5_areAlike_51 : decode cX5_areAlike 51 = .ok (.getfield 13, 3) := by decide +kernel
theorem dX5_areAlike_54 : decode cX5_areAlike 54 = .ok (.iload_n 2, 1) := by decide +kernel
theorem dX5_areAlike_55 : decode cX5_areAlike 55 = .ok (.iaload, 1) := by decide +kernel
theorem dX5_areAlike_56 : decode cX5_areAlike 56 = .ok (.if_icmp .eq 5, 3) := by decide +kernel
theorem dX5_areAlike_59 : decode cX5_areAlike 59 = .ok (.iconst 0, 1) := by decide +kernel
theorem dX5_areAlike_60 : decode cX5_areAlike 60 = .ok (.ireturn, 1) := by decide +kernel
theorem dX5_areAlike_61 : decode cX5_areAlike 61 = .ok (.iconst 1, 1) := by decide +kernel
theorem dX5_areAlike_62 : decode cX5_areAlike 62 = .ok (.istore_n 3, 1) := by decide +kernel
theorem dX5_areAlike_63 : decode cX5_areAlike 63 = .ok (.iconst 1, 1) := by decide +kernel
theorem dX5_areAlike_64 : decode cX5_areAlike 64 = .ok (.istore 4, 2) := by decide +kernel
theorem dX5_areAlike_66 : decode cX5_areAlike 66 = .ok (.iload 4, 2) := by decide +kernel
theorem dX5_areAlike_68 : decode cX5_areAlike 68 = .ok (.aload_n 0, 1) := by decide +kernel
theorem dX5_areAlike_69 : decode cX5_areAlike 69 = .ok (.getfield 13, 3) := by decide +kernel
theorem dX5_areAlike_72 : decode cX5_areAlike 72 = .ok (.iload_n 1, 1) := by decide +kernel
theorem dX5_areAlike_73 : decode cX5_areAlike 73 = .ok (.iaload, 1) := by decide +kernel
theorem dX5_areAlike_74 : decode cX5_areAlike 74 = .ok (.if_icmp .ge 54, 3) := by decide +kernel
theorem dX5_areAlike_77 : decode cX5_areAlike 77 = .ok (.iload_n 3, 1) := by decide +kernel
theorem dX5_areAlike_78 : decode cX5_areAlike 78 = .ok (.ifCond .eq 42, 3) := by decide +kernel
theorem dX5_areAlike_81 : decode cX5_areAlike 81 = .ok (.aload_n 0, 1) := by decide +kernel
theorem dX5_areAlike_82 : decode cX5_areAlike 82 = .ok (.iload_n 1, 1) := by decide +kernel
theorem dX5_areAlike_83 : decode cX5_areAlike 83 = .ok (.iload 4, 2) := by decide +kernel
theorem dX5_areAlike_85 : decode cX5_areAlike 85 = .ok (.invokevirtual 92, 3) := by decide +kernel
theorem dX5_areAlike_88 : decode cX5_areAlike 88 = .ok (.aload_n 0, 1) := by decide +kernel
theorem dX5_areAlike_89 : decode cX5_areAlike 89 = .ok (.iload_n 2, 1) := by decide +kernel
theorem dX5_areAlike_90 : decode cX5_areAlike 90 = .ok (.iload 4, 2) := by decide +kernel
theorem dX5_areAlike_92 : decode cX5_areAlike 92 = .ok (.invokevirtual 92, 3) := by decide +kernel
theorem dX5_areAlike_95 : decode cX5_areAlike 95 = .ok (.isub, 1) := by decide +kernel
theorem dX5_areAlike_96 : decode cX5_areAlike 96 = .ok (.aload_n 0, 1) := by decide +kernel
theorem dX5_areAlike_97 : decode cX5_areAlike 97 = .ok (.iload_n 1, 1) := by decide +kernel
theorem dX5_areAlike_98 : decode cX5_areAlike 98 = .ok (.iconst 0, 1) := by decide +kernel
theorem dX5_areAlike_99 : decode cX5_areAlike 99 = .ok (.invokevirtual 92, 3) := by decide +kernel
theorem dX5_areAlike_102 : decode cX5_areAlike 102 = .ok (.isub, 1) := by decide +kernel
theorem dX5_areAlike_103 : decode cX5_areAlike 103 = .ok (.aload_n 0, 1) := by decide +kernel
theorem dX5_areAlike_104 : decode cX5_areAlike 104 = .ok (.iload_n 2, 1) := by decide +kernel
theorem dX5_areAlike_105 : decode cX5_areAlike 105 = .ok (.iconst 0, 1) := by decide +kernel
theorem dX5_areAlike_106 : decode cX5_areAlike 106 = .ok (.invokevirtual 92, 3) := by decide +kernel
theorem dX5_areAlike_109 : decode cX5_areAlike 109 = .ok (.iadd, 1) := by decide +kernel
theorem dX5_areAlike_110 : decode cX5_areAlike 110 = .ok (.bipush 16, 2) := by decide +kernel
theorem dX5_areAlike_112 : decode cX5_areAlike 112 = .ok (.irem, 1) := by decide +kernel
theorem dX5_areAlike_113 : decode cX5_areAlike 113 = .ok (.ifCond .ne 7, 3) := by decide +kernel
theorem dX5_areAlike_116 : decode cX5_areAlike 116 = .ok (.iconst 1, 1) := by decide +kernel
theorem dX5_areAlike_117 : decode cX5_areAlike 117 = .ok (.goto 4, 3) := by decide +kernel
theorem dX5_areAlike_120 : decode cX5_areAlike 120 = .ok (.iconst 0, 1) := by decide +kernel
theorem dX5_areAlike_121 : decode cX5_areAlike 121 = .ok (.istore_n 3, 1) := by decide +kernel
theorem dX5_areAlike_122 : decode cX5_areAlike 122 = .ok (.iinc 4 1, 3) := by decide +kernel
theorem dX5_areAlike_125 : decode cX5_areAlike 125 = .ok (.goto (-59), 3) := by decide +kernel
theorem dX5_areAlike_128 : decode cX5_areAlike 128 = .ok (.iload_n 3, 1) := by decide +kernel
theorem dX5_areAlike_129 : decode cX5_areAlike 129 = .ok (.ireturn, 1) := by decide +kernel
set_option maxRecDepth 20000 in
theorem ggX5_license_X5_isHouse : GoodIn wsX5_license wsX5_isHouse := goodIn_r _ [8, 9, 10, 7, 11] (by decide +kernel) (by decide +kernel)
set_option maxRecDepth 20000 in
theorem gX5_license_X5_isHouse : GoodIn wsX5_license (va_wsS RX5 79 yX5_isHouse wsX5_isHouse) := goodIn_app (goodIn_of _ (by decide +kernel)) ggX5_license_X5_isHouse
set_option maxRecDepth 20000 in
theorem ggX5_license_X5_in : GoodIn wsX5_license wsX5_in := goodIn_r _ [11] (by decide +kernel) (by decide +kernel)
set_option maxRecDepth 20000 in
theorem gX5_license_X5_in : GoodIn wsX5_license (va_wsS RX5 72 yX5_in wsX5_in) := goodIn_app (goodIn_of _ (by decide +kernel)) ggX5_license_X5_in
set_option maxRecDepth 20000 in
theorem ggX5_license_X5_fails : GoodIn wsX5_license wsX5_fails := goodIn_r _ [15, 2, 16, 17, 18, 19, 20, 21, 22, 23, 24, 25, 26, 27, 28, 29, 30, 31, 32, 33, 34, 35, 36, 37, 38] (by decide +kernel) (by decide +kernel)
set_option maxRecDepth 20000 in
theorem gX5_license_X5_fails : GoodIn wsX5_license (wsV RX5 83 RX5 yX5_fails wsX5_fails) := goodIn_app (goodIn_of _ (by decide +kernel)) ggX5_license_X5_fails
theorem dX5_license_0 : decode cX5_license 0 = .ok (.aload_n 0, 1) := by decide +kernel
theorem dX5_license_1 : decode cX5_license 1 = .ok (.iload_n 1, 1) := by decide +kernel
theorem dX5_license_2 : decode cX5_license 2 = .ok (.invokestatic 79, 3) := by decide +kernel
theorem dX5_license_5 : decode cX5_license 5 = .ok (.ifCond .eq 17, 3) := by decide +kernel
theorem dX5_license_8 : decode cX5_license 8 = .ok (.iload_n 2, 1) := by decide +kernel
theorem dX5_license_9 : decode cX5_license 9 = .ok (.iconst 0, 1) := by decide +kernel
theorem dX5_license_10 : decode cX5_license 10 = .ok (.aload_n 0, 1) := by decide +kernel
theorem dX5_license_11 : decode cX5_license 11 = .ok (.getfield 76, 3) := by decide +kernel
theorem dX5_license_14 : decode cX5_license 14 = .ok (.iconst 1, 1) := by decide +kernel
theorem dX5_license_15 : decode cX5_license 15 = .ok (.isub, 1) := by decide +kernel
theorem dX5_license_16 : decode cX5_license 16 = .ok (.invokestatic 72, 3) := by decide +kernel
theorem dX5_license_19 : decode cX5_license 19 = .ok (.ifCond .ne 7, 3) := by decide +kernel
theorem dX5_license_22 : decode cX5_license 22 = .ok (.iconst 1, 1) := by decide +kernel
theorem dX5_license_23 : decode cX5_license 23 = .ok (.goto 19, 3) := by decide +kernel
theorem dX5_license_26 : decode cX5_license 26 = .ok (.iload_n 3, 1) := by decide +kernel
theorem dX5_license_27 : decode cX5_license 27 = .ok (.iconst 1, 1) := by decide +kernel
theorem dX5_license_28 : decode cX5_license 28 = .ok (.sipush 1000, 3) := by decide +kernel
theorem dX5_license_31 : decode cX5_license 31 = .ok (.invokestatic 72, 3) := by decide +kernel
theorem dX5_license_34 : decode cX5_license 34 = .ok (.ifCond .ne 7, 3) := by decide +kernel
theorem dX5_license_37 : decode cX5_license 37 = .ok (.iconst 2, 1) := by decide +kernel
theorem dX5_license_38 : decode cX5_license 38 = .ok (.goto 4, 3) := by decide +kernel
theorem dX5_license_41 : decode cX5_license 41 = .ok (.iconst 0, 1) := by decide +kernel
theorem dX5_license_42 : decode cX5_license 42 = .ok (.putfield 68, 3) := by decide +kernel
theorem dX5_license_45 : decode cX5_license 45 = .ok (.aload_n 0, 1) := by decide +kernel
theorem dX5_license_46 : decode cX5_license 46 = .ok (.getfield 68, 3) := by decide +kernel
theorem dX5_license_49 : decode cX5_license 49 = .ok (.ifCond .le 5, 3) := by decide +kernel
theorem dX5_license_52 : decode cX5_license 52 = .ok (.iconst 0, 1) := by decide +kernel
theorem dX5_license_53 : decode cX5_license 53 = .ok (.ireturn, 1) := by decide +kernel
theorem dX5_license_54 : decode cX5_license 54 = .ok (.bipush 12, 2) := by decide +kernel
theorem dX5_license_56 : decode cX5_license 56 = .ok (.iload_n 1, 1) := by decide +kernel
theorem dX5_license_57 : decode cX5_license 57 = .ok (.imul, 1) := by decide +kernel
theorem dX5_license_58 : decode cX5_license 58 = .ok (.iload_n 2, 1) := by decide +kernel
theorem dX5_license_59 : decode cX5_license 59 = .ok (.iadd, 1) := by decide +kernel
theorem dX5_license_60 : decode cX5_license 60 = .ok (.istore 4, 2) := by decide +kernel
theorem dX5_license_62 : decode cX5_license 62 = .ok (.aload_n 0, 1) := by decide +kernel
theorem dX5_license_63 : decode cX5_license 63 = .ok (.getfield 7, 3) := by decide +kernel
theorem dX5_license_66 : decode cX5_license 66 = .ok (.iload_n 2, 1) := by decide +kernel
theorem dX5_license_67 : decode cX5_license 67 = .ok (.iaload, 1) := by decide +kernel
theorem dX5_license_68 : decode cX5_license 68 = .ok (.iload_n 1, 1) := by decide +kernel
theorem dX5_license_69 : decode cX5_license 69 = .ok (.if_icmp .eq 18, 3) := by decide +kernel
theorem dX5_license_72 : decode cX5_license 72 = .ok (.aload_n 0, 1) := by decide +kernel
theorem dX5_license_73 : decode cX5_license 73 = .ok (.getfield 29, 3) := by decide +kernel
theorem dX5_license_76 : decode cX5_license 76 = .ok (.iload 4, 2) := by decide +kernel
theorem dX5_license_78 : decode cX5_license 78 = .ok (.iaload, 1) := by decide +kernel
theorem dX5_license_79 : decode cX5_license 79 = .ok (.iload_n 3, 1) := by decide +kernel
theorem dX5_license_80 : decode cX5_license 80 = .ok (.iadd, 1) := by decide +kernel
theorem dX5_license_81 : decode cX5_license 81 = .ok (.sipush 1000, 3) := by decide +kernel
theorem dX5_license_84 : decode cX5_license 84 = .ok (.if_icmp .le 9, 3) := by decide +kernel
theorem dX5_license_87 : decode cX5_license 87 = .ok (.aload_n 0, 1) := by decide +kernel
theorem dX5_license_88 : decode cX5_license 88 = .ok (.iconst 3, 1) := by decide +kernel
theorem dX5_license_89 : decode cX5_license 89 = .ok (.invokevirtual 83, 3) := by decide +kernel
theorem dX5_license_92 : decode cX5_license 92 = .ok (.ireturn, 1) := by decide +kernel
theorem dX5_license_93 : decode cX5_license 93 = .ok (.aload_n 0, 1) := by decide +kernel
theorem dX5_license_94 : decode cX5_license 94 = .ok (.getfield 29, 3) := by decide +kernel
theorem dX5_license_97 : decode cX5_license 97 = .ok (.iload 4, 2) := by decide +kernel
theorem dX5_license_99 : decode cX5_license 99 = .ok (.dup2, 1) := by decide +kernel
theorem dX5_license_100 : decode cX5_license 100 = .ok (.iaload, 1) := by decide +kernel
theorem dX5_license_101 : decode cX5_license 101 = .ok (.iload_n 3, 1) := by decide +kernel
theorem dX5_license_102 : decode cX5_license 102 = .ok (.iadd, 1) := by decide +kernel
theorem dX5_license_103 : decode cX5_license 103 = .ok (.iastore, 1) := by decide +kernel
theorem dX5_license_104 : decode cX5_license 104 = .ok (.aload_n 0, 1) := by decide +kernel
theorem dX5_license_105 : decode cX5_license 105 = .ok (.getfield 29, 3) := by decide +kernel
theorem dX5_license_108 : decode cX5_license 108 = .ok (.iload 4, 2) := by decide +kernel
theorem dX5_license_110 : decode cX5_license 110 = .ok (.iaload, 1) := by decide +kernel
theorem dX5_license_111 : decode cX5_license 111 = .ok (.ireturn, 1) := by decide +kernel
theorem dX5_isQuiet_0 : decode cX5_isQuiet 0 = .ok (.aload_n 0, 1) := by decide +kernel
theorem dX5_isQuiet_1 : decode cX5_isQuiet 1 = .ok (.getfield 96, 3) := by decide +kernel
theorem dX5_isQuiet_4 : decode cX5_isQuiet 4 = .ok (.sipush 1000, 3) := by decide +kernel
theorem dX5_isQuiet_7 : decode cX5_isQuiet 7 = .ok (.irem, 1) := by decide +kernel
theorem dX5_isQuiet_8 : decode cX5_isQuiet 8 = .ok (.istore_n 2, 1) := by decide +kernel
theorem dX5_isQuiet_9 : decode cX5_isQuiet 9 = .ok (.aload_n 0, 1) := by decide +kernel
theorem dX5_isQuiet_10 : decode cX5_isQuiet 10 = .ok (.getfield 32, 3) := by decide +kernel
theorem dX5_isQuiet_13 : decode cX5_isQuiet 13 = .ok (.iload_n 1, 1) := by decide +kernel
theorem dX5_isQuiet_14 : decode cX5_isQuiet 14 = .ok (.iaload, 1) := by decide +kernel
theorem dX5_isQuiet_15 : decode cX5_isQuiet 15 = .ok (.aload_n 0, 1) := by decide +kernel
theorem dX5_isQuiet_16 : decode cX5_isQuiet 16 = .ok (.getfield 35, 3) := by decide +kernel
theorem dX5_isQuiet_19 : decode cX5_isQuiet 19 = .ok (.iload_n 1, 1) := by decide +kernel
theorem dX5_isQuiet_20 : decode cX5_isQuiet 20 = .ok (.iaload, 1) := by decide +kernel
theorem dX5_isQuiet_21 : decode cX5_isQuiet 21 = .ok (.if_icmp .gt 29, 3) := by decide +kernel
theorem dX5_isQuiet_24 : decode cX5_isQuiet 24 = .ok (.iload_n 2, 1) := by decide +kernel
theorem dX5_isQuiet_25 : decode cX5_isQuiet 25 = .ok (.aload_n 0, 1) := by decide +kernel
theorem dX5_isQuiet_26 : decode cX5_isQuiet 26 = .ok (.getfield 32, 3) := by decide +kernel
theorem dX5_isQuiet_29 : decode cX5_isQuiet 29 = .ok (.iload_n 1, 1) := by decide +kernel
theorem dX5_isQuiet_30 : decode cX5_isQuiet 30 = .ok (.iaload, 1) := by decide +kernel
theorem dX5_isQuiet_31 : decode cX5_isQuiet 31 = .ok (.if_icmp .lt 17, 3) := by decide +kernel
theorem dX5_isQuiet_34 : decode cX5_isQuiet 34 = .ok (.iload_n 2, 1) := by decide +kernel
theorem dX5_isQuiet_35 : decode cX5_isQuiet 35 = .ok (.aload_n 0, 1) := by decide +kernel
theorem dX5_isQuiet_36 : decode cX5_isQuiet 36 = .ok (.getfield 35, 3) := by decide +kernel
theorem dX5_isQuiet_39 : decode cX5_isQuiet 39 = .ok (.iload_n 1, 1) := by decide +kernel
theorem dX5_isQuiet_40 : decode cX5_isQuiet 40 = .ok (.iaload, 1) := by decide +kernel
theorem dX5_isQuiet_41 : decode cX5_isQuiet 41 = .ok (.if_icmp .ge 7, 3) := by decide +kernel
theorem dX5_isQuiet_44 : decode cX5_isQuiet 44 = .ok (.iconst 1, 1) := by decide +kernel
theorem dX5_isQuiet_45 : decode cX5_isQuiet 45 = .ok (.goto 4, 3) := by decide +kernel
theorem dX5_isQuiet_48 : decode cX5_isQuiet 48 = .ok (.iconst 0, 1) := by decide +kernel
theorem dX5_isQuiet_49 : decode cX5_isQuiet 49 = .ok (.ireturn, 1) := by decide +kernel
theorem dX5_isQuiet_50 : decode cX5_isQuiet 50 = .ok (.iload_n 2, 1) := by decide +kernel
theorem dX5_isQuiet_51 : decode cX5_isQuiet 51 = .ok (.aload_n 0, 1) := by decide +kernel
theorem dX5_isQuiet_52 : decode cX5_isQuiet 52 = .ok (.getfield 32, 3) := by decide +kernel
theorem dX5_isQuiet_55 : decode cX5_isQuiet 55 = .ok (.iload_n 1, 1) := by decide +kernel
theorem dX5_isQuiet_56 : decode cX5_isQuiet 56 = .ok (.iaload, 1) := by decide +kernel
theorem dX5_isQuiet_57 : decode cX5_isQuiet 57 = .ok (.if_icmp .ge 13, 3) := by decide +kernel
theorem dX5_isQuiet_60 : decode cX5_isQuiet 60 = .ok (.iload_n 2, 1) := by decide +kernel
theorem dX5_isQuiet_61 : decode cX5_isQuiet 61 = .ok (.aload_n 0, 1) := by decide +kernel
theorem dX5_isQuiet_62 : decode cX5_isQuiet 62 = .ok (.getfield 35, 3) := by decide +kernel
theorem dX5_isQuiet_65 : decode cX5_isQuiet 65 = .ok (.iload_n 1, 1) := by decide +kernel
theorem dX5_isQuiet_66 : decode cX5_isQuiet 66 = .ok (.iaload, 1) := by decide +kernel
theorem dX5_isQuiet_67 : decode cX5_isQuiet 67 = .ok (.if_icmp .ge 7, 3) := by decide +kernel
theorem dX5_isQuiet_70 : decode cX5_isQuiet 70 = .ok (.iconst 1, 1) := by decide +kernel
theorem dX5_isQuiet_71 : decode cX5_isQuiet 71 = .ok (.goto 4, 3) := by decide +kernel
theorem dX5_isQuiet_74 : decode cX5_isQuiet 74 = .ok (.iconst 0, 1) := by decide +kernel
theorem dX5_isQuiet_75 : decode cX5_isQuiet 75 = .ok (.ireturn, 1) := by decide +kernel
set_option maxRecDepth 20000 in
theorem ggX5_setQuiet_X5_isHouse : GoodIn wsX5_setQuiet wsX5_isHouse := goodIn_r _ [7, 8, 9, 6, 10] (by decide +kernel) (by decide +kernel)
set_option maxRecDepth 20000 in
theorem gX5_setQuiet_X5_isHouse : GoodIn wsX5_setQuiet (va_wsS RX5 79 yX5_isHouse wsX5_isHouse) := goodIn_app (goodIn_of _ (by decide +kernel)) ggX5_setQuiet_X5_isHouse
set_option maxRecDepth 20000 in
theorem ggX5_setQuiet_X5_in : GoodIn wsX5_setQuiet wsX5_in := goodIn_r _ [10] (by decide +kernel) (by decide +kernel)
set_option maxRecDepth 20000 in
theorem gX5_setQuiet_X5_in : GoodIn wsX5_setQuiet (va_wsS RX5 72 yX5_in wsX5_in) := goodIn_app (goodIn_of _ (by decide +kernel)) ggX5_setQuiet_X5_in
set_option maxRecDepth 20000 in
theorem ggX5_setQuiet_X5_isQuiet : GoodIn wsX5_setQuiet wsX5_isQuiet := goodIn_r _ [14, 15, 2, 3, 16, 17, 18, 19, 20, 21, 22, 23, 24, 25, 26, 27, 28, 29, 30, 31, 32, 33, 34, 35, 36, 37, 38] (by decide +kernel) (by decide +kernel)
set_option maxRecDepth 20000 in
theorem gX5_setQuiet_X5_isQuiet : GoodIn wsX5_setQuiet (wsV RX5 99 RX5 yX5_isQuiet wsX5_isQuiet) := goodIn_app (goodIn_of _ (by decide +kernel)) ggX5_setQuiet_X5_isQuiet
theorem dX5_setQuiet_0 : decode cX5_setQuiet 0 = .ok (.aload_n 0, 1) := by decide +kernel
theorem dX5_setQuiet_1 : decode cX5_setQuiet 1 = .ok (.iload_n 1, 1) := by decide +kernel
theorem dX5_setQuiet_2 : decode cX5_setQuiet 2 = .ok (.invokestatic 79, 3) := by decide +kernel
theorem dX5_setQuiet_5 : decode cX5_setQuiet 5 = .ok (.ifCond .ne 7, 3) := by decide +kernel
theorem dX5_setQuiet_8 : decode cX5_setQuiet 8 = .ok (.iconst 1, 1) := by decide +kernel
theorem dX5_setQuiet_9 : decode cX5_setQuiet 9 = .ok (.goto 30, 3) := by decide +kernel
theorem dX5_setQuiet_12 : decode cX5_setQuiet 12 = .ok (.iload_n 2, 1) := by decide +kernel
theorem dX5_setQuiet_13 : decode cX5_setQuiet 13 = .ok (.iconst 0, 1) := by decide +kernel
theorem dX5_setQuiet_14 : decode cX5_setQuiet 14 = .ok (.sipush 999, 3) := by decide +kernel
theorem dX5_setQuiet_17 : decode cX5_setQuiet 17 = .ok (.invokestatic 72, 3) := by decide +kernel
theorem dX5_setQuiet_20 : decode cX5_setQuiet 20 = .ok (.ifCond .eq 14, 3) := by decide +kernel
theorem dX5_setQuiet_23 : decode cX5_setQuiet 23 = .ok (.iload_n 3, 1) := by decide +kernel
theorem dX5_setQuiet_24 : decode cX5_setQuiet 24 = .ok (.iconst 0, 1) := by decide +kernel
theorem dX5_setQuiet_25 : decode cX5_setQuiet 25 = .ok (.sipush 999, 3) := by decide +kernel
theorem dX5_setQuiet_28 : decode cX5_setQuiet 28 = .ok (.invokestatic 72, 3) := by decide +kernel
theorem dX5_setQuiet_31 : decode cX5_setQuiet 31 = .ok (.ifCond .ne 7, 3) := by decide +kernel
theorem dX5_setQuiet_34 : decode cX5_setQuiet 34 = .ok (.iconst 2, 1) := by decide +kernel
theorem dX5_setQuiet_35 : decode cX5_setQuiet 35 = .ok (.goto 4, 3) := by decide +kernel
theorem dX5_setQuiet_38 : decode cX5_setQuiet 38 = .ok (.iconst 0, 1) := by decide +kernel
theorem dX5_setQuiet_39 : decode cX5_setQuiet 39 = .ok (.putfield 68, 3) := by decide +kernel
theorem dX5_setQuiet_42 : decode cX5_setQuiet 42 = .ok (.aload_n 0, 1) := by decide +kernel
theorem dX5_setQuiet_43 : decode cX5_setQuiet 43 = .ok (.getfield 68, 3) := by decide +kernel
theorem dX5_setQuiet_46 : decode cX5_setQuiet 46 = .ok (.ifCond .le 5, 3) := by decide +kernel
theorem dX5_setQuiet_49 : decode cX5_setQuiet 49 = .ok (.iconst 0, 1) := by decide +kernel
theorem dX5_setQuiet_50 : decode cX5_setQuiet 50 = .ok (.ireturn, 1) := by decide +kernel
theorem dX5_setQuiet_51 : decode cX5_setQuiet 51 = .ok (.aload_n 0, 1) := by decide +kernel
theorem dX5_setQuiet_52 : decode cX5_setQuiet 52 = .ok (.getfield 32, 3) := by decide +kernel
theorem dX5_setQuiet_55 : decode cX5_setQuiet 55 = .ok (.iload_n 1, 1) := by decide +kernel
theorem dX5_setQuiet_56 : decode cX5_setQuiet 56 = .ok (.iload_n 2, 1) := by decide +kernel
theorem dX5_setQuiet_57 : decode cX5_setQuiet 57 = .ok (.iastore, 1) := by decide +kernel
theorem dX5_setQuiet_58 : decode cX5_setQuiet 58 = .ok (.aload_n 0, 1) := by decide +kernel
theorem dX5_setQuiet_59 : decode cX5_setQuiet 59 = .ok (.getfield 35, 3) := by decide +kernel
theorem dX5_setQuiet_62 : decode cX5_setQuiet 62 = .ok (.iload_n 1, 1) := by decide +kernel
theorem dX5_setQuiet_63 : decode cX5_setQuiet 63 = .ok (.iload_n 3, 1) := by decide +kernel
theorem dX5_setQuiet_64 : decode cX5_setQuiet 64 = .ok (.iastore, 1) := by decide +kernel
theorem dX5_setQuiet_65 : decode cX5_setQuiet 65 = .ok (.aload_n 0, 1) := by decide +kernel
theorem dX5_setQuiet_66 : decode cX5_setQuiet 66 = .ok (.iload_n 1, 1) := by decide +kernel
theorem dX5_setQuiet_67 : decode cX5_setQuiet 67 = .ok (.invokevirtual 99, 3) := by decide +kernel
theorem dX5_setQuiet_70 : decode cX5_setQuiet 70 = .ok (.ireturn, 1) := by decide +kernel
set_option maxRecDepth 20000 in
theorem ggX5_lay_X5_isHouse : GoodIn wsX5_lay wsX5_isHouse := goodIn_r _ [9, 10, 11, 8, 12] (by decide +kernel) (by decide +kernel)
set_option maxRecDepth 20000 in
theorem gX5_lay_X5_isHouse : GoodIn wsX5_lay (va_wsS RX5 79 yX5_isHouse wsX5_isHouse) := goodIn_app (goodIn_of _ (by decide +kernel)) ggX5_lay_X5_isHouse
set_option maxRecDepth 20000 in
theorem ggX5_lay_X5_in : GoodIn wsX5_lay wsX5_in := goodIn_r _ [12] (by decide +kernel) (by decide +kernel)
set_option maxRecDepth 20000 in
theorem gX5_lay_X5_in : GoodIn wsX5_lay (va_wsS RX5 72 yX5_in wsX5_in) := goodIn_app (goodIn_of _ (by decide +kernel)) ggX5_lay_X5_in
theorem dX5_lay_0 : decode cX5_lay 0 = .ok (.aload_n 0, 1) := by decide +kernel
theorem dX5_lay_1 : decode cX5_lay 1 = .ok (.iload_n 1, 1) := by decide +kernel
theorem dX5_lay_2 : decode cX5_lay 2 = .ok (.invokestatic 79, 3) := by decide +kernel
theorem dX5_lay_5 : decode cX5_lay 5 = .ok (.ifCond .eq 31, 3) := by decide +kernel
theorem dX5_lay_8 : decode cX5_lay 8 = .ok (.iload_n 2, 1) := by decide +kernel
theorem dX5_lay_9 : decode cX5_lay 9 = .ok (.iconst 0, 1) := by decide +kernel
theorem dX5_lay_10 : decode cX5_lay 10 = .ok (.iconst 2, 1) := by decide +kernel
theorem dX5_lay_11 : decode cX5_lay 11 = .ok (.invokestatic 72, 3) := by decide +kernel
theorem dX5_lay_14 : decode cX5_lay 14 = .ok (.ifCond .eq 22, 3) := by decide +kernel
theorem dX5_lay_17 : decode cX5_lay 17 = .ok (.iload_n 3, 1) := by decide +kernel
theorem dX5_lay_18 : decode cX5_lay 18 = .ok (.iconst (-1), 1) := by decide +kernel
theorem dX5_lay_19 : decode cX5_lay 19 = .ok (.if_icmp .eq 21, 3) := by decide +kernel
theorem dX5_lay_22 : decode cX5_lay 22 = .ok (.iload_n 3, 1) := by decide +kernel
theorem dX5_lay_23 : decode cX5_lay 23 = .ok (.iconst 0, 1) := by decide +kernel
theorem dX5_lay_24 : decode cX5_lay 24 = .ok (.aload_n 0, 1) := by decide +kernel
theorem dX5_lay_25 : decode cX5_lay 25 = .ok (.getfield 76, 3) := by decide +kernel
theorem dX5_lay_28 : decode cX5_lay 28 = .ok (.iconst 1, 1) := by decide +kernel
theorem dX5_lay_29 : decode cX5_lay 29 = .ok (.isub, 1) := by decide +kernel
theorem dX5_lay_30 : decode cX5_lay 30 = .ok (.invokestatic 72, 3) := by decide +kernel
theorem dX5_lay_33 : decode cX5_lay 33 = .ok (.ifCond .ne 7, 3) := by decide +kernel
theorem dX5_lay_36 : decode cX5_lay 36 = .ok (.iconst 1, 1) := by decide +kernel
theorem dX5_lay_37 : decode cX5_lay 37 = .ok (.goto 19, 3) := by decide +kernel
theorem dX5_lay_40 : decode cX5_lay 40 = .ok (.iload 4, 2) := by decide +kernel
theorem dX5_lay_42 : decode cX5_lay 42 = .ok (.iconst 1, 1) := by decide +kernel
theorem dX5_lay_43 : decode cX5_lay 43 = .ok (.bipush 9, 2) := by decide +kernel
theorem dX5_lay_45 : decode cX5_lay 45 = .ok (.invokestatic 72, 3) := by decide +kernel
theorem dX5_lay_48 : decode cX5_lay 48 = .ok (.ifCond .ne 7, 3) := by decide +kernel
theorem dX5_lay_51 : decode cX5_lay 51 = .ok (.iconst 2, 1) := by decide +kernel
theorem dX5_lay_52 : decode cX5_lay 52 = .ok (.goto 4, 3) := by decide +kernel
theorem dX5_lay_55 : decode cX5_lay 55 = .ok (.iconst 0, 1) := by decide +kernel
theorem dX5_lay_56 : decode cX5_lay 56 = .ok (.putfield 68, 3) := by decide +kernel
theorem dX5_lay_59 : decode cX5_lay 59 = .ok (.aload_n 0, 1) := by decide +kernel
theorem dX5_lay_60 : decode cX5_lay 60 = .ok (.getfield 68, 3) := by decide +kernel
theorem dX5_lay_63 : decode cX5_lay 63 = .ok (.ifCond .le 5, 3) := by decide +kernel
theorem dX5_lay_66 : decode cX5_lay 66 = .ok (.iconst 0, 1) := by decide +kernel
theorem dX5_lay_67 : decode cX5_lay 67 = .ok (.ireturn, 1) := by decide +kernel
theorem dX5_lay_68 : decode cX5_lay 68 = .ok (.iconst 3, 1) := by decide +kernel
theorem dX5_lay_69 : decode cX5_lay 69 = .ok (.iload_n 1, 1) := by decide +kernel
theorem dX5_lay_70 : decode cX5_lay 70 = .ok (.imul, 1) := by decide +kernel
theorem dX5_lay_71 : decode cX5_lay 71 = .ok (.iload_n 2, 1) := by decide +kernel
theorem dX5_lay_72 : decode cX5_lay 72 = .ok (.iadd, 1) := by decide +kernel
theorem dX5_lay_73 : decode cX5_lay 73 = .ok (.istore 5, 2) := by decide +kernel
theorem dX5_lay_75 : decode cX5_lay 75 = .ok (.aload_n 0, 1) := by decide +kernel
theorem dX5_lay_76 : decode cX5_lay 76 = .ok (.getfield 20, 3) := by decide +kernel
theorem dX5_lay_79 : decode cX5_lay 79 = .ok (.iload 5, 2) := by decide +kernel
theorem dX5_lay_81 : decode cX5_lay 81 = .ok (.iaload, 1) := by decide +kernel
theorem dX5_lay_82 : decode cX5_lay 82 = .ok (.iconst 1, 1) := by decide +kernel
theorem dX5_lay_83 : decode cX5_lay 83 = .ok (.isub, 1) := by decide +kernel
theorem dX5_lay_84 : decode cX5_lay 84 = .ok (.istore 6, 2) := by decide +kernel
theorem dX5_lay_86 : decode cX5_lay 86 = .ok (.aload_n 0, 1) := by decide +kernel
theorem dX5_lay_87 : decode cX5_lay 87 = .ok (.getfield 20, 3) := by decide +kernel
theorem dX5_lay_90 : decode cX5_lay 90 = .ok (.iload 5, 2) := by decide +kernel
theorem dX5_lay_92 : decode cX5_lay 92 = .ok (.iload_n 3, 1) := by decide +kernel
theorem dX5_lay_93 : decode cX5_lay 93 = .ok (.iconst 1, 1) := by decide +kernel
theorem dX5_lay_94 : decode cX5_lay 94 = .ok (.iadd, 1) := by decide +kernel
theorem dX5_lay_95 : decode cX5_lay 95 = .ok (.iastore, 1) := by decide +kernel
theorem dX5_lay_96 : decode cX5_lay 96 = .ok (.aload_n 0, 1) := by decide +kernel
theorem dX5_lay_97 : decode cX5_lay 97 = .ok (.getfield 23, 3) := by decide +kernel
theorem dX5_lay_100 : decode cX5_lay 100 = .ok (.iload 5, 2) := by decide +kernel
theorem dX5_lay_102 : decode cX5_lay 102 = .ok (.iload 4, 2) := by decide +kernel
theorem dX5_lay_104 : decode cX5_lay 104 = .ok (.iastore, 1) := by decide +kernel
theorem dX5_lay_105 : decode cX5_lay 105 = .ok (.aload_n 0, 1) := by decide +kernel
theorem dX5_lay_106 : decode cX5_lay 106 = .ok (.getfield 26, 3) := by decide +kernel
theorem dX5_lay_109 : decode cX5_lay 109 = .ok (.iload 5, 2) := by decide +kernel
theorem dX5_lay_111 : decode cX5_lay 111 = .ok (.iconst 0, 1) := by decide +kernel
theorem dX5_lay_112 : decode cX5_lay 112 = .ok (.iastore, 1) := by decide +kernel
theorem dX5_lay_113 : decode cX5_lay 113 = .ok (.iload 6, 2) := by decide +kernel
theorem dX5_lay_115 : decode cX5_lay 115 = .ok (.ireturn, 1) := by decide +kernel
theorem dX5_breaks_0 : decode cX5_breaks 0 = .ok (.aload_n 0, 1) := by decide +kernel
theorem dX5_breaks_1 : decode cX5_breaks 1 = .ok (.getfield 38, 3) := by decide +kernel
theorem dX5_breaks_4 : decode cX5_breaks 4 = .ok (.iload_n 1, 1) := by decide +kernel
theorem dX5_breaks_5 : decode cX5_breaks 5 = .ok (.iconst 1, 1) := by decide +kernel
theorem dX5_breaks_6 : decode cX5_breaks 6 = .ok (.iastore, 1) := by decide +kernel
theorem dX5_breaks_7 : decode cX5_breaks 7 = .ok (.iconst 0, 1) := by decide +kernel
theorem dX5_breaks_8 : decode cX5_breaks 8 = .ok (.istore_n 2, 1) := by decide +kernel
theorem dX5_breaks_9 : decode cX5_breaks 9 = .ok (.iload_n 2, 1) := by decide +kernel
theorem dX5_breaks_10 : decode cX5_breaks 10 = .ok (.iconst 3, 1) := by decide +kernel
theorem dX5_breaks_11 : decode cX5_breaks 11 = .ok (.if_icmp .ge 20, 3) := by decide +kernel
theorem dX5_breaks_14 : decode cX5_breaks 14 = .ok (.aload_n 0, 1) := by decide +kernel
theorem dX5_breaks_15 : decode cX5_breaks 15 = .ok (.getfield 26, 3) := by decide +kernel
theorem dX5_breaks_18 : decode cX5_breaks 18 = .ok (.iconst 3, 1) := by decide +kernel
theorem dX5_breaks_19 : decode cX5_breaks 19 = .ok (.iload_n 1, 1) := by decide +kernel
theorem dX5_breaks_20 : decode cX5_breaks 20 = .ok (.imul, 1) := by decide +kernel
theorem dX5_breaks_21 : decode cX5_breaks 21 = .ok (.iload_n 2, 1) := by decide +kernel
theorem dX5_breaks_22 : decode cX5_breaks 22 = .ok (.iadd, 1) := by decide +kernel
theorem dX5_breaks_23 : decode cX5_breaks 23 = .ok (.iconst 0, 1) := by decide +kernel
theorem dX5_breaks_24 : decode cX5_breaks 24 = .ok (.iastore, 1) := by decide +kernel
theorem dX5_breaks_25 : decode cX5_breaks 25 = .ok (.iinc 2 1, 3) := by decide +kernel
theorem dX5_breaks_28 : decode cX5_breaks 28 = .ok (.goto (-19), 3) := by decide +kernel
theorem dX5_breaks_31 : decode cX5_breaks 31 = .ok (.return_, 1) := by decide +kernel
theorem dX5_begins_0 : decode cX5_begins 0 = .ok (.aload_n 0, 1) := by decide +kernel
theorem dX5_begins_1 : decode cX5_begins 1 = .ok (.getfield 26, 3) := by decide +kernel
theorem dX5_begins_4 : decode cX5_begins 4 = .ok (.iload_n 1, 1) := by decide +kernel
theorem dX5_begins_5 : decode cX5_begins 5 = .ok (.aload_n 0, 1) := by decide +kernel
theorem dX5_begins_6 : decode cX5_begins 6 = .ok (.getfield 96, 3) := by decide +kernel
theorem dX5_begins_9 : decode cX5_begins 9 = .ok (.iconst 2, 1) := by decide +kernel
theorem dX5_begins_10 : decode cX5_begins 10 = .ok (.aload_n 0, 1) := by decide +kernel
theorem dX5_begins_11 : decode cX5_begins 11 = .ok (.getfield 13, 3) := by decide +kernel
theorem dX5_begins_14 : decode cX5_begins 14 = .ok (.aload_n 0, 1) := by decide +kernel
theorem dX5_begins_15 : decode cX5_begins 15 = .ok (.getfield 20, 3) := by decide +kernel
theorem dX5_begins_18 : decode cX5_begins 18 = .ok (.iload_n 1, 1) := by decide +kernel
theorem dX5_begins_19 : decode cX5_begins 19 = .ok (.iaload, 1) := by decide +kernel
theorem dX5_begins_20 : decode cX5_begins 20 = .ok (.iconst 1, 1) := by decide +kernel
theorem dX5_begins_21 : decode cX5_begins 21 = .ok (.isub, 1) := by decide +kernel
theorem dX5_begins_22 : decode cX5_begins 22 = .ok (.iaload, 1) := by decide +kernel
theorem dX5_begins_23 : decode cX5_begins 23 = .ok (.imul, 1) := by decide +kernel
theorem dX5_begins_24 : decode cX5_begins 24 = .ok (.iadd, 1) := by decide +kernel
theorem dX5_begins_25 : decode cX5_begins 25 = .ok (.iastore, 1) := by decide +kernel
theorem dX5_begins_26 : decode cX5_begins 26 = .ok (.return_, 1) := by decide +kernel
set_option maxRecDepth 20000 in
theorem ggX5_press_X5_isHouse : GoodIn wsX5_press wsX5_isHouse := goodIn_r _ [12, 13, 14, 11, 15] (by decide +kernel) (by decide +kernel)
set_option maxRecDepth 20000 in
theorem gX5_press_X5_isHouse : GoodIn wsX5_press (va_wsS RX5 79 yX5_isHouse wsX5_isHouse) := goodIn_app (goodIn_of _ (by decide +kernel)) ggX5_press_X5_isHouse
set_option maxRecDepth 20000 in
theorem ggX5_press_X5_in : GoodIn wsX5_press wsX5_in := goodIn_r _ [15] (by decide +kernel) (by decide +kernel)
set_option maxRecDepth 20000 in
theorem gX5_press_X5_in : GoodIn wsX5_press (va_wsS RX5 72 yX5_in wsX5_in) := goodIn_app (goodIn_of _ (by decide +kernel)) ggX5_press_X5_in
set_option maxRecDepth 20000 in
theorem ggX5_press_X5_fails : GoodIn wsX5_press wsX5_fails := goodIn_r _ [19, 1, 36, 37, 38, 39, 40, 41, 42, 43, 44, 45, 46, 47, 48, 49, 50, 51, 52, 53, 54, 55, 56, 57, 58] (by decide +kernel) (by decide +kernel)
set_option maxRecDepth 20000 in
theorem gX5_press_X5_fails : GoodIn wsX5_press (wsV RX5 83 RX5 yX5_fails wsX5_fails) := goodIn_app (goodIn_of _ (by decide +kernel)) ggX5_press_X5_fails
set_option maxRecDepth 20000 in
theorem ggX5_press_X5_isQuiet : GoodIn wsX5_press wsX5_isQuiet := goodIn_r _ [23, 24, 25, 26, 36, 37, 38, 39, 40, 41, 42, 43, 44, 45, 46, 47, 48, 49, 50, 51, 52, 53, 54, 55, 56, 57, 58] (by decide +kernel) (by decide +kernel)
set_option maxRecDepth 20000 in
theorem gX5_press_X5_isQuiet : GoodIn wsX5_press (wsV RX5 99 RX5 yX5_isQuiet wsX5_isQuiet) := goodIn_app (goodIn_of _ (by decide +kernel)) ggX5_press_X5_isQuiet
set_option maxRecDepth 20000 in
theorem ggX5_press_X5_breaks : GoodIn wsX5_press wsX5_breaks := goodIn_r _ [30, 3, 4, 36, 37, 38, 39, 40, 41, 42, 43, 44, 45, 46, 47, 48, 49, 50, 51, 52, 53, 54, 55, 56, 57, 58] (by decide +kernel) (by decide +kernel)
set_option maxRecDepth 20000 in
theorem gX5_press_X5_breaks : GoodIn wsX5_press (wsV RX5 102 RX5 yX5_breaks wsX5_breaks) := goodIn_app (goodIn_of _ (by decide +kernel)) ggX5_press_X5_breaks
set_option maxRecDepth 20000 in
theorem ggX5_press_X5_begins : GoodIn wsX5_press wsX5_begins := goodIn_r _ [34, 4, 24, 35, 2, 36, 37, 38, 39, 40, 41, 42, 43, 44, 45, 46, 47, 48, 49, 50, 51, 52, 53, 54, 55, 56, 57, 58] (by decide +kernel) (by decide +kernel)
set_option maxRecDepth 20000 in
theorem gX5_press_X5_begins : GoodIn wsX5_press (wsV RX5 106 RX5 yX5_begins wsX5_begins) := goodIn_app (goodIn_of _ (by decide +kernel)) ggX5_press_X5_begins
theorem dX5_press_0 : decode cX5_press 0 = .ok (.aload_n 0, 1) := by decide +kernel
theorem dX5_press_1 : decode cX5_press 1 = .ok (.iload_n 1, 1) := by decide +kernel
theorem dX5_press_2 : decode cX5_press 2 = .ok (.invokestatic 79, 3) := by decide +kernel
theorem dX5_press_5 : decode cX5_press 5 = .ok (.ifCond .eq 12, 3) := by decide +kernel
theorem dX5_press_8 : decode cX5_press 8 = .ok (.iload_n 2, 1) := by decide +kernel
theorem dX5_press_9 : decode cX5_press 9 = .ok (.iconst 0, 1) := by decide +kernel
theorem dX5_press_10 : decode cX5_press 10 = .ok (.iconst 2, 1) := by decide +kernel
theorem dX5_press_11 : decode cX5_press 11 = .ok (.invokestatic 72, 3) := by decide +kernel
theorem dX5_press_14 : decode cX5_press 14 = .ok (.ifCond .ne 7, 3) := by decide +kernel
theorem dX5_press_17 : decode cX5_press 17 = .ok (.iconst 1, 1) := by decide +kernel
theorem dX5_press_18 : decode cX5_press 18 = .ok (.goto 4, 3) := by decide +kernel
theorem dX5_press_21 : decode cX5_press 21 = .ok (.iconst 0, 1) := by decide +kernel
theorem dX5_press_22 : decode cX5_press 22 = .ok (.putfield 68, 3) := by decide +kernel
theorem dX5_press_25 : decode cX5_press 25 = .ok (.aload_n 0, 1) := by decide +kernel
theorem dX5_press_26 : decode cX5_press 26 = .ok (.getfield 68, 3) := by decide +kernel
theorem dX5_press_29 : decode cX5_press 29 = .ok (.ifCond .le 5, 3) := by decide +kernel
theorem dX5_press_32 : decode cX5_press 32 = .ok (.iconst 0, 1) := by decide +kernel
theorem dX5_press_33 : decode cX5_press 33 = .ok (.ireturn, 1) := by decide +kernel
theorem dX5_press_34 : decode cX5_press 34 = .ok (.iconst 3, 1) := by decide +kernel
theorem dX5_press_35 : decode cX5_press 35 = .ok (.iload_n 1, 1) := by decide +kernel
theorem dX5_press_36 : decode cX5_press 36 = .ok (.imul, 1) := by decide +kernel
theorem dX5_press_37 : decode cX5_press 37 = .ok (.iload_n 2, 1) := by decide +kernel
theorem dX5_press_38 : decode cX5_press 38 = .ok (.iadd, 1) := by decide +kernel
theorem dX5_press_39 : decode cX5_press 39 = .ok (.istore_n 3, 1) := by decide +kernel
theorem dX5_press_40 : decode cX5_press 40 = .ok (.aload_n 0, 1) := by decide +kernel
theorem dX5_press_41 : decode cX5_press 41 = .ok (.getfield 20, 3) := by decide +kernel
theorem dX5_press_44 : decode cX5_press 44 = .ok (.iload_n 3, 1) := by decide +kernel
theorem dX5_press_45 : decode cX5_press 45 = .ok (.iaload, 1) := by decide +kernel
theorem dX5_press_46 : decode cX5_press 46 = .ok (.ifCond .ne 9, 3) := by decide +kernel
theorem dX5_press_49 : decode cX5_press 49 = .ok (.aload_n 0, 1) := by decide +kernel
theorem dX5_press_50 : decode cX5_press 50 = .ok (.iconst 2, 1) := by decide +kernel
theorem dX5_press_51 : decode cX5_press 51 = .ok (.invokevirtual 83, 3) := by decide +kernel
theorem dX5_press_54 : decode cX5_press 54 = .ok (.ireturn, 1) := by decide +kernel
theorem dX5_press_55 : decode cX5_press 55 = .ok (.aload_n 0, 1) := by decide +kernel
theorem dX5_press_56 : decode cX5_press 56 = .ok (.getfield 38, 3) := by decide +kernel
theorem dX5_press_59 : decode cX5_press 59 = .ok (.iload_n 1, 1) := by decide +kernel
theorem dX5_press_60 : decode cX5_press 60 = .ok (.iaload, 1) := by decide +kernel
theorem dX5_press_61 : decode cX5_press 61 = .ok (.iconst 1, 1) := by decide +kernel
theorem dX5_press_62 : decode cX5_press 62 = .ok (.if_icmp .eq 12, 3) := by decide +kernel
theorem dX5_press_65 : decode cX5_press 65 = .ok (.aload_n 0, 1) := by decide +kernel
theorem dX5_press_66 : decode cX5_press 66 = .ok (.getfield 26, 3) := by decide +kernel
theorem dX5_press_69 : decode cX5_press 69 = .ok (.iload_n 3, 1) := by decide +kernel
theorem dX5_press_70 : decode cX5_press 70 = .ok (.iaload, 1) := by decide +kernel
theorem dX5_press_71 : decode cX5_press 71 = .ok (.ifCond .le 5, 3) := by decide +kernel
theorem dX5_press_74 : decode cX5_press 74 = .ok (.iconst 0, 1) := by decide +kernel
theorem dX5_press_75 : decode cX5_press 75 = .ok (.ireturn, 1) := by decide +kernel
theorem dX5_press_76 : decode cX5_press 76 = .ok (.aload_n 0, 1) := by decide +kernel
theorem dX5_press_77 : decode cX5_press 77 = .ok (.iload_n 1, 1) := by decide +kernel
theorem dX5_press_78 : decode cX5_press 78 = .ok (.invokevirtual 99, 3) := by decide +kernel
theorem dX5_press_81 : decode cX5_press 81 = .ok (.ifCond .eq 15, 3) := by decide +kernel
theorem dX5_press_84 : decode cX5_press 84 = .ok (.aload_n 0, 1) := by decide +kernel
theorem dX5_press_85 : decode cX5_press 85 = .ok (.getfield 50, 3) := by decide +kernel
theorem dX5_press_88 : decode cX5_press 88 = .ok (.iload_n 1, 1) := by decide +kernel
theorem dX5_press_89 : decode cX5_press 89 = .ok (.dup2, 1) := by decide +kernel
theorem dX5_press_90 : decode cX5_press 90 = .ok (.iaload, 1) := by decide +kernel
theorem dX5_press_91 : decode cX5_press 91 = .ok (.iconst 1, 1) := by decide +kernel
theorem dX5_press_92 : decode cX5_press 92 = .ok (.iadd, 1) := by decide +kernel
theorem dX5_press_93 : decode cX5_press 93 = .ok (.iastore, 1) := by decide +kernel
theorem dX5_press_94 : decode cX5_press 94 = .ok (.iconst 2, 1) := by decide +kernel
theorem dX5_press_95 : decode cX5_press 95 = .ok (.ireturn, 1) := by decide +kernel
theorem dX5_press_96 : decode cX5_press 96 = .ok (.bipush 12, 2) := by decide +kernel
theorem dX5_press_98 : decode cX5_press 98 = .ok (.iload_n 1, 1) := by decide +kernel
theorem dX5_press_99 : decode cX5_press 99 = .ok (.imul, 1) := by decide +kernel
theorem dX5_press_100 : decode cX5_press 100 = .ok (.aload_n 0, 1) := by decide +kernel
theorem dX5_press_101 : decode cX5_press 101 = .ok (.getfield 20, 3) := by decide +kernel
theorem dX5_press_104 : decode cX5_press 104 = .ok (.iload_n 3, 1) := by decide +kernel
theorem dX5_press_105 : decode cX5_press 105 = .ok (.iaload, 1) := by decide +kernel
theorem dX5_press_106 : decode cX5_press 106 = .ok (.iadd, 1) := by decide +kernel
theorem dX5_press_107 : decode cX5_press 107 = .ok (.iconst 1, 1) := by decide +kernel
theorem dX5_press_108 : decode cX5_press 108 = .ok (.isub, 1) := by decide +kernel
theorem dX5_press_109 : decode cX5_press 109 = .ok (.istore 4, 2) := by decide +kernel
theorem dX5_press_111 : decode cX5_press 111 = .ok (.aload_n 0, 1) := by decide +kernel
theorem dX5_press_112 : decode cX5_press 112 = .ok (.getfield 7, 3) := by decide +kernel
theorem dX5_press_115 : decode cX5_press 115 = .ok (.aload_n 0, 1) := by decide +kernel
theorem dX5_press_116 : decode cX5_press 116 = .ok (.getfield 20, 3) := by decide +kernel
theorem dX5_press_119 : decode cX5_press 119 = .ok (.iload_n 3, 1) := by decide +kernel
theorem dX5_press_120 : decode cX5_press 120 = .ok (.iaload, 1) := by decide +kernel
theorem dX5_press_121 : decode cX5_press 121 = .ok (.iconst 1, 1) := by decide +kernel
theorem dX5_press_122 : decode cX5_press 122 = .ok (.isub, 1) := by decide +kernel
theorem dX5_press_123 : decode cX5_press 123 = .ok (.iaload, 1) := by decide +kernel
theorem dX5_press_124 : decode cX5_press 124 = .ok (.iload_n 1, 1) := by decide +kernel
theorem dX5_press_125 : decode cX5_press 125 = .ok (.if_icmp .ne 7, 3) := by decide +kernel
theorem dX5_press_128 : decode cX5_press 128 = .ok (.iconst 1, 1) := by decide +kernel
theorem dX5_press_129 : decode cX5_press 129 = .ok (.goto 4, 3) := by decide +kernel
theorem dX5_press_132 : decode cX5_press 132 = .ok (.iconst 0, 1) := by decide +kernel
theorem dX5_press_133 : decode cX5_press 133 = .ok (.istore 5, 2) := by decide +kernel
theorem dX5_press_135 : decode cX5_press 135 = .ok (.iload 5, 2) := by decide +kernel
theorem dX5_press_137 : decode cX5_press 137 = .ok (.ifCond .ne 15, 3) := by decide +kernel
theorem dX5_press_140 : decode cX5_press 140 = .ok (.aload_n 0, 1) := by decide +kernel
theorem dX5_press_141 : decode cX5_press 141 = .ok (.getfield 29, 3) := by decide +kernel
theorem dX5_press_144 : decode cX5_press 144 = .ok (.iload 4, 2) := by decide +kernel
theorem dX5_press_146 : decode cX5_press 146 = .ok (.iaload, 1) := by decide +kernel
theorem dX5_press_147 : decode cX5_press 147 = .ok (.ifCond .ne 5, 3) := by decide +kernel
theorem dX5_press_150 : decode cX5_press 150 = .ok (.iconst 0, 1) := by decide +kernel
theorem dX5_press_151 : decode cX5_press 151 = .ok (.ireturn, 1) := by decide +kernel
theorem dX5_press_152 : decode cX5_press 152 = .ok (.aload_n 0, 1) := by decide +kernel
theorem dX5_press_153 : decode cX5_press 153 = .ok (.getfield 23, 3) := by decide +kernel
theorem dX5_press_156 : decode cX5_press 156 = .ok (.iload_n 3, 1) := by decide +kernel
theorem dX5_press_157 : decode cX5_press 157 = .ok (.iaload, 1) := by decide +kernel
theorem dX5_press_158 : decode cX5_press 158 = .ok (.istore 6, 2) := by decide +kernel
theorem dX5_press_160 : decode cX5_press 160 = .ok (.iconst 0, 1) := by decide +kernel
theorem dX5_press_161 : decode cX5_press 161 = .ok (.istore 7, 2) := by decide +kernel
theorem dX5_press_163 : decode cX5_press 163 = .ok (.iload 7, 2) := by decide +kernel
theorem dX5_press_165 : decode cX5_press 165 = .ok (.iconst 3, 1) := by decide +kernel
theorem dX5_press_166 : decode cX5_press 166 = .ok (.if_icmp .ge 43, 3) := by decide +kernel
theorem dX5_press_169 : decode cX5_press 169 = .ok (.iload 6, 2) := by decide +kernel
theorem dX5_press_171 : decode cX5_press 171 = .ok (.aload_n 0, 1) := by decide +kernel
theorem dX5_press_172 : decode cX5_press 172 = .ok (.getfield 26, 3) := by decide +kernel
theorem dX5_press_175 : decode cX5_press 175 = .ok (.iconst 3, 1) := by decide +kernel
theorem dX5_press_176 : decode cX5_press 176 = .ok (.iload_n 1, 1) := by decide +kernel
theorem dX5_press_177 : decode cX5_press 177 = .ok (.imul, 1) := by decide +kernel
theorem dX5_press_178 : decode cX5_press 178 = .ok (.iload 7, 2) := by decide +kernel
theorem dX5_press_180 : decode cX5_press 180 = .ok (.iadd, 1) := by decide +kernel
theorem dX5_press_181 : decode cX5_press 181 = .ok (.iaload, 1) := by decide +kernel
theorem dX5_press_182 : decode cX5_press 182 = .ok (.ifCond .le 17, 3) := by decide +kernel
theorem dX5_press_185 : decode cX5_press 185 = .ok (.aload_n 0, 1) := by decide +kernel
theorem dX5_press_186 : decode cX5_press 186 = .ok (.getfield 23, 3) := by decide +kernel
theorem dX5_press_189 : decode cX5_press 189 = .ok (.iconst 3, 1) := by decide +kernel
theorem dX5_press_190 : decode cX5_press 190 = .ok (.iload_n 1, 1) := by decide +kernel
theorem dX5_press_191 : decode cX5_press 191 = .ok (.imul, 1) := by decide +kernel
theorem dX5_press_192 : decode cX5_press 192 = .ok (.iload 7, 2) := by decide +kernel
theorem dX5_press_194 : decode cX5_press 194 = .ok (.iadd, 1) := by decide +kernel
theorem dX5_press_195 : decode cX5_press 195 = .ok (.iaload, 1) := by decide +kernel
theorem dX5_press_196 : decode cX5_press 196 = .ok (.goto 4, 3) := by decide +kernel
theorem dX5_press_199 : decode cX5_press 199 = .ok (.iconst 0, 1) := by decide +kernel
theorem dX5_press_200 : decode cX5_press 200 = .ok (.iadd, 1) := by decide +kernel
theorem dX5_press_201 : decode cX5_press 201 = .ok (.istore 6, 2) := by decide +kernel
theorem dX5_press_203 : decode cX5_press 203 = .ok (.iinc 7 1, 3) := by decide +kernel
theorem dX5_press_206 : decode cX5_press 206 = .ok (.goto (-43), 3) := by decide +kernel
theorem dX5_press_209 : decode cX5_press 209 = .ok (.iload 6, 2) := by decide +kernel
theorem dX5_press_211 : decode cX5_press 211 = .ok (.bipush 10, 2) := by decide +kernel
theorem dX5_press_213 : decode cX5_press 213 = .ok (.if_icmp .le 10, 3) := by decide +kernel
theorem dX5_press_216 : decode cX5_press 216 = .ok (.aload_n 0, 1) := by decide +kernel
theorem dX5_press_217 : decode cX5_press 217 = .ok (.iload_n 1, 1) := by decide +kernel
theorem dX5_press_218 : decode cX5_press 218 = .ok (.invokevirtual 102, 3) := by decide +kernel
theorem dX5_press_221 : decode cX5_press 221 = .ok (.iconst 3, 1) := by decide +kernel
theorem dX5_press_222 : decode cX5_press 222 = .ok (.ireturn, 1) := by decide +kernel
theorem dX5_press_223 : decode cX5_press 223 = .ok (.aload_n 0, 1) := by decide +kernel
theorem dX5_press_224 : decode cX5_press 224 = .ok (.getfield 29, 3) := by decide +kernel
theorem dX5_press_227 : decode cX5_press 227 = .ok (.iload 4, 2) := by decide +kernel
theorem dX5_press_229 : decode cX5_press 229 = .ok (.dup2, 1) := by decide +kernel
theorem dX5_press_230 : decode cX5_press 230 = .ok (.iaload, 1) := by decide +kernel
theorem dX5_press_231 : decode cX5_press 231 = .ok (.iload 5, 2) := by decide +kernel
theorem dX5_press_233 : decode cX5_press 233 = .ok (.ifCond .eq 7, 3) := by decide +kernel
theorem dX5_press_236 : decode cX5_press 236 = .ok (.iconst 0, 1) := by decide +kernel
theorem dX5_press_237 : decode cX5_press 237 = .ok (.goto 4, 3) := by decide +kernel
theorem dX5_press_240 : decode cX5_press 240 = .ok (.iconst 1, 1) := by decide +kernel
theorem dX5_press_241 : decode cX5_press 241 = .ok (.isub, 1) := by decide +kernel
theorem dX5_press_242 : decode cX5_press 242 = .ok (.iastore, 1) := by decide +kernel
theorem dX5_press_243 : decode cX5_press 243 = .ok (.aload_n 0, 1) := by decide +kernel
theorem dX5_press_244 : decode cX5_press 244 = .ok (.iload_n 3, 1) := by decide +kernel
theorem dX5_press_245 : decode cX5_press 245 = .ok (.invokevirtual 106, 3) := by decide +kernel
theorem dX5_press_248 : decode cX5_press 248 = .ok (.iconst 1, 1) := by decide +kernel
theorem dX5_press_249 : decode cX5_press 249 = .ok (.ireturn, 1) := by decide +kernel
set_option maxRecDepth 20000 in
theorem ggX5_fault_X5_isHouse : GoodIn wsX5_fault wsX5_isHouse := goodIn_r _ [12, 13, 14, 11, 15] (by decide +kernel) (by decide +kernel)
set_option maxRecDepth 20000 in
theorem gX5_fault_X5_isHouse : GoodIn wsX5_fault (va_wsS RX5 79 yX5_isHouse wsX5_isHouse) := goodIn_app (goodIn_of _ (by decide +kernel)) ggX5_fault_X5_isHouse
set_option maxRecDepth 20000 in
theorem ggX5_fault_X5_begins : GoodIn wsX5_fault wsX5_begins := goodIn_r _ [19, 5, 7, 20, 4, 25, 26, 27, 28, 29, 30, 31, 32, 33, 34, 35, 36, 37, 38, 39, 40, 41, 42, 43, 44, 45, 46, 47] (by decide +kernel) (by decide +kernel)
set_option maxRecDepth 20000 in
theorem gX5_fault_X5_begins : GoodIn wsX5_fault (wsV RX5 106 RX5 yX5_begins wsX5_begins) := goodIn_app (goodIn_of _ (by decide +kernel)) ggX5_fault_X5_begins
set_option maxRecDepth 20000 in
theorem ggX5_fault_X5_breaks : GoodIn wsX5_fault wsX5_breaks := goodIn_r _ [24, 1, 5, 25, 26, 27, 28, 29, 30, 31, 32, 33, 34, 35, 36, 37, 38, 39, 40, 41, 42, 43, 44, 45, 46, 47] (by decide +kernel) (by decide +kernel)
set_option maxRecDepth 20000 in
theorem gX5_fault_X5_breaks : GoodIn wsX5_fault (wsV RX5 102 RX5 yX5_breaks wsX5_breaks) := goodIn_app (goodIn_of _ (by decide +kernel)) ggX5_fault_X5_breaks
theorem dX5_fault_0 : decode cX5_fault 0 = .ok (.aload_n 0, 1) := by decide +kernel
theorem dX5_fault_1 : decode cX5_fault 1 = .ok (.iload_n 1, 1) := by decide +kernel
theorem dX5_fault_2 : decode cX5_fault 2 = .ok (.invokestatic 79, 3) := by decide +kernel
theorem dX5_fault_5 : decode cX5_fault 5 = .ok (.ifCond .ne 7, 3) := by decide +kernel
theorem dX5_fault_8 : decode cX5_fault 8 = .ok (.iconst 1, 1) := by decide +kernel
theorem dX5_fault_9 : decode cX5_fault 9 = .ok (.goto 27, 3) := by decide +kernel
theorem dX5_fault_12 : decode cX5_fault 12 = .ok (.aload_n 0, 1) := by decide +kernel
theorem dX5_fault_13 : decode cX5_fault 13 = .ok (.getfield 38, 3) := by decide +kernel
theorem dX5_fault_16 : decode cX5_fault 16 = .ok (.iload_n 1, 1) := by decide +kernel
theorem dX5_fault_17 : decode cX5_fault 17 = .ok (.iaload, 1) := by decide +kernel
theorem dX5_fault_18 : decode cX5_fault 18 = .ok (.iconst 1, 1) := by decide +kernel
theorem dX5_fault_19 : decode cX5_fault 19 = .ok (.if_icmp .eq 12, 3) := by decide +kernel
theorem dX5_fault_22 : decode cX5_fault 22 = .ok (.aload_n 0, 1) := by decide +kernel
theorem dX5_fault_23 : decode cX5_fault 23 = .ok (.getfield 109, 3) := by decide +kernel
theorem dX5_fault_26 : decode cX5_fault 26 = .ok (.bipush 100, 2) := by decide +kernel
theorem dX5_fault_28 : decode cX5_fault 28 = .ok (.if_icmp .ne 7, 3) := by decide +kernel
theorem dX5_fault_31 : decode cX5_fault 31 = .ok (.iconst 2, 1) := by decide +kernel
theorem dX5_fault_32 : decode cX5_fault 32 = .ok (.goto 4, 3) := by decide +kernel
theorem dX5_fault_35 : decode cX5_fault 35 = .ok (.iconst 0, 1) := by decide +kernel
theorem dX5_fault_36 : decode cX5_fault 36 = .ok (.putfield 68, 3) := by decide +kernel
theorem dX5_fault_39 : decode cX5_fault 39 = .ok (.aload_n 0, 1) := by decide +kernel
theorem dX5_fault_40 : decode cX5_fault 40 = .ok (.getfield 68, 3) := by decide +kernel
theorem dX5_fault_43 : decode cX5_fault 43 = .ok (.ifCond .le 5, 3) := by decide +kernel
theorem dX5_fault_46 : decode cX5_fault 46 = .ok (.iconst 0, 1) := by decide +kernel
theorem dX5_fault_47 : decode cX5_fault 47 = .ok (.ireturn, 1) := by decide +kernel
theorem dX5_fault_48 : decode cX5_fault 48 = .ok (.iconst 0, 1) := by decide +kernel
theorem dX5_fault_49 : decode cX5_fault 49 = .ok (.istore_n 2, 1) := by decide +kernel
theorem dX5_fault_50 : decode cX5_fault 50 = .ok (.bipush 12, 2) := by decide +kernel
theorem dX5_fault_52 : decode cX5_fault 52 = .ok (.iload_n 1, 1) := by decide +kernel
theorem dX5_fault_53 : decode cX5_fault 53 = .ok (.iconst 4, 1) := by decide +kernel
theorem dX5_fault_54 : decode cX5_fault 54 = .ok (.idiv, 1) := by decide +kernel
theorem dX5_fault_55 : decode cX5_fault 55 = .ok (.imul, 1) := by decide +kernel
theorem dX5_fault_56 : decode cX5_fault 56 = .ok (.istore_n 3, 1) := by decide +kernel
theorem dX5_fault_57 : decode cX5_fault 57 = .ok (.iload_n 3, 1) := by decide +kernel
theorem dX5_fault_58 : decode cX5_fault 58 = .ok (.bipush 12, 2) := by decide +kernel
theorem dX5_fault_60 : decode cX5_fault 60 = .ok (.iload_n 1, 1) := by decide +kernel
theorem dX5_fault_61 : decode cX5_fault 61 = .ok (.iconst 4, 1) := by decide +kernel
theorem dX5_fault_62 : decode cX5_fault 62 = .ok (.idiv, 1) := by decide +kernel
theorem dX5_fault_63 : decode cX5_fault 63 = .ok (.imul, 1) := by decide +kernel
theorem dX5_fault_64 : decode cX5_fault 64 = .ok (.bipush 12, 2) := by decide +kernel
theorem dX5_fault_66 : decode cX5_fault 66 = .ok (.iadd, 1) := by decide +kernel
theorem dX5_fault_67 : decode cX5_fault 67 = .ok (.if_icmp .ge 58, 3) := by decide +kernel
theorem dX5_fault_70 : decode cX5_fault 70 = .ok (.aload_n 0, 1) := by decide +kernel
theorem dX5_fault_71 : decode cX5_fault 71 = .ok (.getfield 38, 3) := by decide +kernel
theorem dX5_fault_74 : decode cX5_fault 74 = .ok (.iload_n 3, 1) := by decide +kernel
theorem dX5_fault_75 : decode cX5_fault 75 = .ok (.iconst 3, 1) := by decide +kernel
theorem dX5_fault_76 : decode cX5_fault 76 = .ok (.idiv, 1) := by decide +kernel
theorem dX5_fault_77 : decode cX5_fault 77 = .ok (.iaload, 1) := by decide +kernel
theorem dX5_fault_78 : decode cX5_fault 78 = .ok (.ifCond .ne 41, 3) := by decide +kernel
theorem dX5_fault_81 : decode cX5_fault 81 = .ok (.aload_n 0, 1) := by decide +kernel
theorem dX5_fault_82 : decode cX5_fault 82 = .ok (.getfield 20, 3) := by decide +kernel
theorem dX5_fault_85 : decode cX5_fault 85 = .ok (.iload_n 3, 1) := by decide +kernel
theorem dX5_fault_86 : decode cX5_fault 86 = .ok (.iaload, 1) := by decide +kernel
theorem dX5_fault_87 : decode cX5_fault 87 = .ok (.ifCond .le 32, 3) := by decide +kernel
theorem dX5_fault_90 : decode cX5_fault 90 = .ok (.aload_n 0, 1) := by decide +kernel
theorem dX5_fault_91 : decode cX5_fault 91 = .ok (.getfield 26, 3) := by decide +kernel
theorem dX5_fault_94 : decode cX5_fault 94 = .ok (.iload_n 3, 1) := by decide +kernel
theorem dX5_fault_95 : decode cX5_fault 95 = .ok (.iaload, 1) := by decide +kernel
theorem dX5_fault_96 : decode cX5_fault 96 = .ok (.ifCond .ne 23, 3) := by decide +kernel
theorem dX5_fault_99 : decode cX5_fault 99 = .ok (.aload_n 0, 1) := by decide +kernel
theorem dX5_fault_100 : decode cX5_fault 100 = .ok (.iload_n 3, 1) := by decide +kernel
theorem dX5_fault_101 : decode cX5_fault 101 = .ok (.invokevirtual 106, 3) := by decide +kernel
theorem dX5_fault_104 : decode cX5_fault 104 = .ok (.iload_n 2, 1) := by decide +kernel
theorem dX5_fault_105 : decode cX5_fault 105 = .ok (.iload_n 3, 1) := by decide +kernel
theorem dX5_fault_106 : decode cX5_fault 106 = .ok (.iconst 3, 1) := by decide +kernel
theorem dX5_fault_107 : decode cX5_fault 107 = .ok (.idiv, 1) := by decide +kernel
theorem dX5_fault_108 : decode cX5_fault 108 = .ok (.iload_n 1, 1) := by decide +kernel
theorem dX5_fault_109 : decode cX5_fault 109 = .ok (.if_icmp .ne 7, 3) := by decide +kernel
theorem dX5_fault_112 : decode cX5_fault 112 = .ok (.iconst 0, 1) := by decide +kernel
theorem dX5_fault_113 : decode cX5_fault 113 = .ok (.goto 4, 3) := by decide +kernel
theorem dX5_fault_116 : decode cX5_fault 116 = .ok (.iconst 1, 1) := by decide +kernel
theorem dX5_fault_117 : decode cX5_fault 117 = .ok (.iadd, 1) := by decide +kernel
theorem dX5_fault_118 : decode cX5_fault 118 = .ok (.istore_n 2, 1) := by decide +kernel
theorem dX5_fault_119 : decode cX5_fault 119 = .ok (.iinc 3 1, 3) := by decide +kernel
theorem dX5_fault_122 : decode cX5_fault 122 = .ok (.goto (-65), 3) := by decide +kernel
theorem dX5_fault_125 : decode cX5_fault 125 = .ok (.aload_n 0, 1) := by decide +kernel
theorem dX5_fault_126 : decode cX5_fault 126 = .ok (.iload_n 1, 1) := by decide +kernel
theorem dX5_fault_127 : decode cX5_fault 127 = .ok (.invokevirtual 102, 3) := by decide +kernel
theorem dX5_fault_130 : decode cX5_fault 130 = .ok (.aload_n 0, 1) := by decide +kernel
theorem dX5_fault_131 : decode cX5_fault 131 = .ok (.getfield 65, 3) := by decide +kernel
theorem dX5_fault_134 : decode cX5_fault 134 = .ok (.aload_n 0, 1) := by decide +kernel
theorem dX5_fault_135 : decode cX5_fault 135 = .ok (.getfield 109, 3) := by decide +kernel
theorem dX5_fault_138 : decode cX5_fault 138 = .ok (.bipush 10, 2) := by decide +kernel
theorem dX5_fault_140 : decode cX5_fault 140 = .ok (.aload_n 0, 1) := by decide +kernel
theorem dX5_fault_141 : decode cX5_fault 141 = .ok (.getfield 96, 3) := by decide +kernel
theorem dX5_fault_144 : decode cX5_fault 144 = .ok (.imul, 1) := by decide +kernel
theorem dX5_fault_145 : decode cX5_fault 145 = .ok (.iload_n 1, 1) := by decide +kernel
theorem dX5_fault_146 : decode cX5_fault 146 = .ok (.iadd, 1) := by decide +kernel
theorem dX5_fault_147 : decode cX5_fault 147 = .ok (.iastore, 1) := by decide +kernel
theorem dX5_fault_148 : decode cX5_fault 148 = .ok (.aload_n 0, 1) := by decide +kernel
theorem dX5_fault_149 : decode cX5_fault 149 = .ok (.dup, 1) := by decide +kernel
theorem dX5_fault_150 : decode cX5_fault 150 = .ok (.getfield 109, 3) := by decide +kernel
theorem dX5_fault_153 : decode cX5_fault 153 = .ok (.iconst 1, 1) := by decide +kernel
theorem dX5_fault_154 : decode cX5_fault 154 = .ok (.iadd, 1) := by decide +kernel
theorem dX5_fault_155 : decode cX5_fault 155 = .ok (.putfield 109, 3) := by decide +kernel
theorem dX5_fault_158 : decode cX5_fault 158 = .ok (.aload_n 0, 1) := by decide +kernel
theorem dX5_fault_159 : decode cX5_fault 159 = .ok (.getfield 56, 3) := by decide +kernel
theorem dX5_fault_162 : decode cX5_fault 162 = .ok (.iload_n 1, 1) := by decide +kernel
theorem dX5_fault_163 : decode cX5_fault 163 = .ok (.dup2, 1) := by decide +kernel
theorem dX5_fault_164 : decode cX5_fault 164 = .ok (.iaload, 1) := by decide +kernel
theorem dX5_fault_165 : decode cX5_fault 165 = .ok (.iconst 1, 1) := by decide +kernel
theorem dX5_fault_166 : decode cX5_fault 166 = .ok (.iadd, 1) := by decide +kernel
theorem dX5_fault_167 : decode cX5_fault 167 = .ok (.iastore, 1) := by decide +kernel
theorem dX5_fault_168 : decode cX5_fault 168 = .ok (.iload_n 2, 1) := by decide +kernel
theorem dX5_fault_169 : decode cX5_fault 169 = .ok (.ireturn, 1) := by decide +kernel
set_option maxRecDepth 20000 in
theorem ggX5_repair_X5_isHouse : GoodIn wsX5_repair wsX5_isHouse := goodIn_r _ [9, 10, 11, 8, 12] (by decide +kernel) (by decide +kernel)
set_option maxRecDepth 20000 in
theorem gX5_repair_X5_isHouse : GoodIn wsX5_repair (va_wsS RX5 79 yX5_isHouse wsX5_isHouse) := goodIn_app (goodIn_of _ (by decide +kernel)) ggX5_repair_X5_isHouse
set_option maxRecDepth 20000 in
theorem ggX5_repair_X5_fails : GoodIn wsX5_repair wsX5_fails := goodIn_r _ [16, 1, 17, 18, 19, 20, 21, 22, 23, 24, 25, 26, 27, 28, 29, 30, 31, 32, 33, 34, 35, 36, 37, 38, 39] (by decide +kernel) (by decide +kernel)
set_option maxRecDepth 20000 in
theorem gX5_repair_X5_fails : GoodIn wsX5_repair (wsV RX5 83 RX5 yX5_fails wsX5_fails) := goodIn_app (goodIn_of _ (by decide +kernel)) ggX5_repair_X5_fails
theorem dX5_repair_0 : decode cX5_repair 0 = .ok (.aload_n 0, 1) := by decide +kernel
theorem dX5_repair_1 : decode cX5_repair 1 = .ok (.iload_n 1, 1) := by decide +kernel
theorem dX5_repair_2 : decode cX5_repair 2 = .ok (.invokestatic 79, 3) := by decide +kernel
theorem dX5_repair_5 : decode cX5_repair 5 = .ok (.ifCond .eq 7, 3) := by decide +kernel
theorem dX5_repair_8 : decode cX5_repair 8 = .ok (.iconst 0, 1) := by decide +kernel
theorem dX5_repair_9 : decode cX5_repair 9 = .ok (.goto 4, 3) := by decide +kernel
theorem dX5_repair_12 : decode cX5_repair 12 = .ok (.iconst 1, 1) := by decide +kernel
theorem dX5_repair_13 : decode cX5_repair 13 = .ok (.putfield 68, 3) := by decide +kernel
theorem dX5_repair_16 : decode cX5_repair 16 = .ok (.aload_n 0, 1) := by decide +kernel
theorem dX5_repair_17 : decode cX5_repair 17 = .ok (.getfield 68, 3) := by decide +kernel
theorem dX5_repair_20 : decode cX5_repair 20 = .ok (.ifCond .le 5, 3) := by decide +kernel
theorem dX5_repair_23 : decode cX5_repair 23 = .ok (.iconst 0, 1) := by decide +kernel
theorem dX5_repair_24 : decode cX5_repair 24 = .ok (.ireturn, 1) := by decide +kernel
theorem dX5_repair_25 : decode cX5_repair 25 = .ok (.iload_n 1, 1) := by decide +kernel
theorem dX5_repair_26 : decode cX5_repair 26 = .ok (.iconst 4, 1) := by decide +kernel
theorem dX5_repair_27 : decode cX5_repair 27 = .ok (.idiv, 1) := by decide +kernel
theorem dX5_repair_28 : decode cX5_repair 28 = .ok (.istore_n 2, 1) := by decide +kernel
theorem dX5_repair_29 : decode cX5_repair 29 = .ok (.aload_n 0, 1) := by decide +kernel
theorem dX5_repair_30 : decode cX5_repair 30 = .ok (.getfield 38, 3) := by decide +kernel
theorem dX5_repair_33 : decode cX5_repair 33 = .ok (.iload_n 1, 1) := by decide +kernel
theorem dX5_repair_34 : decode cX5_repair 34 = .ok (.iaload, 1) := by decide +kernel
theorem dX5_repair_35 : decode cX5_repair 35 = .ok (.ifCond .eq 12, 3) := by decide +kernel
theorem dX5_repair_38 : decode cX5_repair 38 = .ok (.aload_n 0, 1) := by decide +kernel
theorem dX5_repair_39 : decode cX5_repair 39 = .ok (.getfield 59, 3) := by decide +kernel
theorem dX5_repair_42 : decode cX5_repair 42 = .ok (.iload_n 2, 1) := by decide +kernel
theorem dX5_repair_43 : decode cX5_repair 43 = .ok (.iaload, 1) := by decide +kernel
theorem dX5_repair_44 : decode cX5_repair 44 = .ok (.ifCond .le 9, 3) := by decide +kernel
theorem dX5_repair_47 : decode cX5_repair 47 = .ok (.aload_n 0, 1) := by decide +kernel
theorem dX5_repair_48 : decode cX5_repair 48 = .ok (.iconst 2, 1) := by decide +kernel
theorem dX5_repair_49 : decode cX5_repair 49 = .ok (.invokevirtual 83, 3) := by decide +kernel
theorem dX5_repair_52 : decode cX5_repair 52 = .ok (.ireturn, 1) := by decide +kernel
theorem dX5_repair_53 : decode cX5_repair 53 = .ok (.aload_n 0, 1) := by decide +kernel
theorem dX5_repair_54 : decode cX5_repair 54 = .ok (.getfield 59, 3) := by decide +kernel
theorem dX5_repair_57 : decode cX5_repair 57 = .ok (.iload_n 2, 1) := by decide +kernel
theorem dX5_repair_58 : decode cX5_repair 58 = .ok (.aload_n 0, 1) := by decide +kernel
theorem dX5_repair_59 : decode cX5_repair 59 = .ok (.getfield 96, 3) := by decide +kernel
theorem dX5_repair_62 : decode cX5_repair 62 = .ok (.bipush 50, 2) := by decide +kernel
theorem dX5_repair_64 : decode cX5_repair 64 = .ok (.iadd, 1) := by decide +kernel
theorem dX5_repair_65 : decode cX5_repair 65 = .ok (.iastore, 1) := by decide +kernel
theorem dX5_repair_66 : decode cX5_repair 66 = .ok (.aload_n 0, 1) := by decide +kernel
theorem dX5_repair_67 : decode cX5_repair 67 = .ok (.getfield 62, 3) := by decide +kernel
theorem dX5_repair_70 : decode cX5_repair 70 = .ok (.iload_n 2, 1) := by decide +kernel
theorem dX5_repair_71 : decode cX5_repair 71 = .ok (.iload_n 1, 1) := by decide +kernel
theorem dX5_repair_72 : decode cX5_repair 72 = .ok (.iastore, 1) := by decide +kernel
theorem dX5_repair_73 : decode cX5_repair 73 = .ok (.aload_n 0, 1) := by decide +kernel
theorem dX5_repair_74 : decode cX5_repair 74 = .ok (.getfield 59, 3) := by decide +kernel
theorem dX5_repair_77 : decode cX5_repair 77 = .ok (.iload_n 2, 1) := by decide +kernel
theorem dX5_repair_78 : decode cX5_repair 78 = .ok (.iaload, 1) := by decide +kernel
theorem dX5_repair_79 : decode cX5_repair 79 = .ok (.ireturn, 1) := by decide +kernel
set_option maxRecDepth 20000 in
theorem ggX5_rings_X5_isQuiet : GoodIn wsX5_rings wsX5_isQuiet := goodIn_r _ [9, 10, 11, 12, 13, 14, 15, 16, 17, 18, 19, 20, 21, 22, 23, 24, 25, 26, 27, 28, 29, 30, 31, 32, 33, 34, 35] (by decide +kernel) (by decide +kernel)
set_option maxRecDepth 20000 in
theorem gX5_rings_X5_isQuiet : GoodIn wsX5_rings (wsV RX5 99 RX5 yX5_isQuiet wsX5_isQuiet) := goodIn_app (goodIn_of _ (by decide +kernel)) ggX5_rings_X5_isQuiet
theorem dX5_rings_0 : decode cX5_rings 0 = .ok (.iconst 0, 1) := by decide +kernel
theorem dX5_rings_1 : decode cX5_rings 1 = .ok (.istore_n 2, 1) := by decide +kernel
theorem dX5_rings_2 : decode cX5_rings 2 = .ok (.iconst 0, 1) := by decide +kernel
theorem dX5_rings_3 : decode cX5_rings 3 = .ok (.istore_n 3, 1) := by decide +kernel
theorem dX5_rings_4 : decode cX5_rings 4 = .ok (.iload_n 3, 1) := by decide +kernel
theorem dX5_rings_5 : decode cX5_rings 5 = .ok (.iconst 3, 1) := by decide +kernel
theorem dX5_rings_6 : decode cX5_rings 6 = .ok (.if_icmp .ge 32, 3) := by decide +kernel
theorem dX5_rings_9 : decode cX5_rings 9 = .ok (.iload_n 2, 1) := by decide +kernel
theorem dX5_rings_10 : decode cX5_rings 10 = .ok (.ifCond .ne 16, 3) := by decide +kernel
theorem dX5_rings_13 : decode cX5_rings 13 = .ok (.aload_n 0, 1) := by decide +kernel
theorem dX5_rings_14 : decode cX5_rings 14 = .ok (.getfield 26, 3) := by decide +kernel
theorem dX5_rings_17 : decode cX5_rings 17 = .ok (.iconst 3, 1) := by decide +kernel
theorem dX5_rings_18 : decode cX5_rings 18 = .ok (.iload_n 1, 1) := by decide +kernel
theorem dX5_rings_19 : decode cX5_rings 19 = .ok (.imul, 1) := by decide +kernel
theorem dX5_rings_20 : decode cX5_rings 20 = .ok (.iload_n 3, 1) := by decide +kernel
theorem dX5_rings_21 : decode cX5_rings 21 = .ok (.iadd, 1) := by decide +kernel
theorem dX5_rings_22 : decode cX5_rings 22 = .ok (.iaload, 1) := by decide +kernel
theorem dX5_rings_23 : decode cX5_rings 23 = .ok (.ifCond .le 7, 3) := by decide +kernel
theorem dX5_rings_26 : decode cX5_rings 26 = .ok (.iconst 1, 1) := by decide +kernel
theorem dX5_rings_27 : decode cX5_rings 27 = .ok (.goto 4, 3) := by decide +kernel
theorem dX5_rings_30 : decode cX5_rings 30 = .ok (.iconst 0, 1) := by decide +kernel
theorem dX5_rings_31 : decode cX5_rings 31 = .ok (.istore_n 2, 1) := by decide +kernel
theorem dX5_rings_32 : decode cX5_rings 32 = .ok (.iinc 3 1, 3) := by decide +kernel
theorem dX5_rings_35 : decode cX5_rings 35 = .ok (.goto (-31), 3) := by decide +kernel
theorem dX5_rings_38 : decode cX5_rings 38 = .ok (.iload_n 2, 1) := by decide +kernel
theorem dX5_rings_39 : decode cX5_rings 39 = .ok (.ifCond .eq 59, 3) := by decide +kernel
theorem dX5_rings_42 : decode cX5_rings 42 = .ok (.aload_n 0, 1) := by decide +kernel
theorem dX5_rings_43 : decode cX5_rings 43 = .ok (.getfield 44, 3) := by decide +kernel
theorem dX5_rings_46 : decode cX5_rings 46 = .ok (.iload_n 1, 1) := by decide +kernel
theorem dX5_rings_47 : decode cX5_rings 47 = .ok (.dup2, 1) := by decide +kernel
theorem dX5_rings_48 : decode cX5_rings 48 = .ok (.iaload, 1) := by decide +kernel
theorem dX5_rings_49 : decode cX5_rings 49 = .ok (.iconst 1, 1) := by decide +kernel
theorem dX5_rings_50 : decode cX5_rings 50 = .ok (.iadd, 1) := by decide +kernel
theorem dX5_rings_51 : decode cX5_rings 51 = .ok (.iastore, 1) := by decide +kernel
theorem dX5_rings_52 : decode cX5_rings 52 = .ok (.aload_n 0, 1) := by decide +kernel
theorem dX5_rings_53 : decode cX5_rings 53 = .ok (.getfield 47, 3) := by decide +kernel
theorem dX5_rings_56 : decode cX5_rings 56 = .ok (.iload_n 1, 1) := by decide +kernel
theorem dX5_rings_57 : decode cX5_rings 57 = .ok (.dup2, 1) := by decide +kernel
theorem dX5_rings_58 : decode cX5_rings 58 = .ok (.iaload, 1) := by decide +kernel
theorem dX5_rings_59 : decode cX5_rings 59 = .ok (.aload_n 0, 1) := by decide +kernel
theorem dX5_rings_60 : decode cX5_rings 60 = .ok (.iload_n 1, 1) := by decide +kernel
theorem dX5_rings_61 : decode cX5_rings 61 = .ok (.invokevirtual 99, 3) := by decide +kernel
theorem dX5_rings_64 : decode cX5_rings 64 = .ok (.ifCond .eq 7, 3) := by decide +kernel
theorem dX5_rings_67 : decode cX5_rings 67 = .ok (.iconst 1, 1) := by decide +kernel
theorem dX5_rings_68 : decode cX5_rings 68 = .ok (.goto 4, 3) := by decide +kernel
theorem dX5_rings_71 : decode cX5_rings 71 = .ok (.iconst 0, 1) := by decide +kernel
theorem dX5_rings_72 : decode cX5_rings 72 = .ok (.iadd, 1) := by decide +kernel
theorem dX5_rings_73 : decode cX5_rings 73 = .ok (.iastore, 1) := by decide +kernel
theorem dX5_rings_74 : decode cX5_rings 74 = .ok (.aload_n 0, 1) := by decide +kernel
theorem dX5_rings_75 : decode cX5_rings 75 = .ok (.getfield 53, 3) := by decide +kernel
theorem dX5_rings_78 : decode cX5_rings 78 = .ok (.iload_n 1, 1) := by decide +kernel
theorem dX5_rings_79 : decode cX5_rings 79 = .ok (.aload_n 0, 1) := by decide +kernel
theorem dX5_rings_80 : decode cX5_rings 80 = .ok (.iload_n 1, 1) := by decide +kernel
theorem dX5_rings_81 : decode cX5_rings 81 = .ok (.invokevirtual 99, 3) := by decide +kernel
theorem dX5_rings_84 : decode cX5_rings 84 = .ok (.ifCond .eq 7, 3) := by decide +kernel
theorem dX5_rings_87 : decode cX5_rings 87 = .ok (.iconst 1, 1) := by decide +kernel
theorem dX5_rings_88 : decode cX5_rings 88 = .ok (.goto 9, 3) := by decide +kernel
theorem dX5_rings_91 : decode cX5_rings 91 = .ok (.aload_n 0, 1) := by decide +kernel
theorem dX5_rings_92 : decode cX5_rings 92 = .ok (.getfield 53, 3) := by decide +kernel
theorem dX5_rings_95 : decode cX5_rings 95 = .ok (.iload_n 1, 1) := by decide +kernel
theorem dX5_rings_96 : decode cX5_rings 96 = .ok (.iaload, 1) := by decide +kernel
theorem dX5_rings_97 : decode cX5_rings 97 = .ok (.iastore, 1) := by decide +kernel
theorem dX5_rings_98 : decode cX5_rings 98 = .ok (.return_, 1) := by decide +kernel
set_option maxRecDepth 20000 in
theorem ggX5_second_X5_rings : GoodIn wsX5_second wsX5_rings := goodIn_r _ [13, 2, 14, 15, 7, 16, 17, 18, 12, 19, 1, 20, 21, 22, 23, 24, 25, 26, 27, 28, 29, 30, 31, 32, 33, 34, 35, 36, 37, 38, 39, 40, 41, 42, 43, 44] (by decide +kernel) (by decide +kernel)
set_option maxRecDepth 20000 in
theorem gX5_second_X5_rings : GoodIn wsX5_second (wsV RX5 112 RX5 yX5_rings wsX5_rings) := goodIn_app (goodIn_of _ (by decide +kernel)) ggX5_second_X5_rings
theorem dX5_second_0 : decode cX5_second 0 = .ok (.iconst 0, 1) := by decide +kernel
theorem dX5_second_1 : decode cX5_second 1 = .ok (.istore_n 1, 1) := by decide +kernel
theorem dX5_second_2 : decode cX5_second 2 = .ok (.iload_n 1, 1) := by decide +kernel
theorem dX5_second_3 : decode cX5_second 3 = .ok (.bipush 8, 2) := by decide +kernel
theorem dX5_second_5 : decode cX5_second 5 = .ok (.if_icmp .ge 14, 3) := by decide +kernel
theorem dX5_second_8 : decode cX5_second 8 = .ok (.aload_n 0, 1) := by decide +kernel
theorem dX5_second_9 : decode cX5_second 9 = .ok (.iload_n 1, 1) := by decide +kernel
theorem dX5_second_10 : decode cX5_second 10 = .ok (.invokevirtual 112, 3) := by decide +kernel
theorem dX5_second_13 : decode cX5_second 13 = .ok (.iinc 1 1, 3) := by decide +kernel
theorem dX5_second_16 : decode cX5_second 16 = .ok (.goto (-14), 3) := by decide +kernel
theorem dX5_second_19 : decode cX5_second 19 = .ok (.aload_n 0, 1) := by decide +kernel
theorem dX5_second_20 : decode cX5_second 20 = .ok (.dup, 1) := by decide +kernel
theorem dX5_second_21 : decode cX5_second 21 = .ok (.getfield 96, 3) := by decide +kernel
theorem dX5_second_24 : decode cX5_second 24 = .ok (.iconst 1, 1) := by decide +kernel
theorem dX5_second_25 : decode cX5_second 25 = .ok (.iadd, 1) := by decide +kernel
theorem dX5_second_26 : decode cX5_second 26 = .ok (.putfield 96, 3) := by decide +kernel
theorem dX5_second_29 : decode cX5_second 29 = .ok (.iconst 0, 1) := by decide +kernel
theorem dX5_second_30 : decode cX5_second 30 = .ok (.istore_n 1, 1) := by decide +kernel
theorem dX5_second_31 : decode cX5_second 31 = .ok (.iload_n 1, 1) := by decide +kernel
theorem dX5_second_32 : decode cX5_second 32 = .ok (.bipush 24, 2) := by decide +kernel
theorem dX5_second_34 : decode cX5_second 34 = .ok (.if_icmp .ge 38, 3) := by decide +kernel
theorem dX5_second_37 : decode cX5_second 37 = .ok (.aload_n 0, 1) := by decide +kernel
theorem dX5_second_38 : decode cX5_second 38 = .ok (.getfield 26, 3) := by decide +kernel
theorem dX5_second_41 : decode cX5_second 41 = .ok (.iload_n 1, 1) := by decide +kernel
theorem dX5_second_42 : decode cX5_second 42 = .ok (.aload_n 0, 1) := by decide +kernel
theorem dX5_second_43 : decode cX5_second 43 = .ok (.getfield 26, 3) := by decide +kernel
theorem dX5_second_46 : decode cX5_second 46 = .ok (.iload_n 1, 1) := by decide +kernel
theorem dX5_second_47 : decode cX5_second 47 = .ok (.iaload, 1) := by decide +kernel
theorem dX5_second_48 : decode cX5_second 48 = .ok (.aload_n 0, 1) := by decide +kernel
theorem dX5_second_49 : decode cX5_second 49 = .ok (.getfield 96, 3) := by decide +kernel
theorem dX5_second_52 : decode cX5_second 52 = .ok (.if_icmp .gt 7, 3) := by decide +kernel
theorem dX5_second_55 : decode cX5_second 55 = .ok (.iconst 0, 1) := by decide +kernel
theorem dX5_second_56 : decode cX5_second 56 = .ok (.goto 9, 3) := by decide +kernel
theorem dX5_second_59 : decode cX5_second 59 = .ok (.aload_n 0, 1) := by decide +kernel
theorem dX5_second_60 : decode cX5_second 60 = .ok (.getfield 26, 3) := by decide +kernel
theorem dX5_second_63 : decode cX5_second 63 = .ok (.iload_n 1, 1) := by decide +kernel
theorem dX5_second_64 : decode cX5_second 64 = .ok (.iaload, 1) := by decide +kernel
theorem dX5_second_65 : decode cX5_second 65 = .ok (.iastore, 1) := by decide +kernel
theorem dX5_second_66 : decode cX5_second 66 = .ok (.iinc 1 1, 3) := by decide +kernel
theorem dX5_second_69 : decode cX5_second 69 = .ok (.goto (-38), 3) := by decide +kernel
theorem dX5_second_72 : decode cX5_second 72 = .ok (.iconst 0, 1) := by decide +kernel
theorem dX5_second_73 : decode cX5_second 73 = .ok (.istore_n 1, 1) := by decide +kernel
theorem dX5_second_74 : decode cX5_second 74 = .ok (.iload_n 1, 1) := by decide +kernel
theorem dX5_second_75 : decode cX5_second 75 = .ok (.iconst 2, 1) := by decide +kernel
theorem dX5_second_76 : decode cX5_second 76 = .ok (.if_icmp .ge 41, 3) := by decide +kernel
theorem dX5_second_79 : decode cX5_second 79 = .ok (.aload_n 0, 1) := by decide +kernel
theorem dX5_second_80 : decode cX5_second 80 = .ok (.getfield 59, 3) := by decide +kernel
theorem dX5_second_83 : decode cX5_second 83 = .ok (.iload_n 1, 1) := by decide +kernel
theorem dX5_second_84 : decode cX5_second 84 = .ok (.iaload, 1) := by decide +kernel
theorem dX5_second_85 : decode cX5_second 85 = .ok (.aload_n 0, 1) := by decide +kernel
theorem dX5_second_86 : decode cX5_second 86 = .ok (.getfield 96, 3) := by decide +kernel
theorem dX5_second_89 : decode cX5_second 89 = .ok (.if_icmp .ne 22, 3) := by decide +kernel
theorem dX5_second_92 : decode cX5_second 92 = .ok (.aload_n 0, 1) := by decide +kernel
theorem dX5_second_93 : decode cX5_second 93 = .ok (.getfield 38, 3) := by decide +kernel
theorem dX5_second_96 : decode cX5_second 96 = .ok (.aload_n 0, 1) := by decide +kernel
theorem dX5_second_97 : decode cX5_second 97 = .ok (.getfield 62, 3) := by decide +kernel
theorem dX5_second_100 : decode cX5_second 100 = .ok (.iload_n 1, 1) := by decide +kernel
theorem dX5_second_101 : decode cX5_second 101 = .ok (.iaload, 1) := by decide +kernel
theorem dX5_second_102 : decode cX5_second 102 = .ok (.iconst 0, 1) := by decide +kernel
theorem dX5_second_103 : decode cX5_second 103 = .ok (.iastore, 1) := by decide +kernel
theorem dX5_second_104 : decode cX5_second 104 = .ok (.aload_n 0, 1) := by decide +kernel
theorem dX5_second_105 : decode cX5_second 105 = .ok (.getfield 59, 3) := by decide +kernel
theorem dX5_second_108 : decode cX5_second 108 = .ok (.iload_n 1, 1) := by decide +kernel
theorem dX5_second_109 : decode cX5_second 109 = .ok (.iconst 0, 1) := by decide +kernel
theorem dX5_second_110 : decode cX5_second 110 = .ok (.iastore, 1) := by decide +kernel
theorem dX5_second_111 : decode cX5_second 111 = .ok (.iinc 1 1, 3) := by decide +kernel
theorem dX5_second_114 : decode cX5_second 114 = .ok (.goto (-40), 3) := by decide +kernel
theorem dX5_second_117 : decode cX5_second 117 = .ok (.iconst 0, 1) := by decide +kernel
theorem dX5_second_118 : decode cX5_second 118 = .ok (.istore_n 1, 1) := by decide +kernel
theorem dX5_second_119 : decode cX5_second 119 = .ok (.iload_n 1, 1) := by decide +kernel
theorem dX5_second_120 : decode cX5_second 120 = .ok (.bipush 8, 2) := by decide +kernel
theorem dX5_second_122 : decode cX5_second 122 = .ok (.if_icmp .ge 60, 3) := by decide +kernel
theorem dX5_second_125 : decode cX5_second 125 = .ok (.aload_n 0, 1) := by decide +kernel
theorem dX5_second_126 : decode cX5_second 126 = .ok (.getfield 96, 3) := by decide +kernel
theorem dX5_second_129 : decode cX5_second 129 = .ok (.sipush 1000, 3) := by decide +kernel
theorem dX5_second_132 : decode cX5_second 132 = .ok (.irem, 1) := by decide +kernel
theorem dX5_second_133 : decode cX5_second 133 = .ok (.ifCond .ne 49, 3) := by decide +kernel
theorem dX5_second_136 : decode cX5_second 136 = .ok (.aload_n 0, 1) := by decide +kernel
theorem dX5_second_137 : decode cX5_second 137 = .ok (.getfield 41, 3) := by decide +kernel
theorem dX5_second_140 : decode cX5_second 140 = .ok (.iload_n 1, 1) := by decide +kernel
theorem dX5_second_141 : decode cX5_second 141 = .ok (.dup2, 1) := by decide +kernel
theorem dX5_second_142 : decode cX5_second 142 = .ok (.iaload, 1) := by decide +kernel
theorem dX5_second_143 : decode cX5_second 143 = .ok (.iconst 1, 1) := by decide +kernel
theorem dX5_second_144 : decode cX5_second 144 = .ok (.aload_n 0, 1) := by decide +kernel
theorem dX5_second_145 : decode cX5_second 145 = .ok (.getfield 53, 3) := by decide +kernel
theorem dX5_second_148 : decode cX5_second 148 = .ok (.iload_n 1, 1) := by decide +kernel
theorem dX5_second_149 : decode cX5_second 149 = .ok (.iaload, 1) := by decide +kernel
theorem dX5_second_150 : decode cX5_second 150 = .ok (.isub, 1) := by decide +kernel
theorem dX5_second_151 : decode cX5_second 151 = .ok (.iconst 3, 1) := by decide +kernel
theorem dX5_second_152 : decode cX5_second 152 = .ok (.aload_n 0, 1) := by decide +kernel
theorem dX5_second_153 : decode cX5_second 153 = .ok (.getfield 56, 3) := by decide +kernel
theorem dX5_second_156 : decode cX5_second 156 = .ok (.iload_n 1, 1) := by decide +kernel
theorem dX5_second_157 : decode cX5_second 157 = .ok (.iaload, 1) := by decide +kernel
theorem dX5_second_158 : decode cX5_second 158 = .ok (.imul, 1) := by decide +kernel
theorem dX5_second_159 : decode cX5_second 159 = .ok (.isub, 1) := by decide +kernel
theorem dX5_second_160 : decode cX5_second 160 = .ok (.iadd, 1) := by decide +kernel
theorem dX5_second_161 : decode cX5_second 161 = .ok (.iastore, 1) := by decide +kernel
theorem dX5_second_162 : decode cX5_second 162 = .ok (.aload_n 0, 1) := by decide +kernel
theorem dX5_second_163 : decode cX5_second 163 = .ok (.getfield 53, 3) := by decide +kernel
theorem dX5_second_166 : decode cX5_second 166 = .ok (.iload_n 1, 1) := by decide +kernel
theorem dX5_second_167 : decode cX5_second 167 = .ok (.iconst 0, 1) := by decide +kernel
theorem dX5_second_168 : decode cX5_second 168 = .ok (.iastore, 1) := by decide +kernel
theorem dX5_second_169 : decode cX5_second 169 = .ok (.aload_n 0, 1) := by decide +kernel
theorem dX5_second_170 : decode cX5_second 170 = .ok (.getfield 56, 3) := by decide +kernel
theorem dX5_second_173 : decode cX5_second 173 = .ok (.iload_n 1, 1) := by decide +kernel
theorem dX5_second_174 : decode cX5_second 174 = .ok (.iconst 0, 1) := by decide +kernel
theorem dX5_second_175 : decode cX5_second 175 = .ok (.iastore, 1) := by decide +kernel
theorem dX5_second_176 : decode cX5_second 176 = .ok (.iinc 1 1, 3) := by decide +kernel
theorem dX5_second_179 : decode cX5_second 179 = .ok (.goto (-60), 3) := by decide +kernel
theorem dX5_second_182 : decode cX5_second 182 = .ok (.return_, 1) := by decide +kernel
set_option maxRecDepth 20000 in
theorem ggX5_pass_X5_in : GoodIn wsX5_pass wsX5_in := goodIn_r _ [7] (by decide +kernel) (by decide +kernel)
set_option maxRecDepth 20000 in
theorem gX5_pass_X5_in : GoodIn wsX5_pass (va_wsS RX5 72 yX5_in wsX5_in) := goodIn_app (goodIn_of _ (by decide +kernel)) ggX5_pass_X5_in
set_option maxRecDepth 20000 in
theorem ggX5_pass_X5_second : GoodIn wsX5_pass wsX5_second := goodIn_r _ [11, 1, 12, 13, 14, 15, 16, 17, 18, 19, 20, 21, 6, 22, 23, 24, 25, 26, 27, 28, 29, 30, 31, 32, 33, 34, 35, 36, 37, 38, 39, 40, 41, 42, 43, 44, 45, 46, 47, 48, 49, 50, 51, 52, 53] (by decide +kernel) (by decide +kernel)
set_option maxRecDepth 20000 in
theorem gX5_pass_X5_second : GoodIn wsX5_pass (wsV RX5 116 RX5 yX5_second wsX5_second) := goodIn_app (goodIn_of _ (by decide +kernel)) ggX5_pass_X5_second
theorem dX5_pass_0 : decode cX5_pass 0 = .ok (.aload_n 0, 1) := by decide +kernel
theorem dX5_pass_1 : decode cX5_pass 1 = .ok (.iload_n 1, 1) := by decide +kernel
theorem dX5_pass_2 : decode cX5_pass 2 = .ok (.iconst 1, 1) := by decide +kernel
theorem dX5_pass_3 : decode cX5_pass 3 = .ok (.sipush 2000, 3) := by decide +kernel
theorem dX5_pass_6 : decode cX5_pass 6 = .ok (.invokestatic 72, 3) := by decide +kernel
theorem dX5_pass_9 : decode cX5_pass 9 = .ok (.ifCond .ne 7, 3) := by decide +kernel
theorem dX5_pass_12 : decode cX5_pass 12 = .ok (.iconst 1, 1) := by decide +kernel
theorem dX5_pass_13 : decode cX5_pass 13 = .ok (.goto 19, 3) := by decide +kernel
theorem dX5_pass_16 : decode cX5_pass 16 = .ok (.aload_n 0, 1) := by decide +kernel
theorem dX5_pass_17 : decode cX5_pass 17 = .ok (.getfield 96, 3) := by decide +kernel
theorem dX5_pass_20 : decode cX5_pass 20 = .ok (.iload_n 1, 1) := by decide +kernel
theorem dX5_pass_21 : decode cX5_pass 21 = .ok (.iadd, 1) := by decide +kernel
theorem dX5_pass_22 : decode cX5_pass 22 = .ok (.ldc 115, 2) := by decide +kernel
theorem dX5_pass_24 : decode cX5_pass 24 = .ok (.if_icmp .le 7, 3) := by decide +kernel
theorem dX5_pass_27 : decode cX5_pass 27 = .ok (.iconst 2, 1) := by decide +kernel
theorem dX5_pass_28 : decode cX5_pass 28 = .ok (.goto 4, 3) := by decide +kernel
theorem dX5_pass_31 : decode cX5_pass 31 = .ok (.iconst 0, 1) := by decide +kernel
theorem dX5_pass_32 : decode cX5_pass 32 = .ok (.putfield 68, 3) := by decide +kernel
theorem dX5_pass_35 : decode cX5_pass 35 = .ok (.aload_n 0, 1) := by decide +kernel
theorem dX5_pass_36 : decode cX5_pass 36 = .ok (.getfield 68, 3) := by decide +kernel
theorem dX5_pass_39 : decode cX5_pass 39 = .ok (.ifCond .le 5, 3) := by decide +kernel
theorem dX5_pass_42 : decode cX5_pass 42 = .ok (.iconst 0, 1) := by decide +kernel
theorem dX5_pass_43 : decode cX5_pass 43 = .ok (.ireturn, 1) := by decide +kernel
theorem dX5_pass_44 : decode cX5_pass 44 = .ok (.iconst 0, 1) := by decide +kernel
theorem dX5_pass_45 : decode cX5_pass 45 = .ok (.istore_n 2, 1) := by decide +kernel
theorem dX5_pass_46 : decode cX5_pass 46 = .ok (.iload_n 2, 1) := by decide +kernel
theorem dX5_pass_47 : decode cX5_pass 47 = .ok (.iload_n 1, 1) := by decide +kernel
theorem dX5_pass_48 : decode cX5_pass 48 = .ok (.if_icmp .ge 13, 3) := by decide +kernel
theorem dX5_pass_51 : decode cX5_pass 51 = .ok (.aload_n 0, 1) := by decide +kernel
theorem dX5_pass_52 : decode cX5_pass 52 = .ok (.invokevirtual 116, 3) := by decide +kernel
theorem dX5_pass_55 : decode cX5_pass 55 = .ok (.iinc 2 1, 3) := by decide +kernel
theorem dX5_pass_58 : decode cX5_pass 58 = .ok (.goto (-12), 3) := by decide +kernel
theorem dX5_pass_61 : decode cX5_pass 61 = .ok (.aload_n 0, 1) := by decide +kernel
theorem dX5_pass_62 : decode cX5_pass 62 = .ok (.getfield 96, 3) := by decide +kernel
theorem dX5_pass_65 : decode cX5_pass 65 = .ok (.ireturn, 1) := by decide +kernel
theorem dX5_time_0 : decode cX5_time 0 = .ok (.aload_n 0, 1) := by decide +kernel
theorem dX5_time_1 : decode cX5_time 1 = .ok (.iconst 0, 1) := by decide +kernel
theorem dX5_time_2 : decode cX5_time 2 = .ok (.putfield 68, 3) := by decide +kernel
theorem dX5_time_5 : decode cX5_time 5 = .ok (.aload_n 0, 1) := by decide +kernel
theorem dX5_time_6 : decode cX5_time 6 = .ok (.getfield 96, 3) := by decide +kernel
theorem dX5_time_9 : decode cX5_time 9 = .ok (.ireturn, 1) := by decide +kernel
set_option maxRecDepth 20000 in
theorem ggX5_isSeen_X5_isHouse : GoodIn wsX5_isSeen wsX5_isHouse := goodIn_r _ [5, 6, 7, 4, 8] (by decide +kernel) (by decide +kernel)
set_option maxRecDepth 20000 in
theorem gX5_isSeen_X5_isHouse : GoodIn wsX5_isSeen (va_wsS RX5 79 yX5_isHouse wsX5_isHouse) := goodIn_app (goodIn_of _ (by decide +kernel)) ggX5_isSeen_X5_isHouse
theorem dX5_isSeen_0 : decode cX5_isSeen 0 = .ok (.aload_n 0, 1) := by decide +kernel
theorem dX5_isSeen_1 : decode cX5_isSeen 1 = .ok (.iload_n 1, 1) := by decide +kernel
theorem dX5_isSeen_2 : decode cX5_isSeen 2 = .ok (.invokestatic 79, 3) := by decide +kernel
theorem dX5_isSeen_5 : decode cX5_isSeen 5 = .ok (.ifCond .eq 7, 3) := by decide +kernel
theorem dX5_isSeen_8 : decode cX5_isSeen 8 = .ok (.iconst 0, 1) := by decide +kernel
theorem dX5_isSeen_9 : decode cX5_isSeen 9 = .ok (.goto 4, 3) := by decide +kernel
theorem dX5_isSeen_12 : decode cX5_isSeen 12 = .ok (.iconst 1, 1) := by decide +kernel
theorem dX5_isSeen_13 : decode cX5_isSeen 13 = .ok (.putfield 68, 3) := by decide +kernel
theorem dX5_isSeen_16 : decode cX5_isSeen 16 = .ok (.aload_n 0, 1) := by decide +kernel
theorem dX5_isSeen_17 : decode cX5_isSeen 17 = .ok (.getfield 68, 3) := by decide +kernel
theorem dX5_isSeen_20 : decode cX5_isSeen 20 = .ok (.ifCond .ne 7, 3) := by decide +kernel
theorem dX5_isSeen_23 : decode cX5_isSeen 23 = .ok (.iconst 1, 1) := by decide +kernel
theorem dX5_isSeen_24 : decode cX5_isSeen 24 = .ok (.goto 4, 3) := by decide +kernel
theorem dX5_isSeen_27 : decode cX5_isSeen 27 = .ok (.iconst 0, 1) := by decide +kernel
theorem dX5_isSeen_28 : decode cX5_isSeen 28 = .ok (.ireturn, 1) := by decide +kernel
set_option maxRecDepth 20000 in
theorem ggX5_ringing_X5_isSeen : GoodIn wsX5_ringing wsX5_isSeen := goodIn_r _ [6, 7, 8, 9, 5, 10, 11, 12, 13, 14, 15, 16, 17, 18, 19, 20, 21, 22, 23, 24, 25, 26, 27, 28, 29, 30, 31, 32, 33, 34, 35, 36] (by decide +kernel) (by decide +kernel)
set_option maxRecDepth 20000 in
theorem gX5_ringing_X5_isSeen : GoodIn wsX5_ringing (wsV RX5 119 RX5 yX5_isSeen wsX5_isSeen) := goodIn_app (goodIn_of _ (by decide +kernel)) ggX5_ringing_X5_isSeen
theorem dX5_ringing_0 : decode cX5_ringing 0 = .ok (.aload_n 0, 1) := by decide +kernel
theorem dX5_ringing_1 : decode cX5_ringing 1 = .ok (.iload_n 1, 1) := by decide +kernel
theorem dX5_ringing_2 : decode cX5_ringing 2 = .ok (.invokevirtual 119, 3) := by decide +kernel
theorem dX5_ringing_5 : decode cX5_ringing 5 = .ok (.ifCond .ne 5, 3) := by decide +kernel
theorem dX5_ringing_8 : decode cX5_ringing 8 = .ok (.iconst 0, 1) := by decide +kernel
theorem dX5_ringing_9 : decode cX5_ringing 9 = .ok (.ireturn, 1) := by decide +kernel
theorem dX5_ringing_10 : decode cX5_ringing 10 = .ok (.iconst 0, 1) := by decide +kernel
theorem dX5_ringing_11 : decode cX5_ringing 11 = .ok (.istore_n 2, 1) := by decide +kernel
theorem dX5_ringing_12 : decode cX5_ringing 12 = .ok (.iconst 0, 1) := by decide +kernel
theorem dX5_ringing_13 : decode cX5_ringing 13 = .ok (.istore_n 3, 1) := by decide +kernel
theorem dX5_ringing_14 : decode cX5_ringing 14 = .ok (.iload_n 3, 1) := by decide +kernel
theorem dX5_ringing_15 : decode cX5_ringing 15 = .ok (.iconst 3, 1) := by decide +kernel
theorem dX5_ringing_16 : decode cX5_ringing 16 = .ok (.if_icmp .ge 32, 3) := by decide +kernel
theorem dX5_ringing_19 : decode cX5_ringing 19 = .ok (.iload_n 2, 1) := by decide +kernel
theorem dX5_ringing_20 : decode cX5_ringing 20 = .ok (.aload_n 0, 1) := by decide +kernel
theorem dX5_ringing_21 : decode cX5_ringing 21 = .ok (.getfield 26, 3) := by decide +kernel
theorem dX5_ringing_24 : decode cX5_ringing 24 = .ok (.iconst 3, 1) := by decide +kernel
theorem dX5_ringing_25 : decode cX5_ringing 25 = .ok (.iload_n 1, 1) := by decide +kernel
theorem dX5_ringing_26 : decode cX5_ringing 26 = .ok (.imul, 1) := by decide +kernel
theorem dX5_ringing_27 : decode cX5_ringing 27 = .ok (.iload_n 3, 1) := by decide +kernel
theorem dX5_ringing_28 : decode cX5_ringing 28 = .ok (.iadd, 1) := by decide +kernel
theorem dX5_ringing_29 : decode cX5_ringing 29 = .ok (.iaload, 1) := by decide +kernel
theorem dX5_ringing_30 : decode cX5_ringing 30 = .ok (.ifCond .le 9, 3) := by decide +kernel
theorem dX5_ringing_33 : decode cX5_ringing 33 = .ok (.iconst 1, 1) := by decide +kernel
theorem dX5_ringing_34 : decode cX5_ringing 34 = .ok (.iload_n 3, 1) := by decide +kernel
theorem dX5_ringing_35 : decode cX5_ringing 35 = .ok (.ishl, 1) := by decide +kernel
theorem dX5_ringing_36 : decode cX5_ringing 36 = .ok (.goto 4, 3) := by decide +kernel
theorem dX5_ringing_39 : decode cX5_ringing 39 = .ok (.iconst 0, 1) := by decide +kernel
theorem dX5_ringing_40 : decode cX5_ringing 40 = .ok (.ior, 1) := by decide +kernel
theorem dX5_ringing_41 : decode cX5_ringing 41 = .ok (.istore_n 2, 1) := by decide +kernel
theorem dX5_ringing_42 : decode cX5_ringing 42 = .ok (.iinc 3 1, 3) := by decide +kernel
theorem dX5_ringing_45 : decode cX5_ringing 45 = .ok (.goto (-31), 3) := by decide +kernel
theorem dX5_ringing_48 : decode cX5_ringing 48 = .ok (.iload_n 2, 1) := by decide +kernel
theorem dX5_ringing_49 : decode cX5_ringing 49 = .ok (.ireturn, 1) := by decide +kernel
set_option maxRecDepth 20000 in
theorem ggX5_isSound_X5_isSeen : GoodIn wsX5_isSound wsX5_isSeen := goodIn_r _ [6, 7, 8, 9, 5, 10, 11, 12, 13, 14, 15, 16, 17, 18, 19, 20, 21, 22, 23, 24, 25, 26, 27, 28, 29, 30, 31, 32, 33, 34, 35, 36] (by decide +kernel) (by decide +kernel)
set_option maxRecDepth 20000 in
theorem gX5_isSound_X5_isSeen : GoodIn wsX5_isSound (wsV RX5 119 RX5 yX5_isSeen wsX5_isSeen) := goodIn_app (goodIn_of _ (by decide +kernel)) ggX5_isSound_X5_isSeen
theorem dX5_isSound_0 : decode cX5_isSound 0 = .ok (.aload_n 0, 1) := by decide +kernel
theorem dX5_isSound_1 : decode cX5_isSound 1 = .ok (.iload_n 1, 1) := by decide +kernel
theorem dX5_isSound_2 : decode cX5_isSound 2 = .ok (.invokevirtual 119, 3) := by decide +kernel
theorem dX5_isSound_5 : decode cX5_isSound 5 = .ok (.ifCond .eq 16, 3) := by decide +kernel
theorem dX5_isSound_8 : decode cX5_isSound 8 = .ok (.aload_n 0, 1) := by decide +kernel
theorem dX5_isSound_9 : decode cX5_isSound 9 = .ok (.getfield 38, 3) := by decide +kernel
theorem dX5_isSound_12 : decode cX5_isSound 12 = .ok (.iload_n 1, 1) := by decide +kernel
theorem dX5_isSound_13 : decode cX5_isSound 13 = .ok (.iaload, 1) := by decide +kernel
theorem dX5_isSound_14 : decode cX5_isSound 14 = .ok (.ifCond .ne 7, 3) := by decide +kernel
theorem dX5_isSound_17 : decode cX5_isSound 17 = .ok (.iconst 1, 1) := by decide +kernel
theorem dX5_isSound_18 : decode cX5_isSound 18 = .ok (.goto 4, 3) := by decide +kernel
theorem dX5_isSound_21 : decode cX5_isSound 21 = .ok (.iconst 0, 1) := by decide +kernel
theorem dX5_isSound_22 : decode cX5_isSound 22 = .ok (.ireturn, 1) := by decide +kernel
set_option maxRecDepth 20000 in
theorem ggX5_ringsLeft_X5_isHouse : GoodIn wsX5_ringsLeft wsX5_isHouse := goodIn_r _ [8, 9, 10, 7, 11] (by decide +kernel) (by decide +kernel)
