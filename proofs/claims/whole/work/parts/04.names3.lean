set_option maxRecDepth 20000 in
theorem gX2_viewClear_X0_dropPlaces : GoodIn wsX2_viewClear (wsV RX2 65 RX0 yX0_dropPlaces wsX0_dropPlaces) := goodIn_app (goodIn_of _ (by decide +kernel)) ggX2_viewClear_X0_dropPlaces
theorem dX2_viewClear_0 : decode cX2_viewClear 0 = .ok (.aload_n 0, 1) := by decide +kernel
theorem dX2_viewClear_1 : decode cX2_viewClear 1 = .ok (.getfield 12, 3) := by decide +kernel
theorem dX2_viewClear_4 : decode cX2_viewClear 4 = .ok (.aload_n 0, 1) := by decide +kernel
theorem dX2_viewClear_5 : decode cX2_viewClear 5 = .ok (.invokevirtual 79, 3) := by decide +kernel
theorem dX2_viewClear_8 : decode cX2_viewClear 8 = .ok (.aload_n 0, 1) := by decide +kernel
theorem dX2_viewClear_9 : decode cX2_viewClear 9 = .ok (.invokevirtual 76, 3) := by decide +kernel
theorem dX2_viewClear_12 : decode cX2_viewClear 12 = .ok (.invokevirtual 65, 3) := by decide +kernel
theorem dX2_viewClear_15 : decode cX2_viewClear 15 = .ok (.ireturn, 1) := by decide +kernel
set_option maxRecDepth 20000 in
theorem ggX2_again_X0_count : GoodIn wsX2_again wsX0_count := goodIn_r _ [9, 10, 15, 16, 17] (by decide +kernel) (by decide +kernel)
set_option maxRecDepth 20000 in
theorem gX2_again_X0_count : GoodIn wsX2_again (wsV RX2 53 RX0 yX0_count wsX0_count) := goodIn_app (goodIn_of _ (by decide +kernel)) ggX2_again_X0_count
theorem dX2_again_0 : decode cX2_again 0 = .ok (.aload_n 0, 1) := by decide +kernel
theorem dX2_again_1 : decode cX2_again 1 = .ok (.getfield 12, 3) := by decide +kernel
theorem dX2_again_4 : decode cX2_again 4 = .ok (.invokevirtual 53, 3) := by decide +kernel
theorem dX2_again_7 : decode cX2_again 7 = .ok (.bipush 100, 2) := by decide +kernel
theorem dX2_again_9 : decode cX2_again 9 = .ok (.if_icmp .le 5, 3) := by decide +kernel
theorem dX2_again_12 : decode cX2_again 12 = .ok (.iconst (-1), 1) := by decide +kernel
theorem dX2_again_13 : decode cX2_again 13 = .ok (.ireturn, 1) := by decide +kernel
theorem dX2_again_14 : decode cX2_again 14 = .ok (.aload_n 0, 1) := by decide +kernel
theorem dX2_again_15 : decode cX2_again 15 = .ok (.aload_n 0, 1) := by decide +kernel
theorem dX2_again_16 : decode cX2_again 16 = .ok (.getfield 25, 3) := by decide +kernel
theorem dX2_again_19 : decode cX2_again 19 = .ok (.putfield 29, 3) := by decide +kernel
theorem dX2_again_22 : decode cX2_again 22 = .ok (.aload_n 0, 1) := by decide +kernel
theorem dX2_again_23 : decode cX2_again 23 = .ok (.iconst 0, 1) := by decide +kernel
theorem dX2_again_24 : decode cX2_again 24 = .ok (.putfield 32, 3) := by decide +kernel
theorem dX2_again_27 : decode cX2_again 27 = .ok (.aload_n 0, 1) := by decide +kernel
theorem dX2_again_28 : decode cX2_again 28 = .ok (.getfield 12, 3) := by decide +kernel
theorem dX2_again_31 : decode cX2_again 31 = .ok (.invokevirtual 53, 3) := by decide +kernel
theorem dX2_again_34 : decode cX2_again 34 = .ok (.ireturn, 1) := by decide +kernel
set_option maxRecDepth 20000 in
theorem ggX2_viewBegin_X1_start : GoodIn wsX2_viewBegin wsX1_start := goodIn_r _ [7, 8, 9, 21, 22, 23, 24] (by decide +kernel) (by decide +kernel)
set_option maxRecDepth 20000 in
theorem gX2_viewBegin_X1_start : GoodIn wsX2_viewBegin (wsV RX2 99 RX1 yX1_start wsX1_start) := goodIn_app (goodIn_of _ (by decide +kernel)) ggX2_viewBegin_X1_start
set_option maxRecDepth 20000 in
theorem ggX2_viewBegin_X0_placeOf : GoodIn wsX2_viewBegin wsX0_placeOf := goodIn_r _ [14, 15, 16, 25, 26, 27] (by decide +kernel) (by decide +kernel)
set_option maxRecDepth 20000 in
theorem gX2_viewBegin_X0_placeOf : GoodIn wsX2_viewBegin (wsV RX2 103 RX0 yX0_placeOf wsX0_placeOf) := goodIn_app (goodIn_of _ (by decide +kernel)) ggX2_viewBegin_X0_placeOf
theorem dX2_viewBegin_0 : decode cX2_viewBegin 0 = .ok (.aload_n 0, 1) := by decide +kernel
theorem dX2_viewBegin_1 : decode cX2_viewBegin 1 = .ok (.getfield 12, 3) := by decide +kernel
theorem dX2_viewBegin_4 : decode cX2_viewBegin 4 = .ok (.aload_n 0, 1) := by decide +kernel
theorem dX2_viewBegin_5 : decode cX2_viewBegin 5 = .ok (.getfield 29, 3) := by decide +kernel
theorem dX2_viewBegin_8 : decode cX2_viewBegin 8 = .ok (.invokevirtual 99, 3) := by decide +kernel
theorem dX2_viewBegin_11 : decode cX2_viewBegin 11 = .ok (.invokevirtual 103, 3) := by decide +kernel
theorem dX2_viewBegin_14 : decode cX2_viewBegin 14 = .ok (.ireturn, 1) := by decide +kernel
set_option maxRecDepth 20000 in
theorem ggX2_viewEnd_X2_viewBegin : GoodIn wsX2_viewEnd wsX2_viewBegin := goodIn_r _ [11, 1, 2, 12, 13, 14, 15, 16, 17, 18, 19, 20, 21, 22, 23, 24, 25, 32, 33, 34, 35, 36, 37, 38, 39, 40, 41, 42] (by decide +kernel) (by decide +kernel)
set_option maxRecDepth 20000 in
theorem gX2_viewEnd_X2_viewBegin : GoodIn wsX2_viewEnd (wsV RX2 79 RX2 yX2_viewBegin wsX2_viewBegin) := goodIn_app (goodIn_of _ (by decide +kernel)) ggX2_viewEnd_X2_viewBegin
set_option maxRecDepth 20000 in
theorem ggX2_viewEnd_X1_stop : GoodIn wsX2_viewEnd wsX1_stop := goodIn_r _ [29, 30, 31, 36, 37, 38, 39] (by decide +kernel) (by decide +kernel)
set_option maxRecDepth 20000 in
theorem gX2_viewEnd_X1_stop : GoodIn wsX2_viewEnd (wsV RX2 107 RX1 yX1_stop wsX1_stop) := goodIn_app (goodIn_of _ (by decide +kernel)) ggX2_viewEnd_X1_stop
set_option maxRecDepth 20000 in
theorem ggX2_viewEnd_X0_placeOf : GoodIn wsX2_viewEnd wsX0_placeOf := goodIn_r _ [23, 24, 25, 40, 41, 42] (by decide +kernel) (by decide +kernel)
set_option maxRecDepth 20000 in
theorem gX2_viewEnd_X0_placeOf : GoodIn wsX2_viewEnd (wsV RX2 103 RX0 yX0_placeOf wsX0_placeOf) := goodIn_app (goodIn_of _ (by decide +kernel)) ggX2_viewEnd_X0_placeOf
theorem dX2_viewEnd_0 : decode cX2_viewEnd 0 = .ok (.aload_n 0, 1) := by decide +kernel
theorem dX2_viewEnd_1 : decode cX2_viewEnd 1 = .ok (.invokevirtual 79, 3) := by decide +kernel
theorem dX2_viewEnd_4 : decode cX2_viewEnd 4 = .ok (.aload_n 0, 1) := by decide +kernel
theorem dX2_viewEnd_5 : decode cX2_viewEnd 5 = .ok (.getfield 12, 3) := by decide +kernel
theorem dX2_viewEnd_8 : decode cX2_viewEnd 8 = .ok (.aload_n 0, 1) := by decide +kernel
theorem dX2_viewEnd_9 : decode cX2_viewEnd 9 = .ok (.getfield 29, 3) := by decide +kernel
theorem dX2_viewEnd_12 : decode cX2_viewEnd 12 = .ok (.invokevirtual 107, 3) := by decide +kernel
theorem dX2_viewEnd_15 : decode cX2_viewEnd 15 = .ok (.invokevirtual 103, 3) := by decide +kernel
theorem dX2_viewEnd_18 : decode cX2_viewEnd 18 = .ok (.invokestatic 110, 3) := by decide +kernel
theorem dX2_viewEnd_21 : decode cX2_viewEnd 21 = .ok (.ireturn, 1) := by decide +kernel
theorem dX2_mirrored_0 : decode cX2_mirrored 0 = .ok (.iload_n 0, 1) := by decide +kernel
theorem dX2_mirrored_1 : decode cX2_mirrored 1 = .ok (.tableswitch 51 0 5 #[39, 41, 43, 45, 47, 49], 39) := by decide +kernel
theorem dX2_mirrored_40 : decode cX2_mirrored 40 = .ok (.iconst 1, 1) := by decide +kernel
theorem dX2_mirrored_41 : decode cX2_mirrored 41 = .ok (.ireturn, 1) := by decide +kernel
theorem dX2_mirrored_42 : decode cX2_mirrored 42 = .ok (.iconst 0, 1) := by decide +kernel
theorem dX2_mirrored_43 : decode cX2_mirrored 43 = .ok (.ireturn, 1) := by decide +kernel
theorem dX2_mirrored_44 : decode cX2_mirrored 44 = .ok (.iconst 3, 1) := by decide +kernel
theorem dX2_mirrored_45 : decode cX2_mirrored 45 = .ok (.ireturn, 1) := by decide +kernel
theorem dX2_mirrored_46 : decode cX2_mirrored 46 = .ok (.iconst 2, 1) := by decide +kernel
theorem dX2_mirrored_47 : decode cX2_mirrored 47 = .ok (.ireturn, 1) := by decide +kernel
theorem dX2_mirrored_48 : decode cX2_mirrored 48 = .ok (.iconst 5, 1) := by decide +kernel
theorem dX2_mirrored_49 : decode cX2_mirrored 49 = .ok (.ireturn, 1) := by decide +kernel
theorem dX2_mirrored_50 : decode cX2_mirrored 50 = .ok (.iconst 4, 1) := by decide +kernel
theorem dX2_mirrored_51 : decode cX2_mirrored 51 = .ok (.ireturn, 1) := by decide +kernel
theorem dX2_mirrored_52 : decode cX2_mirrored 52 = .ok (.iload_n 0, 1) := by decide +kernel
theorem dX2_mirrored_53 : decode cX2_mirrored 53 = .ok (.ireturn, 1) := by decide +kernel
set_option maxRecDepth 20000 in
theorem ggX2_keyNear_X0_placeOf : GoodIn wsX2_keyNear wsX0_placeOf := goodIn_r _ [14, 15, 16, 31, 32, 33] (by decide +kernel) (by decide +kernel)
set_option maxRecDepth 20000 in
theorem gX2_keyNear_X0_placeOf : GoodIn wsX2_keyNear (wsV RX2 103 RX0 yX0_placeOf wsX0_placeOf) := goodIn_app (goodIn_of _ (by decide +kernel)) ggX2_keyNear_X0_placeOf
set_option maxRecDepth 20000 in
theorem ggX2_keyNear_X2_keyWithin : GoodIn wsX2_keyNear wsX2_keyWithin := goodIn_r _ [21, 1, 9, 22, 23, 24, 13, 25, 15, 16, 26, 27, 28, 29, 30, 31, 32, 33] (by decide +kernel) (by decide +kernel)
set_option maxRecDepth 20000 in
theorem gX2_keyNear_X2_keyWithin : GoodIn wsX2_keyNear (wsV RX2 118 RX2 yX2_keyWithin wsX2_keyWithin) := goodIn_app (goodIn_of _ (by decide +kernel)) ggX2_keyNear_X2_keyWithin
theorem dX2_keyNear_0 : decode cX2_keyNear 0 = .ok (.aload_n 0, 1) := by decide +kernel
theorem dX2_keyNear_1 : decode cX2_keyNear 1 = .ok (.getfield 12, 3) := by decide +kernel
theorem dX2_keyNear_4 : decode cX2_keyNear 4 = .ok (.iload_n 2, 1) := by decide +kernel
theorem dX2_keyNear_5 : decode cX2_keyNear 5 = .ok (.i2l, 1) := by decide +kernel
theorem dX2_keyNear_6 : decode cX2_keyNear 6 = .ok (.invokevirtual 103, 3) := by decide +kernel
theorem dX2_keyNear_9 : decode cX2_keyNear 9 = .ok (.istore 5, 2) := by decide +kernel
theorem dX2_keyNear_11 : decode cX2_keyNear 11 = .ok (.aload_n 0, 1) := by decide +kernel
theorem dX2_keyNear_12 : decode cX2_keyNear 12 = .ok (.getfield 12, 3) := by decide +kernel
theorem dX2_keyNear_15 : decode cX2_keyNear 15 = .ok (.iload_n 2, 1) := by decide +kernel
theorem dX2_keyNear_16 : decode cX2_keyNear 16 = .ok (.i2l, 1) := by decide +kernel
theorem dX2_keyNear_17 : decode cX2_keyNear 17 = .ok (.lconst 1, 1) := by decide +kernel
theorem dX2_keyNear_18 : decode cX2_keyNear 18 = .ok (.ladd, 1) := by decide +kernel
theorem dX2_keyNear_19 : decode cX2_keyNear 19 = .ok (.invokevirtual 103, 3) := by decide +kernel
theorem dX2_keyNear_22 : decode cX2_keyNear 22 = .ok (.istore 6, 2) := by decide +kernel
theorem dX2_keyNear_24 : decode cX2_keyNear 24 = .ok (.iload_n 1, 1) := by decide +kernel
theorem dX2_keyNear_25 : decode cX2_keyNear 25 = .ok (.tableswitch 122 0 5 #[39, 56, 70, 87, 101, 110], 39) := by decide +kernel
theorem dX2_keyNear_64 : decode cX2_keyNear 64 = .ok (.aload_n 0, 1) := by decide +kernel
theorem dX2_keyNear_65 : decode cX2_keyNear 65 = .ok (.iload 6, 2) := by decide +kernel
theorem dX2_keyNear_67 : decode cX2_keyNear 67 = .ok (.iload 4, 2) := by decide +kernel
theorem dX2_keyNear_69 : decode cX2_keyNear 69 = .ok (.invokestatic 115, 3) := by decide +kernel
theorem dX2_keyNear_72 : decode cX2_keyNear 72 = .ok (.iconst 1, 1) := by decide +kernel
theorem dX2_keyNear_73 : decode cX2_keyNear 73 = .ok (.isub, 1) := by decide +kernel
theorem dX2_keyNear_74 : decode cX2_keyNear 74 = .ok (.iload_n 3, 1) := by decide +kernel
theorem dX2_keyNear_75 : decode cX2_keyNear 75 = .ok (.iload 4, 2) := by decide +kernel
theorem dX2_keyNear_77 : decode cX2_keyNear 77 = .ok (.invokevirtual 118, 3) := by decide +kernel
theorem dX2_keyNear_80 : decode cX2_keyNear 80 = .ok (.lreturn, 1) := by decide +kernel
theorem dX2_keyNear_81 : decode cX2_keyNear 81 = .ok (.aload_n 0, 1) := by decide +kernel
theorem dX2_keyNear_82 : decode cX2_keyNear 82 = .ok (.iload 5, 2) := by decide +kernel
theorem dX2_keyNear_84 : decode cX2_keyNear 84 = .ok (.iload_n 3, 1) := by decide +kernel
theorem dX2_keyNear_85 : decode cX2_keyNear 85 = .ok (.invokestatic 110, 3) := by decide +kernel
theorem dX2_keyNear_88 : decode cX2_keyNear 88 = .ok (.iload_n 3, 1) := by decide +kernel
theorem dX2_keyNear_89 : decode cX2_keyNear 89 = .ok (.iload 4, 2) := by decide +kernel
theorem dX2_keyNear_91 : decode cX2_keyNear 91 = .ok (.invokevirtual 118, 3) := by decide +kernel
theorem dX2_keyNear_94 : decode cX2_keyNear 94 = .ok (.lreturn, 1) := by decide +kernel
theorem dX2_keyNear_95 : decode cX2_keyNear 95 = .ok (.aload_n 0, 1) := by decide +kernel
theorem dX2_keyNear_96 : decode cX2_keyNear 96 = .ok (.iload 5, 2) := by decide +kernel
theorem dX2_keyNear_98 : decode cX2_keyNear 98 = .ok (.iload 4, 2) := by decide +kernel
theorem dX2_keyNear_100 : decode cX2_keyNear 100 = .ok (.invokestatic 115, 3) := by decide +kernel
theorem dX2_keyNear_103 : decode cX2_keyNear 103 = .ok (.iconst 1, 1) := by decide +kernel
theorem dX2_keyNear_104 : decode cX2_keyNear 104 = .ok (.isub, 1) := by decide +kernel
theorem dX2_keyNear_105 : decode cX2_keyNear 105 = .ok (.iload_n 3, 1) := by decide +kernel
theorem dX2_keyNear_106 : decode cX2_keyNear 106 = .ok (.iload 4, 2) := by decide +kernel
theorem dX2_keyNear_108 : decode cX2_keyNear 108 = .ok (.invokevirtual 118, 3) := by decide +kernel
theorem dX2_keyNear_111 : decode cX2_keyNear 111 = .ok (.lreturn, 1) := by decide +kernel
theorem dX2_keyNear_112 : decode cX2_keyNear 112 = .ok (.aload_n 0, 1) := by decide +kernel
theorem dX2_keyNear_113 : decode cX2_keyNear 113 = .ok (.iload 6, 2) := by decide +kernel
theorem dX2_keyNear_115 : decode cX2_keyNear 115 = .ok (.iload_n 3, 1) := by decide +kernel
theorem dX2_keyNear_116 : decode cX2_keyNear 116 = .ok (.invokestatic 110, 3) := by decide +kernel
theorem dX2_keyNear_119 : decode cX2_keyNear 119 = .ok (.iload_n 3, 1) := by decide +kernel
theorem dX2_keyNear_120 : decode cX2_keyNear 120 = .ok (.iload 4, 2) := by decide +kernel
theorem dX2_keyNear_122 : decode cX2_keyNear 122 = .ok (.invokevirtual 118, 3) := by decide +kernel
theorem dX2_keyNear_125 : decode cX2_keyNear 125 = .ok (.lreturn, 1) := by decide +kernel
theorem dX2_keyNear_126 : decode cX2_keyNear 126 = .ok (.aload_n 0, 1) := by decide +kernel
theorem dX2_keyNear_127 : decode cX2_keyNear 127 = .ok (.iload_n 3, 1) := by decide +kernel
theorem dX2_keyNear_128 : decode cX2_keyNear 128 = .ok (.iload_n 3, 1) := by decide +kernel
theorem dX2_keyNear_129 : decode cX2_keyNear 129 = .ok (.iload 4, 2) := by decide +kernel
theorem dX2_keyNear_131 : decode cX2_keyNear 131 = .ok (.invokevirtual 118, 3) := by decide +kernel
theorem dX2_keyNear_134 : decode cX2_keyNear 134 = .ok (.lreturn, 1) := by decide +kernel
theorem dX2_keyNear_135 : decode cX2_keyNear 135 = .ok (.aload_n 0, 1) := by decide +kernel
theorem dX2_keyNear_136 : decode cX2_keyNear 136 = .ok (.iload 4, 2) := by decide +kernel
theorem dX2_keyNear_138 : decode cX2_keyNear 138 = .ok (.iconst 1, 1) := by decide +kernel
theorem dX2_keyNear_139 : decode cX2_keyNear 139 = .ok (.isub, 1) := by decide +kernel
theorem dX2_keyNear_140 : decode cX2_keyNear 140 = .ok (.iload_n 3, 1) := by decide +kernel
theorem dX2_keyNear_141 : decode cX2_keyNear 141 = .ok (.iload 4, 2) := by decide +kernel
theorem dX2_keyNear_143 : decode cX2_keyNear 143 = .ok (.invokevirtual 118, 3) := by decide +kernel
theorem dX2_keyNear_146 : decode cX2_keyNear 146 = .ok (.lreturn, 1) := by decide +kernel
theorem dX2_keyNear_147 : decode cX2_keyNear 147 = .ok (.ldc2_w 44, 3) := by decide +kernel
theorem dX2_keyNear_150 : decode cX2_keyNear 150 = .ok (.lreturn, 1) := by decide +kernel
set_option maxRecDepth 20000 in
theorem ggX2_keyWithin_X0_keyAt : GoodIn wsX2_keyWithin wsX0_keyAt := goodIn_r _ [7, 8, 9, 10, 15, 16, 17] (by decide +kernel) (by decide +kernel)
set_option maxRecDepth 20000 in
theorem gX2_keyWithin_X0_keyAt : GoodIn wsX2_keyWithin (wsV RX2 92 RX0 yX0_keyAt wsX0_keyAt) := goodIn_app (goodIn_of _ (by decide +kernel)) ggX2_keyWithin_X0_keyAt
theorem dX2_keyWithin_0 : decode cX2_keyWithin 0 = .ok (.iload_n 1, 1) := by decide +kernel
theorem dX2_keyWithin_1 : decode cX2_keyWithin 1 = .ok (.iload_n 2, 1) := by decide +kernel
theorem dX2_keyWithin_2 : decode cX2_keyWithin 2 = .ok (.if_icmp .lt 19, 3) := by decide +kernel
theorem dX2_keyWithin_5 : decode cX2_keyWithin 5 = .ok (.iload_n 1, 1) := by decide +kernel
theorem dX2_keyWithin_6 : decode cX2_keyWithin 6 = .ok (.iload_n 3, 1) := by decide +kernel
theorem dX2_keyWithin_7 : decode cX2_keyWithin 7 = .ok (.if_icmp .ge 14, 3) := by decide +kernel
theorem dX2_keyWithin_10 : decode cX2_keyWithin 10 = .ok (.aload_n 0, 1) := by decide +kernel
theorem dX2_keyWithin_11 : decode cX2_keyWithin 11 = .ok (.getfield 12, 3) := by decide +kernel
theorem dX2_keyWithin_14 : decode cX2_keyWithin 14 = .ok (.iload_n 1, 1) := by decide +kernel
theorem dX2_keyWithin_15 : decode cX2_keyWithin 15 = .ok (.invokevirtual 92, 3) := by decide +kernel
theorem dX2_keyWithin_18 : decode cX2_keyWithin 18 = .ok (.goto 6, 3) := by decide +kernel
theorem dX2_keyWithin_21 : decode cX2_keyWithin 21 = .ok (.ldc2_w 44, 3) := by decide +kernel
theorem dX2_keyWithin_24 : decode cX2_keyWithin 24 = .ok (.lreturn, 1) := by decide +kernel
set_option maxRecDepth 20000 in
theorem ggX2_pollWithin_X2_keyWithin : GoodIn wsX2_pollWithin wsX2_keyWithin := goodIn_r _ [7, 2, 1, 8, 9, 10, 11, 12, 13, 14, 15, 29, 30, 31, 32, 33, 34, 35] (by decide +kernel) (by decide +kernel)
set_option maxRecDepth 20000 in
theorem gX2_pollWithin_X2_keyWithin : GoodIn wsX2_pollWithin (wsV RX2 118 RX2 yX2_keyWithin wsX2_keyWithin) := goodIn_app (goodIn_of _ (by decide +kernel)) ggX2_pollWithin_X2_keyWithin
set_option maxRecDepth 20000 in
theorem ggX2_pollWithin_X0_dropPlaces : GoodIn wsX2_pollWithin wsX0_dropPlaces := goodIn_r _ [19, 20, 21, 22, 11, 23, 13, 14, 24, 25, 26, 27, 28, 33, 34, 35] (by decide +kernel) (by decide +kernel)
set_option maxRecDepth 20000 in
theorem gX2_pollWithin_X0_dropPlaces : GoodIn wsX2_pollWithin (wsV RX2 65 RX0 yX0_dropPlaces wsX0_dropPlaces) := goodIn_app (goodIn_of _ (by decide +kernel)) ggX2_pollWithin_X0_dropPlaces
theorem dX2_pollWithin_0 : decode cX2_pollWithin 0 = .ok (.iload_n 1, 1) := by decide +kernel
theorem dX2_pollWithin_1 : decode cX2_pollWithin 1 = .ok (.ifCond .eq 9, 3) := by decide +kernel
theorem dX2_pollWithin_4 : decode cX2_pollWithin 4 = .ok (.iload_n 3, 1) := by decide +kernel
theorem dX2_pollWithin_5 : decode cX2_pollWithin 5 = .ok (.iconst 1, 1) := by decide +kernel
theorem dX2_pollWithin_6 : decode cX2_pollWithin 6 = .ok (.isub, 1) := by decide +kernel
theorem dX2_pollWithin_7 : decode cX2_pollWithin 7 = .ok (.goto 4, 3) := by decide +kernel
theorem dX2_pollWithin_10 : decode cX2_pollWithin 10 = .ok (.iload_n 2, 1) := by decide +kernel
theorem dX2_pollWithin_11 : decode cX2_pollWithin 11 = .ok (.istore 4, 2) := by decide +kernel
theorem dX2_pollWithin_13 : decode cX2_pollWithin 13 = .ok (.aload_n 0, 1) := by decide +kernel
theorem dX2_pollWithin_14 : decode cX2_pollWithin 14 = .ok (.iload 4, 2) := by decide +kernel
theorem dX2_pollWithin_16 : decode cX2_pollWithin 16 = .ok (.iload_n 2, 1) := by decide +kernel
theorem dX2_pollWithin_17 : decode cX2_pollWithin 17 = .ok (.iload_n 3, 1) := by decide +kernel
theorem dX2_pollWithin_18 : decode cX2_pollWithin 18 = .ok (.invokevirtual 118, 3) := by decide +kernel
theorem dX2_pollWithin_21 : decode cX2_pollWithin 21 = .ok (.lstore 5, 2) := by decide +kernel
theorem dX2_pollWithin_23 : decode cX2_pollWithin 23 = .ok (.lload 5, 2) := by decide +kernel
theorem dX2_pollWithin_25 : decode cX2_pollWithin 25 = .ok (.ldc2_w 44, 3) := by decide +kernel
theorem dX2_pollWithin_28 : decode cX2_pollWithin 28 = .ok (.lcmp, 1) := by decide +kernel
theorem dX2_pollWithin_29 : decode cX2_pollWithin 29 = .ok (.ifCond .eq 17, 3) := by decide +kernel
theorem dX2_pollWithin_32 : decode cX2_pollWithin 32 = .ok (.aload_n 0, 1) := by decide +kernel
theorem dX2_pollWithin_33 : decode cX2_pollWithin 33 = .ok (.getfield 12, 3) := by decide +kernel
theorem dX2_pollWithin_36 : decode cX2_pollWithin 36 = .ok (.iload 4, 2) := by decide +kernel
theorem dX2_pollWithin_38 : decode cX2_pollWithin 38 = .ok (.iload 4, 2) := by decide +kernel
theorem dX2_pollWithin_40 : decode cX2_pollWithin 40 = .ok (.iconst 1, 1) := by decide +kernel
theorem dX2_pollWithin_41 : decode cX2_pollWithin 41 = .ok (.iadd, 1) := by decide +kernel
theorem dX2_pollWithin_42 : decode cX2_pollWithin 42 = .ok (.invokevirtual 65, 3) := by decide +kernel
theorem dX2_pollWithin_45 : decode cX2_pollWithin 45 = .ok (.pop, 1) := by decide +kernel
theorem dX2_pollWithin_46 : decode cX2_pollWithin 46 = .ok (.lload 5, 2) := by decide +kernel
theorem dX2_pollWithin_48 : decode cX2_pollWithin 48 = .ok (.lreturn, 1) := by decide +kernel
theorem dX3_init_0 : decode cX3_init 0 = .ok (.aload_n 0, 1) := by decide +kernel
theorem dX3_init_1 : decode cX3_init 1 = .ok (.invokespecial 3, 3) := by decide +kernel
theorem dX3_init_4 : decode cX3_init 4 = .ok (.aload_n 0, 1) := by decide +kernel
theorem dX3_init_5 : decode cX3_init 5 = .ok (.bipush 64, 2) := by decide +kernel
theorem dX3_init_7 : decode cX3_init 7 = .ok (.newarray .int, 2) := by decide +kernel
theorem dX3_init_9 : decode cX3_init 9 = .ok (.putfield 9, 3) := by decide +kernel
theorem dX3_init_12 : decode cX3_init 12 = .ok (.aload_n 0, 1) := by decide +kernel
theorem dX3_init_13 : decode cX3_init 13 = .ok (.bipush 64, 2) := by decide +kernel
theorem dX3_init_15 : decode cX3_init 15 = .ok (.newarray .int, 2) := by decide +kernel
theorem dX3_init_17 : decode cX3_init 17 = .ok (.putfield 13, 3) := by decide +kernel
theorem dX3_init_20 : decode cX3_init 20 = .ok (.return_, 1) := by decide +kernel
theorem dX3_placeOf_0 : decode cX3_placeOf 0 = .ok (.iconst 0, 1) := by decide +kernel
theorem dX3_placeOf_1 : decode cX3_placeOf 1 = .ok (.istore_n 2, 1) := by decide +kernel
theorem dX3_placeOf_2 : decode cX3_placeOf 2 = .ok (.iload_n 2, 1) := by decide +kernel
theorem dX3_placeOf_3 : decode cX3_placeOf 3 = .ok (.aload_n 0, 1) := by decide +kernel
theorem dX3_placeOf_4 : decode cX3_placeOf 4 = .ok (.getfield 16, 3) := by decide +kernel
theorem dX3_placeOf_7 : decode cX3_placeOf 7 = .ok (.if_icmp .ge 19, 3) := by decide +kernel
theorem dX3_placeOf_10 : decode cX3_placeOf 10 = .ok (.aload_n 0, 1) := by decide +kernel
theorem dX3_placeOf_11 : decode cX3_placeOf 11 = .ok (.getfield 9, 3) := by decide +kernel
theorem dX3_placeOf_14 : decode cX3_placeOf 14 = .ok (.iload_n 2, 1) := by decide +kernel
theorem dX3_placeOf_15 : decode cX3_placeOf 15 = .ok (.iaload, 1) := by decide +kernel
theorem dX3_placeOf_16 : decode cX3_placeOf 16 = .ok (.iload_n 1, 1) := by decide +kernel
theorem dX3_placeOf_17 : decode cX3_placeOf 17 = .ok (.if_icmp .ge 9, 3) := by decide +kernel
theorem dX3_placeOf_20 : decode cX3_placeOf 20 = .ok (.iinc 2 1, 3) := by decide +kernel
theorem dX3_placeOf_23 : decode cX3_placeOf 23 = .ok (.goto (-21), 3) := by decide +kernel
theorem dX3_placeOf_26 : decode cX3_placeOf 26 = .ok (.iload_n 2, 1) := by decide +kernel
theorem dX3_placeOf_27 : decode cX3_placeOf 27 = .ok (.ireturn, 1) := by decide +kernel
theorem dX3_isAt_0 : decode cX3_isAt 0 = .ok (.iload_n 1, 1) := by decide +kernel
theorem dX3_isAt_1 : decode cX3_isAt 1 = .ok (.aload_n 0, 1) := by decide +kernel
theorem dX3_isAt_2 : decode cX3_isAt 2 = .ok (.getfield 16, 3) := by decide +kernel
theorem dX3_isAt_5 : decode cX3_isAt 5 = .ok (.if_icmp .ge 17, 3) := by decide +kernel
theorem dX3_isAt_8 : decode cX3_isAt 8 = .ok (.aload_n 0, 1) := by decide +kernel
theorem dX3_isAt_9 : decode cX3_isAt 9 = .ok (.getfield 9, 3) := by decide +kernel
theorem dX3_isAt_12 : decode cX3_isAt 12 = .ok (.iload_n 1, 1) := by decide +kernel
theorem dX3_isAt_13 : decode cX3_isAt 13 = .ok (.iaload, 1) := by decide +kernel
theorem dX3_isAt_14 : decode cX3_isAt 14 = .ok (.iload_n 2, 1) := by decide +kernel
theorem dX3_isAt_15 : decode cX3_isAt 15 = .ok (.if_icmp .ne 7, 3) := by decide +kernel
theorem dX3_isAt_18 : decode cX3_isAt 18 = .ok (.iconst 1, 1) := by decide +kernel
theorem dX3_isAt_19 : decode cX3_isAt 19 = .ok (.goto 4, 3) := by decide +kernel
theorem dX3_isAt_22 : decode cX3_isAt 22 = .ok (.iconst 0, 1) := by decide +kernel
theorem dX3_isAt_23 : decode cX3_isAt 23 = .ok (.ireturn, 1) := by decide +kernel
set_option maxRecDepth 20000 in
theorem ggX3_insert_J7_copyOf_59c91 : GoodIn wsX3_insert wsJ7_copyOf_59c91 := goodIn_r _ [7, 8, 9, 10, 11, 12, 13, 14, 15, 16, 17, 18, 19, 20, 21, 22] (by decide +kernel) (by decide +kernel)
set_option maxRecDepth 20000 in
theorem gX3_insert_J7_copyOf_59c91 : GoodIn wsX3_insert (va_wsS RX3 20 yJ7_copyOf_59c91 wsJ7_copyOf_59c91) := goodIn_app (goodIn_of _ (by decide +kernel)) ggX3_insert_J7_copyOf_59c91
theorem dX3_insert_0 : decode cX3_insert 0 = .ok (.aload_n 0, 1) := by decide +kernel
theorem dX3_insert_1 : decode cX3_insert 1 = .ok (.getfield 16, 3) := by decide +kernel
theorem dX3_insert_4 : decode cX3_insert 4 = .ok (.aload_n 0, 1) := by decide +kernel
theorem dX3_insert_5 : decode cX3_insert 5 = .ok (.getfield 9, 3) := by decide +kernel
theorem dX3_insert_8 : decode cX3_insert 8 = .ok (.arraylength, 1) := by decide +kernel
theorem dX3_insert_9 : decode cX3_insert 9 = .ok (.if_icmp .ne 37, 3) := by decide +kernel
theorem dX3_insert_12 : decode cX3_insert 12 = .ok (.aload_n 0, 1) := by decide +kernel
theorem dX3_insert_13 : decode cX3_insert 13 = .ok (.aload_n 0, 1) := by decide +kernel
theorem dX3_insert_14 : decode cX3_insert 14 = .ok (.getfield 9, 3) := by decide +kernel
theorem dX3_insert_17 : decode cX3_insert 17 = .ok (.iconst 2, 1) := by decide +kernel
theorem dX3_insert_18 : decode cX3_insert 18 = .ok (.aload_n 0, 1) := by decide +kernel
theorem dX3_insert_19 : decode cX3_insert 19 = .ok (.getfield 16, 3) := by decide +kernel
theorem dX3_insert_22 : decode cX3_insert 22 = .ok (.imul, 1) := by decide +kernel
theorem dX3_insert_23 : decode cX3_insert 23 = .ok (.invokestatic 20, 3) := by decide +kernel
theorem dX3_insert_26 : decode cX3_insert 26 = .ok (.putfield 9, 3) := by decide +kernel
theorem dX3_insert_29 : decode cX3_insert 29 = .ok (.aload_n 0, 1) := by decide +kernel
theorem dX3_insert_30 : decode cX3_insert 30 = .ok (.aload_n 0, 1) := by decide +kernel
theorem dX3_insert_31 : decode cX3_insert 31 = .ok (.getfield 13, 3) := by decide +kernel
theorem dX3_insert_34 : decode cX3_insert 34 = .ok (.iconst 2, 1) := by decide +kernel
theorem dX3_insert_35 : decode cX3_insert 35 = .ok (.aload_n 0, 1) := by decide +kernel
theorem dX3_insert_36 : decode cX3_insert 36 = .ok (.getfield 16, 3) := by decide +kernel
theorem dX3_insert_39 : decode cX3_insert 39 = .ok (.imul, 1) := by decide +kernel
theorem dX3_insert_40 : decode cX3_insert 40 = .ok (.invokestatic 20, 3) := by decide +kernel
theorem dX3_insert_43 : decode cX3_insert 43 = .ok (.putfield 13, 3) := by decide +kernel
theorem dX3_insert_46 : decode cX3_insert 46 = .ok (.aload_n 0, 1) := by decide +kernel
theorem dX3_insert_47 : decode cX3_insert 47 = .ok (.getfield 16, 3) := by decide +kernel
theorem dX3_insert_50 : decode cX3_insert 50 = .ok (.istore 4, 2) := by decide +kernel
theorem dX3_insert_52 : decode cX3_insert 52 = .ok (.iload 4, 2) := by decide +kernel
theorem dX3_insert_54 : decode cX3_insert 54 = .ok (.iload_n 1, 1) := by decide +kernel
theorem dX3_insert_55 : decode cX3_insert 55 = .ok (.if_icmp .le 41, 3) := by decide +kernel
theorem dX3_insert_58 : decode cX3_insert 58 = .ok (.aload_n 0, 1) := by decide +kernel
theorem dX3_insert_59 : decode cX3_insert 59 = .ok (.getfield 9, 3) := by decide +kernel
theorem dX3_insert_62 : decode cX3_insert 62 = .ok (.iload 4, 2) := by decide +kernel
theorem dX3_insert_64 : decode cX3_insert 64 = .ok (.aload_n 0, 1) := by decide +kernel
theorem dX3_insert_65 : decode cX3_insert 65 = .ok (.getfield 9, 3) := by decide +kernel
theorem dX3_insert_68 : decode cX3_insert 68 = .ok (.iload 4, 2) := by decide +kernel
theorem dX3_insert_70 : decode cX3_insert 70 = .ok (.iconst 1, 1) := by decide +kernel
theorem dX3_insert_71 : decode cX3_insert 71 = .ok (.isub, 1) := by decide +kernel
theorem dX3_insert_72 : decode cX3_insert 72 = .ok (.iaload, 1) := by decide +kernel
theorem dX3_insert_73 : decode cX3_insert 73 = .ok (.iastore, 1) := by decide +kernel
theorem dX3_insert_74 : decode cX3_insert 74 = .ok (.aload_n 0, 1) := by decide +kernel
theorem dX3_insert_75 : decode cX3_insert 75 = .ok (.getfield 13, 3) := by decide +kernel
theorem dX3_insert_78 : decode cX3_insert 78 = .ok (.iload 4, 2) := by decide +kernel
theorem dX3_insert_80 : decode cX3_insert 80 = .ok (.aload_n 0, 1) := by decide +kernel
theorem dX3_insert_81 : decode cX3_insert 81 = .ok (.getfield 13, 3) := by decide +kernel
theorem dX3_insert_84 : decode cX3_insert 84 = .ok (.iload 4, 2) := by decide +kernel
theorem dX3_insert_86 : decode cX3_insert 86 = .ok (.iconst 1, 1) := by decide +kernel
theorem dX3_insert_87 : decode cX3_insert 87 = .ok (.isub, 1) := by decide +kernel
theorem dX3_insert_88 : decode cX3_insert 88 = .ok (.iaload, 1) := by decide +kernel
theorem dX3_insert_89 : decode cX3_insert 89 = .ok (.iastore, 1) := by decide +kernel
theorem dX3_insert_90 : decode cX3_insert 90 = .ok (.iinc 4 (-1), 3) := by decide +kernel
theorem dX3_insert_93 : decode cX3_insert 93 = .ok (.goto (-41), 3) := by decide +kernel
theorem dX3_insert_96 : decode cX3_insert 96 = .ok (.aload_n 0, 1) := by decide +kernel
theorem dX3_insert_97 : decode cX3_insert 97 = .ok (.getfield 9, 3) := by decide +kernel
theorem dX3_insert_100 : decode cX3_insert 100 = .ok (.iload_n 1, 1) := by decide +kernel
theorem dX3_insert_101 : decode cX3_insert 101 = .ok (.iload_n 2, 1) := by decide +kernel
theorem dX3_insert_102 : decode cX3_insert 102 = .ok (.iastore, 1) := by decide +kernel
theorem dX3_insert_103 : decode cX3_insert 103 = .ok (.aload_n 0, 1) := by decide +kernel
theorem dX3_insert_104 : decode cX3_insert 104 = .ok (.getfield 13, 3) := by decide +kernel
theorem dX3_insert_107 : decode cX3_insert 107 = .ok (.iload_n 1, 1) := by decide +kernel
theorem dX3_insert_108 : decode cX3_insert 108 = .ok (.iload_n 3, 1) := by decide +kernel
theorem dX3_insert_109 : decode cX3_insert 109 = .ok (.iastore, 1) := by decide +kernel
theorem dX3_insert_110 : decode cX3_insert 110 = .ok (.aload_n 0, 1) := by decide +kernel
theorem dX3_insert_111 : decode cX3_insert 111 = .ok (.dup, 1) := by decide +kernel
theorem dX3_insert_112 : decode cX3_insert 112 = .ok (.getfield 16, 3) := by decide +kernel
theorem dX3_insert_115 : decode cX3_insert 115 = .ok (.iconst 1, 1) := by decide +kernel
theorem dX3_insert_116 : decode cX3_insert 116 = .ok (.iadd, 1) := by decide +kernel
theorem dX3_insert_117 : decode cX3_insert 117 = .ok (.putfield 16, 3) := by decide +kernel
theorem dX3_insert_120 : decode cX3_insert 120 = .ok (.return_, 1) := by decide +kernel
theorem dX3_delete_0 : decode cX3_delete 0 = .ok (.aload_n 0, 1) := by decide +kernel
theorem dX3_delete_1 : decode cX3_delete 1 = .ok (.dup, 1) := by decide +kernel
theorem dX3_delete_2 : decode cX3_delete 2 = .ok (.getfield 16, 3) := by decide +kernel
theorem dX3_delete_5 : decode cX3_delete 5 = .ok (.iconst 1, 1) := by decide +kernel
theorem dX3_delete_6 : decode cX3_delete 6 = .ok (.isub, 1) := by decide +kernel
theorem dX3_delete_7 : decode cX3_delete 7 = .ok (.putfield 16, 3) := by decide +kernel
theorem dX3_delete_10 : decode cX3_delete 10 = .ok (.iload_n 1, 1) := by decide +kernel
theorem dX3_delete_11 : decode cX3_delete 11 = .ok (.istore_n 2, 1) := by decide +kernel
theorem dX3_delete_12 : decode cX3_delete 12 = .ok (.iload_n 2, 1) := by decide +kernel
theorem dX3_delete_13 : decode cX3_delete 13 = .ok (.aload_n 0, 1) := by decide +kernel
theorem dX3_delete_14 : decode cX3_delete 14 = .ok (.getfield 16, 3) := by decide +kernel
theorem dX3_delete_17 : decode cX3_delete 17 = .ok (.if_icmp .ge 37, 3) := by decide +kernel
theorem dX3_delete_20 : decode cX3_delete 20 = .ok (.aload_n 0, 1) := by decide +kernel
theorem dX3_delete_21 : decode cX3_delete 21 = .ok (.getfield 9, 3) := by decide +kernel
theorem dX3_delete_24 : decode cX3_delete 24 = .ok (.iload_n 2, 1) := by decide +kernel
theorem dX3_delete_25 : decode cX3_delete 25 = .ok (.aload_n 0, 1) := by decide +kernel
theorem dX3_delete_26 : decode cX3_delete 26 = .ok (.getfield 9, 3) := by decide +kernel
theorem dX3_delete_29 : decode cX3_delete 29 = .ok (.iload_n 2, 1) := by decide +kernel
theorem dX3_delete_30 : decode cX3_delete 30 = .ok (.iconst 1, 1) := by decide +kernel
theorem dX3_delete_31 : decode cX3_delete 31 = .ok (.iadd, 1) := by decide +kernel
theorem dX3_delete_32 : decode cX3_delete 32 = .ok (.iaload, 1) := by decide +kernel
theorem dX3_delete_33 : decode cX3_delete 33 = .ok (.iastore, 1) := by decide +kernel
theorem dX3_delete_34 : decode cX3_delete 34 = .ok (.aload_n 0, 1) := by decide +kernel
theorem dX3_delete_35 : decode cX3_delete 35 = .ok (.getfield 13, 3) := by decide +kernel
theorem dX3_delete_38 : decode cX3_delete 38 = .ok (.iload_n 2, 1) := by decide +kernel
theorem dX3_delete_39 : decode cX3_delete 39 = .ok (.aload_n 0, 1) := by decide +kernel
theorem dX3_delete_40 : decode cX3_delete 40 = .ok (.getfield 13, 3) := by decide +kernel
theorem dX3_delete_43 : decode cX3_delete 43 = .ok (.iload_n 2, 1) := by decide +kernel
theorem dX3_delete_44 : decode cX3_delete 44 = .ok (.iconst 1, 1) := by decide +kernel
theorem dX3_delete_45 : decode cX3_delete 45 = .ok (.iadd, 1) := by decide +kernel
theorem dX3_delete_46 : decode cX3_delete 46 = .ok (.iaload, 1) := by decide +kernel
theorem dX3_delete_47 : decode cX3_delete 47 = .ok (.iastore, 1) := by decide +kernel
theorem dX3_delete_48 : decode cX3_delete 48 = .ok (.iinc 2 1, 3) := by decide +kernel
theorem dX3_delete_51 : decode cX3_delete 51 = .ok (.goto (-39), 3) := by decide +kernel
theorem dX3_delete_54 : decode cX3_delete 54 = .ok (.return_, 1) := by decide +kernel
set_option maxRecDepth 20000 in
theorem ggX3_put_X3_placeOf : GoodIn wsX3_put wsX3_placeOf := goodIn_r _ [7, 8, 9, 37, 38, 39, 40, 41, 42, 43, 44, 45, 46] (by decide +kernel) (by decide +kernel)
set_option maxRecDepth 20000 in
theorem gX3_put_X3_placeOf : GoodIn wsX3_put (wsV RX3 26 RX3 yX3_placeOf wsX3_placeOf) := goodIn_app (goodIn_of _ (by decide +kernel)) ggX3_put_X3_placeOf
set_option maxRecDepth 20000 in
theorem ggX3_put_X3_isAt : GoodIn wsX3_put wsX3_isAt := goodIn_r _ [13, 8, 9, 37, 38, 39, 40, 41, 42, 43, 44, 45, 46] (by decide +kernel) (by decide +kernel)
set_option maxRecDepth 20000 in
theorem gX3_put_X3_isAt : GoodIn wsX3_put (wsV RX3 30 RX3 yX3_isAt wsX3_isAt) := goodIn_app (goodIn_of _ (by decide +kernel)) ggX3_put_X3_isAt
set_option maxRecDepth 20000 in
theorem ggX3_put_X3_insert : GoodIn wsX3_put wsX3_insert := goodIn_r _ [17, 8, 9, 2, 18, 19, 20, 21, 22, 23, 24, 25, 26, 27, 28, 29, 30, 31, 32, 33, 34, 35, 36, 37, 38, 39, 40, 41, 42, 43, 44, 45, 46] (by decide +kernel) (by decide +kernel)
set_option maxRecDepth 20000 in
theorem gX3_put_X3_insert : GoodIn wsX3_put (wsV RX3 34 RX3 yX3_insert wsX3_insert) := goodIn_app (goodIn_of _ (by decide +kernel)) ggX3_put_X3_insert
theorem dX3_put_0 : decode cX3_put 0 = .ok (.aload_n 0, 1) := by decide +kernel
theorem dX3_put_1 : decode cX3_put 1 = .ok (.iload_n 1, 1) := by decide +kernel
theorem dX3_put_2 : decode cX3_put 2 = .ok (.invokevirtual 26, 3) := by decide +kernel
theorem dX3_put_5 : decode cX3_put 5 = .ok (.istore_n 3, 1) := by decide +kernel
theorem dX3_put_6 : decode cX3_put 6 = .ok (.aload_n 0, 1) := by decide +kernel
theorem dX3_put_7 : decode cX3_put 7 = .ok (.iload_n 3, 1) := by decide +kernel
theorem dX3_put_8 : decode cX3_put 8 = .ok (.iload_n 1, 1) := by decide +kernel
theorem dX3_put_9 : decode cX3_put 9 = .ok (.invokevirtual 30, 3) := by decide +kernel
theorem dX3_put_12 : decode cX3_put 12 = .ok (.ifCond .ne 14, 3) := by decide +kernel
theorem dX3_put_15 : decode cX3_put 15 = .ok (.aload_n 0, 1) := by decide +kernel
theorem dX3_put_16 : decode cX3_put 16 = .ok (.iload_n 3, 1) := by decide +kernel
theorem dX3_put_17 : decode cX3_put 17 = .ok (.iload_n 1, 1) := by decide +kernel
theorem dX3_put_18 : decode cX3_put 18 = .ok (.iload_n 2, 1) := by decide +kernel
theorem dX3_put_19 : decode cX3_put 19 = .ok (.invokevirtual 34, 3) := by decide +kernel
theorem dX3_put_22 : decode cX3_put 22 = .ok (.ldc2_w 38, 3) := by decide +kernel
theorem dX3_put_25 : decode cX3_put 25 = .ok (.lreturn, 1) := by decide +kernel
theorem dX3_put_26 : decode cX3_put 26 = .ok (.aload_n 0, 1) := by decide +kernel
theorem dX3_put_27 : decode cX3_put 27 = .ok (.getfield 13, 3) := by decide +kernel
theorem dX3_put_30 : decode cX3_put 30 = .ok (.iload_n 3, 1) := by decide +kernel
theorem dX3_put_31 : decode cX3_put 31 = .ok (.iaload, 1) := by decide +kernel
theorem dX3_put_32 : decode cX3_put 32 = .ok (.istore 4, 2) := by decide +kernel
theorem dX3_put_34 : decode cX3_put 34 = .ok (.aload_n 0, 1) := by decide +kernel
theorem dX3_put_35 : decode cX3_put 35 = .ok (.getfield 13, 3) := by decide +kernel
theorem dX3_put_38 : decode cX3_put 38 = .ok (.iload_n 3, 1) := by decide +kernel
theorem dX3_put_39 : decode cX3_put 39 = .ok (.iload_n 2, 1) := by decide +kernel
theorem dX3_put_40 : decode cX3_put 40 = .ok (.iastore, 1) := by decide +kernel
theorem dX3_put_41 : decode cX3_put 41 = .ok (.iload 4, 2) := by decide +kernel
theorem dX3_put_43 : decode cX3_put 43 = .ok (.i2l, 1) := by decide +kernel
theorem dX3_put_44 : decode cX3_put 44 = .ok (.lreturn, 1) := by decide +kernel
set_option maxRecDepth 20000 in
theorem ggX3_add_X3_placeOf : GoodIn wsX3_add wsX3_placeOf := goodIn_r _ [7, 8, 9, 37, 38, 39, 40, 41, 42, 43, 44, 45, 46] (by decide +kernel) (by decide +kernel)
set_option maxRecDepth 20000 in
theorem gX3_add_X3_placeOf : GoodIn wsX3_add (wsV RX3 26 RX3 yX3_placeOf wsX3_placeOf) := goodIn_app (goodIn_of _ (by decide +kernel)) ggX3_add_X3_placeOf
set_option maxRecDepth 20000 in
theorem ggX3_add_X3_isAt : GoodIn wsX3_add wsX3_isAt := goodIn_r _ [13, 8, 9, 37, 38, 39, 40, 41, 42, 43, 44, 45, 46] (by decide +kernel) (by decide +kernel)
set_option maxRecDepth 20000 in
theorem gX3_add_X3_isAt : GoodIn wsX3_add (wsV RX3 30 RX3 yX3_isAt wsX3_isAt) := goodIn_app (goodIn_of _ (by decide +kernel)) ggX3_add_X3_isAt
set_option maxRecDepth 20000 in
theorem ggX3_add_X3_insert : GoodIn wsX3_add wsX3_insert := goodIn_r _ [17, 8, 9, 1, 18, 19, 20, 21, 22, 23, 24, 25, 26, 27, 28, 29, 30, 31, 32, 33, 34, 35, 36, 37, 38, 39, 40, 41, 42, 43, 44, 45, 46] (by decide +kernel) (by decide +kernel)
set_option maxRecDepth 20000 in
theorem gX3_add_X3_insert : GoodIn wsX3_add (wsV RX3 34 RX3 yX3_insert wsX3_insert) := goodIn_app (goodIn_of _ (by decide +kernel)) ggX3_add_X3_insert
theorem dX3_add_0 : decode cX3_add 0 = .ok (.aload_n 0, 1) := by decide +kernel
theorem dX3_add_1 : decode cX3_add 1 = .ok (.iload_n 1, 1) := by decide +kernel
theorem dX3_add_2 : decode cX3_add 2 = .ok (.invokevirtual 26, 3) := by decide +kernel
theorem dX3_add_5 : decode cX3_add 5 = .ok (.istore_n 3, 1) := by decide +kernel
theorem dX3_add_6 : decode cX3_add 6 = .ok (.aload_n 0, 1) := by decide +kernel
theorem dX3_add_7 : decode cX3_add 7 = .ok (.iload_n 3, 1) := by decide +kernel
theorem dX3_add_8 : decode cX3_add 8 = .ok (.iload_n 1, 1) := by decide +kernel
theorem dX3_add_9 : decode cX3_add 9 = .ok (.invokevirtual 30, 3) := by decide +kernel
theorem dX3_add_12 : decode cX3_add 12 = .ok (.ifCond .eq 11, 3) := by decide +kernel
theorem dX3_add_15 : decode cX3_add 15 = .ok (.aload_n 0, 1) := by decide +kernel
theorem dX3_add_16 : decode cX3_add 16 = .ok (.getfield 13, 3) := by decide +kernel
theorem dX3_add_19 : decode cX3_add 19 = .ok (.iload_n 3, 1) := by decide +kernel
theorem dX3_add_20 : decode cX3_add 20 = .ok (.iaload, 1) := by decide +kernel
theorem dX3_add_21 : decode cX3_add 21 = .ok (.i2l, 1) := by decide +kernel
theorem dX3_add_22 : decode cX3_add 22 = .ok (.lreturn, 1) := by decide +kernel
theorem dX3_add_23 : decode cX3_add 23 = .ok (.aload_n 0, 1) := by decide +kernel
theorem dX3_add_24 : decode cX3_add 24 = .ok (.iload_n 3, 1) := by decide +kernel
theorem dX3_add_25 : decode cX3_add 25 = .ok (.iload_n 1, 1) := by decide +kernel
theorem dX3_add_26 : decode cX3_add 26 = .ok (.iload_n 2, 1) := by decide +kernel
theorem dX3_add_27 : decode cX3_add 27 = .ok (.invokevirtual 34, 3) := by decide +kernel
theorem dX3_add_30 : decode cX3_add 30 = .ok (.ldc2_w 38, 3) := by decide +kernel
theorem dX3_add_33 : decode cX3_add 33 = .ok (.lreturn, 1) := by decide +kernel
set_option maxRecDepth 20000 in
theorem ggX3_get_X3_placeOf : GoodIn wsX3_get wsX3_placeOf := goodIn_r _ [7, 8, 9, 14, 15, 16, 17, 18, 19, 20, 21, 22, 23] (by decide +kernel) (by decide +kernel)
set_option maxRecDepth 20000 in
theorem gX3_get_X3_placeOf : GoodIn wsX3_get (wsV RX3 26 RX3 yX3_placeOf wsX3_placeOf) := goodIn_app (goodIn_of _ (by decide +kernel)) ggX3_get_X3_placeOf
set_option maxRecDepth 20000 in
theorem ggX3_get_X3_isAt : GoodIn wsX3_get wsX3_isAt := goodIn_r _ [13, 8, 9, 14, 15, 16, 17, 18, 19, 20, 21, 22, 23] (by decide +kernel) (by decide +kernel)
set_option maxRecDepth 20000 in
theorem gX3_get_X3_isAt : GoodIn wsX3_get (wsV RX3 30 RX3 yX3_isAt wsX3_isAt) := goodIn_app (goodIn_of _ (by decide +kernel)) ggX3_get_X3_isAt
theorem dX3_get_0 : decode cX3_get 0 = .ok (.aload_n 0, 1) := by decide +kernel
theorem dX3_get_1 : decode cX3_get 1 = .ok (.iload_n 1, 1) := by decide +kernel
theorem dX3_get_2 : decode cX3_get 2 = .ok (.invokevirtual 26, 3) := by decide +kernel
theorem dX3_get_5 : decode cX3_get 5 = .ok (.istore_n 2, 1) := by decide +kernel
theorem dX3_get_6 : decode cX3_get 6 = .ok (.aload_n 0, 1) := by decide +kernel
theorem dX3_get_7 : decode cX3_get 7 = .ok (.iload_n 2, 1) := by decide +kernel
theorem dX3_get_8 : decode cX3_get 8 = .ok (.iload_n 1, 1) := by decide +kernel
theorem dX3_get_9 : decode cX3_get 9 = .ok (.invokevirtual 30, 3) := by decide +kernel
theorem dX3_get_12 : decode cX3_get 12 = .ok (.ifCond .eq 13, 3) := by decide +kernel
theorem dX3_get_15 : decode cX3_get 15 = .ok (.aload_n 0, 1) := by decide +kernel
theorem dX3_get_16 : decode cX3_get 16 = .ok (.getfield 13, 3) := by decide +kernel
theorem dX3_get_19 : decode cX3_get 19 = .ok (.iload_n 2, 1) := by decide +kernel
theorem dX3_get_20 : decode cX3_get 20 = .ok (.iaload, 1) := by decide +kernel
theorem dX3_get_21 : decode cX3_get 21 = .ok (.i2l, 1) := by decide +kernel
theorem dX3_get_22 : decode cX3_get 22 = .ok (.goto 6, 3) := by decide +kernel
theorem dX3_get_25 : decode cX3_get 25 = .ok (.ldc2_w 38, 3) := by decide +kernel
theorem dX3_get_28 : decode cX3_get 28 = .ok (.lreturn, 1) := by decide +kernel
set_option maxRecDepth 20000 in
theorem ggX3_remove_X3_placeOf : GoodIn wsX3_remove wsX3_placeOf := goodIn_r _ [7, 8, 9, 18, 19, 20, 21, 22, 23, 24, 25, 26, 27] (by decide +kernel) (by decide +kernel)
set_option maxRecDepth 20000 in
theorem gX3_remove_X3_placeOf : GoodIn wsX3_remove (wsV RX3 26 RX3 yX3_placeOf wsX3_placeOf) := goodIn_app (goodIn_of _ (by decide +kernel)) ggX3_remove_X3_placeOf
set_option maxRecDepth 20000 in
theorem ggX3_remove_X3_isAt : GoodIn wsX3_remove wsX3_isAt := goodIn_r _ [13, 8, 9, 18, 19, 20, 21, 22, 23, 24, 25, 26, 27] (by decide +kernel) (by decide +kernel)
set_option maxRecDepth 20000 in
theorem gX3_remove_X3_isAt : GoodIn wsX3_remove (wsV RX3 30 RX3 yX3_isAt wsX3_isAt) := goodIn_app (goodIn_of _ (by decide +kernel)) ggX3_remove_X3_isAt
set_option maxRecDepth 20000 in
theorem ggX3_remove_X3_delete : GoodIn wsX3_remove wsX3_delete := goodIn_r _ [17, 8, 9, 2, 18, 19, 20, 21, 22, 23, 24, 25, 26, 27] (by decide +kernel) (by decide +kernel)
set_option maxRecDepth 20000 in
theorem gX3_remove_X3_delete : GoodIn wsX3_remove (wsV RX3 40 RX3 yX3_delete wsX3_delete) := goodIn_app (goodIn_of _ (by decide +kernel)) ggX3_remove_X3_delete
theorem dX3_remove_0 : decode cX3_remove 0 = .ok (.aload_n 0, 1) := by decide +kernel
theorem dX3_remove_1 : decode cX3_remove 1 = .ok (.iload_n 1, 1) := by decide +kernel
theorem dX3_remove_2 : decode cX3_remove 2 = .ok (.invokevirtual 26, 3) := by decide +kernel
theorem dX3_remove_5 : decode cX3_remove 5 = .ok (.istore_n 2, 1) := by decide +kernel
theorem dX3_remove_6 : decode cX3_remove 6 = .ok (.aload_n 0, 1) := by decide +kernel
theorem dX3_remove_7 : decode cX3_remove 7 = .ok (.iload_n 2, 1) := by decide +kernel
theorem dX3_remove_8 : decode cX3_remove 8 = .ok (.iload_n 1, 1) := by decide +kernel
theorem dX3_remove_9 : decode cX3_remove 9 = .ok (.invokevirtual 30, 3) := by decide +kernel
theorem dX3_remove_12 : decode cX3_remove 12 = .ok (.ifCond .ne 7, 3) := by decide +kernel
theorem dX3_remove_15 : decode cX3_remove 15 = .ok (.ldc2_w 38, 3) := by decide +kernel
theorem dX3_remove_18 : decode cX3_remove 18 = .ok (.lreturn, 1) := by decide +kernel
theorem dX3_remove_19 : decode cX3_remove 19 = .ok (.aload_n 0, 1) := by decide +kernel
theorem dX3_remove_20 : decode cX3_remove 20 = .ok (.getfield 13, 3) := by decide +kernel
theorem dX3_remove_23 : decode cX3_remove 23 = .ok (.iload_n 2, 1) := by decide +kernel
theorem dX3_remove_24 : decode cX3_remove 24 = .ok (.iaload, 1) := by decide +kernel
theorem dX3_remove_25 : decode cX3_remove 25 = .ok (.istore_n 3, 1) := by decide +kernel
theorem dX3_remove_26 : decode cX3_remove 26 = .ok (.aload_n 0, 1) := by decide +kernel
theorem dX3_remove_27 : decode cX3_remove 27 = .ok (.iload_n 2, 1) := by decide +kernel
theorem dX3_remove_28 : decode cX3_remove 28 = .ok (.invokevirtual 40, 3) := by decide +kernel
theorem dX3_remove_31 : decode cX3_remove 31 = .ok (.iload_n 3, 1) := by decide +kernel
theorem dX3_remove_32 : decode cX3_remove 32 = .ok (.i2l, 1) := by decide +kernel
theorem dX3_remove_33 : decode cX3_remove 33 = .ok (.lreturn, 1) := by decide +kernel
theorem dX3_has_0 : decode cX3_has 0 = .ok (.iload_n 1, 1) := by decide +kernel
theorem dX3_has_1 : decode cX3_has 1 = .ok (.ifCond .eq 10, 3) := by decide +kernel
theorem dX3_has_4 : decode cX3_has 4 = .ok (.iload_n 1, 1) := by decide +kernel
theorem dX3_has_5 : decode cX3_has 5 = .ok (.iconst 1, 1) := by decide +kernel
theorem dX3_has_6 : decode cX3_has 6 = .ok (.if_icmp .eq 5, 3) := by decide +kernel
theorem dX3_has_9 : decode cX3_has 9 = .ok (.iconst 0, 1) := by decide +kernel
theorem dX3_has_10 : decode cX3_has 10 = .ok (.ireturn, 1) := by decide +kernel
theorem dX3_has_11 : decode cX3_has 11 = .ok (.iconst 0, 1) := by decide +kernel
theorem dX3_has_12 : decode cX3_has 12 = .ok (.istore_n 3, 1) := by decide +kernel
theorem dX3_has_13 : decode cX3_has 13 = .ok (.iload_n 3, 1) := by decide +kernel
theorem dX3_has_14 : decode cX3_has 14 = .ok (.aload_n 0, 1) := by decide +kernel
theorem dX3_has_15 : decode cX3_has 15 = .ok (.getfield 16, 3) := by decide +kernel
theorem dX3_has_18 : decode cX3_has 18 = .ok (.if_icmp .ge 34, 3) := by decide +kernel
theorem dX3_has_21 : decode cX3_has 21 = .ok (.iload_n 1, 1) := by decide +kernel
theorem dX3_has_22 : decode cX3_has 22 = .ok (.ifCond .ne 12, 3) := by decide +kernel
theorem dX3_has_25 : decode cX3_has 25 = .ok (.aload_n 0, 1) := by decide +kernel
theorem dX3_has_26 : decode cX3_has 26 = .ok (.getfield 9, 3) := by decide +kernel
theorem dX3_has_29 : decode cX3_has 29 = .ok (.iload_n 3, 1) := by decide +kernel
theorem dX3_has_30 : decode cX3_has 30 = .ok (.iaload, 1) := by decide +kernel
theorem dX3_has_31 : decode cX3_has 31 = .ok (.goto 9, 3) := by decide +kernel
theorem dX3_has_34 : decode cX3_has 34 = .ok (.aload_n 0, 1) := by decide +kernel
theorem dX3_has_35 : decode cX3_has 35 = .ok (.getfield 13, 3) := by decide +kernel
theorem dX3_has_38 : decode cX3_has 38 = .ok (.iload_n 3, 1) := by decide +kernel
theorem dX3_has_39 : decode cX3_has 39 = .ok (.iaload, 1) := by decide +kernel
theorem dX3_has_40 : decode cX3_has 40 = .ok (.iload_n 2, 1) := by decide +kernel
theorem dX3_has_41 : decode cX3_has 41 = .ok (.if_icmp .ne 5, 3) := by decide +kernel
theorem dX3_has_44 : decode cX3_has 44 = .ok (.iconst 1, 1) := by decide +kernel
theorem dX3_has_45 : decode cX3_has 45 = .ok (.ireturn, 1) := by decide +kernel
theorem dX3_has_46 : decode cX3_has 46 = .ok (.iinc 3 1, 3) := by decide +kernel
theorem dX3_has_49 : decode cX3_has 49 = .ok (.goto (-36), 3) := by decide +kernel
theorem dX3_has_52 : decode cX3_has 52 = .ok (.iconst 0, 1) := by decide +kernel
theorem dX3_has_53 : decode cX3_has 53 = .ok (.ireturn, 1) := by decide +kernel
theorem dX3_keyAt_0 : decode cX3_keyAt 0 = .ok (.iload_n 1, 1) := by decide +kernel
theorem dX3_keyAt_1 : decode cX3_keyAt 1 = .ok (.iload_n 2, 1) := by decide +kernel
theorem dX3_keyAt_2 : decode cX3_keyAt 2 = .ok (.if_icmp .lt 18, 3) := by decide +kernel
theorem dX3_keyAt_5 : decode cX3_keyAt 5 = .ok (.iload_n 1, 1) := by decide +kernel
theorem dX3_keyAt_6 : decode cX3_keyAt 6 = .ok (.iload_n 3, 1) := by decide +kernel
theorem dX3_keyAt_7 : decode cX3_keyAt 7 = .ok (.if_icmp .ge 13, 3) := by decide +kernel
theorem dX3_keyAt_10 : decode cX3_keyAt 10 = .ok (.aload_n 0, 1) := by decide +kernel
theorem dX3_keyAt_11 : decode cX3_keyAt 11 = .ok (.getfield 9, 3) := by decide +kernel
theorem dX3_keyAt_14 : decode cX3_keyAt 14 = .ok (.iload_n 1, 1) := by decide +kernel
theorem dX3_keyAt_15 : decode cX3_keyAt 15 = .ok (.iaload, 1) := by decide +kernel
theorem dX3_keyAt_16 : decode cX3_keyAt 16 = .ok (.i2l, 1) := by decide +kernel
theorem dX3_keyAt_17 : decode cX3_keyAt 17 = .ok (.goto 6, 3) := by decide +kernel
theorem dX3_keyAt_20 : decode cX3_keyAt 20 = .ok (.ldc2_w 38, 3) := by decide +kernel
theorem dX3_keyAt_23 : decode cX3_keyAt 23 = .ok (.lreturn, 1) := by decide +kernel
set_option maxRecDepth 20000 in
theorem ggX3_near_X3_keyAt : GoodIn wsX3_near wsX3_keyAt := goodIn_r _ [7, 1, 2, 8, 9, 10, 11, 12, 13, 14, 15, 16, 17] (by decide +kernel) (by decide +kernel)
set_option maxRecDepth 20000 in
theorem gX3_near_X3_keyAt : GoodIn wsX3_near (wsV RX3 44 RX3 yX3_keyAt wsX3_keyAt) := goodIn_app (goodIn_of _ (by decide +kernel)) ggX3_near_X3_keyAt
theorem dX3_near_0 : decode cX3_near 0 = .ok (.iload_n 3, 1) := by decide +kernel
theorem dX3_near_1 : decode cX3_near 1 = .ok (.istore 5, 2) := by decide +kernel
theorem dX3_near_3 : decode cX3_near 3 = .ok (.iload_n 3, 1) := by decide +kernel
theorem dX3_near_4 : decode cX3_near 4 = .ok (.istore 6, 2) := by decide +kernel
theorem dX3_near_6 : decode cX3_near 6 = .ok (.iload_n 3, 1) := by decide +kernel
theorem dX3_near_7 : decode cX3_near 7 = .ok (.istore 7, 2) := by decide +kernel
theorem dX3_near_9 : decode cX3_near 9 = .ok (.iload 7, 2) := by decide +kernel
theorem dX3_near_11 : decode cX3_near 11 = .ok (.iload 4, 2) := by decide +kernel
theorem dX3_near_13 : decode cX3_near 13 = .ok (.if_icmp .ge 43, 3) := by decide +kernel
theorem dX3_near_16 : decode cX3_near 16 = .ok (.aload_n 0, 1) := by decide +kernel
theorem dX3_near_17 : decode cX3_near 17 = .ok (.getfield 9, 3) := by decide +kernel
theorem dX3_near_20 : decode cX3_near 20 = .ok (.iload 7, 2) := by decide +kernel
theorem dX3_near_22 : decode cX3_near 22 = .ok (.iaload, 1) := by decide +kernel
theorem dX3_near_23 : decode cX3_near 23 = .ok (.iload_n 2, 1) := by decide +kernel
theorem dX3_near_24 : decode cX3_near 24 = .ok (.if_icmp .ge 9, 3) := by decide +kernel
theorem dX3_near_27 : decode cX3_near 27 = .ok (.iload 7, 2) := by decide +kernel
theorem dX3_near_29 : decode cX3_near 29 = .ok (.iconst 1, 1) := by decide +kernel
theorem dX3_near_30 : decode cX3_near 30 = .ok (.iadd, 1) := by decide +kernel
theorem dX3_near_31 : decode cX3_near 31 = .ok (.istore 5, 2) := by decide +kernel
theorem dX3_near_33 : decode cX3_near 33 = .ok (.aload_n 0, 1) := by decide +kernel
theorem dX3_near_34 : decode cX3_near 34 = .ok (.getfield 9, 3) := by decide +kernel
theorem dX3_near_37 : decode cX3_near 37 = .ok (.iload 7, 2) := by decide +kernel
theorem dX3_near_39 : decode cX3_near 39 = .ok (.iaload, 1) := by decide +kernel
theorem dX3_near_40 : decode cX3_near 40 = .ok (.iload_n 2, 1) := by decide +kernel
theorem dX3_near_41 : decode cX3_near 41 = .ok (.if_icmp .gt 9, 3) := by decide +kernel
theorem dX3_near_44 : decode cX3_near 44 = .ok (.iload 7, 2) := by decide +kernel
theorem dX3_near_46 : decode cX3_near 46 = .ok (.iconst 1, 1) := by decide +kernel
theorem dX3_near_47 : decode cX3_near 47 = .ok (.iadd, 1) := by decide +kernel
theorem dX3_near_48 : decode cX3_near 48 = .ok (.istore 6, 2) := by decide +kernel
theorem dX3_near_50 : decode cX3_near 50 = .ok (.iinc 7 1, 3) := by decide +kernel
theorem dX3_near_53 : decode cX3_near 53 = .ok (.goto (-44), 3) := by decide +kernel
theorem dX3_near_56 : decode cX3_near 56 = .ok (.iload_n 1, 1) := by decide +kernel
theorem dX3_near_57 : decode cX3_near 57 = .ok (.tableswitch 104 0 5 #[39, 51, 61, 73, 83, 92], 39) := by decide +kernel
theorem dX3_near_96 : decode cX3_near 96 = .ok (.aload_n 0, 1) := by decide +kernel
theorem dX3_near_97 : decode cX3_near 97 = .ok (.iload 6, 2) := by decide +kernel
theorem dX3_near_99 : decode cX3_near 99 = .ok (.iconst 1, 1) := by decide +kernel
theorem dX3_near_100 : decode cX3_near 100 = .ok (.isub, 1) := by decide +kernel
theorem dX3_near_101 : decode cX3_near 101 = .ok (.iload_n 3, 1) := by decide +kernel
theorem dX3_near_102 : decode cX3_near 102 = .ok (.iload 4, 2) := by decide +kernel
theorem dX3_near_104 : decode cX3_near 104 = .ok (.invokevirtual 44, 3) := by decide +kernel
theorem dX3_near_107 : decode cX3_near 107 = .ok (.lreturn, 1) := by decide +kernel
theorem dX3_near_108 : decode cX3_near 108 = .ok (.aload_n 0, 1) := by decide +kernel
theorem dX3_near_109 : decode cX3_near 109 = .ok (.iload 5, 2) := by decide +kernel
theorem dX3_near_111 : decode cX3_near 111 = .ok (.iload_n 3, 1) := by decide +kernel
theorem dX3_near_112 : decode cX3_near 112 = .ok (.iload 4, 2) := by decide +kernel
theorem dX3_near_114 : decode cX3_near 114 = .ok (.invokevirtual 44, 3) := by decide +kernel
theorem dX3_near_117 : decode cX3_near 117 = .ok (.lreturn, 1) := by decide +kernel
theorem dX3_near_118 : decode cX3_near 118 = .ok (.aload_n 0, 1) := by decide +kernel
theorem dX3_near_119 : decode cX3_near 119 = .ok (.iload 5, 2) := by decide +kernel
theorem dX3_near_121 : decode cX3_near 121 = .ok (.iconst 1, 1) := by decide +kernel
theorem dX3_near_122 : decode cX3_near 122 = .ok (.isub, 1) := by decide +kernel
theorem dX3_near_123 : decode cX3_near 123 = .ok (.iload_n 3, 1) := by decide +kernel
theorem dX3_near_124 : decode cX3_near 124 = .ok (.iload 4, 2) := by decide +kernel
theorem dX3_near_126 : decode cX3_near 126 = .ok (.invokevirtual 44, 3) := by decide +kernel
theorem dX3_near_129 : decode cX3_near 129 = .ok (.lreturn, 1) := by decide +kernel
theorem dX3_near_130 : decode cX3_near 130 = .ok (.aload_n 0, 1) := by decide +kernel
theorem dX3_near_131 : decode cX3_near 131 = .ok (.iload 6, 2) := by decide +kernel
theorem dX3_near_133 : decode cX3_near 133 = .ok (.iload_n 3, 1) := by decide +kernel
theorem dX3_near_134 : decode cX3_near 134 = .ok (.iload 4, 2) := by decide +kernel
theorem dX3_near_136 : decode cX3_near 136 = .ok (.invokevirtual 44, 3) := by decide +kernel
theorem dX3_near_139 : decode cX3_near 139 = .ok (.lreturn, 1) := by decide +kernel
theorem dX3_near_140 : decode cX3_near 140 = .ok (.aload_n 0, 1) := by decide +kernel
theorem dX3_near_141 : decode cX3_near 141 = .ok (.iload_n 3, 1) := by decide +kernel
theorem dX3_near_142 : decode cX3_near 142 = .ok (.iload_n 3, 1) := by decide +kernel
theorem dX3_near_143 : decode cX3_near 143 = .ok (.iload 4, 2) := by decide +kernel
theorem dX3_near_145 : decode cX3_near 145 = .ok (.invokevirtual 44, 3) := by decide +kernel
theorem dX3_near_148 : decode cX3_near 148 = .ok (.lreturn, 1) := by decide +kernel
theorem dX3_near_149 : decode cX3_near 149 = .ok (.aload_n 0, 1) := by decide +kernel
theorem dX3_near_150 : decode cX3_near 150 = .ok (.iload 4, 2) := by decide +kernel
theorem dX3_near_152 : decode cX3_near 152 = .ok (.iconst 1, 1) := by decide +kernel
theorem dX3_near_153 : decode cX3_near 153 = .ok (.isub, 1) := by decide +kernel
theorem dX3_near_154 : decode cX3_near 154 = .ok (.iload_n 3, 1) := by decide +kernel
theorem dX3_near_155 : decode cX3_near 155 = .ok (.iload 4, 2) := by decide +kernel
theorem dX3_near_157 : decode cX3_near 157 = .ok (.invokevirtual 44, 3) := by decide +kernel
theorem dX3_near_160 : decode cX3_near 160 = .ok (.lreturn, 1) := by decide +kernel
theorem dX3_near_161 : decode cX3_near 161 = .ok (.ldc2_w 38, 3) := by decide +kernel
theorem dX3_near_164 : decode cX3_near 164 = .ok (.lreturn, 1) := by decide +kernel
set_option maxRecDepth 20000 in
theorem ggX3_near__X3_near : GoodIn wsX3_near_ wsX3_near := goodIn_r _ [6, 7, 8, 9, 10, 11, 5, 12, 13, 14, 15, 16, 17, 18, 19, 20, 21, 22] (by decide +kernel) (by decide +kernel)
set_option maxRecDepth 20000 in
theorem gX3_near__X3_near : GoodIn wsX3_near_ (wsV RX3 48 RX3 yX3_near wsX3_near) := goodIn_app (goodIn_of _ (by decide +kernel)) ggX3_near__X3_near
theorem dX3_near__0 : decode cX3_near_ 0 = .ok (.aload_n 0, 1) := by decide +kernel
theorem dX3_near__1 : decode cX3_near_ 1 = .ok (.iload_n 1, 1) := by decide +kernel
theorem dX3_near__2 : decode cX3_near_ 2 = .ok (.iload_n 2, 1) := by decide +kernel
theorem dX3_near__3 : decode cX3_near_ 3 = .ok (.iconst 0, 1) := by decide +kernel
theorem dX3_near__4 : decode cX3_near_ 4 = .ok (.aload_n 0, 1) := by decide +kernel
theorem dX3_near__5 : decode cX3_near_ 5 = .ok (.getfield 16, 3) := by decide +kernel
theorem dX3_near__8 : decode cX3_near_ 8 = .ok (.invokevirtual 48, 3) := by decide +kernel
theorem dX3_near__11 : decode cX3_near_ 11 = .ok (.lreturn, 1) := by decide +kernel
set_option maxRecDepth 20000 in
theorem ggX3_poll_X3_delete : GoodIn wsX3_poll wsX3_delete := goodIn_r _ [8, 1, 3, 9, 10, 11, 12, 13, 14, 15, 16, 17, 18, 19] (by decide +kernel) (by decide +kernel)
set_option maxRecDepth 20000 in
theorem gX3_poll_X3_delete : GoodIn wsX3_poll (wsV RX3 40 RX3 yX3_delete wsX3_delete) := goodIn_app (goodIn_of _ (by decide +kernel)) ggX3_poll_X3_delete
theorem dX3_poll_0 : decode cX3_poll 0 = .ok (.aload_n 0, 1) := by decide +kernel
theorem dX3_poll_1 : decode cX3_poll 1 = .ok (.getfield 16, 3) := by decide +kernel
theorem dX3_poll_4 : decode cX3_poll 4 = .ok (.ifCond .ne 7, 3) := by decide +kernel
theorem dX3_poll_7 : decode cX3_poll 7 = .ok (.ldc2_w 38, 3) := by decide +kernel
theorem dX3_poll_10 : decode cX3_poll 10 = .ok (.lreturn, 1) := by decide +kernel
theorem dX3_poll_11 : decode cX3_poll 11 = .ok (.iload_n 1, 1) := by decide +kernel
theorem dX3_poll_12 : decode cX3_poll 12 = .ok (.ifCond .eq 12, 3) := by decide +kernel
theorem dX3_poll_15 : decode cX3_poll 15 = .ok (.aload_n 0, 1) := by decide +kernel
theorem dX3_poll_16 : decode cX3_poll 16 = .ok (.getfield 16, 3) := by decide +kernel
theorem dX3_poll_19 : decode cX3_poll 19 = .ok (.iconst 1, 1) := by decide +kernel
theorem dX3_poll_20 : decode cX3_poll 20 = .ok (.isub, 1) := by decide +kernel
theorem dX3_poll_21 : decode cX3_poll 21 = .ok (.goto 4, 3) := by decide +kernel
theorem dX3_poll_24 : decode cX3_poll 24 = .ok (.iconst 0, 1) := by decide +kernel
theorem dX3_poll_25 : decode cX3_poll 25 = .ok (.istore_n 2, 1) := by decide +kernel
theorem dX3_poll_26 : decode cX3_poll 26 = .ok (.aload_n 0, 1) := by decide +kernel
theorem dX3_poll_27 : decode cX3_poll 27 = .ok (.getfield 9, 3) := by decide +kernel
theorem dX3_poll_30 : decode cX3_poll 30 = .ok (.iload_n 2, 1) := by decide +kernel
theorem dX3_poll_31 : decode cX3_poll 31 = .ok (.iaload, 1) := by decide +kernel
theorem dX3_poll_32 : decode cX3_poll 32 = .ok (.istore_n 3, 1) := by decide +kernel
theorem dX3_poll_33 : decode cX3_poll 33 = .ok (.aload_n 0, 1) := by decide +kernel
theorem dX3_poll_34 : decode cX3_poll 34 = .ok (.iload_n 2, 1) := by decide +kernel
theorem dX3_poll_35 : decode cX3_poll 35 = .ok (.invokevirtual 40, 3) := by decide +kernel
theorem dX3_poll_38 : decode cX3_poll 38 = .ok (.iload_n 3, 1) := by decide +kernel
theorem dX3_poll_39 : decode cX3_poll 39 = .ok (.i2l, 1) := by decide +kernel
theorem dX3_poll_40 : decode cX3_poll 40 = .ok (.lreturn, 1) := by decide +kernel
theorem dX3_size_0 : decode cX3_size 0 = .ok (.aload_n 0, 1) := by decide +kernel
theorem dX3_size_1 : decode cX3_size 1 = .ok (.getfield 16, 3) := by decide +kernel
theorem dX3_size_4 : decode cX3_size 4 = .ok (.ireturn, 1) := by decide +kernel
theorem dX3_clear_0 : decode cX3_clear 0 = .ok (.aload_n 0, 1) := by decide +kernel
theorem dX3_clear_1 : decode cX3_clear 1 = .ok (.getfield 16, 3) := by decide +kernel
theorem dX3_clear_4 : decode cX3_clear 4 = .ok (.istore_n 1, 1) := by decide +kernel
theorem dX3_clear_5 : decode cX3_clear 5 = .ok (.aload_n 0, 1) := by decide +kernel
theorem dX3_clear_6 : decode cX3_clear 6 = .ok (.iconst 0, 1) := by decide +kernel
theorem dX3_clear_7 : decode cX3_clear 7 = .ok (.putfield 16, 3) := by decide +kernel
theorem dX3_clear_10 : decode cX3_clear 10 = .ok (.iload_n 1, 1) := by decide +kernel
theorem dX3_clear_11 : decode cX3_clear 11 = .ok (.ireturn, 1) := by decide +kernel
theorem dX3_all_0 : decode cX3_all 0 = .ok (.aload_n 0, 1) := by decide +kernel
theorem dX3_all_1 : decode cX3_all 1 = .ok (.iconst 0, 1) := by decide +kernel
theorem dX3_all_2 : decode cX3_all 2 = .ok (.putfield 52, 3) := by decide +kernel
theorem dX3_all_5 : decode cX3_all 5 = .ok (.aload_n 0, 1) := by decide +kernel
theorem dX3_all_6 : decode cX3_all 6 = .ok (.iconst 0, 1) := by decide +kernel
theorem dX3_all_7 : decode cX3_all 7 = .ok (.putfield 56, 3) := by decide +kernel
theorem dX3_all_10 : decode cX3_all 10 = .ok (.aload_n 0, 1) := by decide +kernel
theorem dX3_all_11 : decode cX3_all 11 = .ok (.iconst 0, 1) := by decide +kernel
theorem dX3_all_12 : decode cX3_all 12 = .ok (.putfield 59, 3) := by decide +kernel
theorem dX3_all_15 : decode cX3_all 15 = .ok (.return_, 1) := by decide +kernel
set_option maxRecDepth 20000 in
theorem ggX3_look_X3_all : GoodIn wsX3_look wsX3_all := goodIn_r _ [5, 6, 7, 8, 21, 22, 23, 24, 25, 26, 27, 28, 29, 30] (by decide +kernel) (by decide +kernel)
set_option maxRecDepth 20000 in
theorem gX3_look_X3_all : GoodIn wsX3_look (wsV RX3 62 RX3 yX3_all wsX3_all) := goodIn_app (goodIn_of _ (by decide +kernel)) ggX3_look_X3_all
set_option maxRecDepth 20000 in
theorem ggX3_look_X3_begin : GoodIn wsX3_look wsX3_begin := goodIn_r _ [12, 6, 13, 14, 21, 22, 23, 24, 25, 26, 27, 28, 29, 30] (by decide +kernel) (by decide +kernel)
set_option maxRecDepth 20000 in
theorem gX3_look_X3_begin : GoodIn wsX3_look (wsV RX3 65 RX3 yX3_begin wsX3_begin) := goodIn_app (goodIn_of _ (by decide +kernel)) ggX3_look_X3_begin
set_option maxRecDepth 20000 in
theorem ggX3_look_X3_end : GoodIn wsX3_look wsX3_end := goodIn_r _ [18, 7, 19, 20, 21, 22, 23, 24, 25, 26, 27, 28, 29, 30] (by decide +kernel) (by decide +kernel)
set_option maxRecDepth 20000 in
theorem gX3_look_X3_end : GoodIn wsX3_look (wsV RX3 69 RX3 yX3_end wsX3_end) := goodIn_app (goodIn_of _ (by decide +kernel)) ggX3_look_X3_end
theorem dX3_look_0 : decode cX3_look 0 = .ok (.iload_n 1, 1) := by decide +kernel
theorem dX3_look_1 : decode cX3_look 1 = .ok (.ifCond .lt 19, 3) := by decide +kernel
theorem dX3_look_4 : decode cX3_look 4 = .ok (.iload_n 1, 1) := by decide +kernel
theorem dX3_look_5 : decode cX3_look 5 = .ok (.iconst 3, 1) := by decide +kernel
theorem dX3_look_6 : decode cX3_look 6 = .ok (.if_icmp .gt 14, 3) := by decide +kernel
theorem dX3_look_9 : decode cX3_look 9 = .ok (.iload_n 1, 1) := by decide +kernel
theorem dX3_look_10 : decode cX3_look 10 = .ok (.iconst 3, 1) := by decide +kernel
theorem dX3_look_11 : decode cX3_look 11 = .ok (.if_icmp .ne 11, 3) := by decide +kernel
theorem dX3_look_14 : decode cX3_look 14 = .ok (.iload_n 2, 1) := by decide +kernel
theorem dX3_look_15 : decode cX3_look 15 = .ok (.iload 4, 2) := by decide +kernel
theorem dX3_look_17 : decode cX3_look 17 = .ok (.if_icmp .le 5, 3) := by decide +kernel
theorem dX3_look_20 : decode cX3_look 20 = .ok (.iconst 1, 1) := by decide +kernel
theorem dX3_look_21 : decode cX3_look 21 = .ok (.ireturn, 1) := by decide +kernel
theorem dX3_look_22 : decode cX3_look 22 = .ok (.aload_n 0, 1) := by decide +kernel
theorem dX3_look_23 : decode cX3_look 23 = .ok (.invokevirtual 62, 3) := by decide +kernel
theorem dX3_look_26 : decode cX3_look 26 = .ok (.iload_n 1, 1) := by decide +kernel
theorem dX3_look_27 : decode cX3_look 27 = .ok (.iconst 1, 1) := by decide +kernel
theorem dX3_look_28 : decode cX3_look 28 = .ok (.if_icmp .le 9, 3) := by decide +kernel
theorem dX3_look_31 : decode cX3_look 31 = .ok (.aload_n 0, 1) := by decide +kernel
theorem dX3_look_32 : decode cX3_look 32 = .ok (.iload_n 2, 1) := by decide +kernel
theorem dX3_look_33 : decode cX3_look 33 = .ok (.iload_n 3, 1) := by decide +kernel
theorem dX3_look_34 : decode cX3_look 34 = .ok (.invokevirtual 65, 3) := by decide +kernel
theorem dX3_look_37 : decode cX3_look 37 = .ok (.iload_n 1, 1) := by decide +kernel
theorem dX3_look_38 : decode cX3_look 38 = .ok (.iconst 1, 1) := by decide +kernel
theorem dX3_look_39 : decode cX3_look 39 = .ok (.iand, 1) := by decide +kernel
theorem dX3_look_40 : decode cX3_look 40 = .ok (.iconst 1, 1) := by decide +kernel
theorem dX3_look_41 : decode cX3_look 41 = .ok (.if_icmp .ne 11, 3) := by decide +kernel
theorem dX3_look_44 : decode cX3_look 44 = .ok (.aload_n 0, 1) := by decide +kernel
theorem dX3_look_45 : decode cX3_look 45 = .ok (.iload 4, 2) := by decide +kernel
theorem dX3_look_47 : decode cX3_look 47 = .ok (.iload 5, 2) := by decide +kernel
theorem dX3_look_49 : decode cX3_look 49 = .ok (.invokevirtual 69, 3) := by decide +kernel
theorem dX3_look_52 : decode cX3_look 52 = .ok (.iconst 0, 1) := by decide +kernel
theorem dX3_look_53 : decode cX3_look 53 = .ok (.ireturn, 1) := by decide +kernel
theorem dX3_begin_0 : decode cX3_begin 0 = .ok (.aload_n 0, 1) := by decide +kernel
theorem dX3_begin_1 : decode cX3_begin 1 = .ok (.iconst 1, 1) := by decide +kernel
theorem dX3_begin_2 : decode cX3_begin 2 = .ok (.putfield 52, 3) := by decide +kernel
theorem dX3_begin_5 : decode cX3_begin 5 = .ok (.aload_n 0, 1) := by decide +kernel
theorem dX3_begin_6 : decode cX3_begin 6 = .ok (.iload_n 1, 1) := by decide +kernel
theorem dX3_begin_7 : decode cX3_begin 7 = .ok (.putfield 72, 3) := by decide +kernel
theorem dX3_begin_10 : decode cX3_begin 10 = .ok (.aload_n 0, 1) := by decide +kernel
theorem dX3_begin_11 : decode cX3_begin 11 = .ok (.iload_n 2, 1) := by decide +kernel
theorem dX3_begin_12 : decode cX3_begin 12 = .ok (.putfield 75, 3) := by decide +kernel
theorem dX3_begin_15 : decode cX3_begin 15 = .ok (.return_, 1) := by decide +kernel
theorem dX3_end_0 : decode cX3_end 0 = .ok (.aload_n 0, 1) := by decide +kernel
theorem dX3_end_1 : decode cX3_end 1 = .ok (.iconst 1, 1) := by decide +kernel
theorem dX3_end_2 : decode cX3_end 2 = .ok (.putfield 56, 3) := by decide +kernel
theorem dX3_end_5 : decode cX3_end 5 = .ok (.aload_n 0, 1) := by decide +kernel
theorem dX3_end_6 : decode cX3_end 6 = .ok (.iload_n 1, 1) := by decide +kernel
theorem dX3_end_7 : decode cX3_end 7 = .ok (.putfield 78, 3) := by decide +kernel
theorem dX3_end_10 : decode cX3_end 10 = .ok (.aload_n 0, 1) := by decide +kernel
theorem dX3_end_11 : decode cX3_end 11 = .ok (.iload_n 2, 1) := by decide +kernel
theorem dX3_end_12 : decode cX3_end 12 = .ok (.putfield 81, 3) := by decide +kernel
theorem dX3_end_15 : decode cX3_end 15 = .ok (.return_, 1) := by decide +kernel
theorem dX3_isIn_0 : decode cX3_isIn 0 = .ok (.aload_n 0, 1) := by decide +kernel
theorem dX3_isIn_1 : decode cX3_isIn 1 = .ok (.getfield 52, 3) := by decide +kernel
theorem dX3_isIn_4 : decode cX3_isIn 4 = .ok (.ifCond .eq 26, 3) := by decide +kernel
theorem dX3_isIn_7 : decode cX3_isIn 7 = .ok (.iload_n 1, 1) := by decide +kernel
theorem dX3_isIn_8 : decode cX3_isIn 8 = .ok (.aload_n 0, 1) := by decide +kernel
theorem dX3_isIn_9 : decode cX3_isIn 9 = .ok (.getfield 72, 3) := by decide +kernel
theorem dX3_isIn_12 : decode cX3_isIn 12 = .ok (.if_icmp .gt 18, 3) := by decide +kernel
theorem dX3_isIn_15 : decode cX3_isIn 15 = .ok (.iload_n 1, 1) := by decide +kernel
theorem dX3_isIn_16 : decode cX3_isIn 16 = .ok (.aload_n 0, 1) := by decide +kernel
theorem dX3_isIn_17 : decode cX3_isIn 17 = .ok (.getfield 72, 3) := by decide +kernel
theorem dX3_isIn_20 : decode cX3_isIn 20 = .ok (.if_icmp .ne 44, 3) := by decide +kernel
theorem dX3_isIn_23 : decode cX3_isIn 23 = .ok (.aload_n 0, 1) := by decide +kernel
theorem dX3_isIn_24 : decode cX3_isIn 24 = .ok (.getfield 75, 3) := by decide +kernel
theorem dX3_isIn_27 : decode cX3_isIn 27 = .ok (.ifCond .eq 37, 3) := by decide +kernel
theorem dX3_isIn_30 : decode cX3_isIn 30 = .ok (.aload_n 0, 1) := by decide +kernel
theorem dX3_isIn_31 : decode cX3_isIn 31 = .ok (.getfield 56, 3) := by decide +kernel
theorem dX3_isIn_34 : decode cX3_isIn 34 = .ok (.ifCond .eq 26, 3) := by decide +kernel
theorem dX3_isIn_37 : decode cX3_isIn 37 = .ok (.iload_n 1, 1) := by decide +kernel
theorem dX3_isIn_38 : decode cX3_isIn 38 = .ok (.aload_n 0, 1) := by decide +kernel
theorem dX3_isIn_39 : decode cX3_isIn 39 = .ok (.getfield 78, 3) := by decide +kernel
theorem dX3_isIn_42 : decode cX3_isIn 42 = .ok (.if_icmp .lt 18, 3) := by decide +kernel
theorem dX3_isIn_45 : decode cX3_isIn 45 = .ok (.iload_n 1, 1) := by decide +kernel
theorem dX3_isIn_46 : decode cX3_isIn 46 = .ok (.aload_n 0, 1) := by decide +kernel
theorem dX3_isIn_47 : decode cX3_isIn 47 = .ok (.getfield 78, 3) := by decide +kernel
theorem dX3_isIn_50 : decode cX3_isIn 50 = .ok (.if_icmp .ne 14, 3) := by decide +kernel
theorem dX3_isIn_53 : decode cX3_isIn 53 = .ok (.aload_n 0, 1) := by decide +kernel
theorem dX3_isIn_54 : decode cX3_isIn 54 = .ok (.getfield 81, 3) := by decide +kernel
theorem dX3_isIn_57 : decode cX3_isIn 57 = .ok (.ifCond .eq 7, 3) := by decide +kernel
theorem dX3_isIn_60 : decode cX3_isIn 60 = .ok (.iconst 1, 1) := by decide +kernel
theorem dX3_isIn_61 : decode cX3_isIn 61 = .ok (.goto 4, 3) := by decide +kernel
theorem dX3_isIn_64 : decode cX3_isIn 64 = .ok (.iconst 0, 1) := by decide +kernel
theorem dX3_isIn_65 : decode cX3_isIn 65 = .ok (.ireturn, 1) := by decide +kernel
set_option maxRecDepth 20000 in
theorem ggX3_mayEnd_X3_isIn : GoodIn wsX3_mayEnd wsX3_isIn := goodIn_r _ [9, 1, 2, 10, 3, 4, 11, 12, 13, 14, 15, 16, 17, 18, 19, 20, 21] (by decide +kernel) (by decide +kernel)
set_option maxRecDepth 20000 in
theorem gX3_mayEnd_X3_isIn : GoodIn wsX3_mayEnd (wsV RX3 84 RX3 yX3_isIn wsX3_isIn) := goodIn_app (goodIn_of _ (by decide +kernel)) ggX3_mayEnd_X3_isIn
theorem dX3_mayEnd_0 : decode cX3_mayEnd 0 = .ok (.iload_n 2, 1) := by decide +kernel
theorem dX3_mayEnd_1 : decode cX3_mayEnd 1 = .ok (.ifCond .eq 11, 3) := by decide +kernel
theorem dX3_mayEnd_4 : decode cX3_mayEnd 4 = .ok (.aload_n 0, 1) := by decide +kernel
theorem dX3_mayEnd_5 : decode cX3_mayEnd 5 = .ok (.iload_n 1, 1) := by decide +kernel
theorem dX3_mayEnd_6 : decode cX3_mayEnd 6 = .ok (.invokevirtual 84, 3) := by decide +kernel
theorem dX3_mayEnd_9 : decode cX3_mayEnd 9 = .ok (.goto 38, 3) := by decide +kernel
theorem dX3_mayEnd_12 : decode cX3_mayEnd 12 = .ok (.aload_n 0, 1) := by decide +kernel
theorem dX3_mayEnd_13 : decode cX3_mayEnd 13 = .ok (.getfield 52, 3) := by decide +kernel
theorem dX3_mayEnd_16 : decode cX3_mayEnd 16 = .ok (.ifCond .eq 11, 3) := by decide +kernel
theorem dX3_mayEnd_19 : decode cX3_mayEnd 19 = .ok (.iload_n 1, 1) := by decide +kernel
theorem dX3_mayEnd_20 : decode cX3_mayEnd 20 = .ok (.aload_n 0, 1) := by decide +kernel
theorem dX3_mayEnd_21 : decode cX3_mayEnd 21 = .ok (.getfield 72, 3) := by decide +kernel
theorem dX3_mayEnd_24 : decode cX3_mayEnd 24 = .ok (.if_icmp .lt 22, 3) := by decide +kernel
theorem dX3_mayEnd_27 : decode cX3_mayEnd 27 = .ok (.aload_n 0, 1) := by decide +kernel
theorem dX3_mayEnd_28 : decode cX3_mayEnd 28 = .ok (.getfield 56, 3) := by decide +kernel
theorem dX3_mayEnd_31 : decode cX3_mayEnd 31 = .ok (.ifCond .eq 11, 3) := by decide +kernel
theorem dX3_mayEnd_34 : decode cX3_mayEnd 34 = .ok (.iload_n 1, 1) := by decide +kernel
theorem dX3_mayEnd_35 : decode cX3_mayEnd 35 = .ok (.aload_n 0, 1) := by decide +kernel
theorem dX3_mayEnd_36 : decode cX3_mayEnd 36 = .ok (.getfield 78, 3) := by decide +kernel
theorem dX3_mayEnd_39 : decode cX3_mayEnd 39 = .ok (.if_icmp .gt 7, 3) := by decide +kernel
theorem dX3_mayEnd_42 : decode cX3_mayEnd 42 = .ok (.iconst 1, 1) := by decide +kernel
theorem dX3_mayEnd_43 : decode cX3_mayEnd 43 = .ok (.goto 4, 3) := by decide +kernel
theorem dX3_mayEnd_46 : decode cX3_mayEnd 46 = .ok (.iconst 0, 1) := by decide +kernel
theorem dX3_mayEnd_47 : decode cX3_mayEnd 47 = .ok (.ireturn, 1) := by decide +kernel
set_option maxRecDepth 20000 in
theorem ggX3_narrow_X3_mayEnd : GoodIn wsX3_narrow wsX3_mayEnd := goodIn_r _ [6, 7, 8, 9, 10, 11, 12, 13, 5, 14, 15, 16, 25, 26, 27, 28, 29, 30, 31, 32, 33, 34] (by decide +kernel) (by decide +kernel)
set_option maxRecDepth 20000 in
theorem gX3_narrow_X3_mayEnd : GoodIn wsX3_narrow (wsV RX3 88 RX3 yX3_mayEnd wsX3_mayEnd) := goodIn_app (goodIn_of _ (by decide +kernel)) ggX3_narrow_X3_mayEnd
set_option maxRecDepth 20000 in
theorem ggX3_narrow_X3_end : GoodIn wsX3_narrow wsX3_end := goodIn_r _ [20, 9, 10, 16, 25, 26, 27, 28, 29, 30, 31, 32, 33, 34] (by decide +kernel) (by decide +kernel)
set_option maxRecDepth 20000 in
theorem gX3_narrow_X3_end : GoodIn wsX3_narrow (wsV RX3 69 RX3 yX3_end wsX3_end) := goodIn_app (goodIn_of _ (by decide +kernel)) ggX3_narrow_X3_end
set_option maxRecDepth 20000 in
theorem ggX3_narrow_X3_begin : GoodIn wsX3_narrow wsX3_begin := goodIn_r _ [24, 7, 8, 15, 25, 26, 27, 28, 29, 30, 31, 32, 33, 34] (by decide +kernel) (by decide +kernel)
set_option maxRecDepth 20000 in
theorem gX3_narrow_X3_begin : GoodIn wsX3_narrow (wsV RX3 65 RX3 yX3_begin wsX3_begin) := goodIn_app (goodIn_of _ (by decide +kernel)) ggX3_narrow_X3_begin
theorem dX3_narrow_0 : decode cX3_narrow 0 = .ok (.iload_n 1, 1) := by decide +kernel
theorem dX3_narrow_1 : decode cX3_narrow 1 = .ok (.ifCond .lt 40, 3) := by decide +kernel
theorem dX3_narrow_4 : decode cX3_narrow 4 = .ok (.iload_n 1, 1) := by decide +kernel
theorem dX3_narrow_5 : decode cX3_narrow 5 = .ok (.iconst 3, 1) := by decide +kernel
theorem dX3_narrow_6 : decode cX3_narrow 6 = .ok (.if_icmp .gt 35, 3) := by decide +kernel
theorem dX3_narrow_9 : decode cX3_narrow 9 = .ok (.iload_n 1, 1) := by decide +kernel
theorem dX3_narrow_10 : decode cX3_narrow 10 = .ok (.iconst 1, 1) := by decide +kernel
theorem dX3_narrow_11 : decode cX3_narrow 11 = .ok (.if_icmp .le 12, 3) := by decide +kernel
theorem dX3_narrow_14 : decode cX3_narrow 14 = .ok (.aload_n 0, 1) := by decide +kernel
theorem dX3_narrow_15 : decode cX3_narrow 15 = .ok (.iload_n 2, 1) := by decide +kernel
theorem dX3_narrow_16 : decode cX3_narrow 16 = .ok (.iload_n 3, 1) := by decide +kernel
theorem dX3_narrow_17 : decode cX3_narrow 17 = .ok (.invokevirtual 88, 3) := by decide +kernel
theorem dX3_narrow_20 : decode cX3_narrow 20 = .ok (.ifCond .eq 21, 3) := by decide +kernel
theorem dX3_narrow_23 : decode cX3_narrow 23 = .ok (.iload_n 1, 1) := by decide +kernel
theorem dX3_narrow_24 : decode cX3_narrow 24 = .ok (.iconst 1, 1) := by decide +kernel
theorem dX3_narrow_25 : decode cX3_narrow 25 = .ok (.iand, 1) := by decide +kernel
theorem dX3_narrow_26 : decode cX3_narrow 26 = .ok (.iconst 1, 1) := by decide +kernel
theorem dX3_narrow_27 : decode cX3_narrow 27 = .ok (.if_icmp .ne 16, 3) := by decide +kernel
theorem dX3_narrow_30 : decode cX3_narrow 30 = .ok (.aload_n 0, 1) := by decide +kernel
theorem dX3_narrow_31 : decode cX3_narrow 31 = .ok (.iload 4, 2) := by decide +kernel
theorem dX3_narrow_33 : decode cX3_narrow 33 = .ok (.iload 5, 2) := by decide +kernel
theorem dX3_narrow_35 : decode cX3_narrow 35 = .ok (.invokevirtual 88, 3) := by decide +kernel
theorem dX3_narrow_38 : decode cX3_narrow 38 = .ok (.ifCond .ne 5, 3) := by decide +kernel
theorem dX3_narrow_41 : decode cX3_narrow 41 = .ok (.iconst 1, 1) := by decide +kernel
theorem dX3_narrow_42 : decode cX3_narrow 42 = .ok (.ireturn, 1) := by decide +kernel
theorem dX3_narrow_43 : decode cX3_narrow 43 = .ok (.iload_n 1, 1) := by decide +kernel
theorem dX3_narrow_44 : decode cX3_narrow 44 = .ok (.iconst 3, 1) := by decide +kernel
theorem dX3_narrow_45 : decode cX3_narrow 45 = .ok (.if_icmp .ne 27, 3) := by decide +kernel
theorem dX3_narrow_48 : decode cX3_narrow 48 = .ok (.aload_n 0, 1) := by decide +kernel
theorem dX3_narrow_49 : decode cX3_narrow 49 = .ok (.getfield 59, 3) := by decide +kernel
theorem dX3_narrow_52 : decode cX3_narrow 52 = .ok (.ifCond .eq 12, 3) := by decide +kernel
theorem dX3_narrow_55 : decode cX3_narrow 55 = .ok (.iload_n 2, 1) := by decide +kernel
theorem dX3_narrow_56 : decode cX3_narrow 56 = .ok (.iload 4, 2) := by decide +kernel
theorem dX3_narrow_58 : decode cX3_narrow 58 = .ok (.if_icmp .ge 14, 3) := by decide +kernel
theorem dX3_narrow_61 : decode cX3_narrow 61 = .ok (.goto 9, 3) := by decide +kernel
theorem dX3_narrow_64 : decode cX3_narrow 64 = .ok (.iload_n 2, 1) := by decide +kernel
theorem dX3_narrow_65 : decode cX3_narrow 65 = .ok (.iload 4, 2) := by decide +kernel
theorem dX3_narrow_67 : decode cX3_narrow 67 = .ok (.if_icmp .le 5, 3) := by decide +kernel
theorem dX3_narrow_70 : decode cX3_narrow 70 = .ok (.iconst 1, 1) := by decide +kernel
theorem dX3_narrow_71 : decode cX3_narrow 71 = .ok (.ireturn, 1) := by decide +kernel
theorem dX3_narrow_72 : decode cX3_narrow 72 = .ok (.iload_n 1, 1) := by decide +kernel
theorem dX3_narrow_73 : decode cX3_narrow 73 = .ok (.iconst 1, 1) := by decide +kernel
theorem dX3_narrow_74 : decode cX3_narrow 74 = .ok (.if_icmp .le 19, 3) := by decide +kernel
theorem dX3_narrow_77 : decode cX3_narrow 77 = .ok (.aload_n 0, 1) := by decide +kernel
theorem dX3_narrow_78 : decode cX3_narrow 78 = .ok (.getfield 59, 3) := by decide +kernel
theorem dX3_narrow_81 : decode cX3_narrow 81 = .ok (.ifCond .eq 12, 3) := by decide +kernel
theorem dX3_narrow_84 : decode cX3_narrow 84 = .ok (.aload_n 0, 1) := by decide +kernel
theorem dX3_narrow_85 : decode cX3_narrow 85 = .ok (.iload_n 2, 1) := by decide +kernel
theorem dX3_narrow_86 : decode cX3_narrow 86 = .ok (.iload_n 3, 1) := by decide +kernel
theorem dX3_narrow_87 : decode cX3_narrow 87 = .ok (.invokevirtual 69, 3) := by decide +kernel
theorem dX3_narrow_90 : decode cX3_narrow 90 = .ok (.goto 14, 3) := by decide +kernel
theorem dX3_narrow_93 : decode cX3_narrow 93 = .ok (.iload_n 1, 1) := by decide +kernel
theorem dX3_narrow_94 : decode cX3_narrow 94 = .ok (.iconst 1, 1) := by decide +kernel
theorem dX3_narrow_95 : decode cX3_narrow 95 = .ok (.if_icmp .le 9, 3) := by decide +kernel
theorem dX3_narrow_98 : decode cX3_narrow 98 = .ok (.aload_n 0, 1) := by decide +kernel
theorem dX3_narrow_99 : decode cX3_narrow 99 = .ok (.iload_n 2, 1) := by decide +kernel
theorem dX3_narrow_100 : decode cX3_narrow 100 = .ok (.iload_n 3, 1) := by decide +kernel
theorem dX3_narrow_101 : decode cX3_narrow 101 = .ok (.invokevirtual 65, 3) := by decide +kernel
theorem dX3_narrow_104 : decode cX3_narrow 104 = .ok (.iload_n 1, 1) := by decide +kernel
theorem dX3_narrow_105 : decode cX3_narrow 105 = .ok (.iconst 1, 1) := by decide +kernel
theorem dX3_narrow_106 : decode cX3_narrow 106 = .ok (.iand, 1) := by decide +kernel
theorem dX3_narrow_107 : decode cX3_narrow 107 = .ok (.iconst 1, 1) := by decide +kernel
theorem dX3_narrow_108 : decode cX3_narrow 108 = .ok (.if_icmp .ne 21, 3) := by decide +kernel
theorem dX3_narrow_111 : decode cX3_narrow 111 = .ok (.aload_n 0, 1) := by decide +kernel
theorem dX3_narrow_112 : decode cX3_narrow 112 = .ok (.getfield 59, 3) := by decide +kernel
theorem dX3_narrow_115 : decode cX3_narrow 115 = .ok (.ifCond .eq 14, 3) := by decide +kernel
theorem dX3_narrow_118 : decode cX3_narrow 118 = .ok (.aload_n 0, 1) := by decide +kernel
theorem dX3_narrow_119 : decode cX3_narrow 119 = .ok (.iload 4, 2) := by decide +kernel
theorem dX3_narrow_121 : decode cX3_narrow 121 = .ok (.iload 5, 2) := by decide +kernel
theorem dX3_narrow_123 : decode cX3_narrow 123 = .ok (.invokevirtual 65, 3) := by decide +kernel
theorem dX3_narrow_126 : decode cX3_narrow 126 = .ok (.goto 18, 3) := by decide +kernel
theorem dX3_narrow_129 : decode cX3_narrow 129 = .ok (.iload_n 1, 1) := by decide +kernel
theorem dX3_narrow_130 : decode cX3_narrow 130 = .ok (.iconst 1, 1) := by decide +kernel
theorem dX3_narrow_131 : decode cX3_narrow 131 = .ok (.iand, 1) := by decide +kernel
theorem dX3_narrow_132 : decode cX3_narrow 132 = .ok (.iconst 1, 1) := by decide +kernel
theorem dX3_narrow_133 : decode cX3_narrow 133 = .ok (.if_icmp .ne 11, 3) := by decide +kernel
