theorem dX3_narrow_136 : decode cX3_narrow 136 = .ok (.aload_n 0, 1) := by decide +kernel
theorem dX3_narrow_137 : decode cX3_narrow 137 = .ok (.iload 4, 2) := by decide +kernel
theorem dX3_narrow_139 : decode cX3_narrow 139 = .ok (.iload 5, 2) := by decide +kernel
theorem dX3_narrow_141 : decode cX3_narrow 141 = .ok (.invokevirtual 69, 3) := by decide +kernel
theorem dX3_narrow_144 : decode cX3_narrow 144 = .ok (.iconst 0, 1) := by decide +kernel
theorem dX3_narrow_145 : decode cX3_narrow 145 = .ok (.ireturn, 1) := by decide +kernel
set_option maxRecDepth 20000 in
theorem ggX3_turn_X3_viewSize : GoodIn wsX3_turn wsX3_viewSize := goodIn_r _ [6, 7, 8, 9, 5, 10, 11, 12, 13, 14, 15, 16, 17, 18, 19, 20, 21, 22, 23, 24, 25, 26, 27, 28, 29, 30, 31, 32, 33, 34, 35, 36] (by decide +kernel) (by decide +kernel)
set_option maxRecDepth 20000 in
theorem gX3_turn_X3_viewSize : GoodIn wsX3_turn (wsV RX3 92 RX3 yX3_viewSize wsX3_viewSize) := goodIn_app (goodIn_of _ (by decide +kernel)) ggX3_turn_X3_viewSize
theorem dX3_turn_0 : decode cX3_turn 0 = .ok (.aload_n 0, 1) := by decide +kernel
theorem dX3_turn_1 : decode cX3_turn 1 = .ok (.aload_n 0, 1) := by decide +kernel
theorem dX3_turn_2 : decode cX3_turn 2 = .ok (.getfield 59, 3) := by decide +kernel
theorem dX3_turn_5 : decode cX3_turn 5 = .ok (.ifCond .ne 7, 3) := by decide +kernel
theorem dX3_turn_8 : decode cX3_turn 8 = .ok (.iconst 1, 1) := by decide +kernel
theorem dX3_turn_9 : decode cX3_turn 9 = .ok (.goto 4, 3) := by decide +kernel
theorem dX3_turn_12 : decode cX3_turn 12 = .ok (.iconst 0, 1) := by decide +kernel
theorem dX3_turn_13 : decode cX3_turn 13 = .ok (.putfield 59, 3) := by decide +kernel
theorem dX3_turn_16 : decode cX3_turn 16 = .ok (.aload_n 0, 1) := by decide +kernel
theorem dX3_turn_17 : decode cX3_turn 17 = .ok (.invokevirtual 92, 3) := by decide +kernel
theorem dX3_turn_20 : decode cX3_turn 20 = .ok (.ireturn, 1) := by decide +kernel
set_option maxRecDepth 20000 in
theorem ggX3_first_X3_isIn : GoodIn wsX3_first wsX3_isIn := goodIn_r _ [9, 10, 11, 12, 3, 4, 13, 14, 15, 16, 17, 18, 19, 20, 21, 22, 23] (by decide +kernel) (by decide +kernel)
set_option maxRecDepth 20000 in
theorem gX3_first_X3_isIn : GoodIn wsX3_first (wsV RX3 84 RX3 yX3_isIn wsX3_isIn) := goodIn_app (goodIn_of _ (by decide +kernel)) ggX3_first_X3_isIn
theorem dX3_first_0 : decode cX3_first 0 = .ok (.iconst 0, 1) := by decide +kernel
theorem dX3_first_1 : decode cX3_first 1 = .ok (.istore_n 1, 1) := by decide +kernel
theorem dX3_first_2 : decode cX3_first 2 = .ok (.iload_n 1, 1) := by decide +kernel
theorem dX3_first_3 : decode cX3_first 3 = .ok (.aload_n 0, 1) := by decide +kernel
theorem dX3_first_4 : decode cX3_first 4 = .ok (.getfield 16, 3) := by decide +kernel
theorem dX3_first_7 : decode cX3_first 7 = .ok (.if_icmp .ge 42, 3) := by decide +kernel
theorem dX3_first_10 : decode cX3_first 10 = .ok (.aload_n 0, 1) := by decide +kernel
theorem dX3_first_11 : decode cX3_first 11 = .ok (.aload_n 0, 1) := by decide +kernel
theorem dX3_first_12 : decode cX3_first 12 = .ok (.getfield 9, 3) := by decide +kernel
theorem dX3_first_15 : decode cX3_first 15 = .ok (.iload_n 1, 1) := by decide +kernel
theorem dX3_first_16 : decode cX3_first 16 = .ok (.iaload, 1) := by decide +kernel
theorem dX3_first_17 : decode cX3_first 17 = .ok (.invokevirtual 84, 3) := by decide +kernel
theorem dX3_first_20 : decode cX3_first 20 = .ok (.ifCond .ne 29, 3) := by decide +kernel
theorem dX3_first_23 : decode cX3_first 23 = .ok (.aload_n 0, 1) := by decide +kernel
theorem dX3_first_24 : decode cX3_first 24 = .ok (.getfield 56, 3) := by decide +kernel
theorem dX3_first_27 : decode cX3_first 27 = .ok (.ifCond .eq 16, 3) := by decide +kernel
theorem dX3_first_30 : decode cX3_first 30 = .ok (.aload_n 0, 1) := by decide +kernel
theorem dX3_first_31 : decode cX3_first 31 = .ok (.getfield 9, 3) := by decide +kernel
theorem dX3_first_34 : decode cX3_first 34 = .ok (.iload_n 1, 1) := by decide +kernel
theorem dX3_first_35 : decode cX3_first 35 = .ok (.iaload, 1) := by decide +kernel
theorem dX3_first_36 : decode cX3_first 36 = .ok (.aload_n 0, 1) := by decide +kernel
theorem dX3_first_37 : decode cX3_first 37 = .ok (.getfield 78, 3) := by decide +kernel
theorem dX3_first_40 : decode cX3_first 40 = .ok (.if_icmp .gt 9, 3) := by decide +kernel
theorem dX3_first_43 : decode cX3_first 43 = .ok (.iinc 1 1, 3) := by decide +kernel
theorem dX3_first_46 : decode cX3_first 46 = .ok (.goto (-44), 3) := by decide +kernel
theorem dX3_first_49 : decode cX3_first 49 = .ok (.iload_n 1, 1) := by decide +kernel
theorem dX3_first_50 : decode cX3_first 50 = .ok (.ireturn, 1) := by decide +kernel
set_option maxRecDepth 20000 in
theorem ggX3_behind_X3_first : GoodIn wsX3_behind wsX3_first := goodIn_r _ [7, 1, 2, 8, 9, 10, 11, 12, 6, 13, 14, 15, 16, 17, 18, 19, 20, 21, 22, 23, 24, 25, 26, 27] (by decide +kernel) (by decide +kernel)
set_option maxRecDepth 20000 in
theorem gX3_behind_X3_first : GoodIn wsX3_behind (wsV RX3 96 RX3 yX3_first wsX3_first) := goodIn_app (goodIn_of _ (by decide +kernel)) ggX3_behind_X3_first
set_option maxRecDepth 20000 in
theorem ggX3_behind_X3_isIn : GoodIn wsX3_behind wsX3_isIn := goodIn_r _ [13, 14, 15, 16, 8, 9, 17, 18, 19, 20, 21, 22, 23, 24, 25, 26, 27] (by decide +kernel) (by decide +kernel)
set_option maxRecDepth 20000 in
theorem gX3_behind_X3_isIn : GoodIn wsX3_behind (wsV RX3 84 RX3 yX3_isIn wsX3_isIn) := goodIn_app (goodIn_of _ (by decide +kernel)) ggX3_behind_X3_isIn
theorem dX3_behind_0 : decode cX3_behind 0 = .ok (.aload_n 0, 1) := by decide +kernel
theorem dX3_behind_1 : decode cX3_behind 1 = .ok (.invokevirtual 96, 3) := by decide +kernel
theorem dX3_behind_4 : decode cX3_behind 4 = .ok (.istore_n 1, 1) := by decide +kernel
theorem dX3_behind_5 : decode cX3_behind 5 = .ok (.iload_n 1, 1) := by decide +kernel
theorem dX3_behind_6 : decode cX3_behind 6 = .ok (.aload_n 0, 1) := by decide +kernel
theorem dX3_behind_7 : decode cX3_behind 7 = .ok (.getfield 16, 3) := by decide +kernel
theorem dX3_behind_10 : decode cX3_behind 10 = .ok (.if_icmp .ge 22, 3) := by decide +kernel
theorem dX3_behind_13 : decode cX3_behind 13 = .ok (.aload_n 0, 1) := by decide +kernel
theorem dX3_behind_14 : decode cX3_behind 14 = .ok (.aload_n 0, 1) := by decide +kernel
theorem dX3_behind_15 : decode cX3_behind 15 = .ok (.getfield 9, 3) := by decide +kernel
theorem dX3_behind_18 : decode cX3_behind 18 = .ok (.iload_n 1, 1) := by decide +kernel
theorem dX3_behind_19 : decode cX3_behind 19 = .ok (.iaload, 1) := by decide +kernel
theorem dX3_behind_20 : decode cX3_behind 20 = .ok (.invokevirtual 84, 3) := by decide +kernel
theorem dX3_behind_23 : decode cX3_behind 23 = .ok (.ifCond .eq 9, 3) := by decide +kernel
theorem dX3_behind_26 : decode cX3_behind 26 = .ok (.iinc 1 1, 3) := by decide +kernel
theorem dX3_behind_29 : decode cX3_behind 29 = .ok (.goto (-24), 3) := by decide +kernel
theorem dX3_behind_32 : decode cX3_behind 32 = .ok (.iload_n 1, 1) := by decide +kernel
theorem dX3_behind_33 : decode cX3_behind 33 = .ok (.ireturn, 1) := by decide +kernel
set_option maxRecDepth 20000 in
theorem ggX3_viewSize_X3_behind : GoodIn wsX3_viewSize wsX3_behind := goodIn_r _ [5, 6, 7, 8, 9, 10, 4, 11, 12, 13, 14, 15, 16, 17, 18, 19, 20, 21, 22, 23, 24, 25, 26, 27, 28, 29, 30, 31] (by decide +kernel) (by decide +kernel)
set_option maxRecDepth 20000 in
theorem gX3_viewSize_X3_behind : GoodIn wsX3_viewSize (wsV RX3 99 RX3 yX3_behind wsX3_behind) := goodIn_app (goodIn_of _ (by decide +kernel)) ggX3_viewSize_X3_behind
set_option maxRecDepth 20000 in
theorem ggX3_viewSize_X3_first : GoodIn wsX3_viewSize wsX3_first := goodIn_r _ [11, 6, 7, 12, 13, 14, 15, 16, 4, 17, 18, 19, 20, 21, 22, 23, 24, 25, 26, 27, 28, 29, 30, 31] (by decide +kernel) (by decide +kernel)
set_option maxRecDepth 20000 in
theorem gX3_viewSize_X3_first : GoodIn wsX3_viewSize (wsV RX3 96 RX3 yX3_first wsX3_first) := goodIn_app (goodIn_of _ (by decide +kernel)) ggX3_viewSize_X3_first
theorem dX3_viewSize_0 : decode cX3_viewSize 0 = .ok (.aload_n 0, 1) := by decide +kernel
theorem dX3_viewSize_1 : decode cX3_viewSize 1 = .ok (.invokevirtual 99, 3) := by decide +kernel
theorem dX3_viewSize_4 : decode cX3_viewSize 4 = .ok (.aload_n 0, 1) := by decide +kernel
theorem dX3_viewSize_5 : decode cX3_viewSize 5 = .ok (.invokevirtual 96, 3) := by decide +kernel
theorem dX3_viewSize_8 : decode cX3_viewSize 8 = .ok (.isub, 1) := by decide +kernel
theorem dX3_viewSize_9 : decode cX3_viewSize 9 = .ok (.ireturn, 1) := by decide +kernel
set_option maxRecDepth 20000 in
theorem ggX3_viewPut_X3_isIn : GoodIn wsX3_viewPut wsX3_isIn := goodIn_r _ [6, 7, 8, 9, 10, 11, 12, 52, 53, 54, 55, 56, 57, 58, 59, 60, 61] (by decide +kernel) (by decide +kernel)
set_option maxRecDepth 20000 in
theorem gX3_viewPut_X3_isIn : GoodIn wsX3_viewPut (wsV RX3 84 RX3 yX3_isIn wsX3_isIn) := goodIn_app (goodIn_of _ (by decide +kernel)) ggX3_viewPut_X3_isIn
set_option maxRecDepth 20000 in
theorem ggX3_viewPut_X3_put : GoodIn wsX3_viewPut wsX3_put := goodIn_r _ [16, 17, 18, 19, 20, 21, 5, 22, 23, 24, 25, 26, 27, 28, 29, 30, 31, 32, 33, 34, 35, 36, 37, 38, 39, 40, 41, 42, 43, 44, 45, 46, 47, 48, 49, 50, 51, 52, 53, 54, 55, 56, 57, 58, 59, 60, 61] (by decide +kernel) (by decide +kernel)
set_option maxRecDepth 20000 in
theorem gX3_viewPut_X3_put : GoodIn wsX3_viewPut (wsV RX3 102 RX3 yX3_put wsX3_put) := goodIn_app (goodIn_of _ (by decide +kernel)) ggX3_viewPut_X3_put
theorem dX3_viewPut_0 : decode cX3_viewPut 0 = .ok (.aload_n 0, 1) := by decide +kernel
theorem dX3_viewPut_1 : decode cX3_viewPut 1 = .ok (.iload_n 1, 1) := by decide +kernel
theorem dX3_viewPut_2 : decode cX3_viewPut 2 = .ok (.invokevirtual 84, 3) := by decide +kernel
theorem dX3_viewPut_5 : decode cX3_viewPut 5 = .ok (.ifCond .eq 12, 3) := by decide +kernel
theorem dX3_viewPut_8 : decode cX3_viewPut 8 = .ok (.aload_n 0, 1) := by decide +kernel
theorem dX3_viewPut_9 : decode cX3_viewPut 9 = .ok (.iload_n 1, 1) := by decide +kernel
theorem dX3_viewPut_10 : decode cX3_viewPut 10 = .ok (.iload_n 2, 1) := by decide +kernel
theorem dX3_viewPut_11 : decode cX3_viewPut 11 = .ok (.invokevirtual 102, 3) := by decide +kernel
theorem dX3_viewPut_14 : decode cX3_viewPut 14 = .ok (.goto 6, 3) := by decide +kernel
theorem dX3_viewPut_17 : decode cX3_viewPut 17 = .ok (.ldc2_w 106, 3) := by decide +kernel
theorem dX3_viewPut_20 : decode cX3_viewPut 20 = .ok (.lreturn, 1) := by decide +kernel
set_option maxRecDepth 20000 in
theorem ggX3_viewGet_X3_isIn : GoodIn wsX3_viewGet wsX3_isIn := goodIn_r _ [6, 7, 8, 9, 10, 11, 12, 28, 29, 30, 31, 32, 33, 34, 35, 36, 37] (by decide +kernel) (by decide +kernel)
set_option maxRecDepth 20000 in
theorem gX3_viewGet_X3_isIn : GoodIn wsX3_viewGet (wsV RX3 84 RX3 yX3_isIn wsX3_isIn) := goodIn_app (goodIn_of _ (by decide +kernel)) ggX3_viewGet_X3_isIn
set_option maxRecDepth 20000 in
theorem ggX3_viewGet_X3_get : GoodIn wsX3_viewGet wsX3_get := goodIn_r _ [16, 17, 1, 18, 19, 20, 5, 21, 22, 23, 24, 25, 26, 27, 28, 29, 30, 31, 32, 33, 34, 35, 36, 37] (by decide +kernel) (by decide +kernel)
set_option maxRecDepth 20000 in
theorem gX3_viewGet_X3_get : GoodIn wsX3_viewGet (wsV RX3 108 RX3 yX3_get wsX3_get) := goodIn_app (goodIn_of _ (by decide +kernel)) ggX3_viewGet_X3_get
theorem dX3_viewGet_0 : decode cX3_viewGet 0 = .ok (.aload_n 0, 1) := by decide +kernel
theorem dX3_viewGet_1 : decode cX3_viewGet 1 = .ok (.iload_n 1, 1) := by decide +kernel
theorem dX3_viewGet_2 : decode cX3_viewGet 2 = .ok (.invokevirtual 84, 3) := by decide +kernel
theorem dX3_viewGet_5 : decode cX3_viewGet 5 = .ok (.ifCond .eq 11, 3) := by decide +kernel
theorem dX3_viewGet_8 : decode cX3_viewGet 8 = .ok (.aload_n 0, 1) := by decide +kernel
theorem dX3_viewGet_9 : decode cX3_viewGet 9 = .ok (.iload_n 1, 1) := by decide +kernel
theorem dX3_viewGet_10 : decode cX3_viewGet 10 = .ok (.invokevirtual 108, 3) := by decide +kernel
theorem dX3_viewGet_13 : decode cX3_viewGet 13 = .ok (.goto 6, 3) := by decide +kernel
theorem dX3_viewGet_16 : decode cX3_viewGet 16 = .ok (.ldc2_w 38, 3) := by decide +kernel
theorem dX3_viewGet_19 : decode cX3_viewGet 19 = .ok (.lreturn, 1) := by decide +kernel
set_option maxRecDepth 20000 in
theorem ggX3_viewRemove_X3_isIn : GoodIn wsX3_viewRemove wsX3_isIn := goodIn_r _ [6, 7, 8, 9, 10, 11, 12, 32, 33, 34, 35, 36, 37, 38, 39, 40, 41] (by decide +kernel) (by decide +kernel)
set_option maxRecDepth 20000 in
theorem gX3_viewRemove_X3_isIn : GoodIn wsX3_viewRemove (wsV RX3 84 RX3 yX3_isIn wsX3_isIn) := goodIn_app (goodIn_of _ (by decide +kernel)) ggX3_viewRemove_X3_isIn
set_option maxRecDepth 20000 in
theorem ggX3_viewRemove_X3_remove : GoodIn wsX3_viewRemove wsX3_remove := goodIn_r _ [16, 1, 17, 18, 19, 20, 5, 21, 22, 23, 24, 25, 26, 27, 28, 29, 30, 31, 32, 33, 34, 35, 36, 37, 38, 39, 40, 41] (by decide +kernel) (by decide +kernel)
set_option maxRecDepth 20000 in
theorem gX3_viewRemove_X3_remove : GoodIn wsX3_viewRemove (wsV RX3 112 RX3 yX3_remove wsX3_remove) := goodIn_app (goodIn_of _ (by decide +kernel)) ggX3_viewRemove_X3_remove
theorem dX3_viewRemove_0 : decode cX3_viewRemove 0 = .ok (.aload_n 0, 1) := by decide +kernel
theorem dX3_viewRemove_1 : decode cX3_viewRemove 1 = .ok (.iload_n 1, 1) := by decide +kernel
theorem dX3_viewRemove_2 : decode cX3_viewRemove 2 = .ok (.invokevirtual 84, 3) := by decide +kernel
theorem dX3_viewRemove_5 : decode cX3_viewRemove 5 = .ok (.ifCond .eq 11, 3) := by decide +kernel
theorem dX3_viewRemove_8 : decode cX3_viewRemove 8 = .ok (.aload_n 0, 1) := by decide +kernel
theorem dX3_viewRemove_9 : decode cX3_viewRemove 9 = .ok (.iload_n 1, 1) := by decide +kernel
theorem dX3_viewRemove_10 : decode cX3_viewRemove 10 = .ok (.invokevirtual 112, 3) := by decide +kernel
theorem dX3_viewRemove_13 : decode cX3_viewRemove 13 = .ok (.goto 6, 3) := by decide +kernel
theorem dX3_viewRemove_16 : decode cX3_viewRemove 16 = .ok (.ldc2_w 38, 3) := by decide +kernel
theorem dX3_viewRemove_19 : decode cX3_viewRemove 19 = .ok (.lreturn, 1) := by decide +kernel
set_option maxRecDepth 20000 in
theorem ggX3_viewNear_X3_first : GoodIn wsX3_viewNear wsX3_first := goodIn_r _ [7, 8, 9, 10, 11, 12, 13, 14, 6, 15, 16, 17, 18, 19, 32, 33, 34, 35, 36, 37, 38, 39, 40, 41] (by decide +kernel) (by decide +kernel)
set_option maxRecDepth 20000 in
theorem gX3_viewNear_X3_first : GoodIn wsX3_viewNear (wsV RX3 96 RX3 yX3_first wsX3_first) := goodIn_app (goodIn_of _ (by decide +kernel)) ggX3_viewNear_X3_first
set_option maxRecDepth 20000 in
theorem ggX3_viewNear_X3_behind : GoodIn wsX3_viewNear wsX3_behind := goodIn_r _ [23, 8, 9, 3, 4, 5, 6, 7, 10, 11, 12, 13, 14, 15, 16, 17, 18, 19, 32, 33, 34, 35, 36, 37, 38, 39, 40, 41] (by decide +kernel) (by decide +kernel)
set_option maxRecDepth 20000 in
theorem gX3_viewNear_X3_behind : GoodIn wsX3_viewNear (wsV RX3 99 RX3 yX3_behind wsX3_behind) := goodIn_app (goodIn_of _ (by decide +kernel)) ggX3_viewNear_X3_behind
set_option maxRecDepth 20000 in
theorem ggX3_viewNear_X3_near : GoodIn wsX3_viewNear wsX3_near := goodIn_r _ [27, 9, 1, 28, 29, 30, 6, 31, 32, 33, 34, 35, 36, 37, 38, 39, 40, 41] (by decide +kernel) (by decide +kernel)
set_option maxRecDepth 20000 in
theorem gX3_viewNear_X3_near : GoodIn wsX3_viewNear (wsV RX3 48 RX3 yX3_near wsX3_near) := goodIn_app (goodIn_of _ (by decide +kernel)) ggX3_viewNear_X3_near
theorem dX3_viewNear_0 : decode cX3_viewNear 0 = .ok (.iload_n 1, 1) := by decide +kernel
theorem dX3_viewNear_1 : decode cX3_viewNear 1 = .ok (.ifCond .lt 8, 3) := by decide +kernel
theorem dX3_viewNear_4 : decode cX3_viewNear 4 = .ok (.iload_n 1, 1) := by decide +kernel
theorem dX3_viewNear_5 : decode cX3_viewNear 5 = .ok (.iconst 5, 1) := by decide +kernel
theorem dX3_viewNear_6 : decode cX3_viewNear 6 = .ok (.if_icmp .le 7, 3) := by decide +kernel
theorem dX3_viewNear_9 : decode cX3_viewNear 9 = .ok (.ldc2_w 38, 3) := by decide +kernel
theorem dX3_viewNear_12 : decode cX3_viewNear 12 = .ok (.lreturn, 1) := by decide +kernel
theorem dX3_viewNear_13 : decode cX3_viewNear 13 = .ok (.aload_n 0, 1) := by decide +kernel
theorem dX3_viewNear_14 : decode cX3_viewNear 14 = .ok (.aload_n 0, 1) := by decide +kernel
theorem dX3_viewNear_15 : decode cX3_viewNear 15 = .ok (.getfield 59, 3) := by decide +kernel
theorem dX3_viewNear_18 : decode cX3_viewNear 18 = .ok (.ifCond .eq 9, 3) := by decide +kernel
theorem dX3_viewNear_21 : decode cX3_viewNear 21 = .ok (.iload_n 1, 1) := by decide +kernel
theorem dX3_viewNear_22 : decode cX3_viewNear 22 = .ok (.iconst 1, 1) := by decide +kernel
theorem dX3_viewNear_23 : decode cX3_viewNear 23 = .ok (.ixor, 1) := by decide +kernel
theorem dX3_viewNear_24 : decode cX3_viewNear 24 = .ok (.goto 4, 3) := by decide +kernel
theorem dX3_viewNear_27 : decode cX3_viewNear 27 = .ok (.iload_n 1, 1) := by decide +kernel
theorem dX3_viewNear_28 : decode cX3_viewNear 28 = .ok (.iload_n 2, 1) := by decide +kernel
theorem dX3_viewNear_29 : decode cX3_viewNear 29 = .ok (.aload_n 0, 1) := by decide +kernel
theorem dX3_viewNear_30 : decode cX3_viewNear 30 = .ok (.invokevirtual 96, 3) := by decide +kernel
theorem dX3_viewNear_33 : decode cX3_viewNear 33 = .ok (.aload_n 0, 1) := by decide +kernel
theorem dX3_viewNear_34 : decode cX3_viewNear 34 = .ok (.invokevirtual 99, 3) := by decide +kernel
theorem dX3_viewNear_37 : decode cX3_viewNear 37 = .ok (.invokevirtual 48, 3) := by decide +kernel
theorem dX3_viewNear_40 : decode cX3_viewNear 40 = .ok (.lreturn, 1) := by decide +kernel
set_option maxRecDepth 20000 in
theorem ggX3_viewPoll_X3_first : GoodIn wsX3_viewPoll wsX3_first := goodIn_r _ [8, 9, 3, 10, 11, 12, 13, 14, 7, 15, 16, 17, 18, 19, 29, 30, 31, 32, 33, 34, 35, 36, 37, 38] (by decide +kernel) (by decide +kernel)
set_option maxRecDepth 20000 in
theorem gX3_viewPoll_X3_first : GoodIn wsX3_viewPoll (wsV RX3 96 RX3 yX3_first wsX3_first) := goodIn_app (goodIn_of _ (by decide +kernel)) ggX3_viewPoll_X3_first
set_option maxRecDepth 20000 in
theorem ggX3_viewPoll_X3_behind : GoodIn wsX3_viewPoll wsX3_behind := goodIn_r _ [23, 9, 3, 4, 5, 6, 7, 8, 10, 11, 12, 13, 14, 15, 16, 17, 18, 19, 29, 30, 31, 32, 33, 34, 35, 36, 37, 38] (by decide +kernel) (by decide +kernel)
set_option maxRecDepth 20000 in
theorem gX3_viewPoll_X3_behind : GoodIn wsX3_viewPoll (wsV RX3 99 RX3 yX3_behind wsX3_behind) := goodIn_app (goodIn_of _ (by decide +kernel)) ggX3_viewPoll_X3_behind
set_option maxRecDepth 20000 in
theorem ggX3_viewPoll_X3_delete : GoodIn wsX3_viewPoll wsX3_delete := goodIn_r _ [27, 9, 3, 28, 29, 30, 31, 32, 33, 34, 35, 36, 37, 38] (by decide +kernel) (by decide +kernel)
set_option maxRecDepth 20000 in
theorem gX3_viewPoll_X3_delete : GoodIn wsX3_viewPoll (wsV RX3 40 RX3 yX3_delete wsX3_delete) := goodIn_app (goodIn_of _ (by decide +kernel)) ggX3_viewPoll_X3_delete
theorem dX3_viewPoll_0 : decode cX3_viewPoll 0 = .ok (.aload_n 0, 1) := by decide +kernel
theorem dX3_viewPoll_1 : decode cX3_viewPoll 1 = .ok (.invokevirtual 96, 3) := by decide +kernel
theorem dX3_viewPoll_4 : decode cX3_viewPoll 4 = .ok (.istore_n 2, 1) := by decide +kernel
theorem dX3_viewPoll_5 : decode cX3_viewPoll 5 = .ok (.aload_n 0, 1) := by decide +kernel
theorem dX3_viewPoll_6 : decode cX3_viewPoll 6 = .ok (.invokevirtual 99, 3) := by decide +kernel
theorem dX3_viewPoll_9 : decode cX3_viewPoll 9 = .ok (.istore_n 3, 1) := by decide +kernel
theorem dX3_viewPoll_10 : decode cX3_viewPoll 10 = .ok (.iload_n 2, 1) := by decide +kernel
theorem dX3_viewPoll_11 : decode cX3_viewPoll 11 = .ok (.iload_n 3, 1) := by decide +kernel
theorem dX3_viewPoll_12 : decode cX3_viewPoll 12 = .ok (.if_icmp .ne 7, 3) := by decide +kernel
theorem dX3_viewPoll_15 : decode cX3_viewPoll 15 = .ok (.ldc2_w 38, 3) := by decide +kernel
theorem dX3_viewPoll_18 : decode cX3_viewPoll 18 = .ok (.lreturn, 1) := by decide +kernel
theorem dX3_viewPoll_19 : decode cX3_viewPoll 19 = .ok (.iload_n 1, 1) := by decide +kernel
theorem dX3_viewPoll_20 : decode cX3_viewPoll 20 = .ok (.aload_n 0, 1) := by decide +kernel
theorem dX3_viewPoll_21 : decode cX3_viewPoll 21 = .ok (.getfield 59, 3) := by decide +kernel
theorem dX3_viewPoll_24 : decode cX3_viewPoll 24 = .ok (.if_icmp .eq 9, 3) := by decide +kernel
theorem dX3_viewPoll_27 : decode cX3_viewPoll 27 = .ok (.iload_n 3, 1) := by decide +kernel
theorem dX3_viewPoll_28 : decode cX3_viewPoll 28 = .ok (.iconst 1, 1) := by decide +kernel
theorem dX3_viewPoll_29 : decode cX3_viewPoll 29 = .ok (.isub, 1) := by decide +kernel
theorem dX3_viewPoll_30 : decode cX3_viewPoll 30 = .ok (.goto 4, 3) := by decide +kernel
theorem dX3_viewPoll_33 : decode cX3_viewPoll 33 = .ok (.iload_n 2, 1) := by decide +kernel
theorem dX3_viewPoll_34 : decode cX3_viewPoll 34 = .ok (.istore 4, 2) := by decide +kernel
theorem dX3_viewPoll_36 : decode cX3_viewPoll 36 = .ok (.aload_n 0, 1) := by decide +kernel
theorem dX3_viewPoll_37 : decode cX3_viewPoll 37 = .ok (.getfield 9, 3) := by decide +kernel
theorem dX3_viewPoll_40 : decode cX3_viewPoll 40 = .ok (.iload 4, 2) := by decide +kernel
theorem dX3_viewPoll_42 : decode cX3_viewPoll 42 = .ok (.iaload, 1) := by decide +kernel
theorem dX3_viewPoll_43 : decode cX3_viewPoll 43 = .ok (.istore 5, 2) := by decide +kernel
theorem dX3_viewPoll_45 : decode cX3_viewPoll 45 = .ok (.aload_n 0, 1) := by decide +kernel
theorem dX3_viewPoll_46 : decode cX3_viewPoll 46 = .ok (.iload 4, 2) := by decide +kernel
theorem dX3_viewPoll_48 : decode cX3_viewPoll 48 = .ok (.invokevirtual 40, 3) := by decide +kernel
theorem dX3_viewPoll_51 : decode cX3_viewPoll 51 = .ok (.iload 5, 2) := by decide +kernel
theorem dX3_viewPoll_53 : decode cX3_viewPoll 53 = .ok (.i2l, 1) := by decide +kernel
theorem dX3_viewPoll_54 : decode cX3_viewPoll 54 = .ok (.lreturn, 1) := by decide +kernel
set_option maxRecDepth 20000 in
theorem ggX3_viewKey_X3_first : GoodIn wsX3_viewKey wsX3_first := goodIn_r _ [8, 9, 2, 10, 11, 12, 13, 14, 7, 15, 16, 17, 18, 19, 24, 25, 26, 27, 28, 29, 30, 31, 32, 33] (by decide +kernel) (by decide +kernel)
set_option maxRecDepth 20000 in
theorem gX3_viewKey_X3_first : GoodIn wsX3_viewKey (wsV RX3 96 RX3 yX3_first wsX3_first) := goodIn_app (goodIn_of _ (by decide +kernel)) ggX3_viewKey_X3_first
set_option maxRecDepth 20000 in
theorem ggX3_viewKey_X3_behind : GoodIn wsX3_viewKey wsX3_behind := goodIn_r _ [23, 9, 2, 4, 5, 6, 7, 8, 10, 11, 12, 13, 14, 15, 16, 17, 18, 19, 24, 25, 26, 27, 28, 29, 30, 31, 32, 33] (by decide +kernel) (by decide +kernel)
set_option maxRecDepth 20000 in
theorem gX3_viewKey_X3_behind : GoodIn wsX3_viewKey (wsV RX3 99 RX3 yX3_behind wsX3_behind) := goodIn_app (goodIn_of _ (by decide +kernel)) ggX3_viewKey_X3_behind
theorem dX3_viewKey_0 : decode cX3_viewKey 0 = .ok (.aload_n 0, 1) := by decide +kernel
theorem dX3_viewKey_1 : decode cX3_viewKey 1 = .ok (.invokevirtual 96, 3) := by decide +kernel
theorem dX3_viewKey_4 : decode cX3_viewKey 4 = .ok (.istore_n 2, 1) := by decide +kernel
theorem dX3_viewKey_5 : decode cX3_viewKey 5 = .ok (.aload_n 0, 1) := by decide +kernel
theorem dX3_viewKey_6 : decode cX3_viewKey 6 = .ok (.invokevirtual 99, 3) := by decide +kernel
theorem dX3_viewKey_9 : decode cX3_viewKey 9 = .ok (.istore_n 3, 1) := by decide +kernel
theorem dX3_viewKey_10 : decode cX3_viewKey 10 = .ok (.iload_n 1, 1) := by decide +kernel
theorem dX3_viewKey_11 : decode cX3_viewKey 11 = .ok (.ifCond .lt 10, 3) := by decide +kernel
theorem dX3_viewKey_14 : decode cX3_viewKey 14 = .ok (.iload_n 1, 1) := by decide +kernel
theorem dX3_viewKey_15 : decode cX3_viewKey 15 = .ok (.iload_n 3, 1) := by decide +kernel
theorem dX3_viewKey_16 : decode cX3_viewKey 16 = .ok (.iload_n 2, 1) := by decide +kernel
theorem dX3_viewKey_17 : decode cX3_viewKey 17 = .ok (.isub, 1) := by decide +kernel
theorem dX3_viewKey_18 : decode cX3_viewKey 18 = .ok (.if_icmp .lt 7, 3) := by decide +kernel
theorem dX3_viewKey_21 : decode cX3_viewKey 21 = .ok (.ldc2_w 38, 3) := by decide +kernel
theorem dX3_viewKey_24 : decode cX3_viewKey 24 = .ok (.lreturn, 1) := by decide +kernel
theorem dX3_viewKey_25 : decode cX3_viewKey 25 = .ok (.aload_n 0, 1) := by decide +kernel
theorem dX3_viewKey_26 : decode cX3_viewKey 26 = .ok (.getfield 9, 3) := by decide +kernel
theorem dX3_viewKey_29 : decode cX3_viewKey 29 = .ok (.aload_n 0, 1) := by decide +kernel
theorem dX3_viewKey_30 : decode cX3_viewKey 30 = .ok (.getfield 59, 3) := by decide +kernel
theorem dX3_viewKey_33 : decode cX3_viewKey 33 = .ok (.ifCond .eq 11, 3) := by decide +kernel
theorem dX3_viewKey_36 : decode cX3_viewKey 36 = .ok (.iload_n 3, 1) := by decide +kernel
theorem dX3_viewKey_37 : decode cX3_viewKey 37 = .ok (.iconst 1, 1) := by decide +kernel
theorem dX3_viewKey_38 : decode cX3_viewKey 38 = .ok (.isub, 1) := by decide +kernel
theorem dX3_viewKey_39 : decode cX3_viewKey 39 = .ok (.iload_n 1, 1) := by decide +kernel
theorem dX3_viewKey_40 : decode cX3_viewKey 40 = .ok (.isub, 1) := by decide +kernel
theorem dX3_viewKey_41 : decode cX3_viewKey 41 = .ok (.goto 6, 3) := by decide +kernel
theorem dX3_viewKey_44 : decode cX3_viewKey 44 = .ok (.iload_n 2, 1) := by decide +kernel
theorem dX3_viewKey_45 : decode cX3_viewKey 45 = .ok (.iload_n 1, 1) := by decide +kernel
theorem dX3_viewKey_46 : decode cX3_viewKey 46 = .ok (.iadd, 1) := by decide +kernel
theorem dX3_viewKey_47 : decode cX3_viewKey 47 = .ok (.iaload, 1) := by decide +kernel
theorem dX3_viewKey_48 : decode cX3_viewKey 48 = .ok (.i2l, 1) := by decide +kernel
theorem dX3_viewKey_49 : decode cX3_viewKey 49 = .ok (.lreturn, 1) := by decide +kernel
set_option maxRecDepth 20000 in
theorem ggX3_walk_X3_first : GoodIn wsX3_walk wsX3_first := goodIn_r _ [7, 8, 1, 9, 10, 11, 12, 13, 6, 14, 15, 16, 17, 18, 23, 24, 25, 26, 27, 28, 29, 30, 31, 32] (by decide +kernel) (by decide +kernel)
set_option maxRecDepth 20000 in
theorem gX3_walk_X3_first : GoodIn wsX3_walk (wsV RX3 96 RX3 yX3_first wsX3_first) := goodIn_app (goodIn_of _ (by decide +kernel)) ggX3_walk_X3_first
set_option maxRecDepth 20000 in
theorem ggX3_walk_X3_behind : GoodIn wsX3_walk wsX3_behind := goodIn_r _ [22, 8, 1, 3, 4, 5, 6, 7, 9, 10, 11, 12, 13, 14, 15, 16, 17, 18, 23, 24, 25, 26, 27, 28, 29, 30, 31, 32] (by decide +kernel) (by decide +kernel)
set_option maxRecDepth 20000 in
theorem gX3_walk_X3_behind : GoodIn wsX3_walk (wsV RX3 99 RX3 yX3_behind wsX3_behind) := goodIn_app (goodIn_of _ (by decide +kernel)) ggX3_walk_X3_behind
theorem dX3_walk_0 : decode cX3_walk 0 = .ok (.aload_n 0, 1) := by decide +kernel
theorem dX3_walk_1 : decode cX3_walk 1 = .ok (.invokevirtual 96, 3) := by decide +kernel
theorem dX3_walk_4 : decode cX3_walk 4 = .ok (.istore_n 1, 1) := by decide +kernel
theorem dX3_walk_5 : decode cX3_walk 5 = .ok (.aload_n 0, 1) := by decide +kernel
theorem dX3_walk_6 : decode cX3_walk 6 = .ok (.invokevirtual 99, 3) := by decide +kernel
theorem dX3_walk_9 : decode cX3_walk 9 = .ok (.istore_n 2, 1) := by decide +kernel
theorem dX3_walk_10 : decode cX3_walk 10 = .ok (.lconst 0, 1) := by decide +kernel
theorem dX3_walk_11 : decode cX3_walk 11 = .ok (.lstore_n 3, 1) := by decide +kernel
theorem dX3_walk_12 : decode cX3_walk 12 = .ok (.iload_n 1, 1) := by decide +kernel
theorem dX3_walk_13 : decode cX3_walk 13 = .ok (.istore 5, 2) := by decide +kernel
theorem dX3_walk_15 : decode cX3_walk 15 = .ok (.iload 5, 2) := by decide +kernel
theorem dX3_walk_17 : decode cX3_walk 17 = .ok (.iload_n 2, 1) := by decide +kernel
theorem dX3_walk_18 : decode cX3_walk 18 = .ok (.if_icmp .ge 42, 3) := by decide +kernel
theorem dX3_walk_21 : decode cX3_walk 21 = .ok (.lload_n 3, 1) := by decide +kernel
theorem dX3_walk_22 : decode cX3_walk 22 = .ok (.aload_n 0, 1) := by decide +kernel
theorem dX3_walk_23 : decode cX3_walk 23 = .ok (.getfield 9, 3) := by decide +kernel
theorem dX3_walk_26 : decode cX3_walk 26 = .ok (.iload 5, 2) := by decide +kernel
theorem dX3_walk_28 : decode cX3_walk 28 = .ok (.iaload, 1) := by decide +kernel
theorem dX3_walk_29 : decode cX3_walk 29 = .ok (.i2l, 1) := by decide +kernel
theorem dX3_walk_30 : decode cX3_walk 30 = .ok (.aload_n 0, 1) := by decide +kernel
theorem dX3_walk_31 : decode cX3_walk 31 = .ok (.getfield 59, 3) := by decide +kernel
theorem dX3_walk_34 : decode cX3_walk 34 = .ok (.ifCond .eq 10, 3) := by decide +kernel
theorem dX3_walk_37 : decode cX3_walk 37 = .ok (.iload_n 2, 1) := by decide +kernel
theorem dX3_walk_38 : decode cX3_walk 38 = .ok (.iload 5, 2) := by decide +kernel
theorem dX3_walk_40 : decode cX3_walk 40 = .ok (.isub, 1) := by decide +kernel
theorem dX3_walk_41 : decode cX3_walk 41 = .ok (.goto 9, 3) := by decide +kernel
theorem dX3_walk_44 : decode cX3_walk 44 = .ok (.iload 5, 2) := by decide +kernel
theorem dX3_walk_46 : decode cX3_walk 46 = .ok (.iload_n 1, 1) := by decide +kernel
theorem dX3_walk_47 : decode cX3_walk 47 = .ok (.isub, 1) := by decide +kernel
theorem dX3_walk_48 : decode cX3_walk 48 = .ok (.iconst 1, 1) := by decide +kernel
theorem dX3_walk_49 : decode cX3_walk 49 = .ok (.iadd, 1) := by decide +kernel
theorem dX3_walk_50 : decode cX3_walk 50 = .ok (.i2l, 1) := by decide +kernel
theorem dX3_walk_51 : decode cX3_walk 51 = .ok (.lmul, 1) := by decide +kernel
theorem dX3_walk_52 : decode cX3_walk 52 = .ok (.ladd, 1) := by decide +kernel
theorem dX3_walk_53 : decode cX3_walk 53 = .ok (.lstore_n 3, 1) := by decide +kernel
theorem dX3_walk_54 : decode cX3_walk 54 = .ok (.iinc 5 1, 3) := by decide +kernel
theorem dX3_walk_57 : decode cX3_walk 57 = .ok (.goto (-42), 3) := by decide +kernel
theorem dX3_walk_60 : decode cX3_walk 60 = .ok (.lload_n 3, 1) := by decide +kernel
theorem dX3_walk_61 : decode cX3_walk 61 = .ok (.lreturn, 1) := by decide +kernel
set_option maxRecDepth 20000 in
theorem ggX3_sweep_X3_first : GoodIn wsX3_sweep wsX3_first := goodIn_r _ [6, 7, 1, 8, 9, 10, 11, 12, 5, 13, 14, 15, 16, 17, 31, 32, 33, 34, 35, 36, 37, 38, 39, 40] (by decide +kernel) (by decide +kernel)
set_option maxRecDepth 20000 in
theorem gX3_sweep_X3_first : GoodIn wsX3_sweep (wsV RX3 96 RX3 yX3_first wsX3_first) := goodIn_app (goodIn_of _ (by decide +kernel)) ggX3_sweep_X3_first
set_option maxRecDepth 20000 in
theorem ggX3_sweep_X3_behind : GoodIn wsX3_sweep wsX3_behind := goodIn_r _ [21, 7, 1, 2, 3, 4, 5, 6, 8, 9, 10, 11, 12, 13, 14, 15, 16, 17, 31, 32, 33, 34, 35, 36, 37, 38, 39, 40] (by decide +kernel) (by decide +kernel)
set_option maxRecDepth 20000 in
theorem gX3_sweep_X3_behind : GoodIn wsX3_sweep (wsV RX3 99 RX3 yX3_behind wsX3_behind) := goodIn_app (goodIn_of _ (by decide +kernel)) ggX3_sweep_X3_behind
set_option maxRecDepth 20000 in
theorem ggX3_sweep_J9_floorMod_7cf53 : GoodIn wsX3_sweep wsJ9_floorMod_7cf53 := goodIn_r _ [25] (by decide +kernel) (by decide +kernel)
set_option maxRecDepth 20000 in
theorem gX3_sweep_J9_floorMod_7cf53 : GoodIn wsX3_sweep (va_wsS RX3 115 yJ9_floorMod_7cf53 wsJ9_floorMod_7cf53) := goodIn_app (goodIn_of _ (by decide +kernel)) ggX3_sweep_J9_floorMod_7cf53
set_option maxRecDepth 20000 in
theorem ggX3_sweep_X3_delete : GoodIn wsX3_sweep wsX3_delete := goodIn_r _ [29, 7, 1, 30, 31, 32, 33, 34, 35, 36, 37, 38, 39, 40] (by decide +kernel) (by decide +kernel)
set_option maxRecDepth 20000 in
theorem gX3_sweep_X3_delete : GoodIn wsX3_sweep (wsV RX3 40 RX3 yX3_delete wsX3_delete) := goodIn_app (goodIn_of _ (by decide +kernel)) ggX3_sweep_X3_delete
theorem dX3_sweep_0 : decode cX3_sweep 0 = .ok (.iload_n 1, 1) := by decide +kernel
theorem dX3_sweep_1 : decode cX3_sweep 1 = .ok (.iconst 1, 1) := by decide +kernel
theorem dX3_sweep_2 : decode cX3_sweep 2 = .ok (.if_icmp .ge 5, 3) := by decide +kernel
theorem dX3_sweep_5 : decode cX3_sweep 5 = .ok (.iconst (-1), 1) := by decide +kernel
theorem dX3_sweep_6 : decode cX3_sweep 6 = .ok (.ireturn, 1) := by decide +kernel
theorem dX3_sweep_7 : decode cX3_sweep 7 = .ok (.aload_n 0, 1) := by decide +kernel
theorem dX3_sweep_8 : decode cX3_sweep 8 = .ok (.invokevirtual 96, 3) := by decide +kernel
theorem dX3_sweep_11 : decode cX3_sweep 11 = .ok (.istore_n 3, 1) := by decide +kernel
theorem dX3_sweep_12 : decode cX3_sweep 12 = .ok (.iconst 0, 1) := by decide +kernel
theorem dX3_sweep_13 : decode cX3_sweep 13 = .ok (.istore 4, 2) := by decide +kernel
theorem dX3_sweep_15 : decode cX3_sweep 15 = .ok (.aload_n 0, 1) := by decide +kernel
theorem dX3_sweep_16 : decode cX3_sweep 16 = .ok (.invokevirtual 99, 3) := by decide +kernel
theorem dX3_sweep_19 : decode cX3_sweep 19 = .ok (.iconst 1, 1) := by decide +kernel
theorem dX3_sweep_20 : decode cX3_sweep 20 = .ok (.isub, 1) := by decide +kernel
theorem dX3_sweep_21 : decode cX3_sweep 21 = .ok (.istore 5, 2) := by decide +kernel
theorem dX3_sweep_23 : decode cX3_sweep 23 = .ok (.iload 5, 2) := by decide +kernel
theorem dX3_sweep_25 : decode cX3_sweep 25 = .ok (.iload_n 3, 1) := by decide +kernel
theorem dX3_sweep_26 : decode cX3_sweep 26 = .ok (.if_icmp .lt 36, 3) := by decide +kernel
theorem dX3_sweep_29 : decode cX3_sweep 29 = .ok (.aload_n 0, 1) := by decide +kernel
theorem dX3_sweep_30 : decode cX3_sweep 30 = .ok (.getfield 9, 3) := by decide +kernel
theorem dX3_sweep_33 : decode cX3_sweep 33 = .ok (.iload 5, 2) := by decide +kernel
theorem dX3_sweep_35 : decode cX3_sweep 35 = .ok (.iaload, 1) := by decide +kernel
theorem dX3_sweep_36 : decode cX3_sweep 36 = .ok (.iload_n 1, 1) := by decide +kernel
theorem dX3_sweep_37 : decode cX3_sweep 37 = .ok (.invokestatic 115, 3) := by decide +kernel
theorem dX3_sweep_40 : decode cX3_sweep 40 = .ok (.iload_n 2, 1) := by decide +kernel
theorem dX3_sweep_41 : decode cX3_sweep 41 = .ok (.if_icmp .eq 6, 3) := by decide +kernel
theorem dX3_sweep_44 : decode cX3_sweep 44 = .ok (.goto 12, 3) := by decide +kernel
theorem dX3_sweep_47 : decode cX3_sweep 47 = .ok (.aload_n 0, 1) := by decide +kernel
theorem dX3_sweep_48 : decode cX3_sweep 48 = .ok (.iload 5, 2) := by decide +kernel
theorem dX3_sweep_50 : decode cX3_sweep 50 = .ok (.invokevirtual 40, 3) := by decide +kernel
theorem dX3_sweep_53 : decode cX3_sweep 53 = .ok (.iinc 4 1, 3) := by decide +kernel
theorem dX3_sweep_56 : decode cX3_sweep 56 = .ok (.iinc 5 (-1), 3) := by decide +kernel
theorem dX3_sweep_59 : decode cX3_sweep 59 = .ok (.goto (-36), 3) := by decide +kernel
theorem dX3_sweep_62 : decode cX3_sweep 62 = .ok (.iload 4, 2) := by decide +kernel
theorem dX3_sweep_64 : decode cX3_sweep 64 = .ok (.ireturn, 1) := by decide +kernel
set_option maxRecDepth 20000 in
theorem ggX3_viewClear_X3_first : GoodIn wsX3_viewClear wsX3_first := goodIn_r _ [5, 6, 7, 8, 9, 10, 11, 12, 4, 13, 14, 15, 16, 17, 27, 28, 29, 30, 31, 32, 33, 34, 35, 36] (by decide +kernel) (by decide +kernel)
set_option maxRecDepth 20000 in
theorem gX3_viewClear_X3_first : GoodIn wsX3_viewClear (wsV RX3 96 RX3 yX3_first wsX3_first) := goodIn_app (goodIn_of _ (by decide +kernel)) ggX3_viewClear_X3_first
set_option maxRecDepth 20000 in
theorem ggX3_viewClear_X3_behind : GoodIn wsX3_viewClear wsX3_behind := goodIn_r _ [21, 6, 7, 1, 2, 3, 4, 5, 8, 9, 10, 11, 12, 13, 14, 15, 16, 17, 27, 28, 29, 30, 31, 32, 33, 34, 35, 36] (by decide +kernel) (by decide +kernel)
set_option maxRecDepth 20000 in
theorem gX3_viewClear_X3_behind : GoodIn wsX3_viewClear (wsV RX3 99 RX3 yX3_behind wsX3_behind) := goodIn_app (goodIn_of _ (by decide +kernel)) ggX3_viewClear_X3_behind
set_option maxRecDepth 20000 in
theorem ggX3_viewClear_X3_delete : GoodIn wsX3_viewClear wsX3_delete := goodIn_r _ [25, 6, 7, 26, 27, 28, 29, 30, 31, 32, 33, 34, 35, 36] (by decide +kernel) (by decide +kernel)
set_option maxRecDepth 20000 in
theorem gX3_viewClear_X3_delete : GoodIn wsX3_viewClear (wsV RX3 40 RX3 yX3_delete wsX3_delete) := goodIn_app (goodIn_of _ (by decide +kernel)) ggX3_viewClear_X3_delete
theorem dX3_viewClear_0 : decode cX3_viewClear 0 = .ok (.aload_n 0, 1) := by decide +kernel
theorem dX3_viewClear_1 : decode cX3_viewClear 1 = .ok (.invokevirtual 96, 3) := by decide +kernel
theorem dX3_viewClear_4 : decode cX3_viewClear 4 = .ok (.istore_n 1, 1) := by decide +kernel
theorem dX3_viewClear_5 : decode cX3_viewClear 5 = .ok (.aload_n 0, 1) := by decide +kernel
theorem dX3_viewClear_6 : decode cX3_viewClear 6 = .ok (.invokevirtual 99, 3) := by decide +kernel
theorem dX3_viewClear_9 : decode cX3_viewClear 9 = .ok (.iload_n 1, 1) := by decide +kernel
theorem dX3_viewClear_10 : decode cX3_viewClear 10 = .ok (.isub, 1) := by decide +kernel
theorem dX3_viewClear_11 : decode cX3_viewClear 11 = .ok (.istore_n 2, 1) := by decide +kernel
theorem dX3_viewClear_12 : decode cX3_viewClear 12 = .ok (.iconst 0, 1) := by decide +kernel
theorem dX3_viewClear_13 : decode cX3_viewClear 13 = .ok (.istore_n 3, 1) := by decide +kernel
theorem dX3_viewClear_14 : decode cX3_viewClear 14 = .ok (.iload_n 3, 1) := by decide +kernel
theorem dX3_viewClear_15 : decode cX3_viewClear 15 = .ok (.iload_n 2, 1) := by decide +kernel
theorem dX3_viewClear_16 : decode cX3_viewClear 16 = .ok (.if_icmp .ge 14, 3) := by decide +kernel
theorem dX3_viewClear_19 : decode cX3_viewClear 19 = .ok (.aload_n 0, 1) := by decide +kernel
theorem dX3_viewClear_20 : decode cX3_viewClear 20 = .ok (.iload_n 1, 1) := by decide +kernel
theorem dX3_viewClear_21 : decode cX3_viewClear 21 = .ok (.invokevirtual 40, 3) := by decide +kernel
theorem dX3_viewClear_24 : decode cX3_viewClear 24 = .ok (.iinc 3 1, 3) := by decide +kernel
theorem dX3_viewClear_27 : decode cX3_viewClear 27 = .ok (.goto (-13), 3) := by decide +kernel
theorem dX3_viewClear_30 : decode cX3_viewClear 30 = .ok (.iload_n 2, 1) := by decide +kernel
theorem dX3_viewClear_31 : decode cX3_viewClear 31 = .ok (.ireturn, 1) := by decide +kernel
set_option maxRecDepth 20000 in
theorem ggX3_again_X3_all : GoodIn wsX3_again wsX3_all := goodIn_r _ [6, 7, 8, 9, 10, 11, 12, 13, 14, 15, 16, 17, 18, 19] (by decide +kernel) (by decide +kernel)
set_option maxRecDepth 20000 in
theorem gX3_again_X3_all : GoodIn wsX3_again (wsV RX3 62 RX3 yX3_all wsX3_all) := goodIn_app (goodIn_of _ (by decide +kernel)) ggX3_again_X3_all
theorem dX3_again_0 : decode cX3_again 0 = .ok (.aload_n 0, 1) := by decide +kernel
theorem dX3_again_1 : decode cX3_again 1 = .ok (.getfield 16, 3) := by decide +kernel
theorem dX3_again_4 : decode cX3_again 4 = .ok (.bipush 100, 2) := by decide +kernel
theorem dX3_again_6 : decode cX3_again 6 = .ok (.if_icmp .le 5, 3) := by decide +kernel
theorem dX3_again_9 : decode cX3_again 9 = .ok (.iconst (-1), 1) := by decide +kernel
theorem dX3_again_10 : decode cX3_again 10 = .ok (.ireturn, 1) := by decide +kernel
theorem dX3_again_11 : decode cX3_again 11 = .ok (.aload_n 0, 1) := by decide +kernel
theorem dX3_again_12 : decode cX3_again 12 = .ok (.invokevirtual 62, 3) := by decide +kernel
theorem dX3_again_15 : decode cX3_again 15 = .ok (.aload_n 0, 1) := by decide +kernel
theorem dX3_again_16 : decode cX3_again 16 = .ok (.getfield 16, 3) := by decide +kernel
theorem dX3_again_19 : decode cX3_again 19 = .ok (.ireturn, 1) := by decide +kernel
theorem dJ9_floorMod_7cf53_0 : decode cJ9_floorMod_7cf53 0 = .ok (.iload_n 0, 1) := by decide +kernel
theorem dJ9_floorMod_7cf53_1 : decode cJ9_floorMod_7cf53 1 = .ok (.iload_n 1, 1) := by decide +kernel
theorem dJ9_floorMod_7cf53_2 : decode cJ9_floorMod_7cf53 2 = .ok (.irem, 1) := by decide +kernel
theorem dJ9_floorMod_7cf53_3 : decode cJ9_floorMod_7cf53 3 = .ok (.istore_n 2, 1) := by decide +kernel
theorem dJ9_floorMod_7cf53_4 : decode cJ9_floorMod_7cf53 4 = .ok (.iload_n 0, 1) := by decide +kernel
theorem dJ9_floorMod_7cf53_5 : decode cJ9_floorMod_7cf53 5 = .ok (.iload_n 1, 1) := by decide +kernel
theorem dJ9_floorMod_7cf53_6 : decode cJ9_floorMod_7cf53 6 = .ok (.ixor, 1) := by decide +kernel
theorem dJ9_floorMod_7cf53_7 : decode cJ9_floorMod_7cf53 7 = .ok (.ifCond .ge 11, 3) := by decide +kernel
theorem dJ9_floorMod_7cf53_10 : decode cJ9_floorMod_7cf53 10 = .ok (.iload_n 2, 1) := by decide +kernel
theorem dJ9_floorMod_7cf53_11 : decode cJ9_floorMod_7cf53 11 = .ok (.ifCond .eq 7, 3) := by decide +kernel
theorem dJ9_floorMod_7cf53_14 : decode cJ9_floorMod_7cf53 14 = .ok (.iload_n 2, 1) := by decide +kernel
theorem dJ9_floorMod_7cf53_15 : decode cJ9_floorMod_7cf53 15 = .ok (.iload_n 1, 1) := by decide +kernel
theorem dJ9_floorMod_7cf53_16 : decode cJ9_floorMod_7cf53 16 = .ok (.iadd, 1) := by decide +kernel
theorem dJ9_floorMod_7cf53_17 : decode cJ9_floorMod_7cf53 17 = .ok (.ireturn, 1) := by decide +kernel
theorem dJ9_floorMod_7cf53_18 : decode cJ9_floorMod_7cf53 18 = .ok (.iload_n 2, 1) := by decide +kernel
theorem dJ9_floorMod_7cf53_19 : decode cJ9_floorMod_7cf53 19 = .ok (.ireturn, 1) := by decide +kernel
theorem dJ9_max_7cf53_0 : decode cJ9_max_7cf53 0 = .ok (.iload_n 0, 1) := by decide +kernel
theorem dJ9_max_7cf53_1 : decode cJ9_max_7cf53 1 = .ok (.iload_n 1, 1) := by decide +kernel
theorem dJ9_max_7cf53_2 : decode cJ9_max_7cf53 2 = .ok (.if_icmp .lt 7, 3) := by decide +kernel
theorem dJ9_max_7cf53_5 : decode cJ9_max_7cf53 5 = .ok (.iload_n 0, 1) := by decide +kernel
theorem dJ9_max_7cf53_6 : decode cJ9_max_7cf53 6 = .ok (.goto 4, 3) := by decide +kernel
theorem dJ9_max_7cf53_9 : decode cJ9_max_7cf53 9 = .ok (.iload_n 1, 1) := by decide +kernel
theorem dJ9_max_7cf53_10 : decode cJ9_max_7cf53 10 = .ok (.ireturn, 1) := by decide +kernel
theorem dJ9_min_7cf53_0 : decode cJ9_min_7cf53 0 = .ok (.iload_n 0, 1) := by decide +kernel
theorem dJ9_min_7cf53_1 : decode cJ9_min_7cf53 1 = .ok (.iload_n 1, 1) := by decide +kernel
theorem dJ9_min_7cf53_2 : decode cJ9_min_7cf53 2 = .ok (.if_icmp .gt 7, 3) := by decide +kernel
theorem dJ9_min_7cf53_5 : decode cJ9_min_7cf53 5 = .ok (.iload_n 0, 1) := by decide +kernel
theorem dJ9_min_7cf53_6 : decode cJ9_min_7cf53 6 = .ok (.goto 4, 3) := by decide +kernel
theorem dJ9_min_7cf53_9 : decode cJ9_min_7cf53 9 = .ok (.iload_n 1, 1) := by decide +kernel
theorem dJ9_min_7cf53_10 : decode cJ9_min_7cf53 10 = .ok (.ireturn, 1) := by decide +kernel
theorem dJ7_copyOf_59c91_0 : decode cJ7_copyOf_59c91 0 = .ok (.iload_n 1, 1) := by decide +kernel
theorem dJ7_copyOf_59c91_1 : decode cJ7_copyOf_59c91 1 = .ok (.aload_n 0, 1) := by decide +kernel
theorem dJ7_copyOf_59c91_2 : decode cJ7_copyOf_59c91 2 = .ok (.arraylength, 1) := by decide +kernel
theorem dJ7_copyOf_59c91_3 : decode cJ7_copyOf_59c91 3 = .ok (.if_icmp .ne 11, 3) := by decide +kernel
theorem dJ7_copyOf_59c91_6 : decode cJ7_copyOf_59c91 6 = .ok (.aload_n 0, 1) := by decide +kernel
theorem dJ7_copyOf_59c91_7 : decode cJ7_copyOf_59c91 7 = .ok (.invokevirtual 316, 3) := by decide +kernel
theorem dJ7_copyOf_59c91_10 : decode cJ7_copyOf_59c91 10 = .ok (.checkcast 317, 3) := by decide +kernel
theorem dJ7_copyOf_59c91_13 : decode cJ7_copyOf_59c91 13 = .ok (.areturn, 1) := by decide +kernel
theorem dJ7_copyOf_59c91_14 : decode cJ7_copyOf_59c91 14 = .ok (.iload_n 1, 1) := by decide +kernel
theorem dJ7_copyOf_59c91_15 : decode cJ7_copyOf_59c91 15 = .ok (.newarray .int, 2) := by decide +kernel
theorem dJ7_copyOf_59c91_17 : decode cJ7_copyOf_59c91 17 = .ok (.astore_n 2, 1) := by decide +kernel
theorem dJ7_copyOf_59c91_18 : decode cJ7_copyOf_59c91 18 = .ok (.aload_n 0, 1) := by decide +kernel
theorem dJ7_copyOf_59c91_19 : decode cJ7_copyOf_59c91 19 = .ok (.iconst 0, 1) := by decide +kernel
theorem dJ7_copyOf_59c91_20 : decode cJ7_copyOf_59c91 20 = .ok (.aload_n 2, 1) := by decide +kernel
theorem dJ7_copyOf_59c91_21 : decode cJ7_copyOf_59c91 21 = .ok (.iconst 0, 1) := by decide +kernel
theorem dJ7_copyOf_59c91_22 : decode cJ7_copyOf_59c91 22 = .ok (.aload_n 0, 1) := by decide +kernel
theorem dJ7_copyOf_59c91_23 : decode cJ7_copyOf_59c91 23 = .ok (.arraylength, 1) := by decide +kernel
theorem dJ7_copyOf_59c91_24 : decode cJ7_copyOf_59c91 24 = .ok (.iload_n 1, 1) := by decide +kernel
theorem dJ7_copyOf_59c91_25 : decode cJ7_copyOf_59c91 25 = .ok (.invokestatic 304, 3) := by decide +kernel
theorem dJ7_copyOf_59c91_28 : decode cJ7_copyOf_59c91 28 = .ok (.invokestatic 150, 3) := by decide +kernel
theorem dJ7_copyOf_59c91_31 : decode cJ7_copyOf_59c91 31 = .ok (.aload_n 2, 1) := by decide +kernel
theorem dJ7_copyOf_59c91_32 : decode cJ7_copyOf_59c91 32 = .ok (.areturn, 1) := by decide +kernel
set_option maxRecDepth 20000 in
theorem ggL_law_X2_init : GoodIn wsL_law wsX2_init := goodIn_r _ [8, 9, 10, 11, 12, 13, 14, 15, 16, 17, 18, 19, 20, 21, 22, 23, 24, 25, 26, 27, 28, 29, 30, 31, 32, 33, 34, 35, 36, 37, 38, 439, 440, 441, 425, 426, 427, 428, 442, 443, 444, 445] (by decide +kernel) (by decide +kernel)
set_option maxRecDepth 20000 in
theorem gL_law_X2_init : GoodIn wsL_law (wsX2_init) := ggL_law_X2_init
set_option maxRecDepth 20000 in
theorem ggL_law_X3_init : GoodIn wsL_law wsX3_init := goodIn_r _ [41, 42, 10, 11, 27, 43, 44, 429, 430, 431, 432, 433, 434, 435, 436, 437, 438] (by decide +kernel) (by decide +kernel)
set_option maxRecDepth 20000 in
theorem gL_law_X3_init : GoodIn wsL_law (wsX3_init) := ggL_law_X3_init
set_option maxRecDepth 20000 in
theorem ggL_law_X2_put : GoodIn wsL_law wsX2_put := goodIn_r _ [48, 15, 49, 50, 51, 14, 52, 53, 29, 54, 55, 56, 57, 30, 28, 58, 59, 60, 61, 62, 63, 64, 65, 425, 426, 427, 428, 439, 440, 441] (by decide +kernel) (by decide +kernel)
set_option maxRecDepth 20000 in
theorem gL_law_X2_put : GoodIn wsL_law (wsV RL 13 RX2 yX2_put wsX2_put) := goodIn_app (goodIn_of _ (by decide +kernel)) ggL_law_X2_put
set_option maxRecDepth 20000 in
theorem ggL_law_X3_put : GoodIn wsL_law wsX3_put := goodIn_r _ [69, 70, 44, 71, 72, 73, 5, 74, 75, 43, 76, 77, 78, 79, 80, 81, 82, 83, 84, 85, 86, 87, 88, 89, 90, 91, 92, 93, 27, 94, 95, 96, 97, 98, 99, 100, 101, 429, 430, 431, 432, 433, 434, 435, 436, 437, 438] (by decide +kernel) (by decide +kernel)
set_option maxRecDepth 20000 in
theorem gL_law_X3_put : GoodIn wsL_law (wsV RL 17 RX3 yX3_put wsX3_put) := goodIn_app (goodIn_of _ (by decide +kernel)) ggL_law_X3_put
set_option maxRecDepth 20000 in
theorem ggL_law_X2_add : GoodIn wsL_law wsX2_add := goodIn_r _ [105, 15, 106, 107, 108, 109, 14, 110, 29, 53, 54, 55, 56, 57, 30, 28, 58, 59, 60, 61, 49, 50, 51, 52, 62, 63, 64, 65, 425, 426, 427, 428, 439, 440, 441] (by decide +kernel) (by decide +kernel)
set_option maxRecDepth 20000 in
theorem gL_law_X2_add : GoodIn wsL_law (wsV RL 18 RX2 yX2_add wsX2_add) := goodIn_app (goodIn_of _ (by decide +kernel)) ggL_law_X2_add
set_option maxRecDepth 20000 in
theorem ggL_law_X3_add : GoodIn wsL_law wsX3_add := goodIn_r _ [114, 44, 70, 71, 72, 73, 5, 74, 75, 43, 76, 77, 78, 79, 80, 81, 82, 83, 84, 85, 86, 87, 88, 89, 90, 91, 92, 93, 27, 94, 95, 96, 97, 98, 99, 100, 101, 429, 430, 431, 432, 433, 434, 435, 436, 437, 438] (by decide +kernel) (by decide +kernel)
set_option maxRecDepth 20000 in
theorem gL_law_X3_add : GoodIn wsL_law (wsV RL 21 RX3 yX3_add wsX3_add) := goodIn_app (goodIn_of _ (by decide +kernel)) ggL_law_X3_add
set_option maxRecDepth 20000 in
theorem ggL_law_X2_get : GoodIn wsL_law wsX2_get := goodIn_r _ [118, 15, 107, 108, 109, 14, 110, 29, 53, 54, 55, 56, 57, 30, 28, 58, 59, 60, 61, 425, 426, 427, 428, 439, 440, 441] (by decide +kernel) (by decide +kernel)
set_option maxRecDepth 20000 in
theorem gL_law_X2_get : GoodIn wsL_law (wsV RL 22 RX2 yX2_get wsX2_get) := goodIn_app (goodIn_of _ (by decide +kernel)) ggL_law_X2_get
set_option maxRecDepth 20000 in
theorem ggL_law_X3_get : GoodIn wsL_law wsX3_get := goodIn_r _ [122, 44, 70, 71, 72, 73, 5, 74, 75, 43, 76, 77, 78, 79, 429, 430, 431, 432, 433, 434, 435, 436, 437, 438] (by decide +kernel) (by decide +kernel)
set_option maxRecDepth 20000 in
theorem gL_law_X3_get : GoodIn wsL_law (wsV RL 26 RX3 yX3_get wsX3_get) := goodIn_app (goodIn_of _ (by decide +kernel)) ggL_law_X3_get
set_option maxRecDepth 20000 in
theorem ggL_law_X2_remove : GoodIn wsL_law wsX2_remove := goodIn_r _ [126, 15, 127, 128, 129, 14, 130, 53, 29, 54, 55, 56, 57, 30, 28, 58, 59, 60, 61, 131, 132, 133, 134, 135, 136, 137, 138, 139, 140, 141, 142, 425, 426, 427, 428, 439, 440, 441] (by decide +kernel) (by decide +kernel)
set_option maxRecDepth 20000 in
theorem gL_law_X2_remove : GoodIn wsL_law (wsV RL 27 RX2 yX2_remove wsX2_remove) := goodIn_app (goodIn_of _ (by decide +kernel)) ggL_law_X2_remove
set_option maxRecDepth 20000 in
theorem ggL_law_X3_remove : GoodIn wsL_law wsX3_remove := goodIn_r _ [146, 70, 44, 71, 72, 73, 5, 74, 75, 43, 76, 77, 78, 79, 147, 148, 149, 150, 429, 430, 431, 432, 433, 434, 435, 436, 437, 438] (by decide +kernel) (by decide +kernel)
set_option maxRecDepth 20000 in
theorem gL_law_X3_remove : GoodIn wsL_law (wsV RL 30 RX3 yX3_remove wsX3_remove) := goodIn_app (goodIn_of _ (by decide +kernel)) ggL_law_X3_remove
set_option maxRecDepth 20000 in
theorem ggL_law_X2_has : GoodIn wsL_law wsX2_has := goodIn_r _ [154, 15, 106, 107, 108, 109, 14, 110, 29, 53, 54, 55, 56, 57, 30, 28, 58, 59, 60, 61, 155, 156, 157, 158, 425, 426, 427, 428, 439, 440, 441] (by decide +kernel) (by decide +kernel)
set_option maxRecDepth 20000 in
theorem gL_law_X2_has : GoodIn wsL_law (wsV RL 31 RX2 yX2_has wsX2_has) := goodIn_app (goodIn_of _ (by decide +kernel)) ggL_law_X2_has
set_option maxRecDepth 20000 in
theorem ggL_law_X3_has : GoodIn wsL_law wsX3_has := goodIn_r _ [162, 75, 43, 44, 429, 430, 431, 432, 433, 434, 435, 436, 437, 438] (by decide +kernel) (by decide +kernel)
set_option maxRecDepth 20000 in
theorem gL_law_X3_has : GoodIn wsL_law (wsV RL 35 RX3 yX3_has wsX3_has) := goodIn_app (goodIn_of _ (by decide +kernel)) ggL_law_X3_has
set_option maxRecDepth 20000 in
theorem ggL_law_X2_near : GoodIn wsL_law wsX2_near := goodIn_r _ [166, 15, 167, 168, 169, 14, 170, 30, 171, 172, 173, 2, 174, 175, 95, 96, 97, 176, 177, 178, 106, 179, 55, 56, 57, 28, 180, 181, 182, 183, 184, 185, 186, 187, 53, 425, 426, 427, 428, 439, 440, 441] (by decide +kernel) (by decide +kernel)
set_option maxRecDepth 20000 in
theorem gL_law_X2_near : GoodIn wsL_law (wsV RL 36 RX2 yX2_near wsX2_near) := goodIn_app (goodIn_of _ (by decide +kernel)) ggL_law_X2_near
set_option maxRecDepth 20000 in
theorem ggL_law_X3_near_ : GoodIn wsL_law wsX3_near_ := goodIn_r _ [191, 75, 192, 193, 194, 5, 195, 43, 70, 196, 197, 198, 199, 429, 430, 431, 432, 433, 434, 435, 436, 437, 438] (by decide +kernel) (by decide +kernel)
set_option maxRecDepth 20000 in
theorem gL_law_X3_near_ : GoodIn wsL_law (wsV RL 39 RX3 yX3_near_ wsX3_near_) := goodIn_app (goodIn_of _ (by decide +kernel)) ggL_law_X3_near_
set_option maxRecDepth 20000 in
theorem ggL_law_X2_poll : GoodIn wsL_law wsX2_poll := goodIn_r _ [203, 15, 167, 168, 169, 14, 170, 30, 204, 205, 206, 2, 207, 106, 180, 181, 182, 183, 184, 185, 186, 187, 28, 53, 208, 132, 133, 134, 135, 136, 137, 138, 29, 139, 140, 141, 142, 425, 426, 427, 428, 439, 440, 441] (by decide +kernel) (by decide +kernel)
set_option maxRecDepth 20000 in
theorem gL_law_X2_poll : GoodIn wsL_law (wsV RL 40 RX2 yX2_poll wsX2_poll) := goodIn_app (goodIn_of _ (by decide +kernel)) ggL_law_X2_poll
set_option maxRecDepth 20000 in
theorem ggL_law_X3_poll : GoodIn wsL_law wsX3_poll := goodIn_r _ [212, 75, 70, 43, 147, 148, 149, 5, 150, 44, 429, 430, 431, 432, 433, 434, 435, 436, 437, 438] (by decide +kernel) (by decide +kernel)
set_option maxRecDepth 20000 in
theorem gL_law_X3_poll : GoodIn wsL_law (wsV RL 44 RX3 yX3_poll wsX3_poll) := goodIn_app (goodIn_of _ (by decide +kernel)) ggL_law_X3_poll
set_option maxRecDepth 20000 in
theorem ggL_law_X2_size : GoodIn wsL_law wsX2_size := goodIn_r _ [216, 15, 167, 168, 169, 14, 170, 30, 425, 426, 427, 428, 439, 440, 441] (by decide +kernel) (by decide +kernel)
set_option maxRecDepth 20000 in
theorem gL_law_X2_size : GoodIn wsL_law (wsV RL 45 RX2 yX2_size wsX2_size) := goodIn_app (goodIn_of _ (by decide +kernel)) ggL_law_X2_size
set_option maxRecDepth 20000 in
theorem ggL_law_X3_size : GoodIn wsL_law wsX3_size := goodIn_r _ [220, 75, 429, 430, 431, 432, 433, 434, 435, 436, 437, 438] (by decide +kernel) (by decide +kernel)
set_option maxRecDepth 20000 in
theorem gL_law_X3_size : GoodIn wsL_law (wsV RL 49 RX3 yX3_size wsX3_size) := goodIn_app (goodIn_of _ (by decide +kernel)) ggL_law_X3_size
set_option maxRecDepth 20000 in
theorem ggL_law_X2_clear : GoodIn wsL_law wsX2_clear := goodIn_r _ [224, 15, 167, 168, 169, 14, 170, 30, 208, 132, 133, 134, 135, 136, 137, 138, 28, 29, 139, 140, 141, 142, 425, 426, 427, 428, 439, 440, 441] (by decide +kernel) (by decide +kernel)
set_option maxRecDepth 20000 in
theorem gL_law_X2_clear : GoodIn wsL_law (wsV RL 50 RX2 yX2_clear wsX2_clear) := goodIn_app (goodIn_of _ (by decide +kernel)) ggL_law_X2_clear
set_option maxRecDepth 20000 in
theorem ggL_law_X3_clear : GoodIn wsL_law wsX3_clear := goodIn_r _ [228, 75, 429, 430, 431, 432, 433, 434, 435, 436, 437, 438] (by decide +kernel) (by decide +kernel)
set_option maxRecDepth 20000 in
theorem gL_law_X3_clear : GoodIn wsL_law (wsV RL 53 RX3 yX3_clear wsX3_clear) := goodIn_app (goodIn_of _ (by decide +kernel)) ggL_law_X3_clear
set_option maxRecDepth 20000 in
theorem ggL_law_X2_look : GoodIn wsL_law wsX2_look := goodIn_r _ [232, 21, 22, 23, 233, 234, 235, 18, 236, 237, 238, 239, 240, 35, 37, 241, 242, 243, 244, 245, 246, 247, 248, 36, 249, 250, 251, 252, 38, 253, 254, 255, 256, 257, 17, 258, 32, 33, 34, 10, 11, 425, 426, 427, 428, 442, 443, 444, 445] (by decide +kernel) (by decide +kernel)
set_option maxRecDepth 20000 in
theorem gL_law_X2_look : GoodIn wsL_law (wsV RL 54 RX2 yX2_look wsX2_look) := goodIn_app (goodIn_of _ (by decide +kernel)) ggL_law_X2_look
set_option maxRecDepth 20000 in
theorem ggL_law_X3_look : GoodIn wsL_law wsX3_look := goodIn_r _ [262, 263, 264, 265, 5, 266, 267, 268, 269, 270, 271, 272, 273, 274, 275, 276, 277, 278, 279, 280, 281, 429, 430, 431, 432, 433, 434, 435, 436, 437, 438] (by decide +kernel) (by decide +kernel)
set_option maxRecDepth 20000 in
theorem gL_law_X3_look : GoodIn wsL_law (wsV RL 58 RX3 yX3_look wsX3_look) := goodIn_app (goodIn_of _ (by decide +kernel)) ggL_law_X3_look
set_option maxRecDepth 20000 in
theorem ggL_law_X2_narrow : GoodIn wsL_law wsX2_narrow := goodIn_r _ [285, 22, 23, 233, 234, 235, 18, 236, 237, 238, 239, 240, 35, 37, 241, 242, 243, 244, 245, 246, 247, 248, 36, 249, 250, 251, 252, 38, 253, 254, 255, 256, 257, 17, 258, 32, 33, 34, 10, 11, 425, 426, 427, 428, 442, 443, 444, 445] (by decide +kernel) (by decide +kernel)
set_option maxRecDepth 20000 in
theorem gL_law_X2_narrow : GoodIn wsL_law (wsV RL 59 RX2 yX2_narrow wsX2_narrow) := goodIn_app (goodIn_of _ (by decide +kernel)) ggL_law_X2_narrow
set_option maxRecDepth 20000 in
theorem ggL_law_X3_narrow : GoodIn wsL_law wsX3_narrow := goodIn_r _ [289, 269, 290, 291, 292, 5, 293, 267, 274, 268, 280, 294, 295, 296, 297, 275, 281, 276, 277, 278, 279, 270, 271, 272, 273, 429, 430, 431, 432, 433, 434, 435, 436, 437, 438] (by decide +kernel) (by decide +kernel)
set_option maxRecDepth 20000 in
theorem gL_law_X3_narrow : GoodIn wsL_law (wsV RL 62 RX3 yX3_narrow wsX3_narrow) := goodIn_app (goodIn_of _ (by decide +kernel)) ggL_law_X3_narrow
set_option maxRecDepth 20000 in
theorem ggL_law_X2_turn : GoodIn wsL_law wsX2_turn := goodIn_r _ [301, 23, 302, 303, 304, 2, 305, 306, 307, 308, 309, 15, 22, 176, 177, 96, 178, 310, 311, 312, 313, 314, 246, 247, 18, 248, 36, 35, 179, 55, 56, 14, 57, 30, 28, 315, 250, 251, 252, 38, 37, 425, 426, 427, 428, 442, 443, 444, 445, 439, 440, 441] (by decide +kernel) (by decide +kernel)
set_option maxRecDepth 20000 in
theorem gL_law_X2_turn : GoodIn wsL_law (wsV RL 63 RX2 yX2_turn wsX2_turn) := goodIn_app (goodIn_of _ (by decide +kernel)) ggL_law_X2_turn
set_option maxRecDepth 20000 in
theorem ggL_law_X3_turn : GoodIn wsL_law wsX3_turn := goodIn_r _ [319, 269, 320, 321, 322, 5, 323, 324, 325, 326, 327, 75, 43, 328, 329, 330, 331, 268, 280, 294, 295, 296, 297, 267, 274, 275, 281, 429, 430, 431, 432, 433, 434, 435, 436, 437, 438] (by decide +kernel) (by decide +kernel)
set_option maxRecDepth 20000 in
theorem gL_law_X3_turn : GoodIn wsL_law (wsV RL 66 RX3 yX3_turn wsX3_turn) := goodIn_app (goodIn_of _ (by decide +kernel)) ggL_law_X3_turn
set_option maxRecDepth 20000 in
theorem ggL_law_X2_viewSize : GoodIn wsL_law wsX2_viewSize := goodIn_r _ [305, 306, 307, 308, 2, 309, 15, 22, 176, 177, 96, 178, 310, 311, 312, 313, 314, 246, 247, 18, 248, 36, 35, 179, 55, 56, 14, 57, 30, 28, 315, 250, 251, 252, 38, 37, 425, 426, 427, 428, 442, 443, 444, 445, 439, 440, 441] (by decide +kernel) (by decide +kernel)
set_option maxRecDepth 20000 in
theorem gL_law_X2_viewSize : GoodIn wsL_law (wsV RL 67 RX2 yX2_viewSize wsX2_viewSize) := goodIn_app (goodIn_of _ (by decide +kernel)) ggL_law_X2_viewSize
set_option maxRecDepth 20000 in
theorem ggL_law_X3_viewSize : GoodIn wsL_law wsX3_viewSize := goodIn_r _ [323, 324, 325, 326, 5, 327, 75, 43, 328, 329, 330, 331, 268, 280, 294, 295, 296, 297, 267, 274, 275, 281, 429, 430, 431, 432, 433, 434, 435, 436, 437, 438] (by decide +kernel) (by decide +kernel)
set_option maxRecDepth 20000 in
theorem gL_law_X3_viewSize : GoodIn wsL_law (wsV RL 70 RX3 yX3_viewSize wsX3_viewSize) := goodIn_app (goodIn_of _ (by decide +kernel)) ggL_law_X3_viewSize
set_option maxRecDepth 20000 in
theorem ggL_law_X2_viewPut : GoodIn wsL_law wsX2_viewPut := goodIn_r _ [337, 22, 15, 338, 339, 242, 243, 18, 244, 245, 246, 247, 248, 36, 35, 249, 250, 251, 252, 38, 37, 49, 50, 51, 14, 52, 53, 29, 54, 55, 56, 57, 30, 28, 58, 59, 60, 61, 62, 63, 64, 65, 425, 426, 427, 428, 442, 443, 444, 445, 439, 440, 441] (by decide +kernel) (by decide +kernel)
set_option maxRecDepth 20000 in
theorem gL_law_X2_viewPut : GoodIn wsL_law (wsV RL 71 RX2 yX2_viewPut wsX2_viewPut) := goodIn_app (goodIn_of _ (by decide +kernel)) ggL_law_X2_viewPut
set_option maxRecDepth 20000 in
theorem ggL_law_X3_viewPut : GoodIn wsL_law wsX3_viewPut := goodIn_r _ [343, 344, 294, 295, 296, 5, 297, 267, 274, 275, 268, 280, 281, 345, 67, 68, 69, 70, 44, 71, 72, 73, 74, 75, 43, 76, 77, 78, 79, 80, 81, 82, 83, 84, 85, 86, 87, 88, 89, 90, 91, 92, 93, 27, 94, 95, 96, 97, 98, 99, 100, 101, 429, 430, 431, 432, 433, 434, 435, 436, 437, 438] (by decide +kernel) (by decide +kernel)
set_option maxRecDepth 20000 in
theorem gL_law_X3_viewPut : GoodIn wsL_law (wsV RL 74 RX3 yX3_viewPut wsX3_viewPut) := goodIn_app (goodIn_of _ (by decide +kernel)) ggL_law_X3_viewPut
set_option maxRecDepth 20000 in
theorem ggL_law_X2_viewGet : GoodIn wsL_law wsX2_viewGet := goodIn_r _ [349, 22, 15, 106, 339, 242, 243, 18, 244, 245, 246, 247, 248, 36, 35, 249, 250, 251, 252, 38, 37, 107, 108, 109, 14, 110, 29, 53, 54, 55, 56, 57, 30, 28, 58, 59, 60, 61, 425, 426, 427, 428, 442, 443, 444, 445, 439, 440, 441] (by decide +kernel) (by decide +kernel)
set_option maxRecDepth 20000 in
theorem gL_law_X2_viewGet : GoodIn wsL_law (wsV RL 75 RX2 yX2_viewGet wsX2_viewGet) := goodIn_app (goodIn_of _ (by decide +kernel)) ggL_law_X2_viewGet
set_option maxRecDepth 20000 in
theorem ggL_law_X3_viewGet : GoodIn wsL_law wsX3_viewGet := goodIn_r _ [353, 70, 294, 295, 296, 5, 297, 267, 274, 275, 268, 280, 281, 354, 120, 121, 122, 44, 71, 72, 73, 74, 75, 43, 76, 77, 78, 79, 429, 430, 431, 432, 433, 434, 435, 436, 437, 438] (by decide +kernel) (by decide +kernel)
set_option maxRecDepth 20000 in
theorem gL_law_X3_viewGet : GoodIn wsL_law (wsV RL 78 RX3 yX3_viewGet wsX3_viewGet) := goodIn_app (goodIn_of _ (by decide +kernel)) ggL_law_X3_viewGet
set_option maxRecDepth 20000 in
theorem ggL_law_X2_viewRemove : GoodIn wsL_law wsX2_viewRemove := goodIn_r _ [358, 22, 15, 106, 339, 242, 243, 18, 244, 245, 246, 247, 248, 36, 35, 249, 250, 251, 252, 38, 37, 127, 128, 129, 14, 130, 53, 29, 54, 55, 56, 57, 30, 28, 58, 59, 60, 61, 131, 132, 133, 134, 135, 136, 137, 138, 139, 140, 141, 142, 425, 426, 427, 428, 442, 443, 444, 445, 439, 440, 441] (by decide +kernel) (by decide +kernel)
set_option maxRecDepth 20000 in
theorem gL_law_X2_viewRemove : GoodIn wsL_law (wsV RL 79 RX2 yX2_viewRemove wsX2_viewRemove) := goodIn_app (goodIn_of _ (by decide +kernel)) ggL_law_X2_viewRemove
set_option maxRecDepth 20000 in
theorem ggL_law_X3_viewRemove : GoodIn wsL_law wsX3_viewRemove := goodIn_r _ [362, 70, 294, 295, 296, 5, 297, 267, 274, 275, 268, 280, 281, 363, 144, 145, 146, 44, 71, 72, 73, 74, 75, 43, 76, 77, 78, 79, 147, 148, 149, 150, 429, 430, 431, 432, 433, 434, 435, 436, 437, 438] (by decide +kernel) (by decide +kernel)
set_option maxRecDepth 20000 in
theorem gL_law_X3_viewRemove : GoodIn wsL_law (wsV RL 82 RX3 yX3_viewRemove wsX3_viewRemove) := goodIn_app (goodIn_of _ (by decide +kernel)) ggL_law_X3_viewRemove
set_option maxRecDepth 20000 in
theorem ggL_law_X2_viewNear : GoodIn wsL_law wsX2_viewNear := goodIn_r _ [367, 23, 368, 369, 2, 370, 310, 311, 312, 313, 15, 22, 314, 246, 247, 18, 248, 36, 35, 179, 55, 56, 14, 57, 30, 28, 306, 307, 308, 309, 176, 177, 96, 178, 315, 250, 251, 252, 38, 37, 171, 172, 173, 174, 175, 95, 97, 106, 180, 181, 182, 183, 184, 185, 186, 187, 53, 425, 426, 427, 428, 442, 443, 444, 445, 439, 440, 441] (by decide +kernel) (by decide +kernel)
set_option maxRecDepth 20000 in
theorem gL_law_X2_viewNear : GoodIn wsL_law (wsV RL 83 RX2 yX2_viewNear wsX2_viewNear) := goodIn_app (goodIn_of _ (by decide +kernel)) ggL_law_X2_viewNear
set_option maxRecDepth 20000 in
theorem ggL_law_X3_viewNear : GoodIn wsL_law wsX3_viewNear := goodIn_r _ [374, 70, 269, 328, 329, 330, 5, 331, 75, 43, 268, 280, 294, 295, 296, 297, 267, 274, 275, 281, 324, 325, 326, 327, 192, 193, 194, 195, 196, 197, 198, 199, 429, 430, 431, 432, 433, 434, 435, 436, 437, 438] (by decide +kernel) (by decide +kernel)
set_option maxRecDepth 20000 in
theorem gL_law_X3_viewNear : GoodIn wsL_law (wsV RL 86 RX3 yX3_viewNear wsX3_viewNear) := goodIn_app (goodIn_of _ (by decide +kernel)) ggL_law_X3_viewNear
set_option maxRecDepth 20000 in
theorem ggL_law_X2_viewPoll : GoodIn wsL_law wsX2_viewPoll := goodIn_r _ [378, 23, 310, 311, 312, 2, 313, 15, 22, 314, 246, 247, 18, 248, 36, 35, 179, 55, 56, 14, 57, 30, 28, 306, 307, 308, 309, 176, 177, 96, 178, 315, 250, 251, 252, 38, 37, 204, 205, 206, 207, 106, 180, 181, 182, 183, 184, 185, 186, 187, 53, 208, 132, 133, 134, 135, 136, 137, 138, 29, 139, 140, 141, 142, 425, 426, 427, 428, 442, 443, 444, 445, 439, 440, 441] (by decide +kernel) (by decide +kernel)
set_option maxRecDepth 20000 in
theorem gL_law_X2_viewPoll : GoodIn wsL_law (wsV RL 87 RX2 yX2_viewPoll wsX2_viewPoll) := goodIn_app (goodIn_of _ (by decide +kernel)) ggL_law_X2_viewPoll
set_option maxRecDepth 20000 in
theorem ggL_law_X3_viewPoll : GoodIn wsL_law wsX3_viewPoll := goodIn_r _ [382, 70, 269, 43, 328, 329, 330, 5, 331, 75, 268, 280, 294, 295, 296, 297, 267, 274, 275, 281, 324, 325, 326, 327, 147, 148, 149, 150, 44, 429, 430, 431, 432, 433, 434, 435, 436, 437, 438] (by decide +kernel) (by decide +kernel)
set_option maxRecDepth 20000 in
theorem gL_law_X3_viewPoll : GoodIn wsL_law (wsV RL 90 RX3 yX3_viewPoll wsX3_viewPoll) := goodIn_app (goodIn_of _ (by decide +kernel)) ggL_law_X3_viewPoll
set_option maxRecDepth 20000 in
theorem ggL_law_X2_viewKey : GoodIn wsL_law wsX2_viewKey := goodIn_r _ [386, 106, 15, 23, 310, 311, 312, 2, 313, 22, 314, 246, 247, 18, 248, 36, 35, 179, 55, 56, 14, 57, 30, 28, 306, 307, 308, 309, 176, 177, 96, 178, 315, 250, 251, 252, 38, 37, 184, 185, 186, 187, 53, 425, 426, 427, 428, 442, 443, 444, 445, 439, 440, 441] (by decide +kernel) (by decide +kernel)
set_option maxRecDepth 20000 in
theorem gL_law_X2_viewKey : GoodIn wsL_law (wsV RL 91 RX2 yX2_viewKey wsX2_viewKey) := goodIn_app (goodIn_of _ (by decide +kernel)) ggL_law_X2_viewKey
set_option maxRecDepth 20000 in
theorem ggL_law_X3_viewKey : GoodIn wsL_law wsX3_viewKey := goodIn_r _ [390, 70, 43, 269, 328, 329, 330, 5, 331, 75, 268, 280, 294, 295, 296, 297, 267, 274, 275, 281, 324, 325, 326, 327, 429, 430, 431, 432, 433, 434, 435, 436, 437, 438] (by decide +kernel) (by decide +kernel)
set_option maxRecDepth 20000 in
theorem gL_law_X3_viewKey : GoodIn wsL_law (wsV RL 94 RX3 yX3_viewKey wsX3_viewKey) := goodIn_app (goodIn_of _ (by decide +kernel)) ggL_law_X3_viewKey
set_option maxRecDepth 20000 in
theorem ggL_law_X2_walk : GoodIn wsL_law wsX2_walk := goodIn_r _ [394, 23, 15, 310, 311, 312, 2, 313, 22, 314, 246, 247, 18, 248, 36, 35, 179, 55, 56, 14, 57, 30, 28, 306, 307, 308, 309, 176, 177, 96, 178, 315, 250, 251, 252, 38, 37, 184, 185, 186, 187, 53, 425, 426, 427, 428, 442, 443, 444, 445, 439, 440, 441] (by decide +kernel) (by decide +kernel)
set_option maxRecDepth 20000 in
theorem gL_law_X2_walk : GoodIn wsL_law (wsV RL 95 RX2 yX2_walk wsX2_walk) := goodIn_app (goodIn_of _ (by decide +kernel)) ggL_law_X2_walk
set_option maxRecDepth 20000 in
theorem ggL_law_X3_walk : GoodIn wsL_law wsX3_walk := goodIn_r _ [398, 43, 269, 328, 329, 330, 5, 331, 75, 268, 280, 294, 295, 296, 297, 267, 274, 275, 281, 324, 325, 326, 327, 429, 430, 431, 432, 433, 434, 435, 436, 437, 438] (by decide +kernel) (by decide +kernel)
set_option maxRecDepth 20000 in
theorem gL_law_X3_walk : GoodIn wsL_law (wsV RL 99 RX3 yX3_walk wsX3_walk) := goodIn_app (goodIn_of _ (by decide +kernel)) ggL_law_X3_walk
set_option maxRecDepth 20000 in
theorem ggL_law_X2_sweep : GoodIn wsL_law wsX2_sweep := goodIn_r _ [402, 15, 310, 311, 312, 2, 313, 22, 314, 246, 247, 18, 248, 36, 35, 179, 55, 56, 14, 57, 30, 28, 306, 307, 308, 309, 176, 177, 96, 178, 315, 250, 251, 252, 38, 37, 403, 136, 137, 138, 29, 139, 140, 141, 142, 425, 426, 427, 428, 442, 443, 444, 445, 439, 440, 441] (by decide +kernel) (by decide +kernel)
set_option maxRecDepth 20000 in
theorem gL_law_X2_sweep : GoodIn wsL_law (wsV RL 100 RX2 yX2_sweep wsX2_sweep) := goodIn_app (goodIn_of _ (by decide +kernel)) ggL_law_X2_sweep
set_option maxRecDepth 20000 in
theorem ggL_law_X3_sweep : GoodIn wsL_law wsX3_sweep := goodIn_r _ [407, 43, 328, 329, 330, 5, 331, 75, 268, 280, 294, 295, 296, 297, 267, 274, 275, 281, 324, 325, 326, 327, 408, 140, 141, 142, 147, 148, 149, 150, 44, 429, 430, 431, 432, 433, 434, 435, 436, 437, 438] (by decide +kernel) (by decide +kernel)
set_option maxRecDepth 20000 in
theorem gL_law_X3_sweep : GoodIn wsL_law (wsV RL 104 RX3 yX3_sweep wsX3_sweep) := goodIn_app (goodIn_of _ (by decide +kernel)) ggL_law_X3_sweep
set_option maxRecDepth 20000 in
theorem ggL_law_X2_viewClear : GoodIn wsL_law wsX2_viewClear := goodIn_r _ [412, 15, 310, 311, 312, 2, 313, 22, 314, 246, 247, 18, 248, 36, 35, 179, 55, 56, 14, 57, 30, 28, 306, 307, 308, 309, 176, 177, 96, 178, 315, 250, 251, 252, 38, 37, 208, 132, 133, 134, 135, 136, 137, 138, 29, 139, 140, 141, 142, 425, 426, 427, 428, 442, 443, 444, 445, 439, 440, 441] (by decide +kernel) (by decide +kernel)
set_option maxRecDepth 20000 in
theorem gL_law_X2_viewClear : GoodIn wsL_law (wsV RL 105 RX2 yX2_viewClear wsX2_viewClear) := goodIn_app (goodIn_of _ (by decide +kernel)) ggL_law_X2_viewClear
set_option maxRecDepth 20000 in
theorem ggL_law_X3_viewClear : GoodIn wsL_law wsX3_viewClear := goodIn_r _ [416, 328, 329, 330, 5, 331, 75, 43, 268, 280, 294, 295, 296, 297, 267, 274, 275, 281, 324, 325, 326, 327, 147, 148, 149, 150, 44, 429, 430, 431, 432, 433, 434, 435, 436, 437, 438] (by decide +kernel) (by decide +kernel)
set_option maxRecDepth 20000 in
theorem gL_law_X3_viewClear : GoodIn wsL_law (wsV RL 108 RX3 yX3_viewClear wsX3_viewClear) := goodIn_app (goodIn_of _ (by decide +kernel)) ggL_law_X3_viewClear
set_option maxRecDepth 20000 in
theorem ggL_law_X2_again : GoodIn wsL_law wsX2_again := goodIn_r _ [420, 15, 21, 22, 23, 167, 168, 169, 14, 170, 30, 425, 426, 427, 428, 439, 440, 441] (by decide +kernel) (by decide +kernel)
set_option maxRecDepth 20000 in
theorem gL_law_X2_again : GoodIn wsL_law (wsV RL 109 RX2 yX2_again wsX2_again) := goodIn_app (goodIn_of _ (by decide +kernel)) ggL_law_X2_again
set_option maxRecDepth 20000 in
theorem ggL_law_X3_again : GoodIn wsL_law wsX3_again := goodIn_r _ [424, 75, 263, 264, 265, 5, 266, 267, 268, 269, 429, 430, 431, 432, 433, 434, 435, 436, 437, 438] (by decide +kernel) (by decide +kernel)
set_option maxRecDepth 20000 in
theorem gL_law_X3_again : GoodIn wsL_law (wsV RL 112 RX3 yX3_again wsX3_again) := goodIn_app (goodIn_of _ (by decide +kernel)) ggL_law_X3_again
theorem dL_law_0 : decode cL_law 0 = .ok (.new 7, 3) := by decide +kernel
theorem dL_law_3 : decode cL_law 3 = .ok (.dup, 1) := by decide +kernel
theorem dL_law_4 : decode cL_law 4 = .ok (.invokespecial 9, 3) := by decide +kernel
theorem dL_law_7 : decode cL_law 7 = .ok (.astore_n 1, 1) := by decide +kernel
theorem dL_law_8 : decode cL_law 8 = .ok (.new 10, 3) := by decide +kernel
theorem dL_law_11 : decode cL_law 11 = .ok (.dup, 1) := by decide +kernel
theorem dL_law_12 : decode cL_law 12 = .ok (.invokespecial 12, 3) := by decide +kernel
theorem dL_law_15 : decode cL_law 15 = .ok (.astore_n 2, 1) := by decide +kernel
theorem dL_law_16 : decode cL_law 16 = .ok (.iconst 0, 1) := by decide +kernel
theorem dL_law_17 : decode cL_law 17 = .ok (.istore_n 3, 1) := by decide +kernel
theorem dL_law_18 : decode cL_law 18 = .ok (.iload_n 3, 1) := by decide +kernel
theorem dL_law_19 : decode cL_law 19 = .ok (.aload_n 0, 1) := by decide +kernel
theorem dL_law_20 : decode cL_law 20 = .ok (.arraylength, 1) := by decide +kernel
theorem dL_law_21 : decode cL_law 21 = .ok (.bipush 6, 2) := by decide +kernel
theorem dL_law_23 : decode cL_law 23 = .ok (.isub, 1) := by decide +kernel
theorem dL_law_24 : decode cL_law 24 = .ok (.if_icmp .gt 840, 3) := by decide +kernel
theorem dL_law_27 : decode cL_law 27 = .ok (.aload_n 0, 1) := by decide +kernel
theorem dL_law_28 : decode cL_law 28 = .ok (.iload_n 3, 1) := by decide +kernel
theorem dL_law_29 : decode cL_law 29 = .ok (.iaload, 1) := by decide +kernel
theorem dL_law_30 : decode cL_law 30 = .ok (.bipush 31, 2) := by decide +kernel
theorem dL_law_32 : decode cL_law 32 = .ok (.iand, 1) := by decide +kernel
theorem dL_law_33 : decode cL_law 33 = .ok (.tableswitch 825 0 22 #[107, 141, 175, 199, 223, 256, 290, 330, 343, 356, 451, 546, 559, 572, 606, 630, 654, 688, 728, 752, 766, 799, 812], 107) := by decide +kernel
theorem dL_law_140 : decode cL_law 140 = .ok (.aload_n 1, 1) := by decide +kernel
theorem dL_law_141 : decode cL_law 141 = .ok (.aload_n 0, 1) := by decide +kernel
theorem dL_law_142 : decode cL_law 142 = .ok (.iload_n 3, 1) := by decide +kernel
theorem dL_law_143 : decode cL_law 143 = .ok (.iconst 1, 1) := by decide +kernel
theorem dL_law_144 : decode cL_law 144 = .ok (.iadd, 1) := by decide +kernel
theorem dL_law_145 : decode cL_law 145 = .ok (.iaload, 1) := by decide +kernel
theorem dL_law_146 : decode cL_law 146 = .ok (.aload_n 0, 1) := by decide +kernel
theorem dL_law_147 : decode cL_law 147 = .ok (.iload_n 3, 1) := by decide +kernel
theorem dL_law_148 : decode cL_law 148 = .ok (.iconst 2, 1) := by decide +kernel
theorem dL_law_149 : decode cL_law 149 = .ok (.iadd, 1) := by decide +kernel
theorem dL_law_150 : decode cL_law 150 = .ok (.iaload, 1) := by decide +kernel
theorem dL_law_151 : decode cL_law 151 = .ok (.invokevirtual 13, 3) := by decide +kernel
theorem dL_law_154 : decode cL_law 154 = .ok (.aload_n 2, 1) := by decide +kernel
theorem dL_law_155 : decode cL_law 155 = .ok (.aload_n 0, 1) := by decide +kernel
theorem dL_law_156 : decode cL_law 156 = .ok (.iload_n 3, 1) := by decide +kernel
theorem dL_law_157 : decode cL_law 157 = .ok (.iconst 1, 1) := by decide +kernel
theorem dL_law_158 : decode cL_law 158 = .ok (.iadd, 1) := by decide +kernel
theorem dL_law_159 : decode cL_law 159 = .ok (.iaload, 1) := by decide +kernel
theorem dL_law_160 : decode cL_law 160 = .ok (.aload_n 0, 1) := by decide +kernel
theorem dL_law_161 : decode cL_law 161 = .ok (.iload_n 3, 1) := by decide +kernel
theorem dL_law_162 : decode cL_law 162 = .ok (.iconst 2, 1) := by decide +kernel
theorem dL_law_163 : decode cL_law 163 = .ok (.iadd, 1) := by decide +kernel
theorem dL_law_164 : decode cL_law 164 = .ok (.iaload, 1) := by decide +kernel
