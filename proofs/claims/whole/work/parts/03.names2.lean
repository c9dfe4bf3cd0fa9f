theorem inJx8e188 : ∀ w ∈ wsJx8e1880, w ∈ lw_tbl := by decide +kernel
theorem inJ9 : ∀ w ∈ wsJ90, w ∈ lw_tbl := by decide +kernel
theorem inJ10 : ∀ w ∈ wsJ100, w ∈ lw_tbl := by decide +kernel
theorem inJ7 : ∀ w ∈ wsJ70, w ∈ lw_tbl := by decide +kernel
theorem dX0_init_0 : decode cX0_init 0 = .ok (.aload_n 0, 1) := by decide +kernel
theorem dX0_init_1 : decode cX0_init 1 = .ok (.invokespecial 3, 3) := by decide +kernel
theorem dX0_init_4 : decode cX0_init 4 = .ok (.aload_n 0, 1) := by decide +kernel
theorem dX0_init_5 : decode cX0_init 5 = .ok (.sipush 512, 3) := by decide +kernel
theorem dX0_init_8 : decode cX0_init 8 = .ok (.newarray .int, 2) := by decide +kernel
theorem dX0_init_10 : decode cX0_init 10 = .ok (.putfield 9, 3) := by decide +kernel
theorem dX0_init_13 : decode cX0_init 13 = .ok (.aload_n 0, 1) := by decide +kernel
theorem dX0_init_14 : decode cX0_init 14 = .ok (.sipush 512, 3) := by decide +kernel
theorem dX0_init_17 : decode cX0_init 17 = .ok (.newarray .int, 2) := by decide +kernel
theorem dX0_init_19 : decode cX0_init 19 = .ok (.putfield 15, 3) := by decide +kernel
theorem dX0_init_22 : decode cX0_init 22 = .ok (.aload_n 0, 1) := by decide +kernel
theorem dX0_init_23 : decode cX0_init 23 = .ok (.iconst 0, 1) := by decide +kernel
theorem dX0_init_24 : decode cX0_init 24 = .ok (.putfield 18, 3) := by decide +kernel
theorem dX0_init_27 : decode cX0_init 27 = .ok (.return_, 1) := by decide +kernel
theorem dX0_count_0 : decode cX0_count 0 = .ok (.aload_n 0, 1) := by decide +kernel
theorem dX0_count_1 : decode cX0_count 1 = .ok (.getfield 18, 3) := by decide +kernel
theorem dX0_count_4 : decode cX0_count 4 = .ok (.ireturn, 1) := by decide +kernel
theorem dX0_placeOf_0 : decode cX0_placeOf 0 = .ok (.iconst 0, 1) := by decide +kernel
theorem dX0_placeOf_1 : decode cX0_placeOf 1 = .ok (.istore_n 3, 1) := by decide +kernel
theorem dX0_placeOf_2 : decode cX0_placeOf 2 = .ok (.iload_n 3, 1) := by decide +kernel
theorem dX0_placeOf_3 : decode cX0_placeOf 3 = .ok (.aload_n 0, 1) := by decide +kernel
theorem dX0_placeOf_4 : decode cX0_placeOf 4 = .ok (.getfield 18, 3) := by decide +kernel
theorem dX0_placeOf_7 : decode cX0_placeOf 7 = .ok (.if_icmp .ge 21, 3) := by decide +kernel
theorem dX0_placeOf_10 : decode cX0_placeOf 10 = .ok (.aload_n 0, 1) := by decide +kernel
theorem dX0_placeOf_11 : decode cX0_placeOf 11 = .ok (.getfield 9, 3) := by decide +kernel
theorem dX0_placeOf_14 : decode cX0_placeOf 14 = .ok (.iload_n 3, 1) := by decide +kernel
theorem dX0_placeOf_15 : decode cX0_placeOf 15 = .ok (.iaload, 1) := by decide +kernel
theorem dX0_placeOf_16 : decode cX0_placeOf 16 = .ok (.i2l, 1) := by decide +kernel
theorem dX0_placeOf_17 : decode cX0_placeOf 17 = .ok (.lload_n 1, 1) := by decide +kernel
theorem dX0_placeOf_18 : decode cX0_placeOf 18 = .ok (.lcmp, 1) := by decide +kernel
theorem dX0_placeOf_19 : decode cX0_placeOf 19 = .ok (.ifCond .ge 9, 3) := by decide +kernel
theorem dX0_placeOf_22 : decode cX0_placeOf 22 = .ok (.iinc 3 1, 3) := by decide +kernel
theorem dX0_placeOf_25 : decode cX0_placeOf 25 = .ok (.goto (-23), 3) := by decide +kernel
theorem dX0_placeOf_28 : decode cX0_placeOf 28 = .ok (.iload_n 3, 1) := by decide +kernel
theorem dX0_placeOf_29 : decode cX0_placeOf 29 = .ok (.ireturn, 1) := by decide +kernel
theorem dX0_keyAt_0 : decode cX0_keyAt 0 = .ok (.iload_n 1, 1) := by decide +kernel
theorem dX0_keyAt_1 : decode cX0_keyAt 1 = .ok (.ifCond .lt 21, 3) := by decide +kernel
theorem dX0_keyAt_4 : decode cX0_keyAt 4 = .ok (.iload_n 1, 1) := by decide +kernel
theorem dX0_keyAt_5 : decode cX0_keyAt 5 = .ok (.aload_n 0, 1) := by decide +kernel
theorem dX0_keyAt_6 : decode cX0_keyAt 6 = .ok (.getfield 18, 3) := by decide +kernel
theorem dX0_keyAt_9 : decode cX0_keyAt 9 = .ok (.if_icmp .ge 13, 3) := by decide +kernel
theorem dX0_keyAt_12 : decode cX0_keyAt 12 = .ok (.aload_n 0, 1) := by decide +kernel
theorem dX0_keyAt_13 : decode cX0_keyAt 13 = .ok (.getfield 9, 3) := by decide +kernel
theorem dX0_keyAt_16 : decode cX0_keyAt 16 = .ok (.iload_n 1, 1) := by decide +kernel
theorem dX0_keyAt_17 : decode cX0_keyAt 17 = .ok (.iaload, 1) := by decide +kernel
theorem dX0_keyAt_18 : decode cX0_keyAt 18 = .ok (.i2l, 1) := by decide +kernel
theorem dX0_keyAt_19 : decode cX0_keyAt 19 = .ok (.goto 6, 3) := by decide +kernel
theorem dX0_keyAt_22 : decode cX0_keyAt 22 = .ok (.ldc2_w 22, 3) := by decide +kernel
theorem dX0_keyAt_25 : decode cX0_keyAt 25 = .ok (.lreturn, 1) := by decide +kernel
theorem dX0_isAt_0 : decode cX0_isAt 0 = .ok (.iload_n 1, 1) := by decide +kernel
theorem dX0_isAt_1 : decode cX0_isAt 1 = .ok (.aload_n 0, 1) := by decide +kernel
theorem dX0_isAt_2 : decode cX0_isAt 2 = .ok (.getfield 18, 3) := by decide +kernel
theorem dX0_isAt_5 : decode cX0_isAt 5 = .ok (.if_icmp .ge 17, 3) := by decide +kernel
theorem dX0_isAt_8 : decode cX0_isAt 8 = .ok (.aload_n 0, 1) := by decide +kernel
theorem dX0_isAt_9 : decode cX0_isAt 9 = .ok (.getfield 9, 3) := by decide +kernel
theorem dX0_isAt_12 : decode cX0_isAt 12 = .ok (.iload_n 1, 1) := by decide +kernel
theorem dX0_isAt_13 : decode cX0_isAt 13 = .ok (.iaload, 1) := by decide +kernel
theorem dX0_isAt_14 : decode cX0_isAt 14 = .ok (.iload_n 2, 1) := by decide +kernel
theorem dX0_isAt_15 : decode cX0_isAt 15 = .ok (.if_icmp .ne 7, 3) := by decide +kernel
theorem dX0_isAt_18 : decode cX0_isAt 18 = .ok (.iconst 1, 1) := by decide +kernel
theorem dX0_isAt_19 : decode cX0_isAt 19 = .ok (.goto 4, 3) := by decide +kernel
theorem dX0_isAt_22 : decode cX0_isAt 22 = .ok (.iconst 0, 1) := by decide +kernel
theorem dX0_isAt_23 : decode cX0_isAt 23 = .ok (.ireturn, 1) := by decide +kernel
set_option maxRecDepth 20000 in
theorem ggX0_valueOf_X0_placeOf : GoodIn wsX0_valueOf wsX0_placeOf := goodIn_r _ [7, 8, 9, 14, 15, 16] (by decide +kernel) (by decide +kernel)
set_option maxRecDepth 20000 in
theorem gX0_valueOf_X0_placeOf : GoodIn wsX0_valueOf (wsV RX0 24 RX0 yX0_placeOf wsX0_placeOf) := goodIn_app (goodIn_of _ (by decide +kernel)) ggX0_valueOf_X0_placeOf
set_option maxRecDepth 20000 in
theorem ggX0_valueOf_X0_isAt : GoodIn wsX0_valueOf wsX0_isAt := goodIn_r _ [13, 8, 9, 14, 15, 16] (by decide +kernel) (by decide +kernel)
set_option maxRecDepth 20000 in
theorem gX0_valueOf_X0_isAt : GoodIn wsX0_valueOf (wsV RX0 28 RX0 yX0_isAt wsX0_isAt) := goodIn_app (goodIn_of _ (by decide +kernel)) ggX0_valueOf_X0_isAt
theorem dX0_valueOf_0 : decode cX0_valueOf 0 = .ok (.aload_n 0, 1) := by decide +kernel
theorem dX0_valueOf_1 : decode cX0_valueOf 1 = .ok (.iload_n 1, 1) := by decide +kernel
theorem dX0_valueOf_2 : decode cX0_valueOf 2 = .ok (.i2l, 1) := by decide +kernel
theorem dX0_valueOf_3 : decode cX0_valueOf 3 = .ok (.invokevirtual 24, 3) := by decide +kernel
theorem dX0_valueOf_6 : decode cX0_valueOf 6 = .ok (.istore_n 2, 1) := by decide +kernel
theorem dX0_valueOf_7 : decode cX0_valueOf 7 = .ok (.aload_n 0, 1) := by decide +kernel
theorem dX0_valueOf_8 : decode cX0_valueOf 8 = .ok (.iload_n 2, 1) := by decide +kernel
theorem dX0_valueOf_9 : decode cX0_valueOf 9 = .ok (.iload_n 1, 1) := by decide +kernel
theorem dX0_valueOf_10 : decode cX0_valueOf 10 = .ok (.invokevirtual 28, 3) := by decide +kernel
theorem dX0_valueOf_13 : decode cX0_valueOf 13 = .ok (.ifCond .eq 13, 3) := by decide +kernel
theorem dX0_valueOf_16 : decode cX0_valueOf 16 = .ok (.aload_n 0, 1) := by decide +kernel
theorem dX0_valueOf_17 : decode cX0_valueOf 17 = .ok (.getfield 15, 3) := by decide +kernel
theorem dX0_valueOf_20 : decode cX0_valueOf 20 = .ok (.iload_n 2, 1) := by decide +kernel
theorem dX0_valueOf_21 : decode cX0_valueOf 21 = .ok (.iaload, 1) := by decide +kernel
theorem dX0_valueOf_22 : decode cX0_valueOf 22 = .ok (.i2l, 1) := by decide +kernel
theorem dX0_valueOf_23 : decode cX0_valueOf 23 = .ok (.goto 6, 3) := by decide +kernel
theorem dX0_valueOf_26 : decode cX0_valueOf 26 = .ok (.ldc2_w 22, 3) := by decide +kernel
theorem dX0_valueOf_29 : decode cX0_valueOf 29 = .ok (.lreturn, 1) := by decide +kernel
theorem dX0_holdsValue_0 : decode cX0_holdsValue 0 = .ok (.iconst 0, 1) := by decide +kernel
theorem dX0_holdsValue_1 : decode cX0_holdsValue 1 = .ok (.istore_n 2, 1) := by decide +kernel
theorem dX0_holdsValue_2 : decode cX0_holdsValue 2 = .ok (.iload_n 2, 1) := by decide +kernel
theorem dX0_holdsValue_3 : decode cX0_holdsValue 3 = .ok (.aload_n 0, 1) := by decide +kernel
theorem dX0_holdsValue_4 : decode cX0_holdsValue 4 = .ok (.getfield 18, 3) := by decide +kernel
theorem dX0_holdsValue_7 : decode cX0_holdsValue 7 = .ok (.if_icmp .ge 21, 3) := by decide +kernel
theorem dX0_holdsValue_10 : decode cX0_holdsValue 10 = .ok (.aload_n 0, 1) := by decide +kernel
theorem dX0_holdsValue_11 : decode cX0_holdsValue 11 = .ok (.getfield 15, 3) := by decide +kernel
theorem dX0_holdsValue_14 : decode cX0_holdsValue 14 = .ok (.iload_n 2, 1) := by decide +kernel
theorem dX0_holdsValue_15 : decode cX0_holdsValue 15 = .ok (.iaload, 1) := by decide +kernel
theorem dX0_holdsValue_16 : decode cX0_holdsValue 16 = .ok (.iload_n 1, 1) := by decide +kernel
theorem dX0_holdsValue_17 : decode cX0_holdsValue 17 = .ok (.if_icmp .ne 5, 3) := by decide +kernel
theorem dX0_holdsValue_20 : decode cX0_holdsValue 20 = .ok (.iconst 1, 1) := by decide +kernel
theorem dX0_holdsValue_21 : decode cX0_holdsValue 21 = .ok (.ireturn, 1) := by decide +kernel
theorem dX0_holdsValue_22 : decode cX0_holdsValue 22 = .ok (.iinc 2 1, 3) := by decide +kernel
theorem dX0_holdsValue_25 : decode cX0_holdsValue 25 = .ok (.goto (-23), 3) := by decide +kernel
theorem dX0_holdsValue_28 : decode cX0_holdsValue 28 = .ok (.iconst 0, 1) := by decide +kernel
theorem dX0_holdsValue_29 : decode cX0_holdsValue 29 = .ok (.ireturn, 1) := by decide +kernel
set_option maxRecDepth 20000 in
theorem ggX0_store_X0_placeOf : GoodIn wsX0_store wsX0_placeOf := goodIn_r _ [7, 8, 9, 18, 19, 20] (by decide +kernel) (by decide +kernel)
set_option maxRecDepth 20000 in
theorem gX0_store_X0_placeOf : GoodIn wsX0_store (wsV RX0 24 RX0 yX0_placeOf wsX0_placeOf) := goodIn_app (goodIn_of _ (by decide +kernel)) ggX0_store_X0_placeOf
set_option maxRecDepth 20000 in
theorem ggX0_store_X0_isAt : GoodIn wsX0_store wsX0_isAt := goodIn_r _ [13, 8, 9, 18, 19, 20] (by decide +kernel) (by decide +kernel)
set_option maxRecDepth 20000 in
theorem gX0_store_X0_isAt : GoodIn wsX0_store (wsV RX0 28 RX0 yX0_isAt wsX0_isAt) := goodIn_app (goodIn_of _ (by decide +kernel)) ggX0_store_X0_isAt
set_option maxRecDepth 20000 in
theorem ggX0_store_X0_insert : GoodIn wsX0_store wsX0_insert := goodIn_r _ [17, 8, 9, 2, 18, 19, 20] (by decide +kernel) (by decide +kernel)
set_option maxRecDepth 20000 in
theorem gX0_store_X0_insert : GoodIn wsX0_store (wsV RX0 32 RX0 yX0_insert wsX0_insert) := goodIn_app (goodIn_of _ (by decide +kernel)) ggX0_store_X0_insert
theorem dX0_store_0 : decode cX0_store 0 = .ok (.aload_n 0, 1) := by decide +kernel
theorem dX0_store_1 : decode cX0_store 1 = .ok (.iload_n 1, 1) := by decide +kernel
theorem dX0_store_2 : decode cX0_store 2 = .ok (.i2l, 1) := by decide +kernel
theorem dX0_store_3 : decode cX0_store 3 = .ok (.invokevirtual 24, 3) := by decide +kernel
theorem dX0_store_6 : decode cX0_store 6 = .ok (.istore_n 3, 1) := by decide +kernel
theorem dX0_store_7 : decode cX0_store 7 = .ok (.aload_n 0, 1) := by decide +kernel
theorem dX0_store_8 : decode cX0_store 8 = .ok (.iload_n 3, 1) := by decide +kernel
theorem dX0_store_9 : decode cX0_store 9 = .ok (.iload_n 1, 1) := by decide +kernel
theorem dX0_store_10 : decode cX0_store 10 = .ok (.invokevirtual 28, 3) := by decide +kernel
theorem dX0_store_13 : decode cX0_store 13 = .ok (.ifCond .ne 14, 3) := by decide +kernel
theorem dX0_store_16 : decode cX0_store 16 = .ok (.aload_n 0, 1) := by decide +kernel
theorem dX0_store_17 : decode cX0_store 17 = .ok (.iload_n 3, 1) := by decide +kernel
theorem dX0_store_18 : decode cX0_store 18 = .ok (.iload_n 1, 1) := by decide +kernel
theorem dX0_store_19 : decode cX0_store 19 = .ok (.iload_n 2, 1) := by decide +kernel
theorem dX0_store_20 : decode cX0_store 20 = .ok (.invokevirtual 32, 3) := by decide +kernel
theorem dX0_store_23 : decode cX0_store 23 = .ok (.ldc2_w 22, 3) := by decide +kernel
theorem dX0_store_26 : decode cX0_store 26 = .ok (.lreturn, 1) := by decide +kernel
theorem dX0_store_27 : decode cX0_store 27 = .ok (.aload_n 0, 1) := by decide +kernel
theorem dX0_store_28 : decode cX0_store 28 = .ok (.getfield 15, 3) := by decide +kernel
theorem dX0_store_31 : decode cX0_store 31 = .ok (.iload_n 3, 1) := by decide +kernel
theorem dX0_store_32 : decode cX0_store 32 = .ok (.iaload, 1) := by decide +kernel
theorem dX0_store_33 : decode cX0_store 33 = .ok (.i2l, 1) := by decide +kernel
theorem dX0_store_34 : decode cX0_store 34 = .ok (.lstore 4, 2) := by decide +kernel
theorem dX0_store_36 : decode cX0_store 36 = .ok (.aload_n 0, 1) := by decide +kernel
theorem dX0_store_37 : decode cX0_store 37 = .ok (.getfield 15, 3) := by decide +kernel
theorem dX0_store_40 : decode cX0_store 40 = .ok (.iload_n 3, 1) := by decide +kernel
theorem dX0_store_41 : decode cX0_store 41 = .ok (.iload_n 2, 1) := by decide +kernel
theorem dX0_store_42 : decode cX0_store 42 = .ok (.iastore, 1) := by decide +kernel
theorem dX0_store_43 : decode cX0_store 43 = .ok (.lload 4, 2) := by decide +kernel
theorem dX0_store_45 : decode cX0_store 45 = .ok (.lreturn, 1) := by decide +kernel
theorem dX0_insert_0 : decode cX0_insert 0 = .ok (.aload_n 0, 1) := by decide +kernel
theorem dX0_insert_1 : decode cX0_insert 1 = .ok (.getfield 18, 3) := by decide +kernel
theorem dX0_insert_4 : decode cX0_insert 4 = .ok (.sipush 512, 3) := by decide +kernel
theorem dX0_insert_7 : decode cX0_insert 7 = .ok (.if_icmp .lt 4, 3) := by decide +kernel
theorem dX0_insert_10 : decode cX0_insert 10 = .ok (.return_, 1) := by decide +kernel
theorem dX0_insert_11 : decode cX0_insert 11 = .ok (.aload_n 0, 1) := by decide +kernel
theorem dX0_insert_12 : decode cX0_insert 12 = .ok (.getfield 18, 3) := by decide +kernel
theorem dX0_insert_15 : decode cX0_insert 15 = .ok (.istore 4, 2) := by decide +kernel
theorem dX0_insert_17 : decode cX0_insert 17 = .ok (.iload 4, 2) := by decide +kernel
theorem dX0_insert_19 : decode cX0_insert 19 = .ok (.iload_n 1, 1) := by decide +kernel
theorem dX0_insert_20 : decode cX0_insert 20 = .ok (.if_icmp .le 41, 3) := by decide +kernel
theorem dX0_insert_23 : decode cX0_insert 23 = .ok (.aload_n 0, 1) := by decide +kernel
theorem dX0_insert_24 : decode cX0_insert 24 = .ok (.getfield 9, 3) := by decide +kernel
theorem dX0_insert_27 : decode cX0_insert 27 = .ok (.iload 4, 2) := by decide +kernel
theorem dX0_insert_29 : decode cX0_insert 29 = .ok (.aload_n 0, 1) := by decide +kernel
theorem dX0_insert_30 : decode cX0_insert 30 = .ok (.getfield 9, 3) := by decide +kernel
theorem dX0_insert_33 : decode cX0_insert 33 = .ok (.iload 4, 2) := by decide +kernel
theorem dX0_insert_35 : decode cX0_insert 35 = .ok (.iconst 1, 1) := by decide +kernel
theorem dX0_insert_36 : decode cX0_insert 36 = .ok (.isub, 1) := by decide +kernel
theorem dX0_insert_37 : decode cX0_insert 37 = .ok (.iaload, 1) := by decide +kernel
theorem dX0_insert_38 : decode cX0_insert 38 = .ok (.iastore, 1) := by decide +kernel
theorem dX0_insert_39 : decode cX0_insert 39 = .ok (.aload_n 0, 1) := by decide +kernel
theorem dX0_insert_40 : decode cX0_insert 40 = .ok (.getfield 15, 3) := by decide +kernel
theorem dX0_insert_43 : decode cX0_insert 43 = .ok (.iload 4, 2) := by decide +kernel
theorem dX0_insert_45 : decode cX0_insert 45 = .ok (.aload_n 0, 1) := by decide +kernel
theorem dX0_insert_46 : decode cX0_insert 46 = .ok (.getfield 15, 3) := by decide +kernel
theorem dX0_insert_49 : decode cX0_insert 49 = .ok (.iload 4, 2) := by decide +kernel
theorem dX0_insert_51 : decode cX0_insert 51 = .ok (.iconst 1, 1) := by decide +kernel
theorem dX0_insert_52 : decode cX0_insert 52 = .ok (.isub, 1) := by decide +kernel
theorem dX0_insert_53 : decode cX0_insert 53 = .ok (.iaload, 1) := by decide +kernel
theorem dX0_insert_54 : decode cX0_insert 54 = .ok (.iastore, 1) := by decide +kernel
theorem dX0_insert_55 : decode cX0_insert 55 = .ok (.iinc 4 (-1), 3) := by decide +kernel
theorem dX0_insert_58 : decode cX0_insert 58 = .ok (.goto (-41), 3) := by decide +kernel
theorem dX0_insert_61 : decode cX0_insert 61 = .ok (.aload_n 0, 1) := by decide +kernel
theorem dX0_insert_62 : decode cX0_insert 62 = .ok (.getfield 9, 3) := by decide +kernel
theorem dX0_insert_65 : decode cX0_insert 65 = .ok (.iload_n 1, 1) := by decide +kernel
theorem dX0_insert_66 : decode cX0_insert 66 = .ok (.iload_n 2, 1) := by decide +kernel
theorem dX0_insert_67 : decode cX0_insert 67 = .ok (.iastore, 1) := by decide +kernel
theorem dX0_insert_68 : decode cX0_insert 68 = .ok (.aload_n 0, 1) := by decide +kernel
theorem dX0_insert_69 : decode cX0_insert 69 = .ok (.getfield 15, 3) := by decide +kernel
theorem dX0_insert_72 : decode cX0_insert 72 = .ok (.iload_n 1, 1) := by decide +kernel
theorem dX0_insert_73 : decode cX0_insert 73 = .ok (.iload_n 3, 1) := by decide +kernel
theorem dX0_insert_74 : decode cX0_insert 74 = .ok (.iastore, 1) := by decide +kernel
theorem dX0_insert_75 : decode cX0_insert 75 = .ok (.aload_n 0, 1) := by decide +kernel
theorem dX0_insert_76 : decode cX0_insert 76 = .ok (.dup, 1) := by decide +kernel
theorem dX0_insert_77 : decode cX0_insert 77 = .ok (.getfield 18, 3) := by decide +kernel
theorem dX0_insert_80 : decode cX0_insert 80 = .ok (.iconst 1, 1) := by decide +kernel
theorem dX0_insert_81 : decode cX0_insert 81 = .ok (.iadd, 1) := by decide +kernel
theorem dX0_insert_82 : decode cX0_insert 82 = .ok (.putfield 18, 3) := by decide +kernel
theorem dX0_insert_85 : decode cX0_insert 85 = .ok (.return_, 1) := by decide +kernel
set_option maxRecDepth 20000 in
theorem ggX0_drop_X0_placeOf : GoodIn wsX0_drop wsX0_placeOf := goodIn_r _ [7, 8, 9, 26, 27, 28] (by decide +kernel) (by decide +kernel)
set_option maxRecDepth 20000 in
theorem gX0_drop_X0_placeOf : GoodIn wsX0_drop (wsV RX0 24 RX0 yX0_placeOf wsX0_placeOf) := goodIn_app (goodIn_of _ (by decide +kernel)) ggX0_drop_X0_placeOf
set_option maxRecDepth 20000 in
theorem ggX0_drop_X0_isAt : GoodIn wsX0_drop wsX0_isAt := goodIn_r _ [13, 8, 9, 26, 27, 28] (by decide +kernel) (by decide +kernel)
set_option maxRecDepth 20000 in
theorem gX0_drop_X0_isAt : GoodIn wsX0_drop (wsV RX0 28 RX0 yX0_isAt wsX0_isAt) := goodIn_app (goodIn_of _ (by decide +kernel)) ggX0_drop_X0_isAt
set_option maxRecDepth 20000 in
theorem ggX0_drop_X0_dropPlaces : GoodIn wsX0_drop wsX0_dropPlaces := goodIn_r _ [17, 18, 19, 20, 6, 21, 8, 9, 2, 22, 23, 24, 25, 26, 27, 28] (by decide +kernel) (by decide +kernel)
set_option maxRecDepth 20000 in
theorem gX0_drop_X0_dropPlaces : GoodIn wsX0_drop (wsV RX0 36 RX0 yX0_dropPlaces wsX0_dropPlaces) := goodIn_app (goodIn_of _ (by decide +kernel)) ggX0_drop_X0_dropPlaces
theorem dX0_drop_0 : decode cX0_drop 0 = .ok (.aload_n 0, 1) := by decide +kernel
theorem dX0_drop_1 : decode cX0_drop 1 = .ok (.iload_n 1, 1) := by decide +kernel
theorem dX0_drop_2 : decode cX0_drop 2 = .ok (.i2l, 1) := by decide +kernel
theorem dX0_drop_3 : decode cX0_drop 3 = .ok (.invokevirtual 24, 3) := by decide +kernel
theorem dX0_drop_6 : decode cX0_drop 6 = .ok (.istore_n 2, 1) := by decide +kernel
theorem dX0_drop_7 : decode cX0_drop 7 = .ok (.aload_n 0, 1) := by decide +kernel
theorem dX0_drop_8 : decode cX0_drop 8 = .ok (.iload_n 2, 1) := by decide +kernel
theorem dX0_drop_9 : decode cX0_drop 9 = .ok (.iload_n 1, 1) := by decide +kernel
theorem dX0_drop_10 : decode cX0_drop 10 = .ok (.invokevirtual 28, 3) := by decide +kernel
theorem dX0_drop_13 : decode cX0_drop 13 = .ok (.ifCond .ne 7, 3) := by decide +kernel
theorem dX0_drop_16 : decode cX0_drop 16 = .ok (.ldc2_w 22, 3) := by decide +kernel
theorem dX0_drop_19 : decode cX0_drop 19 = .ok (.lreturn, 1) := by decide +kernel
theorem dX0_drop_20 : decode cX0_drop 20 = .ok (.aload_n 0, 1) := by decide +kernel
theorem dX0_drop_21 : decode cX0_drop 21 = .ok (.getfield 15, 3) := by decide +kernel
theorem dX0_drop_24 : decode cX0_drop 24 = .ok (.iload_n 2, 1) := by decide +kernel
theorem dX0_drop_25 : decode cX0_drop 25 = .ok (.iaload, 1) := by decide +kernel
theorem dX0_drop_26 : decode cX0_drop 26 = .ok (.i2l, 1) := by decide +kernel
theorem dX0_drop_27 : decode cX0_drop 27 = .ok (.lstore_n 3, 1) := by decide +kernel
theorem dX0_drop_28 : decode cX0_drop 28 = .ok (.aload_n 0, 1) := by decide +kernel
theorem dX0_drop_29 : decode cX0_drop 29 = .ok (.iload_n 2, 1) := by decide +kernel
theorem dX0_drop_30 : decode cX0_drop 30 = .ok (.iload_n 2, 1) := by decide +kernel
theorem dX0_drop_31 : decode cX0_drop 31 = .ok (.iconst 1, 1) := by decide +kernel
theorem dX0_drop_32 : decode cX0_drop 32 = .ok (.iadd, 1) := by decide +kernel
theorem dX0_drop_33 : decode cX0_drop 33 = .ok (.invokevirtual 36, 3) := by decide +kernel
theorem dX0_drop_36 : decode cX0_drop 36 = .ok (.pop, 1) := by decide +kernel
theorem dX0_drop_37 : decode cX0_drop 37 = .ok (.lload_n 3, 1) := by decide +kernel
theorem dX0_drop_38 : decode cX0_drop 38 = .ok (.lreturn, 1) := by decide +kernel
set_option maxRecDepth 20000 in
theorem ggX0_dropPlaces_X0_dropLeaving : GoodIn wsX0_dropPlaces wsX0_dropLeaving := goodIn_r _ [5, 6, 7, 8, 9, 10, 11, 12, 13, 14, 15] (by decide +kernel) (by decide +kernel)
set_option maxRecDepth 20000 in
theorem gX0_dropPlaces_X0_dropLeaving : GoodIn wsX0_dropPlaces (wsV RX0 40 RX0 yX0_dropLeaving wsX0_dropLeaving) := goodIn_app (goodIn_of _ (by decide +kernel)) ggX0_dropPlaces_X0_dropLeaving
theorem dX0_dropPlaces_0 : decode cX0_dropPlaces 0 = .ok (.aload_n 0, 1) := by decide +kernel
theorem dX0_dropPlaces_1 : decode cX0_dropPlaces 1 = .ok (.iconst 1, 1) := by decide +kernel
theorem dX0_dropPlaces_2 : decode cX0_dropPlaces 2 = .ok (.iconst 0, 1) := by decide +kernel
theorem dX0_dropPlaces_3 : decode cX0_dropPlaces 3 = .ok (.iload_n 1, 1) := by decide +kernel
theorem dX0_dropPlaces_4 : decode cX0_dropPlaces 4 = .ok (.iload_n 2, 1) := by decide +kernel
theorem dX0_dropPlaces_5 : decode cX0_dropPlaces 5 = .ok (.invokevirtual 40, 3) := by decide +kernel
theorem dX0_dropPlaces_8 : decode cX0_dropPlaces 8 = .ok (.ireturn, 1) := by decide +kernel
set_option maxRecDepth 20000 in
theorem ggX0_dropLeaving_J9_floorMod_7cf53 : GoodIn wsX0_dropLeaving wsJ9_floorMod_7cf53 := goodIn_r _ [7] (by decide +kernel) (by decide +kernel)
set_option maxRecDepth 20000 in
theorem gX0_dropLeaving_J9_floorMod_7cf53 : GoodIn wsX0_dropLeaving (va_wsS RX0 44 yJ9_floorMod_7cf53 wsJ9_floorMod_7cf53) := goodIn_app (goodIn_of _ (by decide +kernel)) ggX0_dropLeaving_J9_floorMod_7cf53
theorem dX0_dropLeaving_0 : decode cX0_dropLeaving 0 = .ok (.iload_n 1, 1) := by decide +kernel
theorem dX0_dropLeaving_1 : decode cX0_dropLeaving 1 = .ok (.iconst 1, 1) := by decide +kernel
theorem dX0_dropLeaving_2 : decode cX0_dropLeaving 2 = .ok (.if_icmp .ge 5, 3) := by decide +kernel
theorem dX0_dropLeaving_5 : decode cX0_dropLeaving 5 = .ok (.iconst (-1), 1) := by decide +kernel
theorem dX0_dropLeaving_6 : decode cX0_dropLeaving 6 = .ok (.ireturn, 1) := by decide +kernel
theorem dX0_dropLeaving_7 : decode cX0_dropLeaving 7 = .ok (.iload_n 3, 1) := by decide +kernel
theorem dX0_dropLeaving_8 : decode cX0_dropLeaving 8 = .ok (.istore 5, 2) := by decide +kernel
theorem dX0_dropLeaving_10 : decode cX0_dropLeaving 10 = .ok (.iload_n 3, 1) := by decide +kernel
theorem dX0_dropLeaving_11 : decode cX0_dropLeaving 11 = .ok (.istore 6, 2) := by decide +kernel
theorem dX0_dropLeaving_13 : decode cX0_dropLeaving 13 = .ok (.iload 6, 2) := by decide +kernel
theorem dX0_dropLeaving_15 : decode cX0_dropLeaving 15 = .ok (.aload_n 0, 1) := by decide +kernel
theorem dX0_dropLeaving_16 : decode cX0_dropLeaving 16 = .ok (.getfield 18, 3) := by decide +kernel
theorem dX0_dropLeaving_19 : decode cX0_dropLeaving 19 = .ok (.if_icmp .ge 74, 3) := by decide +kernel
theorem dX0_dropLeaving_22 : decode cX0_dropLeaving 22 = .ok (.iload 6, 2) := by decide +kernel
theorem dX0_dropLeaving_24 : decode cX0_dropLeaving 24 = .ok (.iload 4, 2) := by decide +kernel
theorem dX0_dropLeaving_26 : decode cX0_dropLeaving 26 = .ok (.if_icmp .ge 22, 3) := by decide +kernel
theorem dX0_dropLeaving_29 : decode cX0_dropLeaving 29 = .ok (.aload_n 0, 1) := by decide +kernel
theorem dX0_dropLeaving_30 : decode cX0_dropLeaving 30 = .ok (.getfield 9, 3) := by decide +kernel
theorem dX0_dropLeaving_33 : decode cX0_dropLeaving 33 = .ok (.iload 6, 2) := by decide +kernel
theorem dX0_dropLeaving_35 : decode cX0_dropLeaving 35 = .ok (.iaload, 1) := by decide +kernel
theorem dX0_dropLeaving_36 : decode cX0_dropLeaving 36 = .ok (.iload_n 1, 1) := by decide +kernel
theorem dX0_dropLeaving_37 : decode cX0_dropLeaving 37 = .ok (.invokestatic 44, 3) := by decide +kernel
theorem dX0_dropLeaving_40 : decode cX0_dropLeaving 40 = .ok (.iload_n 2, 1) := by decide +kernel
theorem dX0_dropLeaving_41 : decode cX0_dropLeaving 41 = .ok (.if_icmp .ne 7, 3) := by decide +kernel
theorem dX0_dropLeaving_44 : decode cX0_dropLeaving 44 = .ok (.iconst 1, 1) := by decide +kernel
theorem dX0_dropLeaving_45 : decode cX0_dropLeaving 45 = .ok (.goto 4, 3) := by decide +kernel
theorem dX0_dropLeaving_48 : decode cX0_dropLeaving 48 = .ok (.iconst 0, 1) := by decide +kernel
theorem dX0_dropLeaving_49 : decode cX0_dropLeaving 49 = .ok (.istore 7, 2) := by decide +kernel
theorem dX0_dropLeaving_51 : decode cX0_dropLeaving 51 = .ok (.iload 7, 2) := by decide +kernel
theorem dX0_dropLeaving_53 : decode cX0_dropLeaving 53 = .ok (.ifCond .ne 34, 3) := by decide +kernel
theorem dX0_dropLeaving_56 : decode cX0_dropLeaving 56 = .ok (.aload_n 0, 1) := by decide +kernel
theorem dX0_dropLeaving_57 : decode cX0_dropLeaving 57 = .ok (.getfield 9, 3) := by decide +kernel
theorem dX0_dropLeaving_60 : decode cX0_dropLeaving 60 = .ok (.iload 5, 2) := by decide +kernel
theorem dX0_dropLeaving_62 : decode cX0_dropLeaving 62 = .ok (.aload_n 0, 1) := by decide +kernel
theorem dX0_dropLeaving_63 : decode cX0_dropLeaving 63 = .ok (.getfield 9, 3) := by decide +kernel
theorem dX0_dropLeaving_66 : decode cX0_dropLeaving 66 = .ok (.iload 6, 2) := by decide +kernel
theorem dX0_dropLeaving_68 : decode cX0_dropLeaving 68 = .ok (.iaload, 1) := by decide +kernel
theorem dX0_dropLeaving_69 : decode cX0_dropLeaving 69 = .ok (.iastore, 1) := by decide +kernel
theorem dX0_dropLeaving_70 : decode cX0_dropLeaving 70 = .ok (.aload_n 0, 1) := by decide +kernel
theorem dX0_dropLeaving_71 : decode cX0_dropLeaving 71 = .ok (.getfield 15, 3) := by decide +kernel
theorem dX0_dropLeaving_74 : decode cX0_dropLeaving 74 = .ok (.iload 5, 2) := by decide +kernel
theorem dX0_dropLeaving_76 : decode cX0_dropLeaving 76 = .ok (.aload_n 0, 1) := by decide +kernel
theorem dX0_dropLeaving_77 : decode cX0_dropLeaving 77 = .ok (.getfield 15, 3) := by decide +kernel
theorem dX0_dropLeaving_80 : decode cX0_dropLeaving 80 = .ok (.iload 6, 2) := by decide +kernel
theorem dX0_dropLeaving_82 : decode cX0_dropLeaving 82 = .ok (.iaload, 1) := by decide +kernel
theorem dX0_dropLeaving_83 : decode cX0_dropLeaving 83 = .ok (.iastore, 1) := by decide +kernel
theorem dX0_dropLeaving_84 : decode cX0_dropLeaving 84 = .ok (.iinc 5 1, 3) := by decide +kernel
theorem dX0_dropLeaving_87 : decode cX0_dropLeaving 87 = .ok (.iinc 6 1, 3) := by decide +kernel
theorem dX0_dropLeaving_90 : decode cX0_dropLeaving 90 = .ok (.goto (-77), 3) := by decide +kernel
theorem dX0_dropLeaving_93 : decode cX0_dropLeaving 93 = .ok (.aload_n 0, 1) := by decide +kernel
theorem dX0_dropLeaving_94 : decode cX0_dropLeaving 94 = .ok (.getfield 18, 3) := by decide +kernel
theorem dX0_dropLeaving_97 : decode cX0_dropLeaving 97 = .ok (.iload 5, 2) := by decide +kernel
theorem dX0_dropLeaving_99 : decode cX0_dropLeaving 99 = .ok (.isub, 1) := by decide +kernel
theorem dX0_dropLeaving_100 : decode cX0_dropLeaving 100 = .ok (.istore 6, 2) := by decide +kernel
theorem dX0_dropLeaving_102 : decode cX0_dropLeaving 102 = .ok (.aload_n 0, 1) := by decide +kernel
theorem dX0_dropLeaving_103 : decode cX0_dropLeaving 103 = .ok (.iload 5, 2) := by decide +kernel
theorem dX0_dropLeaving_105 : decode cX0_dropLeaving 105 = .ok (.putfield 18, 3) := by decide +kernel
theorem dX0_dropLeaving_108 : decode cX0_dropLeaving 108 = .ok (.iload 6, 2) := by decide +kernel
theorem dX0_dropLeaving_110 : decode cX0_dropLeaving 110 = .ok (.ireturn, 1) := by decide +kernel
theorem dX1_init_0 : decode cX1_init 0 = .ok (.aload_n 0, 1) := by decide +kernel
theorem dX1_init_1 : decode cX1_init 1 = .ok (.invokespecial 1, 3) := by decide +kernel
theorem dX1_init_4 : decode cX1_init 4 = .ok (.aload_n 0, 1) := by decide +kernel
theorem dX1_init_5 : decode cX1_init 5 = .ok (.lload_n 1, 1) := by decide +kernel
theorem dX1_init_6 : decode cX1_init 6 = .ok (.putfield 7, 3) := by decide +kernel
theorem dX1_init_9 : decode cX1_init 9 = .ok (.aload_n 0, 1) := by decide +kernel
theorem dX1_init_10 : decode cX1_init 10 = .ok (.iload_n 3, 1) := by decide +kernel
theorem dX1_init_11 : decode cX1_init 11 = .ok (.putfield 13, 3) := by decide +kernel
theorem dX1_init_14 : decode cX1_init 14 = .ok (.aload_n 0, 1) := by decide +kernel
theorem dX1_init_15 : decode cX1_init 15 = .ok (.lload 4, 2) := by decide +kernel
theorem dX1_init_17 : decode cX1_init 17 = .ok (.putfield 17, 3) := by decide +kernel
theorem dX1_init_20 : decode cX1_init 20 = .ok (.aload_n 0, 1) := by decide +kernel
theorem dX1_init_21 : decode cX1_init 21 = .ok (.iload 6, 2) := by decide +kernel
theorem dX1_init_23 : decode cX1_init 23 = .ok (.putfield 20, 3) := by decide +kernel
theorem dX1_init_26 : decode cX1_init 26 = .ok (.return_, 1) := by decide +kernel
theorem dX1_start_0 : decode cX1_start 0 = .ok (.aload_n 0, 1) := by decide +kernel
theorem dX1_start_1 : decode cX1_start 1 = .ok (.getfield 13, 3) := by decide +kernel
theorem dX1_start_4 : decode cX1_start 4 = .ok (.ifCond .eq 10, 3) := by decide +kernel
theorem dX1_start_7 : decode cX1_start 7 = .ok (.aload_n 0, 1) := by decide +kernel
theorem dX1_start_8 : decode cX1_start 8 = .ok (.getfield 7, 3) := by decide +kernel
theorem dX1_start_11 : decode cX1_start 11 = .ok (.goto 9, 3) := by decide +kernel
theorem dX1_start_14 : decode cX1_start 14 = .ok (.aload_n 0, 1) := by decide +kernel
theorem dX1_start_15 : decode cX1_start 15 = .ok (.getfield 7, 3) := by decide +kernel
theorem dX1_start_18 : decode cX1_start 18 = .ok (.lconst 1, 1) := by decide +kernel
theorem dX1_start_19 : decode cX1_start 19 = .ok (.ladd, 1) := by decide +kernel
theorem dX1_start_20 : decode cX1_start 20 = .ok (.lreturn, 1) := by decide +kernel
theorem dX1_stop_0 : decode cX1_stop 0 = .ok (.aload_n 0, 1) := by decide +kernel
theorem dX1_stop_1 : decode cX1_stop 1 = .ok (.getfield 20, 3) := by decide +kernel
theorem dX1_stop_4 : decode cX1_stop 4 = .ok (.ifCond .eq 12, 3) := by decide +kernel
theorem dX1_stop_7 : decode cX1_stop 7 = .ok (.aload_n 0, 1) := by decide +kernel
theorem dX1_stop_8 : decode cX1_stop 8 = .ok (.getfield 17, 3) := by decide +kernel
theorem dX1_stop_11 : decode cX1_stop 11 = .ok (.lconst 1, 1) := by decide +kernel
theorem dX1_stop_12 : decode cX1_stop 12 = .ok (.ladd, 1) := by decide +kernel
theorem dX1_stop_13 : decode cX1_stop 13 = .ok (.goto 7, 3) := by decide +kernel
theorem dX1_stop_16 : decode cX1_stop 16 = .ok (.aload_n 0, 1) := by decide +kernel
theorem dX1_stop_17 : decode cX1_stop 17 = .ok (.getfield 17, 3) := by decide +kernel
theorem dX1_stop_20 : decode cX1_stop 20 = .ok (.lreturn, 1) := by decide +kernel
set_option maxRecDepth 20000 in
theorem ggX1_holds_X1_start : GoodIn wsX1_holds wsX1_start := goodIn_r _ [5, 6, 7, 14, 15, 16, 17] (by decide +kernel) (by decide +kernel)
set_option maxRecDepth 20000 in
theorem gX1_holds_X1_start : GoodIn wsX1_holds (wsV RX1 23 RX1 yX1_start wsX1_start) := goodIn_app (goodIn_of _ (by decide +kernel)) ggX1_holds_X1_start
set_option maxRecDepth 20000 in
theorem ggX1_holds_X1_stop : GoodIn wsX1_holds wsX1_stop := goodIn_r _ [11, 12, 13, 14, 15, 16, 17] (by decide +kernel) (by decide +kernel)
set_option maxRecDepth 20000 in
theorem gX1_holds_X1_stop : GoodIn wsX1_holds (wsV RX1 27 RX1 yX1_stop wsX1_stop) := goodIn_app (goodIn_of _ (by decide +kernel)) ggX1_holds_X1_stop
theorem dX1_holds_0 : decode cX1_holds 0 = .ok (.lload_n 1, 1) := by decide +kernel
theorem dX1_holds_1 : decode cX1_holds 1 = .ok (.aload_n 0, 1) := by decide +kernel
theorem dX1_holds_2 : decode cX1_holds 2 = .ok (.invokevirtual 23, 3) := by decide +kernel
theorem dX1_holds_5 : decode cX1_holds 5 = .ok (.lcmp, 1) := by decide +kernel
theorem dX1_holds_6 : decode cX1_holds 6 = .ok (.ifCond .lt 16, 3) := by decide +kernel
theorem dX1_holds_9 : decode cX1_holds 9 = .ok (.lload_n 1, 1) := by decide +kernel
theorem dX1_holds_10 : decode cX1_holds 10 = .ok (.aload_n 0, 1) := by decide +kernel
theorem dX1_holds_11 : decode cX1_holds 11 = .ok (.invokevirtual 27, 3) := by decide +kernel
theorem dX1_holds_14 : decode cX1_holds 14 = .ok (.lcmp, 1) := by decide +kernel
theorem dX1_holds_15 : decode cX1_holds 15 = .ok (.ifCond .ge 7, 3) := by decide +kernel
theorem dX1_holds_18 : decode cX1_holds 18 = .ok (.iconst 1, 1) := by decide +kernel
theorem dX1_holds_19 : decode cX1_holds 19 = .ok (.goto 4, 3) := by decide +kernel
theorem dX1_holds_22 : decode cX1_holds 22 = .ok (.iconst 0, 1) := by decide +kernel
theorem dX1_holds_23 : decode cX1_holds 23 = .ok (.ireturn, 1) := by decide +kernel
set_option maxRecDepth 20000 in
theorem ggX1_part_X1_mayEndAt : GoodIn wsX1_part wsX1_mayEndAt := goodIn_r _ [5, 6, 7, 8, 9, 10, 4, 11, 12, 13, 14, 15, 16, 17, 18, 19, 20, 21, 34, 35, 36, 37] (by decide +kernel) (by decide +kernel)
set_option maxRecDepth 20000 in
theorem gX1_part_X1_mayEndAt : GoodIn wsX1_part (wsV RX1 30 RX1 yX1_mayEndAt wsX1_mayEndAt) := goodIn_app (goodIn_of _ (by decide +kernel)) ggX1_part_X1_mayEndAt
set_option maxRecDepth 20000 in
theorem ggX1_part_X1_withEnd : GoodIn wsX1_part wsX1_withEnd := goodIn_r _ [25, 26, 27, 4, 6, 16, 7, 21, 28, 29, 30, 31, 32, 33, 34, 35, 36, 37] (by decide +kernel) (by decide +kernel)
set_option maxRecDepth 20000 in
theorem gX1_part_X1_withEnd : GoodIn wsX1_part (wsV RX1 34 RX1 yX1_withEnd wsX1_withEnd) := goodIn_app (goodIn_of _ (by decide +kernel)) ggX1_part_X1_withEnd
theorem dX1_part_0 : decode cX1_part 0 = .ok (.iload_n 1, 1) := by decide +kernel
theorem dX1_part_1 : decode cX1_part 1 = .ok (.ifCond .lt 8, 3) := by decide +kernel
theorem dX1_part_4 : decode cX1_part 4 = .ok (.iload_n 1, 1) := by decide +kernel
theorem dX1_part_5 : decode cX1_part 5 = .ok (.iconst 3, 1) := by decide +kernel
theorem dX1_part_6 : decode cX1_part 6 = .ok (.if_icmp .le 5, 3) := by decide +kernel
theorem dX1_part_9 : decode cX1_part 9 = .ok (.aconst_null, 1) := by decide +kernel
theorem dX1_part_10 : decode cX1_part 10 = .ok (.areturn, 1) := by decide +kernel
theorem dX1_part_11 : decode cX1_part 11 = .ok (.iload_n 1, 1) := by decide +kernel
theorem dX1_part_12 : decode cX1_part 12 = .ok (.iconst 2, 1) := by decide +kernel
theorem dX1_part_13 : decode cX1_part 13 = .ok (.if_icmp .eq 8, 3) := by decide +kernel
theorem dX1_part_16 : decode cX1_part 16 = .ok (.iload_n 1, 1) := by decide +kernel
theorem dX1_part_17 : decode cX1_part 17 = .ok (.iconst 3, 1) := by decide +kernel
theorem dX1_part_18 : decode cX1_part 18 = .ok (.if_icmp .ne 7, 3) := by decide +kernel
theorem dX1_part_21 : decode cX1_part 21 = .ok (.iconst 1, 1) := by decide +kernel
theorem dX1_part_22 : decode cX1_part 22 = .ok (.goto 4, 3) := by decide +kernel
theorem dX1_part_25 : decode cX1_part 25 = .ok (.iconst 0, 1) := by decide +kernel
theorem dX1_part_26 : decode cX1_part 26 = .ok (.istore 7, 2) := by decide +kernel
theorem dX1_part_28 : decode cX1_part 28 = .ok (.iload_n 1, 1) := by decide +kernel
theorem dX1_part_29 : decode cX1_part 29 = .ok (.iconst 1, 1) := by decide +kernel
theorem dX1_part_30 : decode cX1_part 30 = .ok (.if_icmp .eq 8, 3) := by decide +kernel
theorem dX1_part_33 : decode cX1_part 33 = .ok (.iload_n 1, 1) := by decide +kernel
theorem dX1_part_34 : decode cX1_part 34 = .ok (.iconst 3, 1) := by decide +kernel
theorem dX1_part_35 : decode cX1_part 35 = .ok (.if_icmp .ne 7, 3) := by decide +kernel
theorem dX1_part_38 : decode cX1_part 38 = .ok (.iconst 1, 1) := by decide +kernel
theorem dX1_part_39 : decode cX1_part 39 = .ok (.goto 4, 3) := by decide +kernel
theorem dX1_part_42 : decode cX1_part 42 = .ok (.iconst 0, 1) := by decide +kernel
theorem dX1_part_43 : decode cX1_part 43 = .ok (.istore 8, 2) := by decide +kernel
theorem dX1_part_45 : decode cX1_part 45 = .ok (.iload 7, 2) := by decide +kernel
theorem dX1_part_47 : decode cX1_part 47 = .ok (.ifCond .eq 13, 3) := by decide +kernel
theorem dX1_part_50 : decode cX1_part 50 = .ok (.aload_n 0, 1) := by decide +kernel
theorem dX1_part_51 : decode cX1_part 51 = .ok (.iload_n 2, 1) := by decide +kernel
theorem dX1_part_52 : decode cX1_part 52 = .ok (.i2l, 1) := by decide +kernel
theorem dX1_part_53 : decode cX1_part 53 = .ok (.iload_n 3, 1) := by decide +kernel
theorem dX1_part_54 : decode cX1_part 54 = .ok (.invokevirtual 30, 3) := by decide +kernel
theorem dX1_part_57 : decode cX1_part 57 = .ok (.ifCond .eq 20, 3) := by decide +kernel
theorem dX1_part_60 : decode cX1_part 60 = .ok (.iload 8, 2) := by decide +kernel
theorem dX1_part_62 : decode cX1_part 62 = .ok (.ifCond .eq 17, 3) := by decide +kernel
theorem dX1_part_65 : decode cX1_part 65 = .ok (.aload_n 0, 1) := by decide +kernel
theorem dX1_part_66 : decode cX1_part 66 = .ok (.iload 4, 2) := by decide +kernel
theorem dX1_part_68 : decode cX1_part 68 = .ok (.i2l, 1) := by decide +kernel
theorem dX1_part_69 : decode cX1_part 69 = .ok (.iload 5, 2) := by decide +kernel
theorem dX1_part_71 : decode cX1_part 71 = .ok (.invokevirtual 30, 3) := by decide +kernel
theorem dX1_part_74 : decode cX1_part 74 = .ok (.ifCond .ne 5, 3) := by decide +kernel
theorem dX1_part_77 : decode cX1_part 77 = .ok (.aconst_null, 1) := by decide +kernel
theorem dX1_part_78 : decode cX1_part 78 = .ok (.areturn, 1) := by decide +kernel
theorem dX1_part_79 : decode cX1_part 79 = .ok (.iload 7, 2) := by decide +kernel
theorem dX1_part_81 : decode cX1_part 81 = .ok (.ifCond .eq 30, 3) := by decide +kernel
theorem dX1_part_84 : decode cX1_part 84 = .ok (.iload 8, 2) := by decide +kernel
theorem dX1_part_86 : decode cX1_part 86 = .ok (.ifCond .eq 25, 3) := by decide +kernel
theorem dX1_part_89 : decode cX1_part 89 = .ok (.iload 6, 2) := by decide +kernel
theorem dX1_part_91 : decode cX1_part 91 = .ok (.ifCond .eq 12, 3) := by decide +kernel
theorem dX1_part_94 : decode cX1_part 94 = .ok (.iload_n 2, 1) := by decide +kernel
theorem dX1_part_95 : decode cX1_part 95 = .ok (.iload 4, 2) := by decide +kernel
theorem dX1_part_97 : decode cX1_part 97 = .ok (.if_icmp .ge 14, 3) := by decide +kernel
theorem dX1_part_100 : decode cX1_part 100 = .ok (.goto 9, 3) := by decide +kernel
theorem dX1_part_103 : decode cX1_part 103 = .ok (.iload_n 2, 1) := by decide +kernel
theorem dX1_part_104 : decode cX1_part 104 = .ok (.iload 4, 2) := by decide +kernel
theorem dX1_part_106 : decode cX1_part 106 = .ok (.if_icmp .le 5, 3) := by decide +kernel
theorem dX1_part_109 : decode cX1_part 109 = .ok (.aconst_null, 1) := by decide +kernel
theorem dX1_part_110 : decode cX1_part 110 = .ok (.areturn, 1) := by decide +kernel
theorem dX1_part_111 : decode cX1_part 111 = .ok (.iload 7, 2) := by decide +kernel
theorem dX1_part_113 : decode cX1_part 113 = .ok (.ifCond .eq 15, 3) := by decide +kernel
theorem dX1_part_116 : decode cX1_part 116 = .ok (.aload_n 0, 1) := by decide +kernel
theorem dX1_part_117 : decode cX1_part 117 = .ok (.iload 6, 2) := by decide +kernel
theorem dX1_part_119 : decode cX1_part 119 = .ok (.iload_n 2, 1) := by decide +kernel
theorem dX1_part_120 : decode cX1_part 120 = .ok (.i2l, 1) := by decide +kernel
theorem dX1_part_121 : decode cX1_part 121 = .ok (.iload_n 3, 1) := by decide +kernel
theorem dX1_part_122 : decode cX1_part 122 = .ok (.invokevirtual 34, 3) := by decide +kernel
theorem dX1_part_125 : decode cX1_part 125 = .ok (.goto 4, 3) := by decide +kernel
theorem dX1_part_128 : decode cX1_part 128 = .ok (.aload_n 0, 1) := by decide +kernel
theorem dX1_part_129 : decode cX1_part 129 = .ok (.astore 9, 2) := by decide +kernel
theorem dX1_part_131 : decode cX1_part 131 = .ok (.iload 8, 2) := by decide +kernel
theorem dX1_part_133 : decode cX1_part 133 = .ok (.ifCond .eq 26, 3) := by decide +kernel
theorem dX1_part_136 : decode cX1_part 136 = .ok (.aload 9, 2) := by decide +kernel
theorem dX1_part_138 : decode cX1_part 138 = .ok (.iload 6, 2) := by decide +kernel
theorem dX1_part_140 : decode cX1_part 140 = .ok (.ifCond .ne 7, 3) := by decide +kernel
theorem dX1_part_143 : decode cX1_part 143 = .ok (.iconst 1, 1) := by decide +kernel
theorem dX1_part_144 : decode cX1_part 144 = .ok (.goto 4, 3) := by decide +kernel
theorem dX1_part_147 : decode cX1_part 147 = .ok (.iconst 0, 1) := by decide +kernel
theorem dX1_part_148 : decode cX1_part 148 = .ok (.iload 4, 2) := by decide +kernel
theorem dX1_part_150 : decode cX1_part 150 = .ok (.i2l, 1) := by decide +kernel
theorem dX1_part_151 : decode cX1_part 151 = .ok (.iload 5, 2) := by decide +kernel
theorem dX1_part_153 : decode cX1_part 153 = .ok (.invokevirtual 34, 3) := by decide +kernel
theorem dX1_part_156 : decode cX1_part 156 = .ok (.goto 5, 3) := by decide +kernel
theorem dX1_part_159 : decode cX1_part 159 = .ok (.aload 9, 2) := by decide +kernel
theorem dX1_part_161 : decode cX1_part 161 = .ok (.areturn, 1) := by decide +kernel
set_option maxRecDepth 20000 in
theorem ggX1_mayEndAt_X1_holds : GoodIn wsX1_mayEndAt wsX1_holds := goodIn_r _ [7, 8, 9, 10, 6, 11, 12, 1, 13, 14, 15, 16, 17, 2, 18, 19, 20, 21] (by decide +kernel) (by decide +kernel)
set_option maxRecDepth 20000 in
theorem gX1_mayEndAt_X1_holds : GoodIn wsX1_mayEndAt (wsV RX1 38 RX1 yX1_holds wsX1_holds) := goodIn_app (goodIn_of _ (by decide +kernel)) ggX1_mayEndAt_X1_holds
theorem dX1_mayEndAt_0 : decode cX1_mayEndAt 0 = .ok (.iload_n 3, 1) := by decide +kernel
theorem dX1_mayEndAt_1 : decode cX1_mayEndAt 1 = .ok (.ifCond .eq 11, 3) := by decide +kernel
theorem dX1_mayEndAt_4 : decode cX1_mayEndAt 4 = .ok (.aload_n 0, 1) := by decide +kernel
theorem dX1_mayEndAt_5 : decode cX1_mayEndAt 5 = .ok (.lload_n 1, 1) := by decide +kernel
theorem dX1_mayEndAt_6 : decode cX1_mayEndAt 6 = .ok (.invokevirtual 38, 3) := by decide +kernel
theorem dX1_mayEndAt_9 : decode cX1_mayEndAt 9 = .ok (.goto 26, 3) := by decide +kernel
theorem dX1_mayEndAt_12 : decode cX1_mayEndAt 12 = .ok (.lload_n 1, 1) := by decide +kernel
theorem dX1_mayEndAt_13 : decode cX1_mayEndAt 13 = .ok (.aload_n 0, 1) := by decide +kernel
theorem dX1_mayEndAt_14 : decode cX1_mayEndAt 14 = .ok (.getfield 7, 3) := by decide +kernel
theorem dX1_mayEndAt_17 : decode cX1_mayEndAt 17 = .ok (.lcmp, 1) := by decide +kernel
theorem dX1_mayEndAt_18 : decode cX1_mayEndAt 18 = .ok (.ifCond .lt 16, 3) := by decide +kernel
theorem dX1_mayEndAt_21 : decode cX1_mayEndAt 21 = .ok (.lload_n 1, 1) := by decide +kernel
theorem dX1_mayEndAt_22 : decode cX1_mayEndAt 22 = .ok (.aload_n 0, 1) := by decide +kernel
theorem dX1_mayEndAt_23 : decode cX1_mayEndAt 23 = .ok (.getfield 17, 3) := by decide +kernel
theorem dX1_mayEndAt_26 : decode cX1_mayEndAt 26 = .ok (.lcmp, 1) := by decide +kernel
theorem dX1_mayEndAt_27 : decode cX1_mayEndAt 27 = .ok (.ifCond .gt 7, 3) := by decide +kernel
theorem dX1_mayEndAt_30 : decode cX1_mayEndAt 30 = .ok (.iconst 1, 1) := by decide +kernel
theorem dX1_mayEndAt_31 : decode cX1_mayEndAt 31 = .ok (.goto 4, 3) := by decide +kernel
theorem dX1_mayEndAt_34 : decode cX1_mayEndAt 34 = .ok (.iconst 0, 1) := by decide +kernel
theorem dX1_mayEndAt_35 : decode cX1_mayEndAt 35 = .ok (.ireturn, 1) := by decide +kernel
set_option maxRecDepth 20000 in
theorem ggX1_withEnd_X1_init : GoodIn wsX1_withEnd wsX1_init := goodIn_r _ [10, 11, 12, 13, 4, 5, 6, 7, 14, 15, 16, 17] (by decide +kernel) (by decide +kernel)
set_option maxRecDepth 20000 in
theorem gX1_withEnd_X1_init : GoodIn wsX1_withEnd (wsX1_init) := ggX1_withEnd_X1_init
theorem dX1_withEnd_0 : decode cX1_withEnd 0 = .ok (.iload_n 1, 1) := by decide +kernel
theorem dX1_withEnd_1 : decode cX1_withEnd 1 = .ok (.ifCond .eq 24, 3) := by decide +kernel
theorem dX1_withEnd_4 : decode cX1_withEnd 4 = .ok (.new 8, 3) := by decide +kernel
theorem dX1_withEnd_7 : decode cX1_withEnd 7 = .ok (.dup, 1) := by decide +kernel
theorem dX1_withEnd_8 : decode cX1_withEnd 8 = .ok (.aload_n 0, 1) := by decide +kernel
theorem dX1_withEnd_9 : decode cX1_withEnd 9 = .ok (.getfield 7, 3) := by decide +kernel
theorem dX1_withEnd_12 : decode cX1_withEnd 12 = .ok (.aload_n 0, 1) := by decide +kernel
theorem dX1_withEnd_13 : decode cX1_withEnd 13 = .ok (.getfield 13, 3) := by decide +kernel
theorem dX1_withEnd_16 : decode cX1_withEnd 16 = .ok (.lload_n 2, 1) := by decide +kernel
theorem dX1_withEnd_17 : decode cX1_withEnd 17 = .ok (.iload 4, 2) := by decide +kernel
theorem dX1_withEnd_19 : decode cX1_withEnd 19 = .ok (.invokespecial 42, 3) := by decide +kernel
theorem dX1_withEnd_22 : decode cX1_withEnd 22 = .ok (.goto 21, 3) := by decide +kernel
theorem dX1_withEnd_25 : decode cX1_withEnd 25 = .ok (.new 8, 3) := by decide +kernel
theorem dX1_withEnd_28 : decode cX1_withEnd 28 = .ok (.dup, 1) := by decide +kernel
theorem dX1_withEnd_29 : decode cX1_withEnd 29 = .ok (.lload_n 2, 1) := by decide +kernel
theorem dX1_withEnd_30 : decode cX1_withEnd 30 = .ok (.iload 4, 2) := by decide +kernel
theorem dX1_withEnd_32 : decode cX1_withEnd 32 = .ok (.aload_n 0, 1) := by decide +kernel
theorem dX1_withEnd_33 : decode cX1_withEnd 33 = .ok (.getfield 17, 3) := by decide +kernel
theorem dX1_withEnd_36 : decode cX1_withEnd 36 = .ok (.aload_n 0, 1) := by decide +kernel
theorem dX1_withEnd_37 : decode cX1_withEnd 37 = .ok (.getfield 20, 3) := by decide +kernel
theorem dX1_withEnd_40 : decode cX1_withEnd 40 = .ok (.invokespecial 42, 3) := by decide +kernel
theorem dX1_withEnd_43 : decode cX1_withEnd 43 = .ok (.areturn, 1) := by decide +kernel
set_option maxRecDepth 20000 in
theorem ggX2_init_X0_init : GoodIn wsX2_init wsX0_init := goodIn_r _ [17, 18, 2, 3, 19, 20, 21, 22, 31, 32, 33] (by decide +kernel) (by decide +kernel)
set_option maxRecDepth 20000 in
theorem gX2_init_X0_init_n11 : GoodIn wsX2_init (wsX0_init) := ggX2_init_X0_init
set_option maxRecDepth 20000 in
theorem ggX2_init_X1_init : GoodIn wsX2_init wsX1_init := goodIn_r _ [25, 26, 2, 3, 27, 28, 29, 30, 38, 39, 40, 41] (by decide +kernel) (by decide +kernel)
set_option maxRecDepth 20000 in
theorem gX2_init_X1_init : GoodIn wsX2_init (wsX1_init) := ggX2_init_X1_init
theorem dX2_init_0 : decode cX2_init 0 = .ok (.aload_n 0, 1) := by decide +kernel
theorem dX2_init_1 : decode cX2_init 1 = .ok (.invokespecial 3, 3) := by decide +kernel
theorem dX2_init_4 : decode cX2_init 4 = .ok (.aload_n 0, 1) := by decide +kernel
theorem dX2_init_5 : decode cX2_init 5 = .ok (.new 9, 3) := by decide +kernel
theorem dX2_init_8 : decode cX2_init 8 = .ok (.dup, 1) := by decide +kernel
theorem dX2_init_9 : decode cX2_init 9 = .ok (.invokespecial 11, 3) := by decide +kernel
theorem dX2_init_12 : decode cX2_init 12 = .ok (.putfield 12, 3) := by decide +kernel
theorem dX2_init_15 : decode cX2_init 15 = .ok (.aload_n 0, 1) := by decide +kernel
theorem dX2_init_16 : decode cX2_init 16 = .ok (.new 16, 3) := by decide +kernel
theorem dX2_init_19 : decode cX2_init 19 = .ok (.dup, 1) := by decide +kernel
theorem dX2_init_20 : decode cX2_init 20 = .ok (.ldc2_w 18, 3) := by decide +kernel
theorem dX2_init_23 : decode cX2_init 23 = .ok (.iconst 0, 1) := by decide +kernel
theorem dX2_init_24 : decode cX2_init 24 = .ok (.ldc2_w 20, 3) := by decide +kernel
theorem dX2_init_27 : decode cX2_init 27 = .ok (.iconst 0, 1) := by decide +kernel
theorem dX2_init_28 : decode cX2_init 28 = .ok (.invokespecial 22, 3) := by decide +kernel
theorem dX2_init_31 : decode cX2_init 31 = .ok (.putfield 25, 3) := by decide +kernel
theorem dX2_init_34 : decode cX2_init 34 = .ok (.aload_n 0, 1) := by decide +kernel
theorem dX2_init_35 : decode cX2_init 35 = .ok (.aload_n 0, 1) := by decide +kernel
theorem dX2_init_36 : decode cX2_init 36 = .ok (.getfield 25, 3) := by decide +kernel
theorem dX2_init_39 : decode cX2_init 39 = .ok (.putfield 29, 3) := by decide +kernel
theorem dX2_init_42 : decode cX2_init 42 = .ok (.aload_n 0, 1) := by decide +kernel
theorem dX2_init_43 : decode cX2_init 43 = .ok (.iconst 0, 1) := by decide +kernel
theorem dX2_init_44 : decode cX2_init 44 = .ok (.putfield 32, 3) := by decide +kernel
theorem dX2_init_47 : decode cX2_init 47 = .ok (.return_, 1) := by decide +kernel
set_option maxRecDepth 20000 in
theorem ggX2_put_X0_store : GoodIn wsX2_put wsX0_store := goodIn_r _ [6, 7, 8, 9, 10, 11, 5, 12, 13, 14, 15, 16, 17, 18, 19, 20, 21, 22, 27, 28, 29] (by decide +kernel) (by decide +kernel)
set_option maxRecDepth 20000 in
theorem gX2_put_X0_store : GoodIn wsX2_put (wsV RX2 36 RX0 yX0_store wsX0_store) := goodIn_app (goodIn_of _ (by decide +kernel)) ggX2_put_X0_store
theorem dX2_put_0 : decode cX2_put 0 = .ok (.aload_n 0, 1) := by decide +kernel
theorem dX2_put_1 : decode cX2_put 1 = .ok (.getfield 12, 3) := by decide +kernel
theorem dX2_put_4 : decode cX2_put 4 = .ok (.iload_n 1, 1) := by decide +kernel
theorem dX2_put_5 : decode cX2_put 5 = .ok (.iload_n 2, 1) := by decide +kernel
theorem dX2_put_6 : decode cX2_put 6 = .ok (.invokevirtual 36, 3) := by decide +kernel
theorem dX2_put_9 : decode cX2_put 9 = .ok (.lreturn, 1) := by decide +kernel
set_option maxRecDepth 20000 in
theorem ggX2_add_X0_valueOf : GoodIn wsX2_add wsX0_valueOf := goodIn_r _ [7, 8, 9, 10, 11, 12, 6, 13, 14, 15, 16, 17, 18, 19, 32, 33, 34] (by decide +kernel) (by decide +kernel)
set_option maxRecDepth 20000 in
theorem gX2_add_X0_valueOf : GoodIn wsX2_add (wsV RX2 40 RX0 yX0_valueOf wsX0_valueOf) := goodIn_app (goodIn_of _ (by decide +kernel)) ggX2_add_X0_valueOf
set_option maxRecDepth 20000 in
theorem ggX2_add_X0_store : GoodIn wsX2_add wsX0_store := goodIn_r _ [23, 9, 8, 10, 11, 12, 6, 13, 14, 15, 16, 17, 18, 19, 24, 25, 26, 27, 32, 33, 34] (by decide +kernel) (by decide +kernel)
set_option maxRecDepth 20000 in
theorem gX2_add_X0_store : GoodIn wsX2_add (wsV RX2 36 RX0 yX0_store wsX0_store) := goodIn_app (goodIn_of _ (by decide +kernel)) ggX2_add_X0_store
theorem dX2_add_0 : decode cX2_add 0 = .ok (.aload_n 0, 1) := by decide +kernel
theorem dX2_add_1 : decode cX2_add 1 = .ok (.getfield 12, 3) := by decide +kernel
theorem dX2_add_4 : decode cX2_add 4 = .ok (.iload_n 1, 1) := by decide +kernel
theorem dX2_add_5 : decode cX2_add 5 = .ok (.invokevirtual 40, 3) := by decide +kernel
theorem dX2_add_8 : decode cX2_add 8 = .ok (.lstore_n 3, 1) := by decide +kernel
theorem dX2_add_9 : decode cX2_add 9 = .ok (.lload_n 3, 1) := by decide +kernel
theorem dX2_add_10 : decode cX2_add 10 = .ok (.ldc2_w 44, 3) := by decide +kernel
theorem dX2_add_13 : decode cX2_add 13 = .ok (.lcmp, 1) := by decide +kernel
theorem dX2_add_14 : decode cX2_add 14 = .ok (.ifCond .ne 15, 3) := by decide +kernel
theorem dX2_add_17 : decode cX2_add 17 = .ok (.aload_n 0, 1) := by decide +kernel
theorem dX2_add_18 : decode cX2_add 18 = .ok (.getfield 12, 3) := by decide +kernel
theorem dX2_add_21 : decode cX2_add 21 = .ok (.iload_n 1, 1) := by decide +kernel
theorem dX2_add_22 : decode cX2_add 22 = .ok (.iload_n 2, 1) := by decide +kernel
theorem dX2_add_23 : decode cX2_add 23 = .ok (.invokevirtual 36, 3) := by decide +kernel
theorem dX2_add_26 : decode cX2_add 26 = .ok (.goto 4, 3) := by decide +kernel
theorem dX2_add_29 : decode cX2_add 29 = .ok (.lload_n 3, 1) := by decide +kernel
theorem dX2_add_30 : decode cX2_add 30 = .ok (.lreturn, 1) := by decide +kernel
set_option maxRecDepth 20000 in
theorem ggX2_get_X0_valueOf : GoodIn wsX2_get wsX0_valueOf := goodIn_r _ [6, 7, 8, 9, 10, 11, 5, 12, 13, 14, 15, 16, 17, 18, 23, 24, 25] (by decide +kernel) (by decide +kernel)
set_option maxRecDepth 20000 in
theorem gX2_get_X0_valueOf : GoodIn wsX2_get (wsV RX2 40 RX0 yX0_valueOf wsX0_valueOf) := goodIn_app (goodIn_of _ (by decide +kernel)) ggX2_get_X0_valueOf
theorem dX2_get_0 : decode cX2_get 0 = .ok (.aload_n 0, 1) := by decide +kernel
theorem dX2_get_1 : decode cX2_get 1 = .ok (.getfield 12, 3) := by decide +kernel
theorem dX2_get_4 : decode cX2_get 4 = .ok (.iload_n 1, 1) := by decide +kernel
theorem dX2_get_5 : decode cX2_get 5 = .ok (.invokevirtual 40, 3) := by decide +kernel
theorem dX2_get_8 : decode cX2_get 8 = .ok (.lreturn, 1) := by decide +kernel
set_option maxRecDepth 20000 in
theorem ggX2_remove_X0_drop : GoodIn wsX2_remove wsX0_drop := goodIn_r _ [6, 7, 8, 9, 10, 11, 5, 12, 13, 14, 15, 16, 17, 18, 19, 20, 21, 22, 23, 24, 25, 26, 27, 28, 29, 30, 35, 36, 37] (by decide +kernel) (by decide +kernel)
set_option maxRecDepth 20000 in
theorem gX2_remove_X0_drop : GoodIn wsX2_remove (wsV RX2 46 RX0 yX0_drop wsX0_drop) := goodIn_app (goodIn_of _ (by decide +kernel)) ggX2_remove_X0_drop
theorem dX2_remove_0 : decode cX2_remove 0 = .ok (.aload_n 0, 1) := by decide +kernel
theorem dX2_remove_1 : decode cX2_remove 1 = .ok (.getfield 12, 3) := by decide +kernel
theorem dX2_remove_4 : decode cX2_remove 4 = .ok (.iload_n 1, 1) := by decide +kernel
theorem dX2_remove_5 : decode cX2_remove 5 = .ok (.invokevirtual 46, 3) := by decide +kernel
theorem dX2_remove_8 : decode cX2_remove 8 = .ok (.lreturn, 1) := by decide +kernel
set_option maxRecDepth 20000 in
theorem ggX2_has_X0_valueOf : GoodIn wsX2_has wsX0_valueOf := goodIn_r _ [7, 8, 9, 10, 11, 12, 6, 13, 14, 15, 16, 17, 18, 19, 28, 29, 30] (by decide +kernel) (by decide +kernel)
set_option maxRecDepth 20000 in
theorem gX2_has_X0_valueOf : GoodIn wsX2_has (wsV RX2 40 RX0 yX0_valueOf wsX0_valueOf) := goodIn_app (goodIn_of _ (by decide +kernel)) ggX2_has_X0_valueOf
set_option maxRecDepth 20000 in
theorem ggX2_has_X0_holdsValue : GoodIn wsX2_has wsX0_holdsValue := goodIn_r _ [23, 14, 8, 28, 29, 30] (by decide +kernel) (by decide +kernel)
set_option maxRecDepth 20000 in
theorem gX2_has_X0_holdsValue : GoodIn wsX2_has (wsV RX2 49 RX0 yX0_holdsValue wsX0_holdsValue) := goodIn_app (goodIn_of _ (by decide +kernel)) ggX2_has_X0_holdsValue
theorem dX2_has_0 : decode cX2_has 0 = .ok (.iload_n 1, 1) := by decide +kernel
theorem dX2_has_1 : decode cX2_has 1 = .ok (.lookupswitch 57 #[(0, 27), (1, 48)], 27) := by decide +kernel
theorem dX2_has_28 : decode cX2_has 28 = .ok (.aload_n 0, 1) := by decide +kernel
theorem dX2_has_29 : decode cX2_has 29 = .ok (.getfield 12, 3) := by decide +kernel
theorem dX2_has_32 : decode cX2_has 32 = .ok (.iload_n 2, 1) := by decide +kernel
theorem dX2_has_33 : decode cX2_has 33 = .ok (.invokevirtual 40, 3) := by decide +kernel
theorem dX2_has_36 : decode cX2_has 36 = .ok (.ldc2_w 44, 3) := by decide +kernel
theorem dX2_has_39 : decode cX2_has 39 = .ok (.lcmp, 1) := by decide +kernel
theorem dX2_has_40 : decode cX2_has 40 = .ok (.ifCond .eq 7, 3) := by decide +kernel
theorem dX2_has_43 : decode cX2_has 43 = .ok (.iconst 1, 1) := by decide +kernel
theorem dX2_has_44 : decode cX2_has 44 = .ok (.goto 4, 3) := by decide +kernel
theorem dX2_has_47 : decode cX2_has 47 = .ok (.iconst 0, 1) := by decide +kernel
theorem dX2_has_48 : decode cX2_has 48 = .ok (.ireturn, 1) := by decide +kernel
theorem dX2_has_49 : decode cX2_has 49 = .ok (.aload_n 0, 1) := by decide +kernel
theorem dX2_has_50 : decode cX2_has 50 = .ok (.getfield 12, 3) := by decide +kernel
theorem dX2_has_53 : decode cX2_has 53 = .ok (.iload_n 2, 1) := by decide +kernel
theorem dX2_has_54 : decode cX2_has 54 = .ok (.invokevirtual 49, 3) := by decide +kernel
theorem dX2_has_57 : decode cX2_has 57 = .ok (.ireturn, 1) := by decide +kernel
theorem dX2_has_58 : decode cX2_has 58 = .ok (.iconst 0, 1) := by decide +kernel
theorem dX2_has_59 : decode cX2_has 59 = .ok (.ireturn, 1) := by decide +kernel
set_option maxRecDepth 20000 in
theorem ggX2_near_X0_count : GoodIn wsX2_near wsX0_count := goodIn_r _ [6, 7, 39, 40, 41] (by decide +kernel) (by decide +kernel)
set_option maxRecDepth 20000 in
theorem gX2_near_X0_count : GoodIn wsX2_near (wsV RX2 53 RX0 yX0_count wsX0_count) := goodIn_app (goodIn_of _ (by decide +kernel)) ggX2_near_X0_count
set_option maxRecDepth 20000 in
theorem ggX2_near_X2_keyNear : GoodIn wsX2_near wsX2_keyNear := goodIn_r _ [12, 1, 13, 14, 15, 16, 17, 18, 19, 20, 21, 22, 23, 5, 24, 7, 25, 26, 27, 28, 11, 29, 30, 31, 32, 33, 34, 35, 36, 37, 38, 39, 40, 41] (by decide +kernel) (by decide +kernel)
set_option maxRecDepth 20000 in
theorem gX2_near_X2_keyNear : GoodIn wsX2_near (wsV RX2 57 RX2 yX2_keyNear wsX2_keyNear) := goodIn_app (goodIn_of _ (by decide +kernel)) ggX2_near_X2_keyNear
theorem dX2_near_0 : decode cX2_near 0 = .ok (.aload_n 0, 1) := by decide +kernel
theorem dX2_near_1 : decode cX2_near 1 = .ok (.iload_n 1, 1) := by decide +kernel
theorem dX2_near_2 : decode cX2_near 2 = .ok (.iload_n 2, 1) := by decide +kernel
theorem dX2_near_3 : decode cX2_near 3 = .ok (.iconst 0, 1) := by decide +kernel
theorem dX2_near_4 : decode cX2_near 4 = .ok (.aload_n 0, 1) := by decide +kernel
theorem dX2_near_5 : decode cX2_near 5 = .ok (.getfield 12, 3) := by decide +kernel
theorem dX2_near_8 : decode cX2_near 8 = .ok (.invokevirtual 53, 3) := by decide +kernel
theorem dX2_near_11 : decode cX2_near 11 = .ok (.invokevirtual 57, 3) := by decide +kernel
theorem dX2_near_14 : decode cX2_near 14 = .ok (.lreturn, 1) := by decide +kernel
set_option maxRecDepth 20000 in
theorem ggX2_poll_X0_count : GoodIn wsX2_poll wsX0_count := goodIn_r _ [6, 7, 41, 42, 43] (by decide +kernel) (by decide +kernel)
set_option maxRecDepth 20000 in
theorem gX2_poll_X0_count : GoodIn wsX2_poll (wsV RX2 53 RX0 yX0_count wsX0_count) := goodIn_app (goodIn_of _ (by decide +kernel)) ggX2_poll_X0_count
set_option maxRecDepth 20000 in
theorem ggX2_poll_X2_pollWithin : GoodIn wsX2_poll wsX2_pollWithin := goodIn_r _ [12, 13, 1, 14, 15, 16, 11, 17, 18, 19, 20, 5, 21, 7, 22, 23, 24, 25, 26, 27, 28, 29, 30, 31, 32, 33, 34, 35, 36, 37, 38, 39, 40, 41, 42, 43] (by decide +kernel) (by decide +kernel)
set_option maxRecDepth 20000 in
theorem gX2_poll_X2_pollWithin : GoodIn wsX2_poll (wsV RX2 61 RX2 yX2_pollWithin wsX2_pollWithin) := goodIn_app (goodIn_of _ (by decide +kernel)) ggX2_poll_X2_pollWithin
theorem dX2_poll_0 : decode cX2_poll 0 = .ok (.aload_n 0, 1) := by decide +kernel
theorem dX2_poll_1 : decode cX2_poll 1 = .ok (.iload_n 1, 1) := by decide +kernel
theorem dX2_poll_2 : decode cX2_poll 2 = .ok (.iconst 0, 1) := by decide +kernel
theorem dX2_poll_3 : decode cX2_poll 3 = .ok (.aload_n 0, 1) := by decide +kernel
theorem dX2_poll_4 : decode cX2_poll 4 = .ok (.getfield 12, 3) := by decide +kernel
theorem dX2_poll_7 : decode cX2_poll 7 = .ok (.invokevirtual 53, 3) := by decide +kernel
theorem dX2_poll_10 : decode cX2_poll 10 = .ok (.invokevirtual 61, 3) := by decide +kernel
theorem dX2_poll_13 : decode cX2_poll 13 = .ok (.lreturn, 1) := by decide +kernel
set_option maxRecDepth 20000 in
theorem ggX2_size_X0_count : GoodIn wsX2_size wsX0_count := goodIn_r _ [6, 7, 12, 13, 14] (by decide +kernel) (by decide +kernel)
set_option maxRecDepth 20000 in
theorem gX2_size_X0_count : GoodIn wsX2_size (wsV RX2 53 RX0 yX0_count wsX0_count) := goodIn_app (goodIn_of _ (by decide +kernel)) ggX2_size_X0_count
theorem dX2_size_0 : decode cX2_size 0 = .ok (.aload_n 0, 1) := by decide +kernel
theorem dX2_size_1 : decode cX2_size 1 = .ok (.getfield 12, 3) := by decide +kernel
theorem dX2_size_4 : decode cX2_size 4 = .ok (.invokevirtual 53, 3) := by decide +kernel
theorem dX2_size_7 : decode cX2_size 7 = .ok (.ireturn, 1) := by decide +kernel
set_option maxRecDepth 20000 in
theorem ggX2_clear_X0_count : GoodIn wsX2_clear wsX0_count := goodIn_r _ [6, 7, 26, 27, 28] (by decide +kernel) (by decide +kernel)
set_option maxRecDepth 20000 in
theorem gX2_clear_X0_count : GoodIn wsX2_clear (wsV RX2 53 RX0 yX0_count wsX0_count) := goodIn_app (goodIn_of _ (by decide +kernel)) ggX2_clear_X0_count
set_option maxRecDepth 20000 in
theorem ggX2_clear_X0_dropPlaces : GoodIn wsX2_clear wsX0_dropPlaces := goodIn_r _ [11, 12, 13, 14, 5, 15, 7, 16, 17, 18, 19, 20, 21, 26, 27, 28] (by decide +kernel) (by decide +kernel)
set_option maxRecDepth 20000 in
theorem gX2_clear_X0_dropPlaces : GoodIn wsX2_clear (wsV RX2 65 RX0 yX0_dropPlaces wsX0_dropPlaces) := goodIn_app (goodIn_of _ (by decide +kernel)) ggX2_clear_X0_dropPlaces
theorem dX2_clear_0 : decode cX2_clear 0 = .ok (.aload_n 0, 1) := by decide +kernel
theorem dX2_clear_1 : decode cX2_clear 1 = .ok (.getfield 12, 3) := by decide +kernel
theorem dX2_clear_4 : decode cX2_clear 4 = .ok (.iconst 0, 1) := by decide +kernel
theorem dX2_clear_5 : decode cX2_clear 5 = .ok (.aload_n 0, 1) := by decide +kernel
theorem dX2_clear_6 : decode cX2_clear 6 = .ok (.getfield 12, 3) := by decide +kernel
theorem dX2_clear_9 : decode cX2_clear 9 = .ok (.invokevirtual 53, 3) := by decide +kernel
theorem dX2_clear_12 : decode cX2_clear 12 = .ok (.invokevirtual 65, 3) := by decide +kernel
theorem dX2_clear_15 : decode cX2_clear 15 = .ok (.ireturn, 1) := by decide +kernel
set_option maxRecDepth 20000 in
theorem ggX2_look_X1_part : GoodIn wsX2_look wsX1_part := goodIn_r _ [8, 9, 10, 11, 7, 12, 13, 14, 15, 16, 17, 18, 19, 20, 21, 22, 23, 24, 25, 26, 27, 28, 29, 30, 31, 32, 33, 34, 35, 36, 37, 38, 39, 40, 45, 46, 47, 48] (by decide +kernel) (by decide +kernel)
set_option maxRecDepth 20000 in
theorem gX2_look_X1_part : GoodIn wsX2_look (wsV RX2 69 RX1 yX1_part wsX1_part) := goodIn_app (goodIn_of _ (by decide +kernel)) ggX2_look_X1_part
theorem dX2_look_0 : decode cX2_look 0 = .ok (.aload_n 0, 1) := by decide +kernel
theorem dX2_look_1 : decode cX2_look 1 = .ok (.getfield 25, 3) := by decide +kernel
theorem dX2_look_4 : decode cX2_look 4 = .ok (.iload_n 1, 1) := by decide +kernel
theorem dX2_look_5 : decode cX2_look 5 = .ok (.iload_n 2, 1) := by decide +kernel
theorem dX2_look_6 : decode cX2_look 6 = .ok (.iload_n 3, 1) := by decide +kernel
theorem dX2_look_7 : decode cX2_look 7 = .ok (.iload 4, 2) := by decide +kernel
theorem dX2_look_9 : decode cX2_look 9 = .ok (.iload 5, 2) := by decide +kernel
theorem dX2_look_11 : decode cX2_look 11 = .ok (.iconst 0, 1) := by decide +kernel
theorem dX2_look_12 : decode cX2_look 12 = .ok (.invokevirtual 69, 3) := by decide +kernel
theorem dX2_look_15 : decode cX2_look 15 = .ok (.astore 6, 2) := by decide +kernel
theorem dX2_look_17 : decode cX2_look 17 = .ok (.aload 6, 2) := by decide +kernel
theorem dX2_look_19 : decode cX2_look 19 = .ok (.ifnonnull 5, 3) := by decide +kernel
theorem dX2_look_22 : decode cX2_look 22 = .ok (.iconst 1, 1) := by decide +kernel
theorem dX2_look_23 : decode cX2_look 23 = .ok (.ireturn, 1) := by decide +kernel
theorem dX2_look_24 : decode cX2_look 24 = .ok (.aload_n 0, 1) := by decide +kernel
theorem dX2_look_25 : decode cX2_look 25 = .ok (.aload 6, 2) := by decide +kernel
theorem dX2_look_27 : decode cX2_look 27 = .ok (.putfield 29, 3) := by decide +kernel
theorem dX2_look_30 : decode cX2_look 30 = .ok (.aload_n 0, 1) := by decide +kernel
theorem dX2_look_31 : decode cX2_look 31 = .ok (.iconst 0, 1) := by decide +kernel
theorem dX2_look_32 : decode cX2_look 32 = .ok (.putfield 32, 3) := by decide +kernel
theorem dX2_look_35 : decode cX2_look 35 = .ok (.iconst 0, 1) := by decide +kernel
theorem dX2_look_36 : decode cX2_look 36 = .ok (.ireturn, 1) := by decide +kernel
set_option maxRecDepth 20000 in
theorem ggX2_narrow_X1_part : GoodIn wsX2_narrow wsX1_part := goodIn_r _ [7, 8, 9, 10, 6, 11, 12, 13, 14, 15, 16, 17, 18, 19, 20, 21, 22, 23, 24, 25, 26, 27, 28, 29, 30, 31, 32, 33, 34, 35, 36, 37, 38, 39, 44, 45, 46, 47] (by decide +kernel) (by decide +kernel)
set_option maxRecDepth 20000 in
theorem gX2_narrow_X1_part : GoodIn wsX2_narrow (wsV RX2 69 RX1 yX1_part wsX1_part) := goodIn_app (goodIn_of _ (by decide +kernel)) ggX2_narrow_X1_part
theorem dX2_narrow_0 : decode cX2_narrow 0 = .ok (.aload_n 0, 1) := by decide +kernel
theorem dX2_narrow_1 : decode cX2_narrow 1 = .ok (.getfield 29, 3) := by decide +kernel
theorem dX2_narrow_4 : decode cX2_narrow 4 = .ok (.iload_n 1, 1) := by decide +kernel
theorem dX2_narrow_5 : decode cX2_narrow 5 = .ok (.iload_n 2, 1) := by decide +kernel
theorem dX2_narrow_6 : decode cX2_narrow 6 = .ok (.iload_n 3, 1) := by decide +kernel
theorem dX2_narrow_7 : decode cX2_narrow 7 = .ok (.iload 4, 2) := by decide +kernel
theorem dX2_narrow_9 : decode cX2_narrow 9 = .ok (.iload 5, 2) := by decide +kernel
theorem dX2_narrow_11 : decode cX2_narrow 11 = .ok (.aload_n 0, 1) := by decide +kernel
theorem dX2_narrow_12 : decode cX2_narrow 12 = .ok (.getfield 32, 3) := by decide +kernel
theorem dX2_narrow_15 : decode cX2_narrow 15 = .ok (.invokevirtual 69, 3) := by decide +kernel
theorem dX2_narrow_18 : decode cX2_narrow 18 = .ok (.astore 6, 2) := by decide +kernel
theorem dX2_narrow_20 : decode cX2_narrow 20 = .ok (.aload 6, 2) := by decide +kernel
theorem dX2_narrow_22 : decode cX2_narrow 22 = .ok (.ifnonnull 5, 3) := by decide +kernel
theorem dX2_narrow_25 : decode cX2_narrow 25 = .ok (.iconst 1, 1) := by decide +kernel
theorem dX2_narrow_26 : decode cX2_narrow 26 = .ok (.ireturn, 1) := by decide +kernel
theorem dX2_narrow_27 : decode cX2_narrow 27 = .ok (.aload_n 0, 1) := by decide +kernel
theorem dX2_narrow_28 : decode cX2_narrow 28 = .ok (.aload 6, 2) := by decide +kernel
theorem dX2_narrow_30 : decode cX2_narrow 30 = .ok (.putfield 29, 3) := by decide +kernel
theorem dX2_narrow_33 : decode cX2_narrow 33 = .ok (.iconst 0, 1) := by decide +kernel
theorem dX2_narrow_34 : decode cX2_narrow 34 = .ok (.ireturn, 1) := by decide +kernel
set_option maxRecDepth 20000 in
theorem ggX2_turn_X2_viewSize : GoodIn wsX2_turn wsX2_viewSize := goodIn_r _ [6, 7, 8, 9, 5, 10, 11, 12, 13, 14, 15, 16, 17, 18, 19, 20, 21, 22, 23, 24, 25, 26, 27, 28, 29, 30, 31, 32, 33, 34, 35, 36, 37, 38, 39, 40, 41, 42, 43, 44, 45, 46, 47, 48, 49, 50, 51] (by decide +kernel) (by decide +kernel)
set_option maxRecDepth 20000 in
theorem gX2_turn_X2_viewSize : GoodIn wsX2_turn (wsV RX2 73 RX2 yX2_viewSize wsX2_viewSize) := goodIn_app (goodIn_of _ (by decide +kernel)) ggX2_turn_X2_viewSize
theorem dX2_turn_0 : decode cX2_turn 0 = .ok (.aload_n 0, 1) := by decide +kernel
theorem dX2_turn_1 : decode cX2_turn 1 = .ok (.aload_n 0, 1) := by decide +kernel
theorem dX2_turn_2 : decode cX2_turn 2 = .ok (.getfield 32, 3) := by decide +kernel
theorem dX2_turn_5 : decode cX2_turn 5 = .ok (.ifCond .ne 7, 3) := by decide +kernel
theorem dX2_turn_8 : decode cX2_turn 8 = .ok (.iconst 1, 1) := by decide +kernel
theorem dX2_turn_9 : decode cX2_turn 9 = .ok (.goto 4, 3) := by decide +kernel
theorem dX2_turn_12 : decode cX2_turn 12 = .ok (.iconst 0, 1) := by decide +kernel
theorem dX2_turn_13 : decode cX2_turn 13 = .ok (.putfield 32, 3) := by decide +kernel
theorem dX2_turn_16 : decode cX2_turn 16 = .ok (.aload_n 0, 1) := by decide +kernel
theorem dX2_turn_17 : decode cX2_turn 17 = .ok (.invokevirtual 73, 3) := by decide +kernel
theorem dX2_turn_20 : decode cX2_turn 20 = .ok (.ireturn, 1) := by decide +kernel
set_option maxRecDepth 20000 in
theorem ggX2_viewSize_X2_viewEnd : GoodIn wsX2_viewSize wsX2_viewEnd := goodIn_r _ [5, 6, 7, 8, 9, 10, 11, 12, 13, 14, 4, 15, 16, 17, 18, 19, 20, 21, 22, 23, 24, 25, 26, 27, 28, 29, 30, 31, 32, 33, 34, 35, 36, 37, 38, 39, 40, 41, 42, 43, 44, 45, 46] (by decide +kernel) (by decide +kernel)
set_option maxRecDepth 20000 in
theorem gX2_viewSize_X2_viewEnd : GoodIn wsX2_viewSize (wsV RX2 76 RX2 yX2_viewEnd wsX2_viewEnd) := goodIn_app (goodIn_of _ (by decide +kernel)) ggX2_viewSize_X2_viewEnd
set_option maxRecDepth 20000 in
theorem ggX2_viewSize_X2_viewBegin : GoodIn wsX2_viewSize wsX2_viewBegin := goodIn_r _ [15, 6, 7, 16, 17, 18, 19, 20, 21, 22, 23, 24, 25, 26, 27, 28, 29, 36, 37, 38, 39, 40, 41, 42, 43, 44, 45, 46] (by decide +kernel) (by decide +kernel)
set_option maxRecDepth 20000 in
theorem gX2_viewSize_X2_viewBegin : GoodIn wsX2_viewSize (wsV RX2 79 RX2 yX2_viewBegin wsX2_viewBegin) := goodIn_app (goodIn_of _ (by decide +kernel)) ggX2_viewSize_X2_viewBegin
theorem dX2_viewSize_0 : decode cX2_viewSize 0 = .ok (.aload_n 0, 1) := by decide +kernel
theorem dX2_viewSize_1 : decode cX2_viewSize 1 = .ok (.invokevirtual 76, 3) := by decide +kernel
theorem dX2_viewSize_4 : decode cX2_viewSize 4 = .ok (.aload_n 0, 1) := by decide +kernel
theorem dX2_viewSize_5 : decode cX2_viewSize 5 = .ok (.invokevirtual 79, 3) := by decide +kernel
theorem dX2_viewSize_8 : decode cX2_viewSize 8 = .ok (.isub, 1) := by decide +kernel
theorem dX2_viewSize_9 : decode cX2_viewSize 9 = .ok (.ireturn, 1) := by decide +kernel
set_option maxRecDepth 20000 in
theorem ggX2_viewPut_X1_holds : GoodIn wsX2_viewPut wsX1_holds := goodIn_r _ [8, 9, 10, 11, 7, 12, 13, 14, 15, 16, 17, 18, 19, 20, 46, 47, 48, 49] (by decide +kernel) (by decide +kernel)
set_option maxRecDepth 20000 in
theorem gX2_viewPut_X1_holds : GoodIn wsX2_viewPut (wsV RX2 82 RX1 yX1_holds wsX1_holds) := goodIn_app (goodIn_of _ (by decide +kernel)) ggX2_viewPut_X1_holds
set_option maxRecDepth 20000 in
theorem ggX2_viewPut_X0_store : GoodIn wsX2_viewPut wsX0_store := goodIn_r _ [25, 26, 27, 28, 29, 30, 24, 31, 32, 33, 34, 35, 36, 37, 38, 39, 40, 41, 50, 51, 52] (by decide +kernel) (by decide +kernel)
set_option maxRecDepth 20000 in
theorem gX2_viewPut_X0_store : GoodIn wsX2_viewPut (wsV RX2 36 RX0 yX0_store wsX0_store) := goodIn_app (goodIn_of _ (by decide +kernel)) ggX2_viewPut_X0_store
theorem dX2_viewPut_0 : decode cX2_viewPut 0 = .ok (.aload_n 0, 1) := by decide +kernel
theorem dX2_viewPut_1 : decode cX2_viewPut 1 = .ok (.getfield 29, 3) := by decide +kernel
theorem dX2_viewPut_4 : decode cX2_viewPut 4 = .ok (.iload_n 1, 1) := by decide +kernel
theorem dX2_viewPut_5 : decode cX2_viewPut 5 = .ok (.i2l, 1) := by decide +kernel
theorem dX2_viewPut_6 : decode cX2_viewPut 6 = .ok (.invokevirtual 82, 3) := by decide +kernel
theorem dX2_viewPut_9 : decode cX2_viewPut 9 = .ok (.ifCond .eq 15, 3) := by decide +kernel
theorem dX2_viewPut_12 : decode cX2_viewPut 12 = .ok (.aload_n 0, 1) := by decide +kernel
theorem dX2_viewPut_13 : decode cX2_viewPut 13 = .ok (.getfield 12, 3) := by decide +kernel
theorem dX2_viewPut_16 : decode cX2_viewPut 16 = .ok (.iload_n 1, 1) := by decide +kernel
theorem dX2_viewPut_17 : decode cX2_viewPut 17 = .ok (.iload_n 2, 1) := by decide +kernel
theorem dX2_viewPut_18 : decode cX2_viewPut 18 = .ok (.invokevirtual 36, 3) := by decide +kernel
theorem dX2_viewPut_21 : decode cX2_viewPut 21 = .ok (.goto 6, 3) := by decide +kernel
theorem dX2_viewPut_24 : decode cX2_viewPut 24 = .ok (.ldc2_w 86, 3) := by decide +kernel
theorem dX2_viewPut_27 : decode cX2_viewPut 27 = .ok (.lreturn, 1) := by decide +kernel
set_option maxRecDepth 20000 in
theorem ggX2_viewGet_X1_holds : GoodIn wsX2_viewGet wsX1_holds := goodIn_r _ [8, 9, 10, 11, 7, 12, 13, 14, 15, 16, 17, 18, 19, 20, 42, 43, 44, 45] (by decide +kernel) (by decide +kernel)
set_option maxRecDepth 20000 in
theorem gX2_viewGet_X1_holds : GoodIn wsX2_viewGet (wsV RX2 82 RX1 yX1_holds wsX1_holds) := goodIn_app (goodIn_of _ (by decide +kernel)) ggX2_viewGet_X1_holds
set_option maxRecDepth 20000 in
theorem ggX2_viewGet_X0_valueOf : GoodIn wsX2_viewGet wsX0_valueOf := goodIn_r _ [25, 26, 27, 28, 29, 30, 24, 31, 32, 33, 34, 35, 36, 37, 46, 47, 48] (by decide +kernel) (by decide +kernel)
set_option maxRecDepth 20000 in
theorem gX2_viewGet_X0_valueOf : GoodIn wsX2_viewGet (wsV RX2 40 RX0 yX0_valueOf wsX0_valueOf) := goodIn_app (goodIn_of _ (by decide +kernel)) ggX2_viewGet_X0_valueOf
theorem dX2_viewGet_0 : decode cX2_viewGet 0 = .ok (.aload_n 0, 1) := by decide +kernel
theorem dX2_viewGet_1 : decode cX2_viewGet 1 = .ok (.getfield 29, 3) := by decide +kernel
theorem dX2_viewGet_4 : decode cX2_viewGet 4 = .ok (.iload_n 1, 1) := by decide +kernel
theorem dX2_viewGet_5 : decode cX2_viewGet 5 = .ok (.i2l, 1) := by decide +kernel
theorem dX2_viewGet_6 : decode cX2_viewGet 6 = .ok (.invokevirtual 82, 3) := by decide +kernel
theorem dX2_viewGet_9 : decode cX2_viewGet 9 = .ok (.ifCond .eq 14, 3) := by decide +kernel
theorem dX2_viewGet_12 : decode cX2_viewGet 12 = .ok (.aload_n 0, 1) := by decide +kernel
theorem dX2_viewGet_13 : decode cX2_viewGet 13 = .ok (.getfield 12, 3) := by decide +kernel
theorem dX2_viewGet_16 : decode cX2_viewGet 16 = .ok (.iload_n 1, 1) := by decide +kernel
theorem dX2_viewGet_17 : decode cX2_viewGet 17 = .ok (.invokevirtual 40, 3) := by decide +kernel
theorem dX2_viewGet_20 : decode cX2_viewGet 20 = .ok (.goto 6, 3) := by decide +kernel
theorem dX2_viewGet_23 : decode cX2_viewGet 23 = .ok (.ldc2_w 44, 3) := by decide +kernel
theorem dX2_viewGet_26 : decode cX2_viewGet 26 = .ok (.lreturn, 1) := by decide +kernel
set_option maxRecDepth 20000 in
theorem ggX2_viewRemove_X1_holds : GoodIn wsX2_viewRemove wsX1_holds := goodIn_r _ [8, 9, 10, 11, 7, 12, 13, 14, 15, 16, 17, 18, 19, 20, 54, 55, 56, 57] (by decide +kernel) (by decide +kernel)
set_option maxRecDepth 20000 in
theorem gX2_viewRemove_X1_holds : GoodIn wsX2_viewRemove (wsV RX2 82 RX1 yX1_holds wsX1_holds) := goodIn_app (goodIn_of _ (by decide +kernel)) ggX2_viewRemove_X1_holds
set_option maxRecDepth 20000 in
theorem ggX2_viewRemove_X0_drop : GoodIn wsX2_viewRemove wsX0_drop := goodIn_r _ [25, 26, 27, 28, 29, 30, 24, 31, 32, 33, 34, 35, 36, 37, 38, 39, 40, 41, 42, 43, 44, 45, 46, 47, 48, 49, 58, 59, 60] (by decide +kernel) (by decide +kernel)
set_option maxRecDepth 20000 in
theorem gX2_viewRemove_X0_drop : GoodIn wsX2_viewRemove (wsV RX2 46 RX0 yX0_drop wsX0_drop) := goodIn_app (goodIn_of _ (by decide +kernel)) ggX2_viewRemove_X0_drop
theorem dX2_viewRemove_0 : decode cX2_viewRemove 0 = .ok (.aload_n 0, 1) := by decide +kernel
theorem dX2_viewRemove_1 : decode cX2_viewRemove 1 = .ok (.getfield 29, 3) := by decide +kernel
theorem dX2_viewRemove_4 : decode cX2_viewRemove 4 = .ok (.iload_n 1, 1) := by decide +kernel
theorem dX2_viewRemove_5 : decode cX2_viewRemove 5 = .ok (.i2l, 1) := by decide +kernel
theorem dX2_viewRemove_6 : decode cX2_viewRemove 6 = .ok (.invokevirtual 82, 3) := by decide +kernel
theorem dX2_viewRemove_9 : decode cX2_viewRemove 9 = .ok (.ifCond .eq 14, 3) := by decide +kernel
theorem dX2_viewRemove_12 : decode cX2_viewRemove 12 = .ok (.aload_n 0, 1) := by decide +kernel
theorem dX2_viewRemove_13 : decode cX2_viewRemove 13 = .ok (.getfield 12, 3) := by decide +kernel
theorem dX2_viewRemove_16 : decode cX2_viewRemove 16 = .ok (.iload_n 1, 1) := by decide +kernel
theorem dX2_viewRemove_17 : decode cX2_viewRemove 17 = .ok (.invokevirtual 46, 3) := by decide +kernel
theorem dX2_viewRemove_20 : decode cX2_viewRemove 20 = .ok (.goto 6, 3) := by decide +kernel
theorem dX2_viewRemove_23 : decode cX2_viewRemove 23 = .ok (.ldc2_w 44, 3) := by decide +kernel
theorem dX2_viewRemove_26 : decode cX2_viewRemove 26 = .ok (.lreturn, 1) := by decide +kernel
set_option maxRecDepth 20000 in
theorem ggX2_viewNear_X2_mirrored : GoodIn wsX2_viewNear wsX2_mirrored := goodIn_r _ [5] (by decide +kernel) (by decide +kernel)
set_option maxRecDepth 20000 in
theorem gX2_viewNear_X2_mirrored : GoodIn wsX2_viewNear (va_wsS RX2 88 yX2_mirrored wsX2_mirrored) := goodIn_app (goodIn_of _ (by decide +kernel)) ggX2_viewNear_X2_mirrored
set_option maxRecDepth 20000 in
theorem ggX2_viewNear_X2_viewBegin : GoodIn wsX2_viewNear wsX2_viewBegin := goodIn_r _ [9, 10, 11, 12, 13, 14, 15, 16, 17, 18, 19, 20, 21, 22, 23, 24, 25, 57, 58, 59, 60, 61, 62, 63, 64, 65, 66, 67] (by decide +kernel) (by decide +kernel)
set_option maxRecDepth 20000 in
theorem gX2_viewNear_X2_viewBegin : GoodIn wsX2_viewNear (wsV RX2 79 RX2 yX2_viewBegin wsX2_viewBegin) := goodIn_app (goodIn_of _ (by decide +kernel)) ggX2_viewNear_X2_viewBegin
set_option maxRecDepth 20000 in
theorem ggX2_viewNear_X2_viewEnd : GoodIn wsX2_viewNear wsX2_viewEnd := goodIn_r _ [29, 10, 11, 30, 31, 32, 33, 6, 7, 8, 4, 9, 12, 13, 14, 15, 16, 17, 18, 19, 20, 21, 22, 23, 24, 25, 34, 35, 36, 37, 38, 39, 57, 58, 59, 60, 61, 62, 63, 64, 65, 66, 67] (by decide +kernel) (by decide +kernel)
set_option maxRecDepth 20000 in
theorem gX2_viewNear_X2_viewEnd : GoodIn wsX2_viewNear (wsV RX2 76 RX2 yX2_viewEnd wsX2_viewEnd) := goodIn_app (goodIn_of _ (by decide +kernel)) ggX2_viewNear_X2_viewEnd
set_option maxRecDepth 20000 in
theorem ggX2_viewNear_X2_keyNear : GoodIn wsX2_viewNear wsX2_keyNear := goodIn_r _ [43, 10, 44, 45, 32, 46, 30, 31, 33, 47, 19, 20, 21, 22, 23, 24, 25, 48, 49, 50, 4, 51, 52, 53, 54, 55, 56, 57, 58, 59, 60, 65, 66, 67] (by decide +kernel) (by decide +kernel)
set_option maxRecDepth 20000 in
theorem gX2_viewNear_X2_keyNear : GoodIn wsX2_viewNear (wsV RX2 57 RX2 yX2_keyNear wsX2_keyNear) := goodIn_app (goodIn_of _ (by decide +kernel)) ggX2_viewNear_X2_keyNear
theorem dX2_viewNear_0 : decode cX2_viewNear 0 = .ok (.aload_n 0, 1) := by decide +kernel
theorem dX2_viewNear_1 : decode cX2_viewNear 1 = .ok (.aload_n 0, 1) := by decide +kernel
theorem dX2_viewNear_2 : decode cX2_viewNear 2 = .ok (.getfield 32, 3) := by decide +kernel
theorem dX2_viewNear_5 : decode cX2_viewNear 5 = .ok (.ifCond .eq 10, 3) := by decide +kernel
theorem dX2_viewNear_8 : decode cX2_viewNear 8 = .ok (.iload_n 1, 1) := by decide +kernel
theorem dX2_viewNear_9 : decode cX2_viewNear 9 = .ok (.invokestatic 88, 3) := by decide +kernel
theorem dX2_viewNear_12 : decode cX2_viewNear 12 = .ok (.goto 4, 3) := by decide +kernel
theorem dX2_viewNear_15 : decode cX2_viewNear 15 = .ok (.iload_n 1, 1) := by decide +kernel
theorem dX2_viewNear_16 : decode cX2_viewNear 16 = .ok (.iload_n 2, 1) := by decide +kernel
theorem dX2_viewNear_17 : decode cX2_viewNear 17 = .ok (.aload_n 0, 1) := by decide +kernel
theorem dX2_viewNear_18 : decode cX2_viewNear 18 = .ok (.invokevirtual 79, 3) := by decide +kernel
theorem dX2_viewNear_21 : decode cX2_viewNear 21 = .ok (.aload_n 0, 1) := by decide +kernel
theorem dX2_viewNear_22 : decode cX2_viewNear 22 = .ok (.invokevirtual 76, 3) := by decide +kernel
theorem dX2_viewNear_25 : decode cX2_viewNear 25 = .ok (.invokevirtual 57, 3) := by decide +kernel
theorem dX2_viewNear_28 : decode cX2_viewNear 28 = .ok (.lreturn, 1) := by decide +kernel
set_option maxRecDepth 20000 in
theorem ggX2_viewPoll_X2_viewBegin : GoodIn wsX2_viewPoll wsX2_viewBegin := goodIn_r _ [6, 7, 8, 9, 10, 11, 12, 13, 14, 15, 16, 17, 18, 19, 20, 21, 22, 64, 65, 66, 67, 68, 69, 70, 71, 72, 73, 74] (by decide +kernel) (by decide +kernel)
set_option maxRecDepth 20000 in
theorem gX2_viewPoll_X2_viewBegin : GoodIn wsX2_viewPoll (wsV RX2 79 RX2 yX2_viewBegin wsX2_viewBegin) := goodIn_app (goodIn_of _ (by decide +kernel)) ggX2_viewPoll_X2_viewBegin
set_option maxRecDepth 20000 in
theorem ggX2_viewPoll_X2_viewEnd : GoodIn wsX2_viewPoll wsX2_viewEnd := goodIn_r _ [26, 7, 8, 27, 28, 29, 30, 2, 3, 4, 5, 6, 9, 10, 11, 12, 13, 14, 15, 16, 17, 18, 19, 20, 21, 22, 31, 32, 33, 34, 35, 36, 64, 65, 66, 67, 68, 69, 70, 71, 72, 73, 74] (by decide +kernel) (by decide +kernel)
set_option maxRecDepth 20000 in
theorem gX2_viewPoll_X2_viewEnd : GoodIn wsX2_viewPoll (wsV RX2 76 RX2 yX2_viewEnd wsX2_viewEnd) := goodIn_app (goodIn_of _ (by decide +kernel)) ggX2_viewPoll_X2_viewEnd
set_option maxRecDepth 20000 in
theorem ggX2_viewPoll_X2_pollWithin : GoodIn wsX2_viewPoll wsX2_pollWithin := goodIn_r _ [40, 41, 7, 42, 43, 44, 5, 45, 46, 47, 48, 19, 49, 21, 22, 50, 51, 52, 53, 54, 55, 56, 57, 58, 59, 60, 61, 62, 63, 64, 65, 66, 67, 72, 73, 74] (by decide +kernel) (by decide +kernel)
set_option maxRecDepth 20000 in
theorem gX2_viewPoll_X2_pollWithin : GoodIn wsX2_viewPoll (wsV RX2 61 RX2 yX2_pollWithin wsX2_pollWithin) := goodIn_app (goodIn_of _ (by decide +kernel)) ggX2_viewPoll_X2_pollWithin
theorem dX2_viewPoll_0 : decode cX2_viewPoll 0 = .ok (.aload_n 0, 1) := by decide +kernel
theorem dX2_viewPoll_1 : decode cX2_viewPoll 1 = .ok (.iload_n 1, 1) := by decide +kernel
theorem dX2_viewPoll_2 : decode cX2_viewPoll 2 = .ok (.aload_n 0, 1) := by decide +kernel
theorem dX2_viewPoll_3 : decode cX2_viewPoll 3 = .ok (.getfield 32, 3) := by decide +kernel
theorem dX2_viewPoll_6 : decode cX2_viewPoll 6 = .ok (.if_icmp .eq 7, 3) := by decide +kernel
theorem dX2_viewPoll_9 : decode cX2_viewPoll 9 = .ok (.iconst 1, 1) := by decide +kernel
theorem dX2_viewPoll_10 : decode cX2_viewPoll 10 = .ok (.goto 4, 3) := by decide +kernel
theorem dX2_viewPoll_13 : decode cX2_viewPoll 13 = .ok (.iconst 0, 1) := by decide +kernel
theorem dX2_viewPoll_14 : decode cX2_viewPoll 14 = .ok (.aload_n 0, 1) := by decide +kernel
theorem dX2_viewPoll_15 : decode cX2_viewPoll 15 = .ok (.invokevirtual 79, 3) := by decide +kernel
theorem dX2_viewPoll_18 : decode cX2_viewPoll 18 = .ok (.aload_n 0, 1) := by decide +kernel
theorem dX2_viewPoll_19 : decode cX2_viewPoll 19 = .ok (.invokevirtual 76, 3) := by decide +kernel
theorem dX2_viewPoll_22 : decode cX2_viewPoll 22 = .ok (.invokevirtual 61, 3) := by decide +kernel
theorem dX2_viewPoll_25 : decode cX2_viewPoll 25 = .ok (.lreturn, 1) := by decide +kernel
set_option maxRecDepth 20000 in
theorem ggX2_viewKey_X2_viewBegin : GoodIn wsX2_viewKey wsX2_viewBegin := goodIn_r _ [8, 2, 9, 10, 11, 12, 13, 14, 15, 16, 17, 18, 19, 20, 21, 22, 23, 43, 44, 45, 46, 47, 48, 49, 50, 51, 52, 53] (by decide +kernel) (by decide +kernel)
set_option maxRecDepth 20000 in
theorem gX2_viewKey_X2_viewBegin : GoodIn wsX2_viewKey (wsV RX2 79 RX2 yX2_viewBegin wsX2_viewBegin) := goodIn_app (goodIn_of _ (by decide +kernel)) ggX2_viewKey_X2_viewBegin
set_option maxRecDepth 20000 in
theorem ggX2_viewKey_X2_viewEnd : GoodIn wsX2_viewKey wsX2_viewEnd := goodIn_r _ [27, 2, 9, 28, 29, 30, 31, 4, 5, 6, 7, 8, 10, 11, 12, 13, 14, 15, 16, 17, 18, 19, 20, 21, 22, 23, 32, 33, 34, 35, 36, 37, 43, 44, 45, 46, 47, 48, 49, 50, 51, 52, 53] (by decide +kernel) (by decide +kernel)
set_option maxRecDepth 20000 in
theorem gX2_viewKey_X2_viewEnd : GoodIn wsX2_viewKey (wsV RX2 76 RX2 yX2_viewEnd wsX2_viewEnd) := goodIn_app (goodIn_of _ (by decide +kernel)) ggX2_viewKey_X2_viewEnd
set_option maxRecDepth 20000 in
theorem ggX2_viewKey_X0_keyAt : GoodIn wsX2_viewKey wsX0_keyAt := goodIn_r _ [41, 22, 23, 42, 51, 52, 53] (by decide +kernel) (by decide +kernel)
set_option maxRecDepth 20000 in
theorem gX2_viewKey_X0_keyAt : GoodIn wsX2_viewKey (wsV RX2 92 RX0 yX0_keyAt wsX0_keyAt) := goodIn_app (goodIn_of _ (by decide +kernel)) ggX2_viewKey_X0_keyAt
theorem dX2_viewKey_0 : decode cX2_viewKey 0 = .ok (.aload_n 0, 1) := by decide +kernel
theorem dX2_viewKey_1 : decode cX2_viewKey 1 = .ok (.invokevirtual 79, 3) := by decide +kernel
theorem dX2_viewKey_4 : decode cX2_viewKey 4 = .ok (.istore_n 2, 1) := by decide +kernel
theorem dX2_viewKey_5 : decode cX2_viewKey 5 = .ok (.aload_n 0, 1) := by decide +kernel
theorem dX2_viewKey_6 : decode cX2_viewKey 6 = .ok (.invokevirtual 76, 3) := by decide +kernel
theorem dX2_viewKey_9 : decode cX2_viewKey 9 = .ok (.istore_n 3, 1) := by decide +kernel
theorem dX2_viewKey_10 : decode cX2_viewKey 10 = .ok (.iload_n 1, 1) := by decide +kernel
theorem dX2_viewKey_11 : decode cX2_viewKey 11 = .ok (.ifCond .lt 10, 3) := by decide +kernel
theorem dX2_viewKey_14 : decode cX2_viewKey 14 = .ok (.iload_n 1, 1) := by decide +kernel
theorem dX2_viewKey_15 : decode cX2_viewKey 15 = .ok (.iload_n 3, 1) := by decide +kernel
theorem dX2_viewKey_16 : decode cX2_viewKey 16 = .ok (.iload_n 2, 1) := by decide +kernel
theorem dX2_viewKey_17 : decode cX2_viewKey 17 = .ok (.isub, 1) := by decide +kernel
theorem dX2_viewKey_18 : decode cX2_viewKey 18 = .ok (.if_icmp .lt 7, 3) := by decide +kernel
theorem dX2_viewKey_21 : decode cX2_viewKey 21 = .ok (.ldc2_w 44, 3) := by decide +kernel
theorem dX2_viewKey_24 : decode cX2_viewKey 24 = .ok (.lreturn, 1) := by decide +kernel
theorem dX2_viewKey_25 : decode cX2_viewKey 25 = .ok (.aload_n 0, 1) := by decide +kernel
theorem dX2_viewKey_26 : decode cX2_viewKey 26 = .ok (.getfield 12, 3) := by decide +kernel
theorem dX2_viewKey_29 : decode cX2_viewKey 29 = .ok (.aload_n 0, 1) := by decide +kernel
theorem dX2_viewKey_30 : decode cX2_viewKey 30 = .ok (.getfield 32, 3) := by decide +kernel
theorem dX2_viewKey_33 : decode cX2_viewKey 33 = .ok (.ifCond .eq 11, 3) := by decide +kernel
theorem dX2_viewKey_36 : decode cX2_viewKey 36 = .ok (.iload_n 3, 1) := by decide +kernel
theorem dX2_viewKey_37 : decode cX2_viewKey 37 = .ok (.iconst 1, 1) := by decide +kernel
theorem dX2_viewKey_38 : decode cX2_viewKey 38 = .ok (.isub, 1) := by decide +kernel
theorem dX2_viewKey_39 : decode cX2_viewKey 39 = .ok (.iload_n 1, 1) := by decide +kernel
theorem dX2_viewKey_40 : decode cX2_viewKey 40 = .ok (.isub, 1) := by decide +kernel
theorem dX2_viewKey_41 : decode cX2_viewKey 41 = .ok (.goto 6, 3) := by decide +kernel
theorem dX2_viewKey_44 : decode cX2_viewKey 44 = .ok (.iload_n 2, 1) := by decide +kernel
theorem dX2_viewKey_45 : decode cX2_viewKey 45 = .ok (.iload_n 1, 1) := by decide +kernel
theorem dX2_viewKey_46 : decode cX2_viewKey 46 = .ok (.iadd, 1) := by decide +kernel
theorem dX2_viewKey_47 : decode cX2_viewKey 47 = .ok (.invokevirtual 92, 3) := by decide +kernel
theorem dX2_viewKey_50 : decode cX2_viewKey 50 = .ok (.lreturn, 1) := by decide +kernel
set_option maxRecDepth 20000 in
theorem ggX2_walk_X2_viewBegin : GoodIn wsX2_walk wsX2_viewBegin := goodIn_r _ [7, 2, 8, 9, 10, 11, 12, 13, 14, 15, 16, 17, 18, 19, 20, 21, 22, 42, 43, 44, 45, 46, 47, 48, 49, 50, 51, 52] (by decide +kernel) (by decide +kernel)
set_option maxRecDepth 20000 in
theorem gX2_walk_X2_viewBegin : GoodIn wsX2_walk (wsV RX2 79 RX2 yX2_viewBegin wsX2_viewBegin) := goodIn_app (goodIn_of _ (by decide +kernel)) ggX2_walk_X2_viewBegin
set_option maxRecDepth 20000 in
theorem ggX2_walk_X2_viewEnd : GoodIn wsX2_walk wsX2_viewEnd := goodIn_r _ [26, 2, 8, 27, 28, 29, 30, 3, 4, 5, 6, 7, 9, 10, 11, 12, 13, 14, 15, 16, 17, 18, 19, 20, 21, 22, 31, 32, 33, 34, 35, 36, 42, 43, 44, 45, 46, 47, 48, 49, 50, 51, 52] (by decide +kernel) (by decide +kernel)
set_option maxRecDepth 20000 in
theorem gX2_walk_X2_viewEnd : GoodIn wsX2_walk (wsV RX2 76 RX2 yX2_viewEnd wsX2_viewEnd) := goodIn_app (goodIn_of _ (by decide +kernel)) ggX2_walk_X2_viewEnd
set_option maxRecDepth 20000 in
theorem ggX2_walk_X0_keyAt : GoodIn wsX2_walk wsX0_keyAt := goodIn_r _ [40, 21, 22, 41, 50, 51, 52] (by decide +kernel) (by decide +kernel)
set_option maxRecDepth 20000 in
theorem gX2_walk_X0_keyAt : GoodIn wsX2_walk (wsV RX2 92 RX0 yX0_keyAt wsX0_keyAt) := goodIn_app (goodIn_of _ (by decide +kernel)) ggX2_walk_X0_keyAt
theorem dX2_walk_0 : decode cX2_walk 0 = .ok (.aload_n 0, 1) := by decide +kernel
theorem dX2_walk_1 : decode cX2_walk 1 = .ok (.invokevirtual 79, 3) := by decide +kernel
theorem dX2_walk_4 : decode cX2_walk 4 = .ok (.istore_n 1, 1) := by decide +kernel
theorem dX2_walk_5 : decode cX2_walk 5 = .ok (.aload_n 0, 1) := by decide +kernel
theorem dX2_walk_6 : decode cX2_walk 6 = .ok (.invokevirtual 76, 3) := by decide +kernel
theorem dX2_walk_9 : decode cX2_walk 9 = .ok (.istore_n 2, 1) := by decide +kernel
theorem dX2_walk_10 : decode cX2_walk 10 = .ok (.lconst 0, 1) := by decide +kernel
theorem dX2_walk_11 : decode cX2_walk 11 = .ok (.lstore_n 3, 1) := by decide +kernel
theorem dX2_walk_12 : decode cX2_walk 12 = .ok (.iload_n 1, 1) := by decide +kernel
theorem dX2_walk_13 : decode cX2_walk 13 = .ok (.istore 5, 2) := by decide +kernel
theorem dX2_walk_15 : decode cX2_walk 15 = .ok (.iload 5, 2) := by decide +kernel
theorem dX2_walk_17 : decode cX2_walk 17 = .ok (.iload_n 2, 1) := by decide +kernel
theorem dX2_walk_18 : decode cX2_walk 18 = .ok (.if_icmp .ge 48, 3) := by decide +kernel
theorem dX2_walk_21 : decode cX2_walk 21 = .ok (.aload_n 0, 1) := by decide +kernel
theorem dX2_walk_22 : decode cX2_walk 22 = .ok (.getfield 32, 3) := by decide +kernel
theorem dX2_walk_25 : decode cX2_walk 25 = .ok (.ifCond .eq 11, 3) := by decide +kernel
theorem dX2_walk_28 : decode cX2_walk 28 = .ok (.iload_n 2, 1) := by decide +kernel
theorem dX2_walk_29 : decode cX2_walk 29 = .ok (.iload 5, 2) := by decide +kernel
theorem dX2_walk_31 : decode cX2_walk 31 = .ok (.isub, 1) := by decide +kernel
theorem dX2_walk_32 : decode cX2_walk 32 = .ok (.i2l, 1) := by decide +kernel
theorem dX2_walk_33 : decode cX2_walk 33 = .ok (.goto 10, 3) := by decide +kernel
theorem dX2_walk_36 : decode cX2_walk 36 = .ok (.iload 5, 2) := by decide +kernel
theorem dX2_walk_38 : decode cX2_walk 38 = .ok (.iload_n 1, 1) := by decide +kernel
theorem dX2_walk_39 : decode cX2_walk 39 = .ok (.isub, 1) := by decide +kernel
theorem dX2_walk_40 : decode cX2_walk 40 = .ok (.iconst 1, 1) := by decide +kernel
theorem dX2_walk_41 : decode cX2_walk 41 = .ok (.iadd, 1) := by decide +kernel
theorem dX2_walk_42 : decode cX2_walk 42 = .ok (.i2l, 1) := by decide +kernel
theorem dX2_walk_43 : decode cX2_walk 43 = .ok (.lstore 6, 2) := by decide +kernel
theorem dX2_walk_45 : decode cX2_walk 45 = .ok (.lload_n 3, 1) := by decide +kernel
theorem dX2_walk_46 : decode cX2_walk 46 = .ok (.aload_n 0, 1) := by decide +kernel
theorem dX2_walk_47 : decode cX2_walk 47 = .ok (.getfield 12, 3) := by decide +kernel
theorem dX2_walk_50 : decode cX2_walk 50 = .ok (.iload 5, 2) := by decide +kernel
theorem dX2_walk_52 : decode cX2_walk 52 = .ok (.invokevirtual 92, 3) := by decide +kernel
theorem dX2_walk_55 : decode cX2_walk 55 = .ok (.lload 6, 2) := by decide +kernel
theorem dX2_walk_57 : decode cX2_walk 57 = .ok (.lmul, 1) := by decide +kernel
theorem dX2_walk_58 : decode cX2_walk 58 = .ok (.ladd, 1) := by decide +kernel
theorem dX2_walk_59 : decode cX2_walk 59 = .ok (.lstore_n 3, 1) := by decide +kernel
theorem dX2_walk_60 : decode cX2_walk 60 = .ok (.iinc 5 1, 3) := by decide +kernel
theorem dX2_walk_63 : decode cX2_walk 63 = .ok (.goto (-48), 3) := by decide +kernel
theorem dX2_walk_66 : decode cX2_walk 66 = .ok (.lload_n 3, 1) := by decide +kernel
theorem dX2_walk_67 : decode cX2_walk 67 = .ok (.lreturn, 1) := by decide +kernel
set_option maxRecDepth 20000 in
theorem ggX2_sweep_X2_viewBegin : GoodIn wsX2_sweep wsX2_viewBegin := goodIn_r _ [6, 1, 7, 8, 9, 10, 11, 12, 13, 14, 15, 16, 17, 18, 19, 20, 21, 45, 46, 47, 48, 49, 50, 51, 52, 53, 54, 55] (by decide +kernel) (by decide +kernel)
set_option maxRecDepth 20000 in
theorem gX2_sweep_X2_viewBegin : GoodIn wsX2_sweep (wsV RX2 79 RX2 yX2_viewBegin wsX2_viewBegin) := goodIn_app (goodIn_of _ (by decide +kernel)) ggX2_sweep_X2_viewBegin
set_option maxRecDepth 20000 in
theorem ggX2_sweep_X2_viewEnd : GoodIn wsX2_sweep wsX2_viewEnd := goodIn_r _ [25, 1, 7, 26, 27, 28, 29, 2, 3, 4, 5, 6, 8, 9, 10, 11, 12, 13, 14, 15, 16, 17, 18, 19, 20, 21, 30, 31, 32, 33, 34, 35, 45, 46, 47, 48, 49, 50, 51, 52, 53, 54, 55] (by decide +kernel) (by decide +kernel)
set_option maxRecDepth 20000 in
theorem gX2_sweep_X2_viewEnd : GoodIn wsX2_sweep (wsV RX2 76 RX2 yX2_viewEnd wsX2_viewEnd) := goodIn_app (goodIn_of _ (by decide +kernel)) ggX2_sweep_X2_viewEnd
set_option maxRecDepth 20000 in
theorem ggX2_sweep_X0_dropLeaving : GoodIn wsX2_sweep wsX0_dropLeaving := goodIn_r _ [39, 20, 21, 40, 41, 42, 43, 44, 53, 54, 55] (by decide +kernel) (by decide +kernel)
set_option maxRecDepth 20000 in
theorem gX2_sweep_X0_dropLeaving : GoodIn wsX2_sweep (wsV RX2 95 RX0 yX0_dropLeaving wsX0_dropLeaving) := goodIn_app (goodIn_of _ (by decide +kernel)) ggX2_sweep_X0_dropLeaving
theorem dX2_sweep_0 : decode cX2_sweep 0 = .ok (.aload_n 0, 1) := by decide +kernel
theorem dX2_sweep_1 : decode cX2_sweep 1 = .ok (.getfield 12, 3) := by decide +kernel
theorem dX2_sweep_4 : decode cX2_sweep 4 = .ok (.iload_n 1, 1) := by decide +kernel
theorem dX2_sweep_5 : decode cX2_sweep 5 = .ok (.iload_n 2, 1) := by decide +kernel
theorem dX2_sweep_6 : decode cX2_sweep 6 = .ok (.aload_n 0, 1) := by decide +kernel
theorem dX2_sweep_7 : decode cX2_sweep 7 = .ok (.invokevirtual 79, 3) := by decide +kernel
theorem dX2_sweep_10 : decode cX2_sweep 10 = .ok (.aload_n 0, 1) := by decide +kernel
theorem dX2_sweep_11 : decode cX2_sweep 11 = .ok (.invokevirtual 76, 3) := by decide +kernel
theorem dX2_sweep_14 : decode cX2_sweep 14 = .ok (.invokevirtual 95, 3) := by decide +kernel
theorem dX2_sweep_17 : decode cX2_sweep 17 = .ok (.ireturn, 1) := by decide +kernel
set_option maxRecDepth 20000 in
theorem ggX2_viewClear_X2_viewBegin : GoodIn wsX2_viewClear wsX2_viewBegin := goodIn_r _ [6, 1, 7, 8, 9, 10, 11, 12, 13, 14, 15, 16, 17, 18, 19, 20, 21, 49, 50, 51, 52, 53, 54, 55, 56, 57, 58, 59] (by decide +kernel) (by decide +kernel)
set_option maxRecDepth 20000 in
theorem gX2_viewClear_X2_viewBegin : GoodIn wsX2_viewClear (wsV RX2 79 RX2 yX2_viewBegin wsX2_viewBegin) := goodIn_app (goodIn_of _ (by decide +kernel)) ggX2_viewClear_X2_viewBegin
set_option maxRecDepth 20000 in
theorem ggX2_viewClear_X2_viewEnd : GoodIn wsX2_viewClear wsX2_viewEnd := goodIn_r _ [25, 1, 7, 26, 27, 28, 29, 2, 3, 4, 5, 6, 8, 9, 10, 11, 12, 13, 14, 15, 16, 17, 18, 19, 20, 21, 30, 31, 32, 33, 34, 35, 49, 50, 51, 52, 53, 54, 55, 56, 57, 58, 59] (by decide +kernel) (by decide +kernel)
set_option maxRecDepth 20000 in
theorem gX2_viewClear_X2_viewEnd : GoodIn wsX2_viewClear (wsV RX2 76 RX2 yX2_viewEnd wsX2_viewEnd) := goodIn_app (goodIn_of _ (by decide +kernel)) ggX2_viewClear_X2_viewEnd
set_option maxRecDepth 20000 in
theorem ggX2_viewClear_X0_dropPlaces : GoodIn wsX2_viewClear wsX0_dropPlaces := goodIn_r _ [39, 40, 41, 42, 18, 43, 20, 21, 44, 45, 46, 47, 48, 57, 58, 59] (by decide +kernel) (by decide +kernel)
